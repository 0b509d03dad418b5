set_option maxRecDepth 100000 in
theorem ms_168 : Cond.selects RX15 yX15_isSame yX15_isSame ∈ W0 := w0_in (List.mem_append_left _ (List.mem_of_getElem? (i := 168) rfl)) rfl
set_option maxRecDepth 100000 in
theorem m_2508 : Cond.methodLink RX15 658 yX15_isSame ∈ W0 := w0_in (List.mem_append_right _ (List.mem_of_getElem? (i := 2508) rfl)) rfl
set_option maxRecDepth 100000 in
theorem m_2510 : Cond.instanceMethod yX15_isSame ∈ W0 := w0_in (List.mem_append_right _ (List.mem_of_getElem? (i := 2510) rfl)) rfl
set_option maxRecDepth 100000 in
theorem m_2511 : Cond.code yX15_isSame cX15_isSame 6 (some .boolean) ∈ W0 := w0_in (List.mem_append_right _ (List.mem_of_getElem? (i := 2511) rfl)) rfl
theorem cw_X15_658 : cwd RX15 658 yX15_isSame cX15_isSame 6 (some .boolean) false 2 := ⟨m_2511, m_2508, m_19, ⟨m_2510, ms_168⟩, by decide, by decide, by decide +kernel⟩
theorem dX15_same_0 : decode cX15_same 0 = .ok (.aload_n 0, 1) := by decide +kernel
theorem dX15_same_1 : decode cX15_same 1 = .ok (.iload_n 1, 1) := by decide +kernel
theorem dX15_same_2 : decode cX15_same 2 = .ok (.invokevirtual 486, 3) := by decide +kernel
theorem dX15_same_5 : decode cX15_same 5 = .ok (.ifCond .eq 34, 3) := by decide +kernel
theorem dX15_same_8 : decode cX15_same 8 = .ok (.aload_n 0, 1) := by decide +kernel
theorem dX15_same_9 : decode cX15_same 9 = .ok (.iload_n 2, 1) := by decide +kernel
theorem dX15_same_10 : decode cX15_same 10 = .ok (.invokevirtual 486, 3) := by decide +kernel
theorem dX15_same_13 : decode cX15_same 13 = .ok (.ifCond .eq 26, 3) := by decide +kernel
theorem dX15_same_16 : decode cX15_same 16 = .ok (.aload_n 0, 1) := by decide +kernel
theorem dX15_same_17 : decode cX15_same 17 = .ok (.aload_n 0, 1) := by decide +kernel
theorem dX15_same_18 : decode cX15_same 18 = .ok (.getfield 257, 3) := by decide +kernel
theorem dX15_same_21 : decode cX15_same 21 = .ok (.iload_n 1, 1) := by decide +kernel
theorem dX15_same_22 : decode cX15_same 22 = .ok (.aaload, 1) := by decide +kernel
theorem dX15_same_23 : decode cX15_same 23 = .ok (.aload_n 0, 1) := by decide +kernel
theorem dX15_same_24 : decode cX15_same 24 = .ok (.getfield 257, 3) := by decide +kernel
theorem dX15_same_27 : decode cX15_same 27 = .ok (.iload_n 2, 1) := by decide +kernel
theorem dX15_same_28 : decode cX15_same 28 = .ok (.aaload, 1) := by decide +kernel
theorem dX15_same_29 : decode cX15_same 29 = .ok (.invokevirtual 658, 3) := by decide +kernel
theorem dX15_same_32 : decode cX15_same 32 = .ok (.ifCond .eq 7, 3) := by decide +kernel
theorem dX15_same_35 : decode cX15_same 35 = .ok (.iconst 1, 1) := by decide +kernel
theorem dX15_same_36 : decode cX15_same 36 = .ok (.goto 4, 3) := by decide +kernel
theorem dX15_same_39 : decode cX15_same 39 = .ok (.iconst 0, 1) := by decide +kernel
theorem dX15_same_40 : decode cX15_same 40 = .ok (.ireturn, 1) := by decide +kernel
set_option maxRecDepth 20000 in
theorem moX15_same_40 {o : Int32 × Hp} {F : Nat} {h : Hp} {t0 : Int32} (hE : sX15_same_40 F h  t0 = some o) : Le h o.2 := by
  obtain ⟨g_1, hE⟩ := gd_e hE
  exact le_some2 hE
set_option maxRecDepth 20000 in
theorem moX15_same_39 {o : Int32 × Hp} {F : Nat} {h : Hp} (hE : sX15_same_39 F h  = some o) : Le h o.2 := by
  exact moX15_same_40 hE
set_option maxRecDepth 20000 in
theorem moX15_same {o : Int32 × Hp} {F : Nat} {h : Hp} {x0 : Nat} {x1 : Int32} {x2 : Int32} (hE : sX15_same F h x0 x1 x2 = some o) : Le h o.2 := by
  obtain ⟨o_1, eo_1, hE⟩ := cl_e hE
  refine (moX15_has eo_1).tr ?_
  rcases br_e hE with ⟨_, hE⟩ | ⟨_, hE⟩
  · exact moX15_same_39 hE
  · obtain ⟨o_3, eo_3, hE⟩ := cl_e hE
    refine (moX15_has eo_3).tr ?_
    rcases br_e hE with ⟨_, hE⟩ | ⟨_, hE⟩
    · exact moX15_same_39 hE
    · obtain ⟨r_5, er_5, hE⟩ := cl_e hE
      obtain ⟨g_6, hE⟩ := gd_e hE
      obtain ⟨r_7, er_7, hE⟩ := cl_e hE
      obtain ⟨r_8, er_8, hE⟩ := cl_e hE
      obtain ⟨g_9, hE⟩ := gd_e hE
      obtain ⟨r_10, er_10, hE⟩ := cl_e hE
      obtain ⟨o_11, eo_11, hE⟩ := cl_e hE
      refine (moX15_isSame eo_11).tr ?_
      rcases br_e hE with ⟨_, hE⟩ | ⟨_, hE⟩
      · exact moX15_same_39 hE
      · exact moX15_same_40 hE
set_option maxRecDepth 20000 in
theorem bX15_same_40 {p : Program} {l : Launch} {e : Env} {s : State} {m : MethodId} {args : Array Value} {below : List Frame} {meth : Method} {c : Code} {X : Ec} {h0 : Hp} {o : Int32 × Hp} {F : Nat} (C : Cx X p s m args meth c RX15 cX15_same 3 (some .boolean) "same") {h : Hp} {t0 : Int32} {H : Heap} {locs : List Loc} (hkm : Km h0 h) (hW : Wx X h H) (hZ : va_S (aA (eB X)) s.heap H locs) (ls : Array Slot) (hl : lv_has ls 3 []) (hE : sX15_same_40 F h  t0 = some o) : W p l e (rm 9 238) s m args below meth c H locs 0 0 (MQ below (QI X h0 o.1 o.2) args s 0 0 (aA (eB X))) (F0 m 40 ls [.int t0]) := by
  obtain ⟨g_1, hE⟩ := gd_e hE
  exact x_iret C rfl (narB g_1) hW hZ hkm hE dX15_same_40
set_option maxRecDepth 20000 in
theorem bX15_same_39 {p : Program} {l : Launch} {e : Env} {s : State} {m : MethodId} {args : Array Value} {below : List Frame} {meth : Method} {c : Code} {X : Ec} {h0 : Hp} {o : Int32 × Hp} {F : Nat} (C : Cx X p s m args meth c RX15 cX15_same 3 (some .boolean) "same") {h : Hp} {H : Heap} {locs : List Loc} (hkm : Km h0 h) (hW : Wx X h H) (hZ : va_S (aA (eB X)) s.heap H locs) (ls : Array Slot) (hl : lv_has ls 3 []) (hE : sX15_same_39 F h  = some o) : W p l e (rm 9 238) s m args below meth c H locs 0 0 (MQ below (QI X h0 o.1 o.2) args s 0 0 (aA (eB X))) (F0 m 39 ls []) := by
  refine lv_iconst (v := (0 : Int32)) C.1 C.2.1 dX15_same_39 (by decide) ?_
  exact bX15_same_40 C hkm hW hZ _ (lv_sub hl [] rfl) hE
set_option maxRecDepth 20000 in
theorem ct_X15_same (l : Launch) (X : Ec) (F : Nat) {h : Hp} {x0 : Nat} {x1 : Int32} {x2 : Int32} {o : Int32 × Hp} (k_x0 : hK h x0 = 15) (hE : sX15_same F h x0 x1 x2 = some o) : MetI l yX15_same cX15_same 3 (some .boolean) 9 238 X [.ref x0, .int x1, .int x2] h o := by
  refine x_met (by decide) (Nat.le_of_ble_eq_true rfl) ?_
  intro p e s m below meth c ls C hl hW hZ
  have hl : lv_has ls 3 [(0, .ref x0), (1, .int x1), (2, .int x2)] := hl
  have hkm : Km h h := Km.rf h
  refine lv_aload_n C.1 C.2.1 dX15_same_0 rfl (lv_at hl 0 rfl) ?_
  refine lv_iload_n C.1 C.2.1 dX15_same_1 rfl (lv_at hl 1 rfl) ?_
  obtain ⟨o_1, eo_1, hE⟩ := cl_e hE
  refine x_kI (o := o_1) (z_runV (As := [.int x1]) (rest := []) C (ct_X15_has l X k_x0 eo_1) cw_X15_486 hW hZ k_x0 (by decide) rfl rfl rfl hl.1 (Nat.le_of_ble_eq_true rfl) rfl dX15_same_2 ⟨Nat.le_of_ble_eq_true rfl, Nat.le_of_ble_eq_true rfl⟩ ⟨Nat.le_refl _, Nat.le_refl _⟩) hZ (fun _ _ hW km hZ => ?_)
  replace hkm := hkm.tr km
  replace k_x0 := km.at k_x0 (by decide)
  refine lv_if_eq (tgt := 39) C.1 C.2.1 dX15_same_5 (by decide) (fun c_2 => ?_) (fun c_2 => ?_)
  · have hE := br_p hE c_2
    exact bX15_same_39 C hkm hW hZ _ (lv_sub hl [] rfl) hE
  · have hE := br_n hE c_2
    refine lv_aload_n C.1 C.2.1 dX15_same_8 rfl (lv_at hl 0 rfl) ?_
    refine lv_iload_n C.1 C.2.1 dX15_same_9 rfl (lv_at hl 2 rfl) ?_
    obtain ⟨o_3, eo_3, hE⟩ := cl_e hE
    refine x_kI (o := o_3) (z_runV (As := [.int x2]) (rest := []) C (ct_X15_has l X k_x0 eo_3) cw_X15_486 hW hZ k_x0 (by decide) rfl rfl rfl hl.1 (Nat.le_of_ble_eq_true rfl) rfl dX15_same_10 ⟨Nat.le_of_ble_eq_true rfl, Nat.le_of_ble_eq_true rfl⟩ ⟨Nat.le_refl _, Nat.le_refl _⟩) hZ (fun _ _ hW km hZ => ?_)
    replace hkm := hkm.tr km
    replace k_x0 := km.at k_x0 (by decide)
    refine lv_if_eq (tgt := 39) C.1 C.2.1 dX15_same_13 (by decide) (fun c_4 => ?_) (fun c_4 => ?_)
    · have hE := br_p hE c_4
      exact bX15_same_39 C hkm hW hZ _ (lv_sub hl [] rfl) hE
    · have hE := br_n hE c_4
      refine lv_aload_n C.1 C.2.1 dX15_same_16 rfl (lv_at hl 0 rfl) ?_
      refine lv_aload_n C.1 C.2.1 dX15_same_17 rfl (lv_at hl 0 rfl) ?_
      obtain ⟨r_5, er_5, hE⟩ := cl_e hE
      refine gf_X15_257 C hW k_x0 er_5 dX15_same_18 (fun k_r_5 => ?_)
      refine lv_iload_n C.1 C.2.1 dX15_same_21 rfl (lv_at hl 1 rfl) ?_
      obtain ⟨g_6, hE⟩ := gd_e hE
      obtain ⟨r_7, er_7, hE⟩ := cl_e hE
      refine y_aald (t0 := 5) C hW k_r_5 (by decide) (by decide) rfl rfl rfl (fun _ => rfl) g_6 er_7 dX15_same_22 (fun k_r_7 => ?_)
      refine lv_aload_n C.1 C.2.1 dX15_same_23 rfl (lv_at hl 0 rfl) ?_
      obtain ⟨r_8, er_8, hE⟩ := cl_e hE
      refine gf_X15_257 C hW k_x0 er_8 dX15_same_24 (fun k_r_8 => ?_)
      refine lv_iload_n C.1 C.2.1 dX15_same_27 rfl (lv_at hl 2 rfl) ?_
      obtain ⟨g_9, hE⟩ := gd_e hE
      obtain ⟨r_10, er_10, hE⟩ := cl_e hE
      refine y_aald (t0 := 5) C hW k_r_8 (by decide) (by decide) rfl rfl rfl (fun _ => rfl) g_9 er_10 dX15_same_28 (fun k_r_10 => ?_)
      obtain ⟨o_11, eo_11, hE⟩ := cl_e hE
      refine x_kI (o := o_11) (z_runV (As := [.ref r_7, .ref r_10]) (rest := []) C (ct_X15_isSame l X F k_x0 k_r_7 k_r_10 eo_11) cw_X15_658 hW hZ k_x0 (by decide) rfl rfl rfl hl.1 (Nat.le_of_ble_eq_true rfl) rfl dX15_same_29 ⟨Nat.le_of_ble_eq_true rfl, Nat.le_of_ble_eq_true rfl⟩ ⟨Nat.le_refl _, Nat.le_refl _⟩) hZ (fun _ _ hW km hZ => ?_)
      replace hkm := hkm.tr km
      replace k_x0 := km.at k_x0 (by decide)
      refine lv_if_eq (tgt := 39) C.1 C.2.1 dX15_same_32 (by decide) (fun c_12 => ?_) (fun c_12 => ?_)
      · have hE := br_p hE c_12
        exact bX15_same_39 C hkm hW hZ _ (lv_sub hl [] rfl) hE
      · have hE := br_n hE c_12
        refine lv_iconst (v := (1 : Int32)) C.1 C.2.1 dX15_same_35 (by decide) ?_
        refine lv_goto (tgt := 40) C.1 C.2.1 dX15_same_36 (by decide) ?_
        exact bX15_same_40 C hkm hW hZ _ (lv_sub hl [] rfl) hE
theorem dX15_at_0 : decode cX15_at 0 = .ok (.iload_n 2, 1) := by decide +kernel
theorem dX15_at_1 : decode cX15_at 1 = .ok (.ifCond .lt 11, 3) := by decide +kernel
theorem dX15_at_4 : decode cX15_at 4 = .ok (.iload_n 2, 1) := by decide +kernel
theorem dX15_at_5 : decode cX15_at 5 = .ok (.aload_n 0, 1) := by decide +kernel
theorem dX15_at_6 : decode cX15_at 6 = .ok (.getfield 384, 3) := by decide +kernel
theorem dX15_at_9 : decode cX15_at 9 = .ok (.if_icmp .lt 8, 3) := by decide +kernel
theorem dX15_at_12 : decode cX15_at 12 = .ok (.bipush (-101), 2) := by decide +kernel
theorem dX15_at_14 : decode cX15_at 14 = .ok (.goto 47, 3) := by decide +kernel
theorem dX15_at_17 : decode cX15_at 17 = .ok (.aload_n 0, 1) := by decide +kernel
theorem dX15_at_18 : decode cX15_at 18 = .ok (.iload_n 1, 1) := by decide +kernel
theorem dX15_at_19 : decode cX15_at 19 = .ok (.invokevirtual 486, 3) := by decide +kernel
theorem dX15_at_22 : decode cX15_at 22 = .ok (.ifCond .ne 8, 3) := by decide +kernel
theorem dX15_at_25 : decode cX15_at 25 = .ok (.bipush (-102), 2) := by decide +kernel
theorem dX15_at_27 : decode cX15_at 27 = .ok (.goto 34, 3) := by decide +kernel
theorem dX15_at_30 : decode cX15_at 30 = .ok (.aload_n 0, 1) := by decide +kernel
theorem dX15_at_31 : decode cX15_at 31 = .ok (.getfield 257, 3) := by decide +kernel
theorem dX15_at_34 : decode cX15_at 34 = .ok (.iload_n 1, 1) := by decide +kernel
theorem dX15_at_35 : decode cX15_at 35 = .ok (.aaload, 1) := by decide +kernel
theorem dX15_at_36 : decode cX15_at 36 = .ok (.getfield 396, 3) := by decide +kernel
theorem dX15_at_39 : decode cX15_at 39 = .ok (.iload_n 2, 1) := by decide +kernel
theorem dX15_at_40 : decode cX15_at 40 = .ok (.iaload, 1) := by decide +kernel
theorem dX15_at_41 : decode cX15_at 41 = .ok (.ifCond .ne 7, 3) := by decide +kernel
theorem dX15_at_44 : decode cX15_at 44 = .ok (.iconst (-1), 1) := by decide +kernel
theorem dX15_at_45 : decode cX15_at 45 = .ok (.goto 16, 3) := by decide +kernel
theorem dX15_at_48 : decode cX15_at 48 = .ok (.aload_n 0, 1) := by decide +kernel
theorem dX15_at_49 : decode cX15_at 49 = .ok (.getfield 257, 3) := by decide +kernel
theorem dX15_at_52 : decode cX15_at 52 = .ok (.iload_n 1, 1) := by decide +kernel
theorem dX15_at_53 : decode cX15_at 53 = .ok (.aaload, 1) := by decide +kernel
theorem dX15_at_54 : decode cX15_at 54 = .ok (.getfield 396, 3) := by decide +kernel
theorem dX15_at_57 : decode cX15_at 57 = .ok (.iload_n 2, 1) := by decide +kernel
theorem dX15_at_58 : decode cX15_at 58 = .ok (.iaload, 1) := by decide +kernel
theorem dX15_at_59 : decode cX15_at 59 = .ok (.iconst 1, 1) := by decide +kernel
theorem dX15_at_60 : decode cX15_at 60 = .ok (.isub, 1) := by decide +kernel
theorem dX15_at_61 : decode cX15_at 61 = .ok (.ireturn, 1) := by decide +kernel
set_option maxRecDepth 20000 in
theorem moX15_at_61 {o : Int32 × Hp} {h : Hp} {t0 : Int32} (hE : sX15_at_61 h  t0 = some o) : Le h o.2 := by
  exact le_some2 hE
set_option maxRecDepth 20000 in
theorem moX15_at_12 {o : Int32 × Hp} {h : Hp} (hE : sX15_at_12 h  = some o) : Le h o.2 := by
  exact moX15_at_61 hE
set_option maxRecDepth 20000 in
theorem moX15_at {o : Int32 × Hp} {h : Hp} {x0 : Nat} {x1 : Int32} {x2 : Int32} (hE : sX15_at h x0 x1 x2 = some o) : Le h o.2 := by
  rcases br_e hE with ⟨_, hE⟩ | ⟨_, hE⟩
  · exact moX15_at_12 hE
  · rcases br_e hE with ⟨_, hE⟩ | ⟨_, hE⟩
    · obtain ⟨o_3, eo_3, hE⟩ := cl_e hE
      refine (moX15_has eo_3).tr ?_
      rcases br_e hE with ⟨_, hE⟩ | ⟨_, hE⟩
      · exact moX15_at_61 hE
      · obtain ⟨r_5, er_5, hE⟩ := cl_e hE
        obtain ⟨g_6, hE⟩ := gd_e hE
        obtain ⟨r_7, er_7, hE⟩ := cl_e hE
        obtain ⟨r_8, er_8, hE⟩ := cl_e hE
        obtain ⟨g_9, hE⟩ := gd_e hE
        rcases br_e hE with ⟨_, hE⟩ | ⟨_, hE⟩
        · exact moX15_at_61 hE
        · obtain ⟨r_11, er_11, hE⟩ := cl_e hE
          obtain ⟨g_12, hE⟩ := gd_e hE
          obtain ⟨r_13, er_13, hE⟩ := cl_e hE
          obtain ⟨r_14, er_14, hE⟩ := cl_e hE
          obtain ⟨g_15, hE⟩ := gd_e hE
          exact moX15_at_61 hE
    · exact moX15_at_12 hE
set_option maxRecDepth 20000 in
theorem bX15_at_61 {p : Program} {l : Launch} {e : Env} {s : State} {m : MethodId} {args : Array Value} {below : List Frame} {meth : Method} {c : Code} {X : Ec} {h0 : Hp} {o : Int32 × Hp} (C : Cx X p s m args meth c RX15 cX15_at 3 (some .int) "at") {h : Hp} {t0 : Int32} {H : Heap} {locs : List Loc} (hkm : Km h0 h) (hW : Wx X h H) (hZ : va_S (aA (eB X)) s.heap H locs) (ls : Array Slot) (hl : lv_has ls 3 []) (hE : sX15_at_61 h  t0 = some o) : W p l e (rm 1 21) s m args below meth c H locs 0 0 (MQ below (QI X h0 o.1 o.2) args s 0 0 (aA (eB X))) (F0 m 61 ls [.int t0]) := by
  exact x_iret C rfl rfl hW hZ hkm hE dX15_at_61
set_option maxRecDepth 20000 in
theorem bX15_at_12 {p : Program} {l : Launch} {e : Env} {s : State} {m : MethodId} {args : Array Value} {below : List Frame} {meth : Method} {c : Code} {X : Ec} {h0 : Hp} {o : Int32 × Hp} (C : Cx X p s m args meth c RX15 cX15_at 3 (some .int) "at") {h : Hp} {H : Heap} {locs : List Loc} (hkm : Km h0 h) (hW : Wx X h H) (hZ : va_S (aA (eB X)) s.heap H locs) (ls : Array Slot) (hl : lv_has ls 3 []) (hE : sX15_at_12 h  = some o) : W p l e (rm 1 21) s m args below meth c H locs 0 0 (MQ below (QI X h0 o.1 o.2) args s 0 0 (aA (eB X))) (F0 m 12 ls []) := by
  refine lv_bipush (v := (-101 : Int32)) C.1 C.2.1 dX15_at_12 (by decide) ?_
  refine lv_goto (tgt := 61) C.1 C.2.1 dX15_at_14 (by decide) ?_
  exact bX15_at_61 C hkm hW hZ _ (lv_sub hl [] rfl) hE
set_option maxRecDepth 20000 in
theorem ct_X15_at (l : Launch) (X : Ec) {h : Hp} {x0 : Nat} {x1 : Int32} {x2 : Int32} {o : Int32 × Hp} (k_x0 : hK h x0 = 15) (hE : sX15_at h x0 x1 x2 = some o) : MetI l yX15_at cX15_at 3 (some .int) 1 21 X [.ref x0, .int x1, .int x2] h o := by
  refine x_met (by decide) (Nat.le_of_ble_eq_true rfl) ?_
  intro p e s m below meth c ls C hl hW hZ
  have hl : lv_has ls 3 [(0, .ref x0), (1, .int x1), (2, .int x2)] := hl
  have hkm : Km h h := Km.rf h
  refine lv_iload_n C.1 C.2.1 dX15_at_0 rfl (lv_at hl 2 rfl) ?_
  refine lv_if_lt (tgt := 12) C.1 C.2.1 dX15_at_1 (by decide) (fun c_1 => ?_) (fun c_1 => ?_)
  · have hE := br_p hE c_1
    exact bX15_at_12 C hkm hW hZ _ (lv_sub hl [] rfl) hE
  · have hE := br_n hE c_1
    refine lv_iload_n C.1 C.2.1 dX15_at_4 rfl (lv_at hl 2 rfl) ?_
    refine lv_aload_n C.1 C.2.1 dX15_at_5 rfl (lv_at hl 0 rfl) ?_
    refine gf_X15_384 C hW k_x0 dX15_at_6 ?_
    refine lv_icmp_lt (tgt := 17) C.1 C.2.1 dX15_at_9 (by decide) (fun c_2 => ?_) (fun c_2 => ?_)
    · have hE := br_p hE c_2
      refine lv_aload_n C.1 C.2.1 dX15_at_17 rfl (lv_at hl 0 rfl) ?_
      refine lv_iload_n C.1 C.2.1 dX15_at_18 rfl (lv_at hl 1 rfl) ?_
      obtain ⟨o_3, eo_3, hE⟩ := cl_e hE
      refine x_kI (o := o_3) (z_runV (As := [.int x1]) (rest := []) C (ct_X15_has l X k_x0 eo_3) cw_X15_486 hW hZ k_x0 (by decide) rfl rfl rfl hl.1 (Nat.le_of_ble_eq_true rfl) rfl dX15_at_19 ⟨Nat.le_of_ble_eq_true rfl, Nat.le_of_ble_eq_true rfl⟩ ⟨Nat.le_refl _, Nat.le_refl _⟩) hZ (fun _ _ hW km hZ => ?_)
      replace hkm := hkm.tr km
      replace k_x0 := km.at k_x0 (by decide)
      refine lv_if_ne (tgt := 30) C.1 C.2.1 dX15_at_22 (by decide) (fun c_4 => ?_) (fun c_4 => ?_)
      · have hE := br_n hE c_4
        refine lv_aload_n C.1 C.2.1 dX15_at_30 rfl (lv_at hl 0 rfl) ?_
        obtain ⟨r_5, er_5, hE⟩ := cl_e hE
        refine gf_X15_257 C hW k_x0 er_5 dX15_at_31 (fun k_r_5 => ?_)
        refine lv_iload_n C.1 C.2.1 dX15_at_34 rfl (lv_at hl 1 rfl) ?_
        obtain ⟨g_6, hE⟩ := gd_e hE
        obtain ⟨r_7, er_7, hE⟩ := cl_e hE
        refine y_aald (t0 := 5) C hW k_r_5 (by decide) (by decide) rfl rfl rfl (fun _ => rfl) g_6 er_7 dX15_at_35 (fun k_r_7 => ?_)
        obtain ⟨r_8, er_8, hE⟩ := cl_e hE
        refine gf_X15_396 C hW k_r_7 er_8 dX15_at_36 (fun k_r_8 => ?_)
        refine lv_iload_n C.1 C.2.1 dX15_at_39 rfl (lv_at hl 2 rfl) ?_
        obtain ⟨g_9, hE⟩ := gd_e hE
        refine y_iald C hW k_r_8 g_9 dX15_at_40 ?_
        refine lv_if_ne (tgt := 48) C.1 C.2.1 dX15_at_41 (by decide) (fun c_10 => ?_) (fun c_10 => ?_)
        · have hE := br_n hE c_10
          refine lv_aload_n C.1 C.2.1 dX15_at_48 rfl (lv_at hl 0 rfl) ?_
          obtain ⟨r_11, er_11, hE⟩ := cl_e hE
          refine gf_X15_257 C hW k_x0 er_11 dX15_at_49 (fun k_r_11 => ?_)
          refine lv_iload_n C.1 C.2.1 dX15_at_52 rfl (lv_at hl 1 rfl) ?_
          obtain ⟨g_12, hE⟩ := gd_e hE
          obtain ⟨r_13, er_13, hE⟩ := cl_e hE
          refine y_aald (t0 := 5) C hW k_r_11 (by decide) (by decide) rfl rfl rfl (fun _ => rfl) g_12 er_13 dX15_at_53 (fun k_r_13 => ?_)
          obtain ⟨r_14, er_14, hE⟩ := cl_e hE
          refine gf_X15_396 C hW k_r_13 er_14 dX15_at_54 (fun k_r_14 => ?_)
          refine lv_iload_n C.1 C.2.1 dX15_at_57 rfl (lv_at hl 2 rfl) ?_
          obtain ⟨g_15, hE⟩ := gd_e hE
          refine y_iald C hW k_r_14 g_15 dX15_at_58 ?_
          refine lv_iconst (v := (1 : Int32)) C.1 C.2.1 dX15_at_59 (by decide) ?_
          refine lv_isub C.1 C.2.1 dX15_at_60 ?_
          exact bX15_at_61 C hkm hW hZ _ (lv_sub hl [] rfl) hE
        · have hE := br_p hE c_10
          refine lv_iconst (v := (-1 : Int32)) C.1 C.2.1 dX15_at_44 (by decide) ?_
          refine lv_goto (tgt := 61) C.1 C.2.1 dX15_at_45 (by decide) ?_
          exact bX15_at_61 C hkm hW hZ _ (lv_sub hl [] rfl) hE
      · have hE := br_p hE c_4
        refine lv_bipush (v := (-102 : Int32)) C.1 C.2.1 dX15_at_25 (by decide) ?_
        refine lv_goto (tgt := 61) C.1 C.2.1 dX15_at_27 (by decide) ?_
        exact bX15_at_61 C hkm hW hZ _ (lv_sub hl [] rfl) hE
    · have hE := br_n hE c_2
      exact bX15_at_12 C hkm hW hZ _ (lv_sub hl [] rfl) hE
set_option maxRecDepth 100000 in
theorem m_24 : Cond.initialized RJ13 ∈ W0 := w0_in (List.mem_append_right _ (List.mem_of_getElem? (i := 24) rfl)) rfl
set_option maxRecDepth 100000 in
theorem m_1273 : Cond.static yJ13_bitCount_95d88 ∈ W0 := w0_in (List.mem_append_right _ (List.mem_of_getElem? (i := 1273) rfl)) rfl
set_option maxRecDepth 100000 in
theorem m_1274 : Cond.code yJ13_bitCount_95d88 cJ13_bitCount_95d88 2 (some .int) ∈ W0 := w0_in (List.mem_append_right _ (List.mem_of_getElem? (i := 1274) rfl)) rfl
set_option maxRecDepth 100000 in
theorem m_2592 : Cond.methodLink RX15 662 yJ13_bitCount_95d88 ∈ W0 := w0_in (List.mem_append_right _ (List.mem_of_getElem? (i := 2592) rfl)) rfl
theorem cw_X15_662 : cwd RX15 662 yJ13_bitCount_95d88 cJ13_bitCount_95d88 2 (some .int) true 1 := ⟨m_1274, m_2592, m_24, m_1273, by decide, by decide, by decide +kernel⟩
theorem dX15_figure_0 : decode cX15_figure 0 = .ok (.iload_n 2, 1) := by decide +kernel
theorem dX15_figure_1 : decode cX15_figure 1 = .ok (.ifCond .lt 9, 3) := by decide +kernel
theorem dX15_figure_4 : decode cX15_figure 4 = .ok (.iload_n 2, 1) := by decide +kernel
theorem dX15_figure_5 : decode cX15_figure 5 = .ok (.bipush 8, 2) := by decide +kernel
theorem dX15_figure_7 : decode cX15_figure 7 = .ok (.if_icmp .le 6, 3) := by decide +kernel
theorem dX15_figure_10 : decode cX15_figure 10 = .ok (.bipush (-101), 2) := by decide +kernel
theorem dX15_figure_12 : decode cX15_figure 12 = .ok (.ireturn, 1) := by decide +kernel
theorem dX15_figure_13 : decode cX15_figure 13 = .ok (.aload_n 0, 1) := by decide +kernel
theorem dX15_figure_14 : decode cX15_figure 14 = .ok (.iload_n 1, 1) := by decide +kernel
theorem dX15_figure_15 : decode cX15_figure 15 = .ok (.invokevirtual 486, 3) := by decide +kernel
theorem dX15_figure_18 : decode cX15_figure 18 = .ok (.ifCond .ne 6, 3) := by decide +kernel
theorem dX15_figure_21 : decode cX15_figure 21 = .ok (.bipush (-102), 2) := by decide +kernel
theorem dX15_figure_23 : decode cX15_figure 23 = .ok (.ireturn, 1) := by decide +kernel
theorem dX15_figure_24 : decode cX15_figure 24 = .ok (.aload_n 0, 1) := by decide +kernel
theorem dX15_figure_25 : decode cX15_figure 25 = .ok (.getfield 257, 3) := by decide +kernel
theorem dX15_figure_28 : decode cX15_figure 28 = .ok (.iload_n 1, 1) := by decide +kernel
theorem dX15_figure_29 : decode cX15_figure 29 = .ok (.aaload, 1) := by decide +kernel
theorem dX15_figure_30 : decode cX15_figure 30 = .ok (.astore_n 3, 1) := by decide +kernel
theorem dX15_figure_31 : decode cX15_figure 31 = .ok (.iload_n 2, 1) := by decide +kernel
theorem dX15_figure_32 : decode cX15_figure 32 = .ok (.bipush 6, 2) := by decide +kernel
theorem dX15_figure_34 : decode cX15_figure 34 = .ok (.if_icmp .ge 76, 3) := by decide +kernel
theorem dX15_figure_37 : decode cX15_figure 37 = .ok (.bipush 6, 2) := by decide +kernel
theorem dX15_figure_39 : decode cX15_figure 39 = .ok (.newarray .int, 2) := by decide +kernel
theorem dX15_figure_41 : decode cX15_figure 41 = .ok (.dup, 1) := by decide +kernel
theorem dX15_figure_42 : decode cX15_figure 42 = .ok (.iconst 0, 1) := by decide +kernel
theorem dX15_figure_43 : decode cX15_figure 43 = .ok (.aload_n 3, 1) := by decide +kernel
theorem dX15_figure_44 : decode cX15_figure 44 = .ok (.getfield 452, 3) := by decide +kernel
theorem dX15_figure_47 : decode cX15_figure 47 = .ok (.iastore, 1) := by decide +kernel
theorem dX15_figure_48 : decode cX15_figure 48 = .ok (.dup, 1) := by decide +kernel
theorem dX15_figure_49 : decode cX15_figure 49 = .ok (.iconst 1, 1) := by decide +kernel
theorem dX15_figure_50 : decode cX15_figure 50 = .ok (.aload_n 3, 1) := by decide +kernel
theorem dX15_figure_51 : decode cX15_figure 51 = .ok (.getfield 449, 3) := by decide +kernel
theorem dX15_figure_54 : decode cX15_figure 54 = .ok (.iastore, 1) := by decide +kernel
theorem dX15_figure_55 : decode cX15_figure 55 = .ok (.dup, 1) := by decide +kernel
theorem dX15_figure_56 : decode cX15_figure 56 = .ok (.iconst 2, 1) := by decide +kernel
theorem dX15_figure_57 : decode cX15_figure 57 = .ok (.aload_n 3, 1) := by decide +kernel
theorem dX15_figure_58 : decode cX15_figure 58 = .ok (.getfield 447, 3) := by decide +kernel
theorem dX15_figure_61 : decode cX15_figure 61 = .ok (.iconst 0, 1) := by decide +kernel
theorem dX15_figure_62 : decode cX15_figure 62 = .ok (.iaload, 1) := by decide +kernel
theorem dX15_figure_63 : decode cX15_figure 63 = .ok (.iastore, 1) := by decide +kernel
theorem dX15_figure_64 : decode cX15_figure 64 = .ok (.dup, 1) := by decide +kernel
theorem dX15_figure_65 : decode cX15_figure 65 = .ok (.iconst 3, 1) := by decide +kernel
theorem dX15_figure_66 : decode cX15_figure 66 = .ok (.aload_n 3, 1) := by decide +kernel
theorem dX15_figure_67 : decode cX15_figure 67 = .ok (.getfield 447, 3) := by decide +kernel
theorem dX15_figure_70 : decode cX15_figure 70 = .ok (.iconst 1, 1) := by decide +kernel
theorem dX15_figure_71 : decode cX15_figure 71 = .ok (.iaload, 1) := by decide +kernel
theorem dX15_figure_72 : decode cX15_figure 72 = .ok (.iastore, 1) := by decide +kernel
theorem dX15_figure_73 : decode cX15_figure 73 = .ok (.dup, 1) := by decide +kernel
theorem dX15_figure_74 : decode cX15_figure 74 = .ok (.iconst 4, 1) := by decide +kernel
theorem dX15_figure_75 : decode cX15_figure 75 = .ok (.aload_n 3, 1) := by decide +kernel
theorem dX15_figure_76 : decode cX15_figure 76 = .ok (.getfield 436, 3) := by decide +kernel
theorem dX15_figure_79 : decode cX15_figure 79 = .ok (.invokestatic 662, 3) := by decide +kernel
theorem dX15_figure_82 : decode cX15_figure 82 = .ok (.iastore, 1) := by decide +kernel
theorem dX15_figure_83 : decode cX15_figure 83 = .ok (.dup, 1) := by decide +kernel
theorem dX15_figure_84 : decode cX15_figure 84 = .ok (.iconst 5, 1) := by decide +kernel
theorem dX15_figure_85 : decode cX15_figure 85 = .ok (.aload_n 3, 1) := by decide +kernel
theorem dX15_figure_86 : decode cX15_figure 86 = .ok (.getfield 441, 3) := by decide +kernel
theorem dX15_figure_89 : decode cX15_figure 89 = .ok (.ifCond .le 12, 3) := by decide +kernel
theorem dX15_figure_92 : decode cX15_figure 92 = .ok (.aload_n 3, 1) := by decide +kernel
theorem dX15_figure_93 : decode cX15_figure 93 = .ok (.getfield 439, 3) := by decide +kernel
theorem dX15_figure_96 : decode cX15_figure 96 = .ok (.iconst 0, 1) := by decide +kernel
theorem dX15_figure_97 : decode cX15_figure 97 = .ok (.iaload, 1) := by decide +kernel
theorem dX15_figure_98 : decode cX15_figure 98 = .ok (.goto 4, 3) := by decide +kernel
theorem dX15_figure_101 : decode cX15_figure 101 = .ok (.iconst (-1), 1) := by decide +kernel
theorem dX15_figure_102 : decode cX15_figure 102 = .ok (.iastore, 1) := by decide +kernel
theorem dX15_figure_103 : decode cX15_figure 103 = .ok (.astore 4, 2) := by decide +kernel
theorem dX15_figure_105 : decode cX15_figure 105 = .ok (.aload 4, 2) := by decide +kernel
theorem dX15_figure_107 : decode cX15_figure 107 = .ok (.iload_n 2, 1) := by decide +kernel
theorem dX15_figure_108 : decode cX15_figure 108 = .ok (.iaload, 1) := by decide +kernel
theorem dX15_figure_109 : decode cX15_figure 109 = .ok (.ireturn, 1) := by decide +kernel
theorem dX15_figure_110 : decode cX15_figure 110 = .ok (.iconst 0, 1) := by decide +kernel
theorem dX15_figure_111 : decode cX15_figure 111 = .ok (.istore 4, 2) := by decide +kernel
theorem dX15_figure_113 : decode cX15_figure 113 = .ok (.iconst 0, 1) := by decide +kernel
theorem dX15_figure_114 : decode cX15_figure 114 = .ok (.istore 5, 2) := by decide +kernel
theorem dX15_figure_116 : decode cX15_figure 116 = .ok (.iload 5, 2) := by decide +kernel
theorem dX15_figure_118 : decode cX15_figure 118 = .ok (.aload_n 0, 1) := by decide +kernel
theorem dX15_figure_119 : decode cX15_figure 119 = .ok (.getfield 252, 3) := by decide +kernel
theorem dX15_figure_122 : decode cX15_figure 122 = .ok (.getfield 169, 3) := by decide +kernel
theorem dX15_figure_125 : decode cX15_figure 125 = .ok (.if_icmp .ge 34, 3) := by decide +kernel
theorem dX15_figure_128 : decode cX15_figure 128 = .ok (.iload_n 2, 1) := by decide +kernel
theorem dX15_figure_129 : decode cX15_figure 129 = .ok (.bipush 8, 2) := by decide +kernel
theorem dX15_figure_131 : decode cX15_figure 131 = .ok (.if_icmp .ge 28, 3) := by decide +kernel
theorem dX15_figure_134 : decode cX15_figure 134 = .ok (.iload 4, 2) := by decide +kernel
theorem dX15_figure_136 : decode cX15_figure 136 = .ok (.aload_n 3, 1) := by decide +kernel
theorem dX15_figure_137 : decode cX15_figure 137 = .ok (.getfield 444, 3) := by decide +kernel
theorem dX15_figure_140 : decode cX15_figure 140 = .ok (.iconst 2, 1) := by decide +kernel
theorem dX15_figure_141 : decode cX15_figure 141 = .ok (.iload 5, 2) := by decide +kernel
theorem dX15_figure_143 : decode cX15_figure 143 = .ok (.imul, 1) := by decide +kernel
theorem dX15_figure_144 : decode cX15_figure 144 = .ok (.iload_n 2, 1) := by decide +kernel
theorem dX15_figure_145 : decode cX15_figure 145 = .ok (.iadd, 1) := by decide +kernel
theorem dX15_figure_146 : decode cX15_figure 146 = .ok (.bipush 6, 2) := by decide +kernel
theorem dX15_figure_148 : decode cX15_figure 148 = .ok (.isub, 1) := by decide +kernel
theorem dX15_figure_149 : decode cX15_figure 149 = .ok (.iaload, 1) := by decide +kernel
theorem dX15_figure_150 : decode cX15_figure 150 = .ok (.iadd, 1) := by decide +kernel
theorem dX15_figure_151 : decode cX15_figure 151 = .ok (.istore 4, 2) := by decide +kernel
theorem dX15_figure_153 : decode cX15_figure 153 = .ok (.iinc 5 1, 3) := by decide +kernel
theorem dX15_figure_156 : decode cX15_figure 156 = .ok (.goto (-40), 3) := by decide +kernel
theorem dX15_figure_159 : decode cX15_figure 159 = .ok (.iconst 0, 1) := by decide +kernel
theorem dX15_figure_160 : decode cX15_figure 160 = .ok (.istore 5, 2) := by decide +kernel
theorem dX15_figure_162 : decode cX15_figure 162 = .ok (.iload 5, 2) := by decide +kernel
theorem dX15_figure_164 : decode cX15_figure 164 = .ok (.aload_n 0, 1) := by decide +kernel
theorem dX15_figure_165 : decode cX15_figure 165 = .ok (.getfield 384, 3) := by decide +kernel
theorem dX15_figure_168 : decode cX15_figure 168 = .ok (.if_icmp .ge 35, 3) := by decide +kernel
theorem dX15_figure_171 : decode cX15_figure 171 = .ok (.iload_n 2, 1) := by decide +kernel
theorem dX15_figure_172 : decode cX15_figure 172 = .ok (.bipush 8, 2) := by decide +kernel
theorem dX15_figure_174 : decode cX15_figure 174 = .ok (.if_icmp .ne 29, 3) := by decide +kernel
theorem dX15_figure_177 : decode cX15_figure 177 = .ok (.iload 4, 2) := by decide +kernel
theorem dX15_figure_179 : decode cX15_figure 179 = .ok (.aload_n 3, 1) := by decide +kernel
theorem dX15_figure_180 : decode cX15_figure 180 = .ok (.getfield 396, 3) := by decide +kernel
theorem dX15_figure_183 : decode cX15_figure 183 = .ok (.iload 5, 2) := by decide +kernel
theorem dX15_figure_185 : decode cX15_figure 185 = .ok (.iaload, 1) := by decide +kernel
theorem dX15_figure_186 : decode cX15_figure 186 = .ok (.ifCond .le 7, 3) := by decide +kernel
theorem dX15_figure_189 : decode cX15_figure 189 = .ok (.iconst 1, 1) := by decide +kernel
theorem dX15_figure_190 : decode cX15_figure 190 = .ok (.goto 4, 3) := by decide +kernel
theorem dX15_figure_193 : decode cX15_figure 193 = .ok (.iconst 0, 1) := by decide +kernel
theorem dX15_figure_194 : decode cX15_figure 194 = .ok (.iadd, 1) := by decide +kernel
theorem dX15_figure_195 : decode cX15_figure 195 = .ok (.istore 4, 2) := by decide +kernel
theorem dX15_figure_197 : decode cX15_figure 197 = .ok (.iinc 5 1, 3) := by decide +kernel
theorem dX15_figure_200 : decode cX15_figure 200 = .ok (.goto (-38), 3) := by decide +kernel
theorem dX15_figure_203 : decode cX15_figure 203 = .ok (.iload 4, 2) := by decide +kernel
theorem dX15_figure_205 : decode cX15_figure 205 = .ok (.ireturn, 1) := by decide +kernel
set_option maxRecDepth 20000 in
theorem moX15_figure_10 {o : Int32 × Hp} {F : Nat} {h : Hp} (hE : sX15_figure_10 F h  = some o) : Le h o.2 := by
  exact le_some2 hE
set_option maxRecDepth 20000 in
theorem moX15_figure_203 {o : Int32 × Hp} {F : Nat} {h : Hp} {x4 : Int32} (hE : sX15_figure_203 F h x4 = some o) : Le h o.2 := by
  exact le_some2 hE
set_option maxRecDepth 20000 in
theorem moX15_figure_194 {o : Int32 × Hp} {k_162 : Hp → Nat → Int32 → Nat → Int32 → Int32 → Option (Int32 × Hp)} {F : Nat} (mk_162 : ∀ (h : Hp) (x0 : Nat) (x2 : Int32) (x3 : Nat) (x4 : Int32) (x5 : Int32), k_162 h x0 x2 x3 x4 x5 = some o → Le h o.2) {h : Hp} {x0 : Nat} {x2 : Int32} {x3 : Nat} {x5 : Int32} {t0 : Int32} {t1 : Int32} (hE : sX15_figure_194 F k_162 h x0 x2 x3 x5 t0 t1 = some o) : Le h o.2 := by
  obtain ⟨v_1, ev_1, hE⟩ := nm_e2 hE
  obtain ⟨v_2, ev_2, hE⟩ := nm_e2 hE
  exact mk_162 _ _ _ _ _ _ hE
set_option maxRecDepth 20000 in
theorem moX15_figure_162 {o : Int32 × Hp} {F : Nat} : ∀ (f : Nat) {h : Hp} {x0 : Nat} {x2 : Int32} {x3 : Nat} {x4 : Int32} {x5 : Int32}, sX15_figure_162 F f h x0 x2 x3 x4 x5 = some o → Le h o.2 := by
  intro f
  induction f with
  | zero =>
    intro h x0 x2 x3 x4 x5 hE
    rw [sX15_figure_162] at hE
    cases hE
  | succ f ih =>
    intro h x0 x2 x3 x4 x5 hE
    rw [sX15_figure_162] at hE
    have mk_162 : ∀ (h : Hp) (x0 : Nat) (x2 : Int32) (x3 : Nat) (x4 : Int32) (x5 : Int32), sX15_figure_162 F f h x0 x2 x3 x4 x5 = some o → Le h o.2 := fun h x0 x2 x3 x4 x5 hE => ih hE
    rcases br_e hE with ⟨_, hE⟩ | ⟨_, hE⟩
    · exact moX15_figure_203 hE
    · rcases br_e hE with ⟨_, hE⟩ | ⟨_, hE⟩
      · obtain ⟨r_3, er_3, hE⟩ := cl_e hE
        obtain ⟨g_4, hE⟩ := gd_e hE
        rcases br_e hE with ⟨_, hE⟩ | ⟨_, hE⟩
        · exact moX15_figure_194 mk_162 hE
        · exact moX15_figure_194 mk_162 hE
      · exact moX15_figure_203 hE
set_option maxRecDepth 20000 in
theorem moX15_figure_159 {o : Int32 × Hp} {F : Nat} {h : Hp} {x0 : Nat} {x2 : Int32} {x3 : Nat} {x4 : Int32} (hE : sX15_figure_159 F h x0 x2 x3 x4 = some o) : Le h o.2 := by
  exact moX15_figure_162 _ hE
set_option maxRecDepth 20000 in
theorem moX15_figure_116 {o : Int32 × Hp} {F : Nat} : ∀ (f : Nat) {h : Hp} {x0 : Nat} {x2 : Int32} {x3 : Nat} {x4 : Int32} {x5 : Int32}, sX15_figure_116 F f h x0 x2 x3 x4 x5 = some o → Le h o.2 := by
  intro f
  induction f with
  | zero =>
    intro h x0 x2 x3 x4 x5 hE
    rw [sX15_figure_116] at hE
    cases hE
  | succ f ih =>
    intro h x0 x2 x3 x4 x5 hE
    rw [sX15_figure_116] at hE
    have mk_116 : ∀ (h : Hp) (x0 : Nat) (x2 : Int32) (x3 : Nat) (x4 : Int32) (x5 : Int32), sX15_figure_116 F f h x0 x2 x3 x4 x5 = some o → Le h o.2 := fun h x0 x2 x3 x4 x5 hE => ih hE
    obtain ⟨r_1, er_1, hE⟩ := cl_e hE
    rcases br_e hE with ⟨_, hE⟩ | ⟨_, hE⟩
    · exact moX15_figure_159 hE
    · rcases br_e hE with ⟨_, hE⟩ | ⟨_, hE⟩
      · exact moX15_figure_159 hE
      · obtain ⟨r_4, er_4, hE⟩ := cl_e hE
        obtain ⟨g_5, hE⟩ := gd_e hE
        obtain ⟨v_6, ev_6, hE⟩ := nm_e2 hE
        obtain ⟨v_7, ev_7, hE⟩ := nm_e2 hE
        exact mk_116 _ _ _ _ _ _ hE
set_option maxRecDepth 20000 in
theorem moX15_figure_102 {o : Int32 × Hp} {F : Nat} {h : Hp} {x2 : Int32} {t0 : Int32} {t1 : Int32} {t2 : Nat} {t3 : Nat} (hE : sX15_figure_102 F h x2 t0 t1 t2 t3 = some o) : Le h o.2 := by
  obtain ⟨g_1, hE⟩ := gd_e hE
  obtain ⟨h_2, eh_2, hE⟩ := nm_e2 hE
  refine (le_I eh_2).tr ?_
  obtain ⟨g_3, hE⟩ := gd_e hE
  exact le_some2 hE
set_option maxRecDepth 20000 in
theorem moX15_figure_82 {o : Int32 × Hp} {F : Nat} {h : Hp} {x2 : Int32} {x3 : Nat} {t0 : Int32} {t1 : Int32} {t2 : Nat} {t3 : Nat} (hE : sX15_figure_82 F h x2 x3 t0 t1 t2 t3 = some o) : Le h o.2 := by
  obtain ⟨g_1, hE⟩ := gd_e hE
  obtain ⟨h_2, eh_2, hE⟩ := nm_e2 hE
  refine (le_I eh_2).tr ?_
  rcases br_e hE with ⟨_, hE⟩ | ⟨_, hE⟩
  · exact moX15_figure_102 hE
  · obtain ⟨r_4, er_4, hE⟩ := cl_e hE
    obtain ⟨g_5, hE⟩ := gd_e hE
    exact moX15_figure_102 hE
set_option maxRecDepth 20000 in
theorem moX15_figure_41 {o : Int32 × Hp} {F : Nat} {h : Hp} {x2 : Int32} {x3 : Nat} {t0 : Nat} (hE : sX15_figure_41 F h x2 x3 t0 = some o) : Le h o.2 := by
  obtain ⟨g_1, hE⟩ := gd_e hE
  obtain ⟨h_2, eh_2, hE⟩ := nm_e2 hE
  refine (le_I eh_2).tr ?_
  obtain ⟨g_3, hE⟩ := gd_e hE
  obtain ⟨h_4, eh_4, hE⟩ := nm_e2 hE
  refine (le_I eh_4).tr ?_
  obtain ⟨r_5, er_5, hE⟩ := cl_e hE
  obtain ⟨g_6, hE⟩ := gd_e hE
  obtain ⟨g_7, hE⟩ := gd_e hE
  obtain ⟨h_8, eh_8, hE⟩ := nm_e2 hE
  refine (le_I eh_8).tr ?_
  obtain ⟨r_9, er_9, hE⟩ := cl_e hE
  obtain ⟨g_10, hE⟩ := gd_e hE
  obtain ⟨g_11, hE⟩ := gd_e hE
  obtain ⟨h_12, eh_12, hE⟩ := nm_e2 hE
  refine (le_I eh_12).tr ?_
  obtain ⟨o_13, eo_13, hE⟩ := cl_e hE
  refine (moJ13_bitCount_95d88 eo_13).tr ?_
  exact moX15_figure_82 hE
set_option maxRecDepth 20000 in
theorem moX15_figure_18 {o : Int32 × Hp} {F : Nat} {h : Hp} {x0 : Nat} {x1 : Int32} {x2 : Int32} {t0 : Int32} (hE : sX15_figure_18 F h x0 x1 x2 t0 = some o) : Le h o.2 := by
  rcases br_e hE with ⟨_, hE⟩ | ⟨_, hE⟩
  · exact le_some2 hE
  · obtain ⟨r_2, er_2, hE⟩ := cl_e hE
    obtain ⟨g_3, hE⟩ := gd_e hE
    obtain ⟨r_4, er_4, hE⟩ := cl_e hE
    rcases br_e hE with ⟨_, hE⟩ | ⟨_, hE⟩
    · exact moX15_figure_116 _ hE
    · obtain ⟨a_6, ea_6, hE⟩ := nm_e2 hE
      obtain ⟨h_7, eh_7, hE⟩ := nm_e2 hE
      refine (le_C eh_7).tr ?_
      exact moX15_figure_41 hE
set_option maxRecDepth 20000 in
theorem moX15_figure {o : Int32 × Hp} {F : Nat} {h : Hp} {x0 : Nat} {x1 : Int32} {x2 : Int32} (hE : sX15_figure F h x0 x1 x2 = some o) : Le h o.2 := by
  rcases br_e hE with ⟨_, hE⟩ | ⟨_, hE⟩
  · exact moX15_figure_10 hE
  · rcases br_e hE with ⟨_, hE⟩ | ⟨_, hE⟩
    · obtain ⟨o_3, eo_3, hE⟩ := cl_e hE
      refine (moX15_has eo_3).tr ?_
      exact moX15_figure_18 hE
    · exact moX15_figure_10 hE
set_option maxRecDepth 20000 in
theorem bX15_figure_10 {p : Program} {l : Launch} {e : Env} {s : State} {m : MethodId} {args : Array Value} {below : List Frame} {meth : Method} {c : Code} {X : Ec} {h0 : Hp} {o : Int32 × Hp} {F : Nat} (C : Cx X p s m args meth c RX15 cX15_figure 6 (some .int) "figure") {h : Hp} {H : Heap} {locs : List Loc} (hkl : Kl h0 h) (hW : Wx X h H) (hZ : va_S (aA (eB X)) s.heap H locs) (ls : Array Slot) (hl : lv_has ls 6 []) (hE : sX15_figure_10 F h  = some o) : W p l e (rmA 1 21 h0 o.2) s m args below meth c H locs (hS h - hS h0) (hL h - hL h0) (MQ below (QIA X h0 o.1 o.2) args s (hS o.2 - hS h0) (hL o.2 - hL h0) (aA (eB X))) (F0 m 10 ls []) := by
  refine lv_bipush (v := (-101 : Int32)) C.1 C.2.1 dX15_figure_10 (by decide) ?_
  exact x_iretA C rfl rfl hW hZ hkl hE dX15_figure_12
set_option maxRecDepth 20000 in
theorem bX15_figure_203 {p : Program} {l : Launch} {e : Env} {s : State} {m : MethodId} {args : Array Value} {below : List Frame} {meth : Method} {c : Code} {X : Ec} {h0 : Hp} {o : Int32 × Hp} {F : Nat} (C : Cx X p s m args meth c RX15 cX15_figure 6 (some .int) "figure") {h : Hp} {x4 : Int32} {H : Heap} {locs : List Loc} (hkl : Kl h0 h) (hW : Wx X h H) (hZ : va_S (aA (eB X)) s.heap H locs) (ls : Array Slot) (hl : lv_has ls 6 [(4, .int x4)]) (hE : sX15_figure_203 F h x4 = some o) : W p l e (rmA 1 21 h0 o.2) s m args below meth c H locs (hS h - hS h0) (hL h - hL h0) (MQ below (QIA X h0 o.1 o.2) args s (hS o.2 - hS h0) (hL o.2 - hL h0) (aA (eB X))) (F0 m 203 ls []) := by
  refine lv_iload C.1 C.2.1 dX15_figure_203 (lv_at hl 0 rfl) ?_
  exact x_iretA C rfl rfl hW hZ hkl hE dX15_figure_205
set_option maxRecDepth 20000 in
theorem bX15_figure_194 {p : Program} {l : Launch} {e : Env} {s : State} {m : MethodId} {args : Array Value} {below : List Frame} {meth : Method} {c : Code} {X : Ec} {h0 : Hp} {o : Int32 × Hp} {k_162 : Hp → Nat → Int32 → Nat → Int32 → Int32 → Option (Int32 × Hp)} {F : Nat} (C : Cx X p s m args meth c RX15 cX15_figure 6 (some .int) "figure") (hk_162 : ∀ (h : Hp) (x0 : Nat) (x2 : Int32) (x3 : Nat) (x4 : Int32) (x5 : Int32) (H : Heap) (locs : List Loc), hK h x0 = 15 → hK h x3 = 12 → Kl h0 h → Wx X h H → va_S (aA (eB X)) s.heap H locs → ∀ (ls : Array Slot), lv_has ls 6 [(0, .ref x0), (2, .int x2), (3, .ref x3), (4, .int x4), (5, .int x5)] → k_162 h x0 x2 x3 x4 x5 = some o → W p l e (rmA 1 21 h0 o.2) s m args below meth c H locs (hS h - hS h0) (hL h - hL h0) (MQ below (QIA X h0 o.1 o.2) args s (hS o.2 - hS h0) (hL o.2 - hL h0) (aA (eB X))) (F0 m 162 ls [])) (mk_162 : ∀ (h : Hp) (x0 : Nat) (x2 : Int32) (x3 : Nat) (x4 : Int32) (x5 : Int32), k_162 h x0 x2 x3 x4 x5 = some o → Le h o.2) {h : Hp} {x0 : Nat} {x2 : Int32} {x3 : Nat} {x5 : Int32} {t0 : Int32} {t1 : Int32} {H : Heap} {locs : List Loc} (k_x0 : hK h x0 = 15) (k_x3 : hK h x3 = 12) (hkl : Kl h0 h) (hW : Wx X h H) (hZ : va_S (aA (eB X)) s.heap H locs) (ls : Array Slot) (hl : lv_has ls 6 [(0, .ref x0), (2, .int x2), (3, .ref x3), (5, .int x5)]) (hE : sX15_figure_194 F k_162 h x0 x2 x3 x5 t0 t1 = some o) : W p l e (rmA 1 21 h0 o.2) s m args below meth c H locs (hS h - hS h0) (hL h - hL h0) (MQ below (QIA X h0 o.1 o.2) args s (hS o.2 - hS h0) (hL o.2 - hL h0) (aA (eB X))) (F0 m 194 ls [.int t0, .int t1]) := by
  refine lv_iadd C.1 C.2.1 dX15_figure_194 ?_
  obtain ⟨v_1, ev_1, hE⟩ := nm_e2 hE
  refine x_nmI ev_1 ?_
  refine lv_istore (lv' := [(4, .int v_1), (0, .ref x0), (2, .int x2), (3, .ref x3), (5, .int x5)]) C.1 C.2.1 dX15_figure_195 hl (by decide) rfl (fun ls hl => ?_)
  obtain ⟨v_2, ev_2, hE⟩ := nm_e2 hE
  refine lv_iinc (v := v_2) (lv' := [(5, .int v_2), (4, .int v_1), (0, .ref x0), (2, .int x2), (3, .ref x3)]) C.1 C.2.1 dX15_figure_197 hl (k := 4) rfl (by rw [ev_2]; rfl) (by decide) rfl (fun ls hl => ?_)
  refine lv_goto (tgt := 162) C.1 C.2.1 dX15_figure_200 (by decide) ?_
  exact hk_162 _ _ _ _ _ _ _ _ k_x0 k_x3 hkl hW hZ _ (lv_sub hl [2, 3, 4, 1, 0] rfl) hE
set_option maxRecDepth 20000 in
theorem bX15_figure_162 {p : Program} {l : Launch} {e : Env} {s : State} {m : MethodId} {args : Array Value} {below : List Frame} {meth : Method} {c : Code} {X : Ec} {h0 : Hp} {o : Int32 × Hp} {F : Nat} (C : Cx X p s m args meth c RX15 cX15_figure 6 (some .int) "figure") : ∀ (f : Nat) {h : Hp} {x0 : Nat} {x2 : Int32} {x3 : Nat} {x4 : Int32} {x5 : Int32} {H : Heap} {locs : List Loc} (k_x0 : hK h x0 = 15) (k_x3 : hK h x3 = 12), Kl h0 h → Wx X h H → va_S (aA (eB X)) s.heap H locs → ∀ (ls : Array Slot), lv_has ls 6 [(0, .ref x0), (2, .int x2), (3, .ref x3), (4, .int x4), (5, .int x5)] → sX15_figure_162 F f h x0 x2 x3 x4 x5 = some o → W p l e (rmA 1 21 h0 o.2) s m args below meth c H locs (hS h - hS h0) (hL h - hL h0) (MQ below (QIA X h0 o.1 o.2) args s (hS o.2 - hS h0) (hL o.2 - hL h0) (aA (eB X))) (F0 m 162 ls []) := by
  intro f
  induction f with
  | zero =>
    intro h x0 x2 x3 x4 x5 H locs k_x0 k_x3 hkl hW hZ ls hl hE
    rw [sX15_figure_162] at hE
    cases hE
  | succ f ih =>
    intro h x0 x2 x3 x4 x5 H locs k_x0 k_x3 hkl hW hZ ls hl hE
    rw [sX15_figure_162] at hE
    have mk_162 : ∀ (h : Hp) (x0 : Nat) (x2 : Int32) (x3 : Nat) (x4 : Int32) (x5 : Int32), sX15_figure_162 F f h x0 x2 x3 x4 x5 = some o → Le h o.2 := fun h x0 x2 x3 x4 x5 hE => moX15_figure_162 _ hE
    have hk_162 : ∀ (h : Hp) (x0 : Nat) (x2 : Int32) (x3 : Nat) (x4 : Int32) (x5 : Int32) (H : Heap) (locs : List Loc), hK h x0 = 15 → hK h x3 = 12 → Kl h0 h → Wx X h H → va_S (aA (eB X)) s.heap H locs → ∀ (ls : Array Slot), lv_has ls 6 [(0, .ref x0), (2, .int x2), (3, .ref x3), (4, .int x4), (5, .int x5)] → sX15_figure_162 F f h x0 x2 x3 x4 x5 = some o → W p l e (rmA 1 21 h0 o.2) s m args below meth c H locs (hS h - hS h0) (hL h - hL h0) (MQ below (QIA X h0 o.1 o.2) args s (hS o.2 - hS h0) (hL o.2 - hL h0) (aA (eB X))) (F0 m 162 ls []) := fun h x0 x2 x3 x4 x5 H locs k_x0 k_x3 a b c ls hl hE => ih k_x0 k_x3 a b c ls hl hE
    refine lv_iload C.1 C.2.1 dX15_figure_162 (lv_at hl 4 rfl) ?_
    refine lv_aload_n C.1 C.2.1 dX15_figure_164 rfl (lv_at hl 0 rfl) ?_
    refine gf_X15_384 C hW k_x0 dX15_figure_165 ?_
    refine lv_icmp_ge (tgt := 203) C.1 C.2.1 dX15_figure_168 (by decide) (fun c_1 => ?_) (fun c_1 => ?_)
    · have hE := br_p hE c_1
      exact bX15_figure_203 C hkl hW hZ _ (lv_sub hl [3] rfl) hE
    · have hE := br_n hE c_1
      refine lv_iload_n C.1 C.2.1 dX15_figure_171 rfl (lv_at hl 1 rfl) ?_
      refine lv_bipush (v := (8 : Int32)) C.1 C.2.1 dX15_figure_172 (by decide) ?_
      refine lv_icmp_ne (tgt := 203) C.1 C.2.1 dX15_figure_174 (by decide) (fun c_2 => ?_) (fun c_2 => ?_)
      · have hE := br_n hE c_2
        exact bX15_figure_203 C hkl hW hZ _ (lv_sub hl [3] rfl) hE
      · have hE := br_p hE c_2
        refine lv_iload C.1 C.2.1 dX15_figure_177 (lv_at hl 3 rfl) ?_
        refine lv_aload_n C.1 C.2.1 dX15_figure_179 rfl (lv_at hl 2 rfl) ?_
        obtain ⟨r_3, er_3, hE⟩ := cl_e hE
        refine gf_X15_396 C hW k_x3 er_3 dX15_figure_180 (fun k_r_3 => ?_)
        refine lv_iload C.1 C.2.1 dX15_figure_183 (lv_at hl 4 rfl) ?_
        obtain ⟨g_4, hE⟩ := gd_e hE
        refine y_iald C hW k_r_3 g_4 dX15_figure_185 ?_
        refine lv_if_le (tgt := 193) C.1 C.2.1 dX15_figure_186 (by decide) (fun c_5 => ?_) (fun c_5 => ?_)
        · have hE := br_p hE c_5
          refine lv_iconst (v := (0 : Int32)) C.1 C.2.1 dX15_figure_193 (by decide) ?_
          exact bX15_figure_194 C hk_162 mk_162 k_x0 k_x3 hkl hW hZ _ (lv_sub hl [0, 1, 2, 4] rfl) hE
        · have hE := br_n hE c_5
          refine lv_iconst (v := (1 : Int32)) C.1 C.2.1 dX15_figure_189 (by decide) ?_
          refine lv_goto (tgt := 194) C.1 C.2.1 dX15_figure_190 (by decide) ?_
          exact bX15_figure_194 C hk_162 mk_162 k_x0 k_x3 hkl hW hZ _ (lv_sub hl [0, 1, 2, 4] rfl) hE
set_option maxRecDepth 20000 in
theorem bX15_figure_159 {p : Program} {l : Launch} {e : Env} {s : State} {m : MethodId} {args : Array Value} {below : List Frame} {meth : Method} {c : Code} {X : Ec} {h0 : Hp} {o : Int32 × Hp} {F : Nat} (C : Cx X p s m args meth c RX15 cX15_figure 6 (some .int) "figure") {h : Hp} {x0 : Nat} {x2 : Int32} {x3 : Nat} {x4 : Int32} {H : Heap} {locs : List Loc} (k_x0 : hK h x0 = 15) (k_x3 : hK h x3 = 12) (hkl : Kl h0 h) (hW : Wx X h H) (hZ : va_S (aA (eB X)) s.heap H locs) (ls : Array Slot) (hl : lv_has ls 6 [(0, .ref x0), (2, .int x2), (3, .ref x3), (4, .int x4)]) (hE : sX15_figure_159 F h x0 x2 x3 x4 = some o) : W p l e (rmA 1 21 h0 o.2) s m args below meth c H locs (hS h - hS h0) (hL h - hL h0) (MQ below (QIA X h0 o.1 o.2) args s (hS o.2 - hS h0) (hL o.2 - hL h0) (aA (eB X))) (F0 m 159 ls []) := by
  refine lv_iconst (v := (0 : Int32)) C.1 C.2.1 dX15_figure_159 (by decide) ?_
  refine lv_istore (lv' := [(5, .int (0 : Int32)), (0, .ref x0), (2, .int x2), (3, .ref x3), (4, .int x4)]) C.1 C.2.1 dX15_figure_160 hl (by decide) rfl (fun ls hl => ?_)
  exact bX15_figure_162 C F k_x0 k_x3 hkl hW hZ _ (lv_sub hl [1, 2, 3, 4, 0] rfl) hE
set_option maxRecDepth 20000 in
theorem bX15_figure_116 {p : Program} {l : Launch} {e : Env} {s : State} {m : MethodId} {args : Array Value} {below : List Frame} {meth : Method} {c : Code} {X : Ec} {h0 : Hp} {o : Int32 × Hp} {F : Nat} (C : Cx X p s m args meth c RX15 cX15_figure 6 (some .int) "figure") : ∀ (f : Nat) {h : Hp} {x0 : Nat} {x2 : Int32} {x3 : Nat} {x4 : Int32} {x5 : Int32} {H : Heap} {locs : List Loc} (k_x0 : hK h x0 = 15) (k_x3 : hK h x3 = 12), Kl h0 h → Wx X h H → va_S (aA (eB X)) s.heap H locs → ∀ (ls : Array Slot), lv_has ls 6 [(0, .ref x0), (2, .int x2), (3, .ref x3), (4, .int x4), (5, .int x5)] → sX15_figure_116 F f h x0 x2 x3 x4 x5 = some o → W p l e (rmA 1 21 h0 o.2) s m args below meth c H locs (hS h - hS h0) (hL h - hL h0) (MQ below (QIA X h0 o.1 o.2) args s (hS o.2 - hS h0) (hL o.2 - hL h0) (aA (eB X))) (F0 m 116 ls []) := by
  intro f
  induction f with
  | zero =>
    intro h x0 x2 x3 x4 x5 H locs k_x0 k_x3 hkl hW hZ ls hl hE
    rw [sX15_figure_116] at hE
    cases hE
  | succ f ih =>
    intro h x0 x2 x3 x4 x5 H locs k_x0 k_x3 hkl hW hZ ls hl hE
    rw [sX15_figure_116] at hE
    have mk_116 : ∀ (h : Hp) (x0 : Nat) (x2 : Int32) (x3 : Nat) (x4 : Int32) (x5 : Int32), sX15_figure_116 F f h x0 x2 x3 x4 x5 = some o → Le h o.2 := fun h x0 x2 x3 x4 x5 hE => moX15_figure_116 _ hE
    have hk_116 : ∀ (h : Hp) (x0 : Nat) (x2 : Int32) (x3 : Nat) (x4 : Int32) (x5 : Int32) (H : Heap) (locs : List Loc), hK h x0 = 15 → hK h x3 = 12 → Kl h0 h → Wx X h H → va_S (aA (eB X)) s.heap H locs → ∀ (ls : Array Slot), lv_has ls 6 [(0, .ref x0), (2, .int x2), (3, .ref x3), (4, .int x4), (5, .int x5)] → sX15_figure_116 F f h x0 x2 x3 x4 x5 = some o → W p l e (rmA 1 21 h0 o.2) s m args below meth c H locs (hS h - hS h0) (hL h - hL h0) (MQ below (QIA X h0 o.1 o.2) args s (hS o.2 - hS h0) (hL o.2 - hL h0) (aA (eB X))) (F0 m 116 ls []) := fun h x0 x2 x3 x4 x5 H locs k_x0 k_x3 a b c ls hl hE => ih k_x0 k_x3 a b c ls hl hE
    refine lv_iload C.1 C.2.1 dX15_figure_116 (lv_at hl 4 rfl) ?_
    refine lv_aload_n C.1 C.2.1 dX15_figure_118 rfl (lv_at hl 0 rfl) ?_
    obtain ⟨r_1, er_1, hE⟩ := cl_e hE
    refine gf_X15_252 C hW k_x0 er_1 dX15_figure_119 (fun k_r_1 => ?_)
    refine gf_X15_169 C hW k_r_1 dX15_figure_122 ?_
    refine lv_icmp_ge (tgt := 159) C.1 C.2.1 dX15_figure_125 (by decide) (fun c_2 => ?_) (fun c_2 => ?_)
    · have hE := br_p hE c_2
      exact bX15_figure_159 C k_x0 k_x3 hkl hW hZ _ (lv_sub hl [0, 1, 2, 3] rfl) hE
    · have hE := br_n hE c_2
      refine lv_iload_n C.1 C.2.1 dX15_figure_128 rfl (lv_at hl 1 rfl) ?_
      refine lv_bipush (v := (8 : Int32)) C.1 C.2.1 dX15_figure_129 (by decide) ?_
      refine lv_icmp_ge (tgt := 159) C.1 C.2.1 dX15_figure_131 (by decide) (fun c_3 => ?_) (fun c_3 => ?_)
      · have hE := br_p hE c_3
        exact bX15_figure_159 C k_x0 k_x3 hkl hW hZ _ (lv_sub hl [0, 1, 2, 3] rfl) hE
      · have hE := br_n hE c_3
        refine lv_iload C.1 C.2.1 dX15_figure_134 (lv_at hl 3 rfl) ?_
        refine lv_aload_n C.1 C.2.1 dX15_figure_136 rfl (lv_at hl 2 rfl) ?_
        obtain ⟨r_4, er_4, hE⟩ := cl_e hE
        refine gf_X15_444 C hW k_x3 er_4 dX15_figure_137 (fun k_r_4 => ?_)
        refine lv_iconst (v := (2 : Int32)) C.1 C.2.1 dX15_figure_140 (by decide) ?_
        refine lv_iload C.1 C.2.1 dX15_figure_141 (lv_at hl 4 rfl) ?_
        refine lv_imul C.1 C.2.1 dX15_figure_143 ?_
        refine lv_iload_n C.1 C.2.1 dX15_figure_144 rfl (lv_at hl 1 rfl) ?_
        refine lv_iadd C.1 C.2.1 dX15_figure_145 ?_
        refine lv_bipush (v := (6 : Int32)) C.1 C.2.1 dX15_figure_146 (by decide) ?_
        refine lv_isub C.1 C.2.1 dX15_figure_148 ?_
        obtain ⟨g_5, hE⟩ := gd_e hE
        refine y_iald C hW k_r_4 g_5 dX15_figure_149 ?_
        refine lv_iadd C.1 C.2.1 dX15_figure_150 ?_
        obtain ⟨v_6, ev_6, hE⟩ := nm_e2 hE
        refine x_nmI ev_6 ?_
        refine lv_istore (lv' := [(4, .int v_6), (0, .ref x0), (2, .int x2), (3, .ref x3), (5, .int x5)]) C.1 C.2.1 dX15_figure_151 hl (by decide) rfl (fun ls hl => ?_)
        obtain ⟨v_7, ev_7, hE⟩ := nm_e2 hE
        refine lv_iinc (v := v_7) (lv' := [(5, .int v_7), (4, .int v_6), (0, .ref x0), (2, .int x2), (3, .ref x3)]) C.1 C.2.1 dX15_figure_153 hl (k := 4) rfl (by rw [ev_7]; rfl) (by decide) rfl (fun ls hl => ?_)
        refine lv_goto (tgt := 116) C.1 C.2.1 dX15_figure_156 (by decide) ?_
        exact hk_116 _ _ _ _ _ _ _ _ k_x0 k_x3 hkl hW hZ _ (lv_sub hl [2, 3, 4, 1, 0] rfl) hE
set_option maxRecDepth 20000 in
theorem bX15_figure_102 {p : Program} {l : Launch} {e : Env} {s : State} {m : MethodId} {args : Array Value} {below : List Frame} {meth : Method} {c : Code} {X : Ec} {h0 : Hp} {o : Int32 × Hp} {F : Nat} (C : Cx X p s m args meth c RX15 cX15_figure 6 (some .int) "figure") {h : Hp} {x2 : Int32} {t0 : Int32} {t1 : Int32} {t2 : Nat} {t3 : Nat} {H : Heap} {locs : List Loc} (k_t2 : hK h t2 = 17) (k_t3 : hK h t3 = 17) (hkl : Kl h0 h) (hW : Wx X h H) (hZ : va_S (aA (eB X)) s.heap H locs) (ls : Array Slot) (hl : lv_has ls 6 [(2, .int x2)]) (hE : sX15_figure_102 F h x2 t0 t1 t2 t3 = some o) : W p l e (rmA 1 21 h0 o.2) s m args below meth c H locs (hS h - hS h0) (hL h - hL h0) (MQ below (QIA X h0 o.1 o.2) args s (hS o.2 - hS h0) (hL o.2 - hL h0) (aA (eB X))) (F0 m 102 ls [.int t0, .int t1, .ref t2, .ref t3]) := by
  obtain ⟨g_1, hE⟩ := gd_e hE
  obtain ⟨h_2, eh_2, hE⟩ := nm_e2 hE
  refine y_iast C hW hZ k_t2 g_1 eh_2 dX15_figure_102 (fun _ _ hW km hZ => ?_)
  replace hkl := hkl.tr km.l
  refine x_wc km ?_
  replace k_t3 := km.at k_t3 (by decide)
  refine lv_astore (lv' := [(4, .ref t3), (2, .int x2)]) C.1 C.2.1 dX15_figure_103 hl (by decide) rfl (fun ls hl => ?_)
  refine lv_aload C.1 C.2.1 dX15_figure_105 (lv_at hl 0 rfl) ?_
  refine lv_iload_n C.1 C.2.1 dX15_figure_107 rfl (lv_at hl 1 rfl) ?_
  obtain ⟨g_3, hE⟩ := gd_e hE
  refine y_iald C hW k_t3 g_3 dX15_figure_108 ?_
  exact x_iretA C rfl rfl hW hZ hkl hE dX15_figure_109
set_option maxRecDepth 20000 in
theorem bX15_figure_82 {p : Program} {l : Launch} {e : Env} {s : State} {m : MethodId} {args : Array Value} {below : List Frame} {meth : Method} {c : Code} {X : Ec} {h0 : Hp} {o : Int32 × Hp} {F : Nat} (C : Cx X p s m args meth c RX15 cX15_figure 6 (some .int) "figure") {h : Hp} {x2 : Int32} {x3 : Nat} {t0 : Int32} {t1 : Int32} {t2 : Nat} {t3 : Nat} {H : Heap} {locs : List Loc} (k_x3 : hK h x3 = 12) (k_t2 : hK h t2 = 17) (k_t3 : hK h t3 = 17) (hkl : Kl h0 h) (hW : Wx X h H) (hZ : va_S (aA (eB X)) s.heap H locs) (ls : Array Slot) (hl : lv_has ls 6 [(2, .int x2), (3, .ref x3)]) (hE : sX15_figure_82 F h x2 x3 t0 t1 t2 t3 = some o) : W p l e (rmA 1 21 h0 o.2) s m args below meth c H locs (hS h - hS h0) (hL h - hL h0) (MQ below (QIA X h0 o.1 o.2) args s (hS o.2 - hS h0) (hL o.2 - hL h0) (aA (eB X))) (F0 m 82 ls [.int t0, .int t1, .ref t2, .ref t3]) := by
  obtain ⟨g_1, hE⟩ := gd_e hE
  obtain ⟨h_2, eh_2, hE⟩ := nm_e2 hE
  refine y_iast C hW hZ k_t2 g_1 eh_2 dX15_figure_82 (fun _ _ hW km hZ => ?_)
  replace hkl := hkl.tr km.l
  refine x_wc km ?_
  replace k_x3 := km.at k_x3 (by decide)
  replace k_t3 := km.at k_t3 (by decide)
  refine lv_dup C.1 C.2.1 dX15_figure_83 rfl ?_
  refine lv_iconst (v := (5 : Int32)) C.1 C.2.1 dX15_figure_84 (by decide) ?_
  refine lv_aload_n C.1 C.2.1 dX15_figure_85 rfl (lv_at hl 1 rfl) ?_
  refine gf_X15_441 C hW k_x3 dX15_figure_86 ?_
  refine lv_if_le (tgt := 101) C.1 C.2.1 dX15_figure_89 (by decide) (fun c_3 => ?_) (fun c_3 => ?_)
  · have hE := br_p hE c_3
    refine lv_iconst (v := (-1 : Int32)) C.1 C.2.1 dX15_figure_101 (by decide) ?_
    exact bX15_figure_102 C k_t3 k_t3 hkl hW hZ _ (lv_sub hl [0] rfl) hE
  · have hE := br_n hE c_3
    refine lv_aload_n C.1 C.2.1 dX15_figure_92 rfl (lv_at hl 1 rfl) ?_
    obtain ⟨r_4, er_4, hE⟩ := cl_e hE
    refine gf_X15_439 C hW k_x3 er_4 dX15_figure_93 (fun k_r_4 => ?_)
    refine lv_iconst (v := (0 : Int32)) C.1 C.2.1 dX15_figure_96 (by decide) ?_
    obtain ⟨g_5, hE⟩ := gd_e hE
    refine y_iald C hW k_r_4 g_5 dX15_figure_97 ?_
    refine lv_goto (tgt := 102) C.1 C.2.1 dX15_figure_98 (by decide) ?_
    exact bX15_figure_102 C k_t3 k_t3 hkl hW hZ _ (lv_sub hl [0] rfl) hE
set_option maxRecDepth 20000 in
theorem bX15_figure_41 {p : Program} {l : Launch} {e : Env} {s : State} {m : MethodId} {args : Array Value} {below : List Frame} {meth : Method} {c : Code} {X : Ec} {h0 : Hp} {o : Int32 × Hp} {F : Nat} (C : Cx X p s m args meth c RX15 cX15_figure 6 (some .int) "figure") {h : Hp} {x2 : Int32} {x3 : Nat} {t0 : Nat} {H : Heap} {locs : List Loc} (k_x3 : hK h x3 = 12) (k_t0 : hK h t0 = 17) (hkl : Kl h0 h) (hW : Wx X h H) (hZ : va_S (aA (eB X)) s.heap H locs) (ls : Array Slot) (hl : lv_has ls 6 [(2, .int x2), (3, .ref x3)]) (hE : sX15_figure_41 F h x2 x3 t0 = some o) : W p l e (rmA 1 21 h0 o.2) s m args below meth c H locs (hS h - hS h0) (hL h - hL h0) (MQ below (QIA X h0 o.1 o.2) args s (hS o.2 - hS h0) (hL o.2 - hL h0) (aA (eB X))) (F0 m 41 ls [.ref t0]) := by
  refine lv_dup C.1 C.2.1 dX15_figure_41 rfl ?_
  refine lv_iconst (v := (0 : Int32)) C.1 C.2.1 dX15_figure_42 (by decide) ?_
  refine lv_aload_n C.1 C.2.1 dX15_figure_43 rfl (lv_at hl 1 rfl) ?_
  refine gf_X15_452 C hW k_x3 dX15_figure_44 ?_
  obtain ⟨g_1, hE⟩ := gd_e hE
  obtain ⟨h_2, eh_2, hE⟩ := nm_e2 hE
  refine y_iast C hW hZ k_t0 g_1 eh_2 dX15_figure_47 (fun _ _ hW km hZ => ?_)
  replace hkl := hkl.tr km.l
  refine x_wc km ?_
  replace k_x3 := km.at k_x3 (by decide)
  replace k_t0 := km.at k_t0 (by decide)
  refine lv_dup C.1 C.2.1 dX15_figure_48 rfl ?_
  refine lv_iconst (v := (1 : Int32)) C.1 C.2.1 dX15_figure_49 (by decide) ?_
  refine lv_aload_n C.1 C.2.1 dX15_figure_50 rfl (lv_at hl 1 rfl) ?_
  refine gf_X15_449 C hW k_x3 dX15_figure_51 ?_
  obtain ⟨g_3, hE⟩ := gd_e hE
  obtain ⟨h_4, eh_4, hE⟩ := nm_e2 hE
  refine y_iast C hW hZ k_t0 g_3 eh_4 dX15_figure_54 (fun _ _ hW km hZ => ?_)
  replace hkl := hkl.tr km.l
  refine x_wc km ?_
  replace k_x3 := km.at k_x3 (by decide)
  replace k_t0 := km.at k_t0 (by decide)
  refine lv_dup C.1 C.2.1 dX15_figure_55 rfl ?_
  refine lv_iconst (v := (2 : Int32)) C.1 C.2.1 dX15_figure_56 (by decide) ?_
  refine lv_aload_n C.1 C.2.1 dX15_figure_57 rfl (lv_at hl 1 rfl) ?_
  obtain ⟨r_5, er_5, hE⟩ := cl_e hE
  refine gf_X15_447 C hW k_x3 er_5 dX15_figure_58 (fun k_r_5 => ?_)
  refine lv_iconst (v := (0 : Int32)) C.1 C.2.1 dX15_figure_61 (by decide) ?_
  obtain ⟨g_6, hE⟩ := gd_e hE
  refine y_iald C hW k_r_5 g_6 dX15_figure_62 ?_
  obtain ⟨g_7, hE⟩ := gd_e hE
  obtain ⟨h_8, eh_8, hE⟩ := nm_e2 hE
  refine y_iast C hW hZ k_t0 g_7 eh_8 dX15_figure_63 (fun _ _ hW km hZ => ?_)
  replace hkl := hkl.tr km.l
  refine x_wc km ?_
  replace k_x3 := km.at k_x3 (by decide)
  replace k_t0 := km.at k_t0 (by decide)
  refine lv_dup C.1 C.2.1 dX15_figure_64 rfl ?_
  refine lv_iconst (v := (3 : Int32)) C.1 C.2.1 dX15_figure_65 (by decide) ?_
  refine lv_aload_n C.1 C.2.1 dX15_figure_66 rfl (lv_at hl 1 rfl) ?_
  obtain ⟨r_9, er_9, hE⟩ := cl_e hE
  refine gf_X15_447 C hW k_x3 er_9 dX15_figure_67 (fun k_r_9 => ?_)
  refine lv_iconst (v := (1 : Int32)) C.1 C.2.1 dX15_figure_70 (by decide) ?_
  obtain ⟨g_10, hE⟩ := gd_e hE
  refine y_iald C hW k_r_9 g_10 dX15_figure_71 ?_
  obtain ⟨g_11, hE⟩ := gd_e hE
  obtain ⟨h_12, eh_12, hE⟩ := nm_e2 hE
  refine y_iast C hW hZ k_t0 g_11 eh_12 dX15_figure_72 (fun _ _ hW km hZ => ?_)
  replace hkl := hkl.tr km.l
  refine x_wc km ?_
  replace k_x3 := km.at k_x3 (by decide)
  replace k_t0 := km.at k_t0 (by decide)
  refine lv_dup C.1 C.2.1 dX15_figure_73 rfl ?_
  refine lv_iconst (v := (4 : Int32)) C.1 C.2.1 dX15_figure_74 (by decide) ?_
  refine lv_aload_n C.1 C.2.1 dX15_figure_75 rfl (lv_at hl 1 rfl) ?_
  refine gf_X15_436 C hW k_x3 dX15_figure_76 ?_
  obtain ⟨o_13, eo_13, hE⟩ := cl_e hE
  have m1 := moJ13_bitCount_95d88 eo_13
  have m2 := moX15_figure_82 hE
  refine x_kI (o := o_13) (z_runS (As := [.long (hJ h_12 x3 2)]) (rest := [.int (4 : Int32), .ref t0, .ref t0]) C (ct_J13_bitCount_95d88 l X eo_13) cw_X15_662 hW hZ rfl hl.1 (Nat.le_of_ble_eq_true rfl) rfl dX15_figure_79 ⟨Nat.le_of_ble_eq_true rfl, Nat.le_of_ble_eq_true rfl⟩ (rm_ok0 hkl m1 m2)) hZ (fun _ _ hW km hZ => ?_)
  replace hkl := hkl.tr km.l
  refine x_wc km ?_
  replace k_x3 := km.at k_x3 (by decide)
  replace k_t0 := km.at k_t0 (by decide)
  exact bX15_figure_82 C k_x3 k_t0 k_t0 hkl hW hZ _ (lv_sub hl [0, 1] rfl) hE
set_option maxRecDepth 20000 in
theorem bX15_figure_18 {p : Program} {l : Launch} {e : Env} {s : State} {m : MethodId} {args : Array Value} {below : List Frame} {meth : Method} {c : Code} {X : Ec} {h0 : Hp} {o : Int32 × Hp} {F : Nat} (C : Cx X p s m args meth c RX15 cX15_figure 6 (some .int) "figure") {h : Hp} {x0 : Nat} {x1 : Int32} {x2 : Int32} {t0 : Int32} {H : Heap} {locs : List Loc} (k_x0 : hK h x0 = 15) (hkl : Kl h0 h) (hW : Wx X h H) (hZ : va_S (aA (eB X)) s.heap H locs) (ls : Array Slot) (hl : lv_has ls 6 [(0, .ref x0), (1, .int x1), (2, .int x2)]) (hE : sX15_figure_18 F h x0 x1 x2 t0 = some o) : W p l e (rmA 1 21 h0 o.2) s m args below meth c H locs (hS h - hS h0) (hL h - hL h0) (MQ below (QIA X h0 o.1 o.2) args s (hS o.2 - hS h0) (hL o.2 - hL h0) (aA (eB X))) (F0 m 18 ls [.int t0]) := by
  refine lv_if_ne (tgt := 24) C.1 C.2.1 dX15_figure_18 (by decide) (fun c_1 => ?_) (fun c_1 => ?_)
  · have hE := br_n hE c_1
    refine lv_aload_n C.1 C.2.1 dX15_figure_24 rfl (lv_at hl 0 rfl) ?_
    obtain ⟨r_2, er_2, hE⟩ := cl_e hE
    refine gf_X15_257 C hW k_x0 er_2 dX15_figure_25 (fun k_r_2 => ?_)
    refine lv_iload_n C.1 C.2.1 dX15_figure_28 rfl (lv_at hl 1 rfl) ?_
    obtain ⟨g_3, hE⟩ := gd_e hE
    obtain ⟨r_4, er_4, hE⟩ := cl_e hE
    refine y_aald (t0 := 5) C hW k_r_2 (by decide) (by decide) rfl rfl rfl (fun _ => rfl) g_3 er_4 dX15_figure_29 (fun k_r_4 => ?_)
    refine lv_astore_n (lv' := [(3, .ref r_4), (0, .ref x0), (1, .int x1), (2, .int x2)]) C.1 C.2.1 dX15_figure_30 rfl hl (by decide) rfl (fun ls hl => ?_)
    refine lv_iload_n C.1 C.2.1 dX15_figure_31 rfl (lv_at hl 3 rfl) ?_
    refine lv_bipush (v := (6 : Int32)) C.1 C.2.1 dX15_figure_32 (by decide) ?_
    refine lv_icmp_ge (tgt := 110) C.1 C.2.1 dX15_figure_34 (by decide) (fun c_5 => ?_) (fun c_5 => ?_)
    · have hE := br_p hE c_5
      refine lv_iconst (v := (0 : Int32)) C.1 C.2.1 dX15_figure_110 (by decide) ?_
      refine lv_istore (lv' := [(4, .int (0 : Int32)), (3, .ref r_4), (0, .ref x0), (1, .int x1), (2, .int x2)]) C.1 C.2.1 dX15_figure_111 hl (by decide) rfl (fun ls hl => ?_)
      refine lv_iconst (v := (0 : Int32)) C.1 C.2.1 dX15_figure_113 (by decide) ?_
      refine lv_istore (lv' := [(5, .int (0 : Int32)), (4, .int (0 : Int32)), (3, .ref r_4), (0, .ref x0), (1, .int x1), (2, .int x2)]) C.1 C.2.1 dX15_figure_114 hl (by decide) rfl (fun ls hl => ?_)
      exact bX15_figure_116 C F k_x0 k_r_4 hkl hW hZ _ (lv_sub hl [3, 5, 2, 1, 0] rfl) hE
    · have hE := br_n hE c_5
      refine lv_bipush (v := (6 : Int32)) C.1 C.2.1 dX15_figure_37 (by decide) ?_
      obtain ⟨a_6, ea_6, hE⟩ := nm_e2 hE
      obtain ⟨h_7, eh_7, hE⟩ := nm_e2 hE
      refine y_newa (k := 17) (ty := .int) (t0 := 1) C hW hZ hkl (moX15_figure_41 hE) ⟨rfl, rfl⟩ (by decide) (by decide) rfl rfl (by intro C hC; cases hC) hdef_17 m_54 (by decide) (by decide) eh_7 dX15_figure_39 (fun _ hW km k_a_6 hZ => ?_)
      replace hkl := hkl.tr km
      refine x_nmA ea_6 ?_
      rw [← ea_6] at k_a_6
      replace k_r_4 := km.at k_r_4 (by decide)
      replace k_x0 := km.at k_x0 (by decide)
      exact bX15_figure_41 C k_r_4 k_a_6 hkl hW hZ _ (lv_sub hl [3, 0] rfl) hE
  · have hE := br_p hE c_1
    refine lv_bipush (v := (-102 : Int32)) C.1 C.2.1 dX15_figure_21 (by decide) ?_
    exact x_iretA C rfl rfl hW hZ hkl hE dX15_figure_23
set_option maxRecDepth 20000 in
theorem ct_X15_figure (l : Launch) (X : Ec) (F : Nat) {h : Hp} {x0 : Nat} {x1 : Int32} {x2 : Int32} {o : Int32 × Hp} (k_x0 : hK h x0 = 15) (hE : sX15_figure F h x0 x1 x2 = some o) : MetIA l yX15_figure cX15_figure 6 (some .int) 1 21 X [.ref x0, .int x1, .int x2] h o := by
  refine x_metA (oh := o.2) (by decide) (Nat.le_of_ble_eq_true rfl) ?_
  intro p e s m below meth c ls C hl hW hZ
  have hl : lv_has ls 6 [(0, .ref x0), (1, .int x1), (2, .int x2)] := hl
  have hkl : Kl h h := Kl.rf h
  refine lv_iload_n C.1 C.2.1 dX15_figure_0 rfl (lv_at hl 2 rfl) ?_
  refine lv_if_lt (tgt := 10) C.1 C.2.1 dX15_figure_1 (by decide) (fun c_1 => ?_) (fun c_1 => ?_)
  · have hE := br_p hE c_1
    exact bX15_figure_10 C hkl hW hZ _ (lv_sub hl [] rfl) hE
  · have hE := br_n hE c_1
    refine lv_iload_n C.1 C.2.1 dX15_figure_4 rfl (lv_at hl 2 rfl) ?_
    refine lv_bipush (v := (8 : Int32)) C.1 C.2.1 dX15_figure_5 (by decide) ?_
    refine lv_icmp_le (tgt := 13) C.1 C.2.1 dX15_figure_7 (by decide) (fun c_2 => ?_) (fun c_2 => ?_)
    · have hE := br_p hE c_2
      refine lv_aload_n C.1 C.2.1 dX15_figure_13 rfl (lv_at hl 0 rfl) ?_
      refine lv_iload_n C.1 C.2.1 dX15_figure_14 rfl (lv_at hl 1 rfl) ?_
      obtain ⟨o_3, eo_3, hE⟩ := cl_e hE
      have m1 := moX15_has eo_3
      have m2 := moX15_figure_18 hE
      refine x_kI (o := o_3) (z_runV (As := [.int x1]) (rest := []) C (ct_X15_has l X k_x0 eo_3) cw_X15_486 hW hZ k_x0 (by decide) rfl rfl rfl hl.1 (Nat.le_of_ble_eq_true rfl) rfl dX15_figure_15 ⟨Nat.le_of_ble_eq_true rfl, Nat.le_of_ble_eq_true rfl⟩ (rm_ok0 hkl m1 m2)) hZ (fun _ _ hW km hZ => ?_)
      replace hkl := hkl.tr km.l
      refine x_wc km ?_
      replace k_x0 := km.at k_x0 (by decide)
      exact bX15_figure_18 C k_x0 hkl hW hZ _ (lv_sub hl [0, 1, 2] rfl) hE
    · have hE := br_n hE c_2
      exact bX15_figure_10 C hkl hW hZ _ (lv_sub hl [] rfl) hE
theorem dX15_attacked_0 : decode cX15_attacked 0 = .ok (.iload_n 2, 1) := by decide +kernel
theorem dX15_attacked_1 : decode cX15_attacked 1 = .ok (.ifCond .lt 20, 3) := by decide +kernel
theorem dX15_attacked_4 : decode cX15_attacked 4 = .ok (.iload_n 2, 1) := by decide +kernel
theorem dX15_attacked_5 : decode cX15_attacked 5 = .ok (.aload_n 0, 1) := by decide +kernel
theorem dX15_attacked_6 : decode cX15_attacked 6 = .ok (.getfield 384, 3) := by decide +kernel
theorem dX15_attacked_9 : decode cX15_attacked 9 = .ok (.if_icmp .ge 12, 3) := by decide +kernel
theorem dX15_attacked_12 : decode cX15_attacked 12 = .ok (.iload_n 3, 1) := by decide +kernel
theorem dX15_attacked_13 : decode cX15_attacked 13 = .ok (.ifCond .lt 8, 3) := by decide +kernel
theorem dX15_attacked_16 : decode cX15_attacked 16 = .ok (.iload_n 3, 1) := by decide +kernel
theorem dX15_attacked_17 : decode cX15_attacked 17 = .ok (.iconst 1, 1) := by decide +kernel
theorem dX15_attacked_18 : decode cX15_attacked 18 = .ok (.if_icmp .le 6, 3) := by decide +kernel
theorem dX15_attacked_21 : decode cX15_attacked 21 = .ok (.bipush (-101), 2) := by decide +kernel
theorem dX15_attacked_23 : decode cX15_attacked 23 = .ok (.ireturn, 1) := by decide +kernel
theorem dX15_attacked_24 : decode cX15_attacked 24 = .ok (.aload_n 0, 1) := by decide +kernel
theorem dX15_attacked_25 : decode cX15_attacked 25 = .ok (.iload_n 1, 1) := by decide +kernel
theorem dX15_attacked_26 : decode cX15_attacked 26 = .ok (.invokevirtual 486, 3) := by decide +kernel
theorem dX15_attacked_29 : decode cX15_attacked 29 = .ok (.ifCond .ne 8, 3) := by decide +kernel
theorem dX15_attacked_32 : decode cX15_attacked 32 = .ok (.bipush (-102), 2) := by decide +kernel
theorem dX15_attacked_34 : decode cX15_attacked 34 = .ok (.goto 23, 3) := by decide +kernel
theorem dX15_attacked_37 : decode cX15_attacked 37 = .ok (.aload_n 0, 1) := by decide +kernel
theorem dX15_attacked_38 : decode cX15_attacked 38 = .ok (.aload_n 0, 1) := by decide +kernel
theorem dX15_attacked_39 : decode cX15_attacked 39 = .ok (.getfield 257, 3) := by decide +kernel
theorem dX15_attacked_42 : decode cX15_attacked 42 = .ok (.iload_n 1, 1) := by decide +kernel
theorem dX15_attacked_43 : decode cX15_attacked 43 = .ok (.aaload, 1) := by decide +kernel
theorem dX15_attacked_44 : decode cX15_attacked 44 = .ok (.iload_n 2, 1) := by decide +kernel
theorem dX15_attacked_45 : decode cX15_attacked 45 = .ok (.iload_n 3, 1) := by decide +kernel
theorem dX15_attacked_46 : decode cX15_attacked 46 = .ok (.invokevirtual 512, 3) := by decide +kernel
theorem dX15_attacked_49 : decode cX15_attacked 49 = .ok (.ifCond .eq 7, 3) := by decide +kernel
theorem dX15_attacked_52 : decode cX15_attacked 52 = .ok (.iconst 1, 1) := by decide +kernel
theorem dX15_attacked_53 : decode cX15_attacked 53 = .ok (.goto 4, 3) := by decide +kernel
theorem dX15_attacked_56 : decode cX15_attacked 56 = .ok (.iconst 0, 1) := by decide +kernel
theorem dX15_attacked_57 : decode cX15_attacked 57 = .ok (.ireturn, 1) := by decide +kernel
set_option maxRecDepth 20000 in
theorem moX15_attacked_21 {o : Int32 × Hp} {F : Nat} {h : Hp} (hE : sX15_attacked_21 F h  = some o) : Le h o.2 := by
  exact le_some2 hE
set_option maxRecDepth 20000 in
theorem moX15_attacked_57 {o : Int32 × Hp} {F : Nat} {h : Hp} {t0 : Int32} (hE : sX15_attacked_57 F h  t0 = some o) : Le h o.2 := by
  exact le_some2 hE
set_option maxRecDepth 20000 in
theorem moX15_attacked {o : Int32 × Hp} {F : Nat} {h : Hp} {x0 : Nat} {x1 : Int32} {x2 : Int32} {x3 : Int32} (hE : sX15_attacked F h x0 x1 x2 x3 = some o) : Le h o.2 := by
  rcases br_e hE with ⟨_, hE⟩ | ⟨_, hE⟩
  · exact moX15_attacked_21 hE
  · rcases br_e hE with ⟨_, hE⟩ | ⟨_, hE⟩
    · exact moX15_attacked_21 hE
    · rcases br_e hE with ⟨_, hE⟩ | ⟨_, hE⟩
      · exact moX15_attacked_21 hE
      · rcases br_e hE with ⟨_, hE⟩ | ⟨_, hE⟩
        · obtain ⟨o_5, eo_5, hE⟩ := cl_e hE
          refine (moX15_has eo_5).tr ?_
          rcases br_e hE with ⟨_, hE⟩ | ⟨_, hE⟩
          · exact moX15_attacked_57 hE
          · obtain ⟨r_7, er_7, hE⟩ := cl_e hE
            obtain ⟨g_8, hE⟩ := gd_e hE
            obtain ⟨r_9, er_9, hE⟩ := cl_e hE
            obtain ⟨o_10, eo_10, hE⟩ := cl_e hE
            refine (moX15_isAttacked eo_10).tr ?_
            rcases br_e hE with ⟨_, hE⟩ | ⟨_, hE⟩
            · exact moX15_attacked_57 hE
            · exact moX15_attacked_57 hE
        · exact moX15_attacked_21 hE
set_option maxRecDepth 20000 in
theorem bX15_attacked_21 {p : Program} {l : Launch} {e : Env} {s : State} {m : MethodId} {args : Array Value} {below : List Frame} {meth : Method} {c : Code} {X : Ec} {h0 : Hp} {o : Int32 × Hp} {F : Nat} (C : Cx X p s m args meth c RX15 cX15_attacked 4 (some .int) "attacked") {h : Hp} {H : Heap} {locs : List Loc} (hkm : Km h0 h) (hW : Wx X h H) (hZ : va_S (aA (eB X)) s.heap H locs) (ls : Array Slot) (hl : lv_has ls 4 []) (hE : sX15_attacked_21 F h  = some o) : W p l e (rm 4 106) s m args below meth c H locs 0 0 (MQ below (QI X h0 o.1 o.2) args s 0 0 (aA (eB X))) (F0 m 21 ls []) := by
  refine lv_bipush (v := (-101 : Int32)) C.1 C.2.1 dX15_attacked_21 (by decide) ?_
  exact x_iret C rfl rfl hW hZ hkm hE dX15_attacked_23
set_option maxRecDepth 20000 in
theorem bX15_attacked_57 {p : Program} {l : Launch} {e : Env} {s : State} {m : MethodId} {args : Array Value} {below : List Frame} {meth : Method} {c : Code} {X : Ec} {h0 : Hp} {o : Int32 × Hp} {F : Nat} (C : Cx X p s m args meth c RX15 cX15_attacked 4 (some .int) "attacked") {h : Hp} {t0 : Int32} {H : Heap} {locs : List Loc} (hkm : Km h0 h) (hW : Wx X h H) (hZ : va_S (aA (eB X)) s.heap H locs) (ls : Array Slot) (hl : lv_has ls 4 []) (hE : sX15_attacked_57 F h  t0 = some o) : W p l e (rm 4 106) s m args below meth c H locs 0 0 (MQ below (QI X h0 o.1 o.2) args s 0 0 (aA (eB X))) (F0 m 57 ls [.int t0]) := by
  exact x_iret C rfl rfl hW hZ hkm hE dX15_attacked_57
set_option maxRecDepth 20000 in
theorem ct_X15_attacked (l : Launch) (X : Ec) (F : Nat) {h : Hp} {x0 : Nat} {x1 : Int32} {x2 : Int32} {x3 : Int32} {o : Int32 × Hp} (k_x0 : hK h x0 = 15) (hE : sX15_attacked F h x0 x1 x2 x3 = some o) : MetI l yX15_attacked cX15_attacked 4 (some .int) 4 106 X [.ref x0, .int x1, .int x2, .int x3] h o := by
  refine x_met (by decide) (Nat.le_of_ble_eq_true rfl) ?_
  intro p e s m below meth c ls C hl hW hZ
  have hl : lv_has ls 4 [(0, .ref x0), (1, .int x1), (2, .int x2), (3, .int x3)] := hl
  have hkm : Km h h := Km.rf h
  refine lv_iload_n C.1 C.2.1 dX15_attacked_0 rfl (lv_at hl 2 rfl) ?_
  refine lv_if_lt (tgt := 21) C.1 C.2.1 dX15_attacked_1 (by decide) (fun c_1 => ?_) (fun c_1 => ?_)
  · have hE := br_p hE c_1
    exact bX15_attacked_21 C hkm hW hZ _ (lv_sub hl [] rfl) hE
  · have hE := br_n hE c_1
    refine lv_iload_n C.1 C.2.1 dX15_attacked_4 rfl (lv_at hl 2 rfl) ?_
    refine lv_aload_n C.1 C.2.1 dX15_attacked_5 rfl (lv_at hl 0 rfl) ?_
    refine gf_X15_384 C hW k_x0 dX15_attacked_6 ?_
    refine lv_icmp_ge (tgt := 21) C.1 C.2.1 dX15_attacked_9 (by decide) (fun c_2 => ?_) (fun c_2 => ?_)
    · have hE := br_p hE c_2
      exact bX15_attacked_21 C hkm hW hZ _ (lv_sub hl [] rfl) hE
    · have hE := br_n hE c_2
      refine lv_iload_n C.1 C.2.1 dX15_attacked_12 rfl (lv_at hl 3 rfl) ?_
      refine lv_if_lt (tgt := 21) C.1 C.2.1 dX15_attacked_13 (by decide) (fun c_3 => ?_) (fun c_3 => ?_)
      · have hE := br_p hE c_3
        exact bX15_attacked_21 C hkm hW hZ _ (lv_sub hl [] rfl) hE
      · have hE := br_n hE c_3
        refine lv_iload_n C.1 C.2.1 dX15_attacked_16 rfl (lv_at hl 3 rfl) ?_
        refine lv_iconst (v := (1 : Int32)) C.1 C.2.1 dX15_attacked_17 (by decide) ?_
        refine lv_icmp_le (tgt := 24) C.1 C.2.1 dX15_attacked_18 (by decide) (fun c_4 => ?_) (fun c_4 => ?_)
        · have hE := br_p hE c_4
          refine lv_aload_n C.1 C.2.1 dX15_attacked_24 rfl (lv_at hl 0 rfl) ?_
          refine lv_iload_n C.1 C.2.1 dX15_attacked_25 rfl (lv_at hl 1 rfl) ?_
          obtain ⟨o_5, eo_5, hE⟩ := cl_e hE
          refine x_kI (o := o_5) (z_runV (As := [.int x1]) (rest := []) C (ct_X15_has l X k_x0 eo_5) cw_X15_486 hW hZ k_x0 (by decide) rfl rfl rfl hl.1 (Nat.le_of_ble_eq_true rfl) rfl dX15_attacked_26 ⟨Nat.le_of_ble_eq_true rfl, Nat.le_of_ble_eq_true rfl⟩ ⟨Nat.le_refl _, Nat.le_refl _⟩) hZ (fun _ _ hW km hZ => ?_)
          replace hkm := hkm.tr km
          replace k_x0 := km.at k_x0 (by decide)
          refine lv_if_ne (tgt := 37) C.1 C.2.1 dX15_attacked_29 (by decide) (fun c_6 => ?_) (fun c_6 => ?_)
          · have hE := br_n hE c_6
            refine lv_aload_n C.1 C.2.1 dX15_attacked_37 rfl (lv_at hl 0 rfl) ?_
            refine lv_aload_n C.1 C.2.1 dX15_attacked_38 rfl (lv_at hl 0 rfl) ?_
            obtain ⟨r_7, er_7, hE⟩ := cl_e hE
            refine gf_X15_257 C hW k_x0 er_7 dX15_attacked_39 (fun k_r_7 => ?_)
            refine lv_iload_n C.1 C.2.1 dX15_attacked_42 rfl (lv_at hl 1 rfl) ?_
            obtain ⟨g_8, hE⟩ := gd_e hE
            obtain ⟨r_9, er_9, hE⟩ := cl_e hE
            refine y_aald (t0 := 5) C hW k_r_7 (by decide) (by decide) rfl rfl rfl (fun _ => rfl) g_8 er_9 dX15_attacked_43 (fun k_r_9 => ?_)
            refine lv_iload_n C.1 C.2.1 dX15_attacked_44 rfl (lv_at hl 2 rfl) ?_
            refine lv_iload_n C.1 C.2.1 dX15_attacked_45 rfl (lv_at hl 3 rfl) ?_
            obtain ⟨o_10, eo_10, hE⟩ := cl_e hE
            refine x_kI (o := o_10) (z_runV (As := [.ref r_9, .int x2, .int x3]) (rest := []) C (ct_X15_isAttacked l X F k_x0 k_r_9 eo_10) cw_X15_512 hW hZ k_x0 (by decide) rfl rfl rfl hl.1 (Nat.le_of_ble_eq_true rfl) rfl dX15_attacked_46 ⟨Nat.le_of_ble_eq_true rfl, Nat.le_of_ble_eq_true rfl⟩ ⟨Nat.le_refl _, Nat.le_refl _⟩) hZ (fun _ _ hW km hZ => ?_)
            replace hkm := hkm.tr km
            replace k_x0 := km.at k_x0 (by decide)
            refine lv_if_eq (tgt := 56) C.1 C.2.1 dX15_attacked_49 (by decide) (fun c_11 => ?_) (fun c_11 => ?_)
            · have hE := br_p hE c_11
              refine lv_iconst (v := (0 : Int32)) C.1 C.2.1 dX15_attacked_56 (by decide) ?_
              exact bX15_attacked_57 C hkm hW hZ _ (lv_sub hl [] rfl) hE
            · have hE := br_n hE c_11
              refine lv_iconst (v := (1 : Int32)) C.1 C.2.1 dX15_attacked_52 (by decide) ?_
              refine lv_goto (tgt := 57) C.1 C.2.1 dX15_attacked_53 (by decide) ?_
              exact bX15_attacked_57 C hkm hW hZ _ (lv_sub hl [] rfl) hE
          · have hE := br_p hE c_6
            refine lv_bipush (v := (-102 : Int32)) C.1 C.2.1 dX15_attacked_32 (by decide) ?_
            refine lv_goto (tgt := 57) C.1 C.2.1 dX15_attacked_34 (by decide) ?_
            exact bX15_attacked_57 C hkm hW hZ _ (lv_sub hl [] rfl) hE
        · have hE := br_n hE c_4
          exact bX15_attacked_21 C hkm hW hZ _ (lv_sub hl [] rfl) hE
section
variable {p : Program} {l : Launch} {e : Env} {R : Room} {s : State} {m : MethodId} {args : Array Value} {below : List Frame} {meth : Method} {c : Code} {H : Heap} {locs : List Loc} {cells slots : Nat} {Q : State → Prop}
variable {cc : ByteArray} {pc : Nat} {ls : Array Slot} {rest : List Value} {X : Ec} {h h1 : Hp} {nL : Nat} {rt : Option FieldType} {mn : String}
theorem gf_X15_288 {a r : Nat} (C : Cx X p s m args meth c RX15 cc nL rt mn) (hW : Wx X h H) (ha : hK h a = 15) (hr : hR h a 30 = some r) (hdg : decode cc pc = .ok (.getfield 288, 3)) (kk : hK h r = 13 → W p l e R s m args below meth c H locs cells slots Q (F0 m (pc + 3) ls (.ref r :: rest))) : W p l e R s m args below meth c H locs cells slots Q (F0 m pc ls (.ref a :: rest)) :=
  y_getr C hW ha i_X15 (by decide) rfl (by decide) m_2141 rfl rfl hr hdg kk
end
theorem dX15_moves_0 : decode cX15_moves 0 = .ok (.aload_n 0, 1) := by decide +kernel
theorem dX15_moves_1 : decode cX15_moves 1 = .ok (.iload_n 1, 1) := by decide +kernel
theorem dX15_moves_2 : decode cX15_moves 2 = .ok (.invokevirtual 486, 3) := by decide +kernel
theorem dX15_moves_5 : decode cX15_moves 5 = .ok (.ifCond .ne 6, 3) := by decide +kernel
theorem dX15_moves_8 : decode cX15_moves 8 = .ok (.bipush (-102), 2) := by decide +kernel
theorem dX15_moves_10 : decode cX15_moves 10 = .ok (.ireturn, 1) := by decide +kernel
theorem dX15_moves_11 : decode cX15_moves 11 = .ok (.aload_n 0, 1) := by decide +kernel
theorem dX15_moves_12 : decode cX15_moves 12 = .ok (.aload_n 0, 1) := by decide +kernel
theorem dX15_moves_13 : decode cX15_moves 13 = .ok (.getfield 257, 3) := by decide +kernel
theorem dX15_moves_16 : decode cX15_moves 16 = .ok (.iload_n 1, 1) := by decide +kernel
theorem dX15_moves_17 : decode cX15_moves 17 = .ok (.aaload, 1) := by decide +kernel
theorem dX15_moves_18 : decode cX15_moves 18 = .ok (.aload_n 0, 1) := by decide +kernel
theorem dX15_moves_19 : decode cX15_moves 19 = .ok (.getfield 288, 3) := by decide +kernel
theorem dX15_moves_22 : decode cX15_moves 22 = .ok (.invokevirtual 652, 3) := by decide +kernel
theorem dX15_moves_25 : decode cX15_moves 25 = .ok (.aload_n 0, 1) := by decide +kernel
theorem dX15_moves_26 : decode cX15_moves 26 = .ok (.getfield 288, 3) := by decide +kernel
theorem dX15_moves_29 : decode cX15_moves 29 = .ok (.getfield 575, 3) := by decide +kernel
theorem dX15_moves_32 : decode cX15_moves 32 = .ok (.ireturn, 1) := by decide +kernel
set_option maxRecDepth 20000 in
theorem moX15_moves {o : Int32 × Hp} {F : Nat} {h : Hp} {x0 : Nat} {x1 : Int32} (hE : sX15_moves F h x0 x1 = some o) : Le h o.2 := by
  obtain ⟨o_1, eo_1, hE⟩ := cl_e hE
  refine (moX15_has eo_1).tr ?_
  rcases br_e hE with ⟨_, hE⟩ | ⟨_, hE⟩
  · exact le_some2 hE
  · obtain ⟨r_3, er_3, hE⟩ := cl_e hE
    obtain ⟨g_4, hE⟩ := gd_e hE
    obtain ⟨r_5, er_5, hE⟩ := cl_e hE
    obtain ⟨r_6, er_6, hE⟩ := cl_e hE
    obtain ⟨o_7, eo_7, hE⟩ := cl_e hE
    refine (moX15_legal eo_7).tr ?_
    obtain ⟨r_8, er_8, hE⟩ := cl_e hE
    exact le_some2 hE
set_option maxRecDepth 20000 in
theorem ct_X15_moves (l : Launch) (X : Ec) (F : Nat) {h : Hp} {x0 : Nat} {x1 : Int32} {o : Int32 × Hp} (k_x0 : hK h x0 = 15) (hE : sX15_moves F h x0 x1 = some o) : MetI l yX15_moves cX15_moves 2 (some .int) 7 191 X [.ref x0, .int x1] h o := by
  refine x_met (by decide) (Nat.le_of_ble_eq_true rfl) ?_
  intro p e s m below meth c ls C hl hW hZ
  have hl : lv_has ls 2 [(0, .ref x0), (1, .int x1)] := hl
  have hkm : Km h h := Km.rf h
  refine lv_aload_n C.1 C.2.1 dX15_moves_0 rfl (lv_at hl 0 rfl) ?_
  refine lv_iload_n C.1 C.2.1 dX15_moves_1 rfl (lv_at hl 1 rfl) ?_
  obtain ⟨o_1, eo_1, hE⟩ := cl_e hE
  refine x_kI (o := o_1) (z_runV (As := [.int x1]) (rest := []) C (ct_X15_has l X k_x0 eo_1) cw_X15_486 hW hZ k_x0 (by decide) rfl rfl rfl hl.1 (Nat.le_of_ble_eq_true rfl) rfl dX15_moves_2 ⟨Nat.le_of_ble_eq_true rfl, Nat.le_of_ble_eq_true rfl⟩ ⟨Nat.le_refl _, Nat.le_refl _⟩) hZ (fun _ _ hW km hZ => ?_)
  replace hkm := hkm.tr km
  replace k_x0 := km.at k_x0 (by decide)
  refine lv_if_ne (tgt := 11) C.1 C.2.1 dX15_moves_5 (by decide) (fun c_2 => ?_) (fun c_2 => ?_)
  · have hE := br_n hE c_2
    refine lv_aload_n C.1 C.2.1 dX15_moves_11 rfl (lv_at hl 0 rfl) ?_
    refine lv_aload_n C.1 C.2.1 dX15_moves_12 rfl (lv_at hl 0 rfl) ?_
    obtain ⟨r_3, er_3, hE⟩ := cl_e hE
    refine gf_X15_257 C hW k_x0 er_3 dX15_moves_13 (fun k_r_3 => ?_)
    refine lv_iload_n C.1 C.2.1 dX15_moves_16 rfl (lv_at hl 1 rfl) ?_
    obtain ⟨g_4, hE⟩ := gd_e hE
    obtain ⟨r_5, er_5, hE⟩ := cl_e hE
    refine y_aald (t0 := 5) C hW k_r_3 (by decide) (by decide) rfl rfl rfl (fun _ => rfl) g_4 er_5 dX15_moves_17 (fun k_r_5 => ?_)
    refine lv_aload_n C.1 C.2.1 dX15_moves_18 rfl (lv_at hl 0 rfl) ?_
    obtain ⟨r_6, er_6, hE⟩ := cl_e hE
    refine gf_X15_288 C hW k_x0 er_6 dX15_moves_19 (fun k_r_6 => ?_)
    obtain ⟨o_7, eo_7, hE⟩ := cl_e hE
    refine x_kV (o := o_7) (z_runV (As := [.ref r_5, .ref r_6]) (rest := []) C (ct_X15_legal l X F k_x0 k_r_5 k_r_6 eo_7) cw_X15_652 hW hZ k_x0 (by decide) rfl rfl rfl hl.1 (Nat.le_of_ble_eq_true rfl) rfl dX15_moves_22 ⟨Nat.le_of_ble_eq_true rfl, Nat.le_of_ble_eq_true rfl⟩ ⟨Nat.le_refl _, Nat.le_refl _⟩) hZ (fun _ _ hW km hZ => ?_)
    replace hkm := hkm.tr km
    replace k_x0 := km.at k_x0 (by decide)
    refine lv_aload_n C.1 C.2.1 dX15_moves_25 rfl (lv_at hl 0 rfl) ?_
    obtain ⟨r_8, er_8, hE⟩ := cl_e hE
    refine gf_X15_288 C hW k_x0 er_8 dX15_moves_26 (fun k_r_8 => ?_)
    refine gf_X15_575 C hW k_r_8 dX15_moves_29 ?_
    exact x_iret C rfl rfl hW hZ hkm hE dX15_moves_32
  · have hE := br_p hE c_2
    refine lv_bipush (v := (-102 : Int32)) C.1 C.2.1 dX15_moves_8 (by decide) ?_
    exact x_iret C rfl rfl hW hZ hkm hE dX15_moves_10
set_option maxRecDepth 100000 in
theorem m_2598 : Cond.instanceMethod yX15_moves ∈ W0 := w0_in (List.mem_append_right _ (List.mem_of_getElem? (i := 2598) rfl)) rfl
set_option maxRecDepth 100000 in
theorem m_2599 : Cond.selects RX15 yX15_moves yX15_moves ∈ W0 := w0_in (List.mem_append_right _ (List.mem_of_getElem? (i := 2599) rfl)) rfl
set_option maxRecDepth 100000 in
theorem m_2600 : Cond.code yX15_moves cX15_moves 2 (some .int) ∈ W0 := w0_in (List.mem_append_right _ (List.mem_of_getElem? (i := 2600) rfl)) rfl
set_option maxRecDepth 100000 in
theorem m_2605 : Cond.methodLink RX15 668 yX15_moves ∈ W0 := w0_in (List.mem_append_right _ (List.mem_of_getElem? (i := 2605) rfl)) rfl
theorem cw_X15_668 : cwd RX15 668 yX15_moves cX15_moves 2 (some .int) false 1 := ⟨m_2600, m_2605, m_19, ⟨m_2598, m_2599⟩, by decide, by decide, by decide +kernel⟩
theorem dX15_move_0 : decode cX15_move 0 = .ok (.iload_n 3, 1) := by decide +kernel
theorem dX15_move_1 : decode cX15_move 1 = .ok (.ifCond .lt 8, 3) := by decide +kernel
theorem dX15_move_4 : decode cX15_move 4 = .ok (.iload_n 3, 1) := by decide +kernel
theorem dX15_move_5 : decode cX15_move 5 = .ok (.iconst 5, 1) := by decide +kernel
theorem dX15_move_6 : decode cX15_move 6 = .ok (.if_icmp .le 6, 3) := by decide +kernel
theorem dX15_move_9 : decode cX15_move 9 = .ok (.bipush (-101), 2) := by decide +kernel
theorem dX15_move_11 : decode cX15_move 11 = .ok (.ireturn, 1) := by decide +kernel
theorem dX15_move_12 : decode cX15_move 12 = .ok (.aload_n 0, 1) := by decide +kernel
theorem dX15_move_13 : decode cX15_move 13 = .ok (.iload_n 1, 1) := by decide +kernel
theorem dX15_move_14 : decode cX15_move 14 = .ok (.invokevirtual 668, 3) := by decide +kernel
theorem dX15_move_17 : decode cX15_move 17 = .ok (.bipush (-102), 2) := by decide +kernel
theorem dX15_move_19 : decode cX15_move 19 = .ok (.if_icmp .eq 18, 3) := by decide +kernel
theorem dX15_move_22 : decode cX15_move 22 = .ok (.iload_n 2, 1) := by decide +kernel
theorem dX15_move_23 : decode cX15_move 23 = .ok (.ifCond .lt 14, 3) := by decide +kernel
theorem dX15_move_26 : decode cX15_move 26 = .ok (.iload_n 2, 1) := by decide +kernel
theorem dX15_move_27 : decode cX15_move 27 = .ok (.aload_n 0, 1) := by decide +kernel
theorem dX15_move_28 : decode cX15_move 28 = .ok (.getfield 288, 3) := by decide +kernel
theorem dX15_move_31 : decode cX15_move 31 = .ok (.getfield 575, 3) := by decide +kernel
theorem dX15_move_34 : decode cX15_move 34 = .ok (.if_icmp .lt 6, 3) := by decide +kernel
theorem dX15_move_37 : decode cX15_move 37 = .ok (.bipush (-102), 2) := by decide +kernel
theorem dX15_move_39 : decode cX15_move 39 = .ok (.ireturn, 1) := by decide +kernel
theorem dX15_move_40 : decode cX15_move 40 = .ok (.iload_n 3, 1) := by decide +kernel
theorem dX15_move_41 : decode cX15_move 41 = .ok (.ifCond .ne 15, 3) := by decide +kernel
theorem dX15_move_44 : decode cX15_move 44 = .ok (.aload_n 0, 1) := by decide +kernel
theorem dX15_move_45 : decode cX15_move 45 = .ok (.getfield 288, 3) := by decide +kernel
theorem dX15_move_48 : decode cX15_move 48 = .ok (.getfield 597, 3) := by decide +kernel
theorem dX15_move_51 : decode cX15_move 51 = .ok (.iload_n 2, 1) := by decide +kernel
theorem dX15_move_52 : decode cX15_move 52 = .ok (.iaload, 1) := by decide +kernel
theorem dX15_move_53 : decode cX15_move 53 = .ok (.goto 80, 3) := by decide +kernel
theorem dX15_move_56 : decode cX15_move 56 = .ok (.iload_n 3, 1) := by decide +kernel
theorem dX15_move_57 : decode cX15_move 57 = .ok (.iconst 1, 1) := by decide +kernel
theorem dX15_move_58 : decode cX15_move 58 = .ok (.if_icmp .ne 15, 3) := by decide +kernel
theorem dX15_move_61 : decode cX15_move 61 = .ok (.aload_n 0, 1) := by decide +kernel
theorem dX15_move_62 : decode cX15_move 62 = .ok (.getfield 288, 3) := by decide +kernel
theorem dX15_move_65 : decode cX15_move 65 = .ok (.getfield 598, 3) := by decide +kernel
theorem dX15_move_68 : decode cX15_move 68 = .ok (.iload_n 2, 1) := by decide +kernel
theorem dX15_move_69 : decode cX15_move 69 = .ok (.iaload, 1) := by decide +kernel
theorem dX15_move_70 : decode cX15_move 70 = .ok (.goto 63, 3) := by decide +kernel
theorem dX15_move_73 : decode cX15_move 73 = .ok (.iload_n 3, 1) := by decide +kernel
theorem dX15_move_74 : decode cX15_move 74 = .ok (.iconst 2, 1) := by decide +kernel
theorem dX15_move_75 : decode cX15_move 75 = .ok (.if_icmp .ne 15, 3) := by decide +kernel
theorem dX15_move_78 : decode cX15_move 78 = .ok (.aload_n 0, 1) := by decide +kernel
theorem dX15_move_79 : decode cX15_move 79 = .ok (.getfield 288, 3) := by decide +kernel
theorem dX15_move_82 : decode cX15_move 82 = .ok (.getfield 600, 3) := by decide +kernel
theorem dX15_move_85 : decode cX15_move 85 = .ok (.iload_n 2, 1) := by decide +kernel
theorem dX15_move_86 : decode cX15_move 86 = .ok (.iaload, 1) := by decide +kernel
theorem dX15_move_87 : decode cX15_move 87 = .ok (.goto 46, 3) := by decide +kernel
theorem dX15_move_90 : decode cX15_move 90 = .ok (.iload_n 3, 1) := by decide +kernel
theorem dX15_move_91 : decode cX15_move 91 = .ok (.iconst 3, 1) := by decide +kernel
theorem dX15_move_92 : decode cX15_move 92 = .ok (.if_icmp .ne 15, 3) := by decide +kernel
theorem dX15_move_95 : decode cX15_move 95 = .ok (.aload_n 0, 1) := by decide +kernel
theorem dX15_move_96 : decode cX15_move 96 = .ok (.getfield 288, 3) := by decide +kernel
theorem dX15_move_99 : decode cX15_move 99 = .ok (.getfield 612, 3) := by decide +kernel
theorem dX15_move_102 : decode cX15_move 102 = .ok (.iload_n 2, 1) := by decide +kernel
theorem dX15_move_103 : decode cX15_move 103 = .ok (.iaload, 1) := by decide +kernel
theorem dX15_move_104 : decode cX15_move 104 = .ok (.goto 29, 3) := by decide +kernel
theorem dX15_move_107 : decode cX15_move 107 = .ok (.iload_n 3, 1) := by decide +kernel
theorem dX15_move_108 : decode cX15_move 108 = .ok (.iconst 4, 1) := by decide +kernel
theorem dX15_move_109 : decode cX15_move 109 = .ok (.if_icmp .ne 15, 3) := by decide +kernel
theorem dX15_move_112 : decode cX15_move 112 = .ok (.aload_n 0, 1) := by decide +kernel
theorem dX15_move_113 : decode cX15_move 113 = .ok (.getfield 288, 3) := by decide +kernel
theorem dX15_move_116 : decode cX15_move 116 = .ok (.getfield 605, 3) := by decide +kernel
theorem dX15_move_119 : decode cX15_move 119 = .ok (.iload_n 2, 1) := by decide +kernel
theorem dX15_move_120 : decode cX15_move 120 = .ok (.iaload, 1) := by decide +kernel
theorem dX15_move_121 : decode cX15_move 121 = .ok (.goto 12, 3) := by decide +kernel
theorem dX15_move_124 : decode cX15_move 124 = .ok (.aload_n 0, 1) := by decide +kernel
theorem dX15_move_125 : decode cX15_move 125 = .ok (.getfield 288, 3) := by decide +kernel
theorem dX15_move_128 : decode cX15_move 128 = .ok (.getfield 602, 3) := by decide +kernel
theorem dX15_move_131 : decode cX15_move 131 = .ok (.iload_n 2, 1) := by decide +kernel
theorem dX15_move_132 : decode cX15_move 132 = .ok (.iaload, 1) := by decide +kernel
theorem dX15_move_133 : decode cX15_move 133 = .ok (.ireturn, 1) := by decide +kernel
set_option maxRecDepth 20000 in
theorem moX15_move_9 {o : Int32 × Hp} {F : Nat} {h : Hp} (hE : sX15_move_9 F h  = some o) : Le h o.2 := by
  exact le_some2 hE
set_option maxRecDepth 20000 in
theorem moX15_move_37 {o : Int32 × Hp} {F : Nat} {h : Hp} (hE : sX15_move_37 F h  = some o) : Le h o.2 := by
  exact le_some2 hE
set_option maxRecDepth 20000 in
theorem moX15_move_133 {o : Int32 × Hp} {F : Nat} {h : Hp} {t0 : Int32} (hE : sX15_move_133 F h  t0 = some o) : Le h o.2 := by
  exact le_some2 hE
set_option maxRecDepth 20000 in
theorem moX15_move {o : Int32 × Hp} {F : Nat} {h : Hp} {x0 : Nat} {x1 : Int32} {x2 : Int32} {x3 : Int32} (hE : sX15_move F h x0 x1 x2 x3 = some o) : Le h o.2 := by
  rcases br_e hE with ⟨_, hE⟩ | ⟨_, hE⟩
  · exact moX15_move_9 hE
  · rcases br_e hE with ⟨_, hE⟩ | ⟨_, hE⟩
    · obtain ⟨o_3, eo_3, hE⟩ := cl_e hE
      refine (moX15_moves eo_3).tr ?_
      rcases br_e hE with ⟨_, hE⟩ | ⟨_, hE⟩
      · exact moX15_move_37 hE
      · rcases br_e hE with ⟨_, hE⟩ | ⟨_, hE⟩
        · exact moX15_move_37 hE
        · obtain ⟨r_6, er_6, hE⟩ := cl_e hE
          rcases br_e hE with ⟨_, hE⟩ | ⟨_, hE⟩
          · rcases br_e hE with ⟨_, hE⟩ | ⟨_, hE⟩
            · obtain ⟨r_28, er_28, hE⟩ := cl_e hE
              obtain ⟨r_29, er_29, hE⟩ := cl_e hE
              obtain ⟨g_30, hE⟩ := gd_e hE
              exact moX15_move_133 hE
            · rcases br_e hE with ⟨_, hE⟩ | ⟨_, hE⟩
              · obtain ⟨r_25, er_25, hE⟩ := cl_e hE
                obtain ⟨r_26, er_26, hE⟩ := cl_e hE
                obtain ⟨g_27, hE⟩ := gd_e hE
                exact moX15_move_133 hE
              · rcases br_e hE with ⟨_, hE⟩ | ⟨_, hE⟩
                · obtain ⟨r_22, er_22, hE⟩ := cl_e hE
                  obtain ⟨r_23, er_23, hE⟩ := cl_e hE
                  obtain ⟨g_24, hE⟩ := gd_e hE
                  exact moX15_move_133 hE
                · rcases br_e hE with ⟨_, hE⟩ | ⟨_, hE⟩
                  · obtain ⟨r_19, er_19, hE⟩ := cl_e hE
                    obtain ⟨r_20, er_20, hE⟩ := cl_e hE
                    obtain ⟨g_21, hE⟩ := gd_e hE
                    exact moX15_move_133 hE
                  · rcases br_e hE with ⟨_, hE⟩ | ⟨_, hE⟩
                    · obtain ⟨r_16, er_16, hE⟩ := cl_e hE
                      obtain ⟨r_17, er_17, hE⟩ := cl_e hE
                      obtain ⟨g_18, hE⟩ := gd_e hE
                      exact moX15_move_133 hE
                    · obtain ⟨r_13, er_13, hE⟩ := cl_e hE
                      obtain ⟨r_14, er_14, hE⟩ := cl_e hE
                      obtain ⟨g_15, hE⟩ := gd_e hE
                      exact moX15_move_133 hE
          · exact moX15_move_37 hE
    · exact moX15_move_9 hE
set_option maxRecDepth 20000 in
theorem bX15_move_9 {p : Program} {l : Launch} {e : Env} {s : State} {m : MethodId} {args : Array Value} {below : List Frame} {meth : Method} {c : Code} {X : Ec} {h0 : Hp} {o : Int32 × Hp} {F : Nat} (C : Cx X p s m args meth c RX15 cX15_move 4 (some .int) "move") {h : Hp} {H : Heap} {locs : List Loc} (hkm : Km h0 h) (hW : Wx X h H) (hZ : va_S (aA (eB X)) s.heap H locs) (ls : Array Slot) (hl : lv_has ls 4 []) (hE : sX15_move_9 F h  = some o) : W p l e (rm 8 212) s m args below meth c H locs 0 0 (MQ below (QI X h0 o.1 o.2) args s 0 0 (aA (eB X))) (F0 m 9 ls []) := by
  refine lv_bipush (v := (-101 : Int32)) C.1 C.2.1 dX15_move_9 (by decide) ?_
  exact x_iret C rfl rfl hW hZ hkm hE dX15_move_11
set_option maxRecDepth 20000 in
theorem bX15_move_37 {p : Program} {l : Launch} {e : Env} {s : State} {m : MethodId} {args : Array Value} {below : List Frame} {meth : Method} {c : Code} {X : Ec} {h0 : Hp} {o : Int32 × Hp} {F : Nat} (C : Cx X p s m args meth c RX15 cX15_move 4 (some .int) "move") {h : Hp} {H : Heap} {locs : List Loc} (hkm : Km h0 h) (hW : Wx X h H) (hZ : va_S (aA (eB X)) s.heap H locs) (ls : Array Slot) (hl : lv_has ls 4 []) (hE : sX15_move_37 F h  = some o) : W p l e (rm 8 212) s m args below meth c H locs 0 0 (MQ below (QI X h0 o.1 o.2) args s 0 0 (aA (eB X))) (F0 m 37 ls []) := by
  refine lv_bipush (v := (-102 : Int32)) C.1 C.2.1 dX15_move_37 (by decide) ?_
  exact x_iret C rfl rfl hW hZ hkm hE dX15_move_39
set_option maxRecDepth 20000 in
theorem bX15_move_133 {p : Program} {l : Launch} {e : Env} {s : State} {m : MethodId} {args : Array Value} {below : List Frame} {meth : Method} {c : Code} {X : Ec} {h0 : Hp} {o : Int32 × Hp} {F : Nat} (C : Cx X p s m args meth c RX15 cX15_move 4 (some .int) "move") {h : Hp} {t0 : Int32} {H : Heap} {locs : List Loc} (hkm : Km h0 h) (hW : Wx X h H) (hZ : va_S (aA (eB X)) s.heap H locs) (ls : Array Slot) (hl : lv_has ls 4 []) (hE : sX15_move_133 F h  t0 = some o) : W p l e (rm 8 212) s m args below meth c H locs 0 0 (MQ below (QI X h0 o.1 o.2) args s 0 0 (aA (eB X))) (F0 m 133 ls [.int t0]) := by
  exact x_iret C rfl rfl hW hZ hkm hE dX15_move_133
set_option maxRecDepth 20000 in
theorem ct_X15_move (l : Launch) (X : Ec) (F : Nat) {h : Hp} {x0 : Nat} {x1 : Int32} {x2 : Int32} {x3 : Int32} {o : Int32 × Hp} (k_x0 : hK h x0 = 15) (hE : sX15_move F h x0 x1 x2 x3 = some o) : MetI l yX15_move cX15_move 4 (some .int) 8 212 X [.ref x0, .int x1, .int x2, .int x3] h o := by
  refine x_met (by decide) (Nat.le_of_ble_eq_true rfl) ?_
  intro p e s m below meth c ls C hl hW hZ
  have hl : lv_has ls 4 [(0, .ref x0), (1, .int x1), (2, .int x2), (3, .int x3)] := hl
  have hkm : Km h h := Km.rf h
  refine lv_iload_n C.1 C.2.1 dX15_move_0 rfl (lv_at hl 3 rfl) ?_
  refine lv_if_lt (tgt := 9) C.1 C.2.1 dX15_move_1 (by decide) (fun c_1 => ?_) (fun c_1 => ?_)
  · have hE := br_p hE c_1
    exact bX15_move_9 C hkm hW hZ _ (lv_sub hl [] rfl) hE
  · have hE := br_n hE c_1
    refine lv_iload_n C.1 C.2.1 dX15_move_4 rfl (lv_at hl 3 rfl) ?_
    refine lv_iconst (v := (5 : Int32)) C.1 C.2.1 dX15_move_5 (by decide) ?_
    refine lv_icmp_le (tgt := 12) C.1 C.2.1 dX15_move_6 (by decide) (fun c_2 => ?_) (fun c_2 => ?_)
    · have hE := br_p hE c_2
      refine lv_aload_n C.1 C.2.1 dX15_move_12 rfl (lv_at hl 0 rfl) ?_
      refine lv_iload_n C.1 C.2.1 dX15_move_13 rfl (lv_at hl 1 rfl) ?_
      obtain ⟨o_3, eo_3, hE⟩ := cl_e hE
      refine x_kI (o := o_3) (z_runV (As := [.int x1]) (rest := []) C (ct_X15_moves l X F k_x0 eo_3) cw_X15_668 hW hZ k_x0 (by decide) rfl rfl rfl hl.1 (Nat.le_of_ble_eq_true rfl) rfl dX15_move_14 ⟨Nat.le_of_ble_eq_true rfl, Nat.le_of_ble_eq_true rfl⟩ ⟨Nat.le_refl _, Nat.le_refl _⟩) hZ (fun _ _ hW km hZ => ?_)
      replace hkm := hkm.tr km
      replace k_x0 := km.at k_x0 (by decide)
      refine lv_bipush (v := (-102 : Int32)) C.1 C.2.1 dX15_move_17 (by decide) ?_
      refine lv_icmp_eq (tgt := 37) C.1 C.2.1 dX15_move_19 (by decide) (fun c_4 => ?_) (fun c_4 => ?_)
      · have hE := br_p hE c_4
        exact bX15_move_37 C hkm hW hZ _ (lv_sub hl [] rfl) hE
      · have hE := br_n hE c_4
        refine lv_iload_n C.1 C.2.1 dX15_move_22 rfl (lv_at hl 2 rfl) ?_
        refine lv_if_lt (tgt := 37) C.1 C.2.1 dX15_move_23 (by decide) (fun c_5 => ?_) (fun c_5 => ?_)
        · have hE := br_p hE c_5
          exact bX15_move_37 C hkm hW hZ _ (lv_sub hl [] rfl) hE
        · have hE := br_n hE c_5
          refine lv_iload_n C.1 C.2.1 dX15_move_26 rfl (lv_at hl 2 rfl) ?_
          refine lv_aload_n C.1 C.2.1 dX15_move_27 rfl (lv_at hl 0 rfl) ?_
          obtain ⟨r_6, er_6, hE⟩ := cl_e hE
          refine gf_X15_288 C hW k_x0 er_6 dX15_move_28 (fun k_r_6 => ?_)
          refine gf_X15_575 C hW k_r_6 dX15_move_31 ?_
          refine lv_icmp_lt (tgt := 40) C.1 C.2.1 dX15_move_34 (by decide) (fun c_7 => ?_) (fun c_7 => ?_)
          · have hE := br_p hE c_7
            refine lv_iload_n C.1 C.2.1 dX15_move_40 rfl (lv_at hl 3 rfl) ?_
            refine lv_if_ne (tgt := 56) C.1 C.2.1 dX15_move_41 (by decide) (fun c_8 => ?_) (fun c_8 => ?_)
            · have hE := br_n hE c_8
              refine lv_iload_n C.1 C.2.1 dX15_move_56 rfl (lv_at hl 3 rfl) ?_
              refine lv_iconst (v := (1 : Int32)) C.1 C.2.1 dX15_move_57 (by decide) ?_
              refine lv_icmp_ne (tgt := 73) C.1 C.2.1 dX15_move_58 (by decide) (fun c_9 => ?_) (fun c_9 => ?_)
              · have hE := br_n hE c_9
                refine lv_iload_n C.1 C.2.1 dX15_move_73 rfl (lv_at hl 3 rfl) ?_
                refine lv_iconst (v := (2 : Int32)) C.1 C.2.1 dX15_move_74 (by decide) ?_
                refine lv_icmp_ne (tgt := 90) C.1 C.2.1 dX15_move_75 (by decide) (fun c_10 => ?_) (fun c_10 => ?_)
                · have hE := br_n hE c_10
                  refine lv_iload_n C.1 C.2.1 dX15_move_90 rfl (lv_at hl 3 rfl) ?_
                  refine lv_iconst (v := (3 : Int32)) C.1 C.2.1 dX15_move_91 (by decide) ?_
                  refine lv_icmp_ne (tgt := 107) C.1 C.2.1 dX15_move_92 (by decide) (fun c_11 => ?_) (fun c_11 => ?_)
                  · have hE := br_n hE c_11
                    refine lv_iload_n C.1 C.2.1 dX15_move_107 rfl (lv_at hl 3 rfl) ?_
                    refine lv_iconst (v := (4 : Int32)) C.1 C.2.1 dX15_move_108 (by decide) ?_
                    refine lv_icmp_ne (tgt := 124) C.1 C.2.1 dX15_move_109 (by decide) (fun c_12 => ?_) (fun c_12 => ?_)
                    · have hE := br_n hE c_12
                      refine lv_aload_n C.1 C.2.1 dX15_move_124 rfl (lv_at hl 0 rfl) ?_
                      obtain ⟨r_13, er_13, hE⟩ := cl_e hE
                      refine gf_X15_288 C hW k_x0 er_13 dX15_move_125 (fun k_r_13 => ?_)
                      obtain ⟨r_14, er_14, hE⟩ := cl_e hE
                      refine gf_X15_602 C hW k_r_13 er_14 dX15_move_128 (fun k_r_14 => ?_)
                      refine lv_iload_n C.1 C.2.1 dX15_move_131 rfl (lv_at hl 2 rfl) ?_
                      obtain ⟨g_15, hE⟩ := gd_e hE
                      refine y_iald C hW k_r_14 g_15 dX15_move_132 ?_
                      exact bX15_move_133 C hkm hW hZ _ (lv_sub hl [] rfl) hE
                    · have hE := br_p hE c_12
                      refine lv_aload_n C.1 C.2.1 dX15_move_112 rfl (lv_at hl 0 rfl) ?_
                      obtain ⟨r_16, er_16, hE⟩ := cl_e hE
                      refine gf_X15_288 C hW k_x0 er_16 dX15_move_113 (fun k_r_16 => ?_)
                      obtain ⟨r_17, er_17, hE⟩ := cl_e hE
                      refine gf_X15_605 C hW k_r_16 er_17 dX15_move_116 (fun k_r_17 => ?_)
                      refine lv_iload_n C.1 C.2.1 dX15_move_119 rfl (lv_at hl 2 rfl) ?_
                      obtain ⟨g_18, hE⟩ := gd_e hE
                      refine y_iald C hW k_r_17 g_18 dX15_move_120 ?_
                      refine lv_goto (tgt := 133) C.1 C.2.1 dX15_move_121 (by decide) ?_
                      exact bX15_move_133 C hkm hW hZ _ (lv_sub hl [] rfl) hE
                  · have hE := br_p hE c_11
                    refine lv_aload_n C.1 C.2.1 dX15_move_95 rfl (lv_at hl 0 rfl) ?_
                    obtain ⟨r_19, er_19, hE⟩ := cl_e hE
                    refine gf_X15_288 C hW k_x0 er_19 dX15_move_96 (fun k_r_19 => ?_)
                    obtain ⟨r_20, er_20, hE⟩ := cl_e hE
                    refine gf_X15_612 C hW k_r_19 er_20 dX15_move_99 (fun k_r_20 => ?_)
                    refine lv_iload_n C.1 C.2.1 dX15_move_102 rfl (lv_at hl 2 rfl) ?_
                    obtain ⟨g_21, hE⟩ := gd_e hE
                    refine y_iald C hW k_r_20 g_21 dX15_move_103 ?_
                    refine lv_goto (tgt := 133) C.1 C.2.1 dX15_move_104 (by decide) ?_
                    exact bX15_move_133 C hkm hW hZ _ (lv_sub hl [] rfl) hE
                · have hE := br_p hE c_10
                  refine lv_aload_n C.1 C.2.1 dX15_move_78 rfl (lv_at hl 0 rfl) ?_
                  obtain ⟨r_22, er_22, hE⟩ := cl_e hE
                  refine gf_X15_288 C hW k_x0 er_22 dX15_move_79 (fun k_r_22 => ?_)
                  obtain ⟨r_23, er_23, hE⟩ := cl_e hE
                  refine gf_X15_600 C hW k_r_22 er_23 dX15_move_82 (fun k_r_23 => ?_)
                  refine lv_iload_n C.1 C.2.1 dX15_move_85 rfl (lv_at hl 2 rfl) ?_
                  obtain ⟨g_24, hE⟩ := gd_e hE
                  refine y_iald C hW k_r_23 g_24 dX15_move_86 ?_
                  refine lv_goto (tgt := 133) C.1 C.2.1 dX15_move_87 (by decide) ?_
                  exact bX15_move_133 C hkm hW hZ _ (lv_sub hl [] rfl) hE
              · have hE := br_p hE c_9
                refine lv_aload_n C.1 C.2.1 dX15_move_61 rfl (lv_at hl 0 rfl) ?_
                obtain ⟨r_25, er_25, hE⟩ := cl_e hE
                refine gf_X15_288 C hW k_x0 er_25 dX15_move_62 (fun k_r_25 => ?_)
                obtain ⟨r_26, er_26, hE⟩ := cl_e hE
                refine gf_X15_598 C hW k_r_25 er_26 dX15_move_65 (fun k_r_26 => ?_)
                refine lv_iload_n C.1 C.2.1 dX15_move_68 rfl (lv_at hl 2 rfl) ?_
                obtain ⟨g_27, hE⟩ := gd_e hE
                refine y_iald C hW k_r_26 g_27 dX15_move_69 ?_
                refine lv_goto (tgt := 133) C.1 C.2.1 dX15_move_70 (by decide) ?_
                exact bX15_move_133 C hkm hW hZ _ (lv_sub hl [] rfl) hE
            · have hE := br_p hE c_8
              refine lv_aload_n C.1 C.2.1 dX15_move_44 rfl (lv_at hl 0 rfl) ?_
              obtain ⟨r_28, er_28, hE⟩ := cl_e hE
              refine gf_X15_288 C hW k_x0 er_28 dX15_move_45 (fun k_r_28 => ?_)
              obtain ⟨r_29, er_29, hE⟩ := cl_e hE
              refine gf_X15_597 C hW k_r_28 er_29 dX15_move_48 (fun k_r_29 => ?_)
              refine lv_iload_n C.1 C.2.1 dX15_move_51 rfl (lv_at hl 2 rfl) ?_
              obtain ⟨g_30, hE⟩ := gd_e hE
              refine y_iald C hW k_r_29 g_30 dX15_move_52 ?_
              refine lv_goto (tgt := 133) C.1 C.2.1 dX15_move_53 (by decide) ?_
              exact bX15_move_133 C hkm hW hZ _ (lv_sub hl [] rfl) hE
          · have hE := br_n hE c_7
            exact bX15_move_37 C hkm hW hZ _ (lv_sub hl [] rfl) hE
    · have hE := br_n hE c_2
      exact bX15_move_9 C hkm hW hZ _ (lv_sub hl [] rfl) hE
section
variable {p : Program} {l : Launch} {e : Env} {R : Room} {s : State} {m : MethodId} {args : Array Value} {below : List Frame} {meth : Method} {c : Code} {H : Heap} {locs : List Loc} {cells slots : Nat} {Q : State → Prop}
variable {cc : ByteArray} {pc : Nat} {ls : Array Slot} {rest : List Value} {X : Ec} {h h1 : Hp} {nL : Nat} {rt : Option FieldType} {mn : String}
theorem gf_X15_295 {a r : Nat} (C : Cx X p s m args meth c RX15 cc nL rt mn) (hW : Wx X h H) (ha : hK h a = 15) (hr : hR h a 32 = some r) (hdg : decode cc pc = .ok (.getfield 295, 3)) (kk : hK h r = 12 → W p l e R s m args below meth c H locs cells slots Q (F0 m (pc + 3) ls (.ref r :: rest))) : W p l e R s m args below meth c H locs cells slots Q (F0 m pc ls (.ref a :: rest)) :=
  y_getr C hW ha i_X15 (by decide) rfl (by decide) m_2143 rfl rfl hr hdg kk
end
theorem dX15_go_0 : decode cX15_go 0 = .ok (.aload_n 0, 1) := by decide +kernel
theorem dX15_go_1 : decode cX15_go 1 = .ok (.iload_n 1, 1) := by decide +kernel
theorem dX15_go_2 : decode cX15_go 2 = .ok (.invokevirtual 668, 3) := by decide +kernel
theorem dX15_go_5 : decode cX15_go 5 = .ok (.bipush (-102), 2) := by decide +kernel
theorem dX15_go_7 : decode cX15_go 7 = .ok (.if_icmp .eq 18, 3) := by decide +kernel
theorem dX15_go_10 : decode cX15_go 10 = .ok (.iload_n 2, 1) := by decide +kernel
theorem dX15_go_11 : decode cX15_go 11 = .ok (.ifCond .lt 14, 3) := by decide +kernel
theorem dX15_go_14 : decode cX15_go 14 = .ok (.iload_n 2, 1) := by decide +kernel
theorem dX15_go_15 : decode cX15_go 15 = .ok (.aload_n 0, 1) := by decide +kernel
theorem dX15_go_16 : decode cX15_go 16 = .ok (.getfield 288, 3) := by decide +kernel
theorem dX15_go_19 : decode cX15_go 19 = .ok (.getfield 575, 3) := by decide +kernel
theorem dX15_go_22 : decode cX15_go 22 = .ok (.if_icmp .lt 6, 3) := by decide +kernel
theorem dX15_go_25 : decode cX15_go 25 = .ok (.bipush (-102), 2) := by decide +kernel
theorem dX15_go_27 : decode cX15_go 27 = .ok (.ireturn, 1) := by decide +kernel
theorem dX15_go_28 : decode cX15_go 28 = .ok (.aload_n 0, 1) := by decide +kernel
theorem dX15_go_29 : decode cX15_go 29 = .ok (.invokevirtual 402, 3) := by decide +kernel
theorem dX15_go_32 : decode cX15_go 32 = .ok (.iconst (-1), 1) := by decide +kernel
theorem dX15_go_33 : decode cX15_go 33 = .ok (.if_icmp .ne 6, 3) := by decide +kernel
theorem dX15_go_36 : decode cX15_go 36 = .ok (.bipush (-104), 2) := by decide +kernel
theorem dX15_go_38 : decode cX15_go 38 = .ok (.ireturn, 1) := by decide +kernel
theorem dX15_go_39 : decode cX15_go 39 = .ok (.aload_n 0, 1) := by decide +kernel
theorem dX15_go_40 : decode cX15_go 40 = .ok (.aload_n 0, 1) := by decide +kernel
theorem dX15_go_41 : decode cX15_go 41 = .ok (.getfield 257, 3) := by decide +kernel
theorem dX15_go_44 : decode cX15_go 44 = .ok (.iload_n 1, 1) := by decide +kernel
theorem dX15_go_45 : decode cX15_go 45 = .ok (.aaload, 1) := by decide +kernel
theorem dX15_go_46 : decode cX15_go 46 = .ok (.aload_n 0, 1) := by decide +kernel
theorem dX15_go_47 : decode cX15_go 47 = .ok (.getfield 288, 3) := by decide +kernel
theorem dX15_go_50 : decode cX15_go 50 = .ok (.iload_n 2, 1) := by decide +kernel
theorem dX15_go_51 : decode cX15_go 51 = .ok (.aload_n 0, 1) := by decide +kernel
theorem dX15_go_52 : decode cX15_go 52 = .ok (.getfield 295, 3) := by decide +kernel
theorem dX15_go_55 : decode cX15_go 55 = .ok (.invokevirtual 627, 3) := by decide +kernel
theorem dX15_go_58 : decode cX15_go 58 = .ok (.aload_n 0, 1) := by decide +kernel
theorem dX15_go_59 : decode cX15_go 59 = .ok (.aload_n 0, 1) := by decide +kernel
theorem dX15_go_60 : decode cX15_go 60 = .ok (.getfield 295, 3) := by decide +kernel
theorem dX15_go_63 : decode cX15_go 63 = .ok (.invokevirtual 483, 3) := by decide +kernel
theorem dX15_go_66 : decode cX15_go 66 = .ok (.ireturn, 1) := by decide +kernel
set_option maxRecDepth 20000 in
theorem moX15_go_25 {o : Int32 × Hp} {F : Nat} {h : Hp} (hE : sX15_go_25 F h  = some o) : Le h o.2 := by
  exact le_some2 hE
set_option maxRecDepth 20000 in
theorem moX15_go_66 {o : Int32 × Hp} {F : Nat} {h : Hp} {t0 : Int32} (hE : sX15_go_66 F h  t0 = some o) : Le h o.2 := by
  exact le_some2 hE
set_option maxRecDepth 20000 in
theorem moX15_go_58 {o : Int32 × Hp} {F : Nat} {h : Hp} {x0 : Nat} (hE : sX15_go_58 F h x0 = some o) : Le h o.2 := by
  obtain ⟨r_1, er_1, hE⟩ := cl_e hE
  obtain ⟨o_2, eo_2, hE⟩ := cl_e hE
  refine (moX15_keep eo_2).tr ?_
  exact moX15_go_66 hE
set_option maxRecDepth 20000 in
theorem moX15_go_32 {o : Int32 × Hp} {F : Nat} {h : Hp} {x0 : Nat} {x1 : Int32} {x2 : Int32} {t0 : Int32} (hE : sX15_go_32 F h x0 x1 x2 t0 = some o) : Le h o.2 := by
  rcases br_e hE with ⟨_, hE⟩ | ⟨_, hE⟩
  · exact le_some2 hE
  · obtain ⟨r_2, er_2, hE⟩ := cl_e hE
    obtain ⟨g_3, hE⟩ := gd_e hE
    obtain ⟨r_4, er_4, hE⟩ := cl_e hE
    obtain ⟨r_5, er_5, hE⟩ := cl_e hE
    obtain ⟨r_6, er_6, hE⟩ := cl_e hE
    obtain ⟨o_7, eo_7, hE⟩ := cl_e hE
    refine (moX15_make eo_7).tr ?_
    exact moX15_go_58 hE
set_option maxRecDepth 20000 in
theorem moX15_go_5 {o : Int32 × Hp} {F : Nat} {h : Hp} {x0 : Nat} {x1 : Int32} {x2 : Int32} {t0 : Int32} (hE : sX15_go_5 F h x0 x1 x2 t0 = some o) : Le h o.2 := by
  rcases br_e hE with ⟨_, hE⟩ | ⟨_, hE⟩
  · exact moX15_go_25 hE
  · rcases br_e hE with ⟨_, hE⟩ | ⟨_, hE⟩
    · exact moX15_go_25 hE
    · obtain ⟨r_3, er_3, hE⟩ := cl_e hE
      rcases br_e hE with ⟨_, hE⟩ | ⟨_, hE⟩
      · obtain ⟨o_5, eo_5, hE⟩ := cl_e hE
        refine (moX15_freePlace eo_5).tr ?_
        exact moX15_go_32 hE
      · exact moX15_go_25 hE
set_option maxRecDepth 20000 in
theorem moX15_go {o : Int32 × Hp} {F : Nat} {h : Hp} {x0 : Nat} {x1 : Int32} {x2 : Int32} (hE : sX15_go F h x0 x1 x2 = some o) : Le h o.2 := by
  obtain ⟨o_1, eo_1, hE⟩ := cl_e hE
  refine (moX15_moves eo_1).tr ?_
  exact moX15_go_5 hE
set_option maxRecDepth 20000 in
theorem bX15_go_25 {p : Program} {l : Launch} {e : Env} {s : State} {m : MethodId} {args : Array Value} {below : List Frame} {meth : Method} {c : Code} {X : Ec} {h0 : Hp} {o : Int32 × Hp} {F : Nat} (C : Cx X p s m args meth c RX15 cX15_go 3 (some .int) "go") {h : Hp} {H : Heap} {locs : List Loc} (hkl : Kl h0 h) (hW : Wx X h H) (hZ : va_S (aA (eB X)) s.heap H locs) (ls : Array Slot) (hl : lv_has ls 3 []) (hE : sX15_go_25 F h  = some o) : W p l e (rmA 8 212 h0 o.2) s m args below meth c H locs (hS h - hS h0) (hL h - hL h0) (MQ below (QIA X h0 o.1 o.2) args s (hS o.2 - hS h0) (hL o.2 - hL h0) (aA (eB X))) (F0 m 25 ls []) := by
  refine lv_bipush (v := (-102 : Int32)) C.1 C.2.1 dX15_go_25 (by decide) ?_
  exact x_iretA C rfl rfl hW hZ hkl hE dX15_go_27
set_option maxRecDepth 20000 in
theorem bX15_go_66 {p : Program} {l : Launch} {e : Env} {s : State} {m : MethodId} {args : Array Value} {below : List Frame} {meth : Method} {c : Code} {X : Ec} {h0 : Hp} {o : Int32 × Hp} {F : Nat} (C : Cx X p s m args meth c RX15 cX15_go 3 (some .int) "go") {h : Hp} {t0 : Int32} {H : Heap} {locs : List Loc} (hkl : Kl h0 h) (hW : Wx X h H) (hZ : va_S (aA (eB X)) s.heap H locs) (ls : Array Slot) (hl : lv_has ls 3 []) (hE : sX15_go_66 F h  t0 = some o) : W p l e (rmA 8 212 h0 o.2) s m args below meth c H locs (hS h - hS h0) (hL h - hL h0) (MQ below (QIA X h0 o.1 o.2) args s (hS o.2 - hS h0) (hL o.2 - hL h0) (aA (eB X))) (F0 m 66 ls [.int t0]) := by
  exact x_iretA C rfl rfl hW hZ hkl hE dX15_go_66
set_option maxRecDepth 20000 in
theorem bX15_go_58 {p : Program} {l : Launch} {e : Env} {s : State} {m : MethodId} {args : Array Value} {below : List Frame} {meth : Method} {c : Code} {X : Ec} {h0 : Hp} {o : Int32 × Hp} {F : Nat} (C : Cx X p s m args meth c RX15 cX15_go 3 (some .int) "go") {h : Hp} {x0 : Nat} {H : Heap} {locs : List Loc} (k_x0 : hK h x0 = 15) (hkl : Kl h0 h) (hW : Wx X h H) (hZ : va_S (aA (eB X)) s.heap H locs) (ls : Array Slot) (hl : lv_has ls 3 [(0, .ref x0)]) (hE : sX15_go_58 F h x0 = some o) : W p l e (rmA 8 212 h0 o.2) s m args below meth c H locs (hS h - hS h0) (hL h - hL h0) (MQ below (QIA X h0 o.1 o.2) args s (hS o.2 - hS h0) (hL o.2 - hL h0) (aA (eB X))) (F0 m 58 ls []) := by
  refine lv_aload_n C.1 C.2.1 dX15_go_58 rfl (lv_at hl 0 rfl) ?_
  refine lv_aload_n C.1 C.2.1 dX15_go_59 rfl (lv_at hl 0 rfl) ?_
  obtain ⟨r_1, er_1, hE⟩ := cl_e hE
  refine gf_X15_295 C hW k_x0 er_1 dX15_go_60 (fun k_r_1 => ?_)
  obtain ⟨o_2, eo_2, hE⟩ := cl_e hE
  have m1 := moX15_keep eo_2
  have m2 := moX15_go_66 hE
  refine x_kIA (o := o_2) hkl (z_runV (As := [.ref r_1]) (rest := []) C (ct_X15_keep l X F k_x0 k_r_1 eo_2) cw_X15_483 hW hZ k_x0 (by decide) rfl rfl rfl hl.1 (Nat.le_of_ble_eq_true rfl) rfl dX15_go_63 ⟨Nat.le_of_ble_eq_true rfl, Nat.le_of_ble_eq_true rfl⟩ (rm_ok hkl m1 m2)) hZ (fun _ _ hW km hZ => ?_)
  replace hkl := hkl.tr km
  replace k_x0 := km.at k_x0 (by decide)
  exact bX15_go_66 C hkl hW hZ _ (lv_sub hl [] rfl) hE
set_option maxRecDepth 20000 in
theorem bX15_go_32 {p : Program} {l : Launch} {e : Env} {s : State} {m : MethodId} {args : Array Value} {below : List Frame} {meth : Method} {c : Code} {X : Ec} {h0 : Hp} {o : Int32 × Hp} {F : Nat} (C : Cx X p s m args meth c RX15 cX15_go 3 (some .int) "go") {h : Hp} {x0 : Nat} {x1 : Int32} {x2 : Int32} {t0 : Int32} {H : Heap} {locs : List Loc} (k_x0 : hK h x0 = 15) (hkl : Kl h0 h) (hW : Wx X h H) (hZ : va_S (aA (eB X)) s.heap H locs) (ls : Array Slot) (hl : lv_has ls 3 [(0, .ref x0), (1, .int x1), (2, .int x2)]) (hE : sX15_go_32 F h x0 x1 x2 t0 = some o) : W p l e (rmA 8 212 h0 o.2) s m args below meth c H locs (hS h - hS h0) (hL h - hL h0) (MQ below (QIA X h0 o.1 o.2) args s (hS o.2 - hS h0) (hL o.2 - hL h0) (aA (eB X))) (F0 m 32 ls [.int t0]) := by
  refine lv_iconst (v := (-1 : Int32)) C.1 C.2.1 dX15_go_32 (by decide) ?_
  refine lv_icmp_ne (tgt := 39) C.1 C.2.1 dX15_go_33 (by decide) (fun c_1 => ?_) (fun c_1 => ?_)
  · have hE := br_n hE c_1
    refine lv_aload_n C.1 C.2.1 dX15_go_39 rfl (lv_at hl 0 rfl) ?_
    refine lv_aload_n C.1 C.2.1 dX15_go_40 rfl (lv_at hl 0 rfl) ?_
    obtain ⟨r_2, er_2, hE⟩ := cl_e hE
    refine gf_X15_257 C hW k_x0 er_2 dX15_go_41 (fun k_r_2 => ?_)
    refine lv_iload_n C.1 C.2.1 dX15_go_44 rfl (lv_at hl 1 rfl) ?_
    obtain ⟨g_3, hE⟩ := gd_e hE
    obtain ⟨r_4, er_4, hE⟩ := cl_e hE
    refine y_aald (t0 := 5) C hW k_r_2 (by decide) (by decide) rfl rfl rfl (fun _ => rfl) g_3 er_4 dX15_go_45 (fun k_r_4 => ?_)
    refine lv_aload_n C.1 C.2.1 dX15_go_46 rfl (lv_at hl 0 rfl) ?_
    obtain ⟨r_5, er_5, hE⟩ := cl_e hE
    refine gf_X15_288 C hW k_x0 er_5 dX15_go_47 (fun k_r_5 => ?_)
    refine lv_iload_n C.1 C.2.1 dX15_go_50 rfl (lv_at hl 2 rfl) ?_
    refine lv_aload_n C.1 C.2.1 dX15_go_51 rfl (lv_at hl 0 rfl) ?_
    obtain ⟨r_6, er_6, hE⟩ := cl_e hE
    refine gf_X15_295 C hW k_x0 er_6 dX15_go_52 (fun k_r_6 => ?_)
    obtain ⟨o_7, eo_7, hE⟩ := cl_e hE
    have m1 := moX15_make eo_7
    have m2 := moX15_go_58 hE
    refine x_kV (o := o_7) (z_runV (As := [.ref r_4, .ref r_5, .int x2, .ref r_6]) (rest := []) C (ct_X15_make l X F k_x0 k_r_4 k_r_5 k_r_6 eo_7) cw_X15_627 hW hZ k_x0 (by decide) rfl rfl rfl hl.1 (Nat.le_of_ble_eq_true rfl) rfl dX15_go_55 ⟨Nat.le_of_ble_eq_true rfl, Nat.le_of_ble_eq_true rfl⟩ (rm_ok0 hkl m1 m2)) hZ (fun _ _ hW km hZ => ?_)
    replace hkl := hkl.tr km.l
    refine x_wc km ?_
    replace k_x0 := km.at k_x0 (by decide)
    exact bX15_go_58 C k_x0 hkl hW hZ _ (lv_sub hl [0] rfl) hE
  · have hE := br_p hE c_1
    refine lv_bipush (v := (-104 : Int32)) C.1 C.2.1 dX15_go_36 (by decide) ?_
    exact x_iretA C rfl rfl hW hZ hkl hE dX15_go_38
set_option maxRecDepth 20000 in
theorem bX15_go_5 {p : Program} {l : Launch} {e : Env} {s : State} {m : MethodId} {args : Array Value} {below : List Frame} {meth : Method} {c : Code} {X : Ec} {h0 : Hp} {o : Int32 × Hp} {F : Nat} (C : Cx X p s m args meth c RX15 cX15_go 3 (some .int) "go") {h : Hp} {x0 : Nat} {x1 : Int32} {x2 : Int32} {t0 : Int32} {H : Heap} {locs : List Loc} (k_x0 : hK h x0 = 15) (hkl : Kl h0 h) (hW : Wx X h H) (hZ : va_S (aA (eB X)) s.heap H locs) (ls : Array Slot) (hl : lv_has ls 3 [(0, .ref x0), (1, .int x1), (2, .int x2)]) (hE : sX15_go_5 F h x0 x1 x2 t0 = some o) : W p l e (rmA 8 212 h0 o.2) s m args below meth c H locs (hS h - hS h0) (hL h - hL h0) (MQ below (QIA X h0 o.1 o.2) args s (hS o.2 - hS h0) (hL o.2 - hL h0) (aA (eB X))) (F0 m 5 ls [.int t0]) := by
  refine lv_bipush (v := (-102 : Int32)) C.1 C.2.1 dX15_go_5 (by decide) ?_
  refine lv_icmp_eq (tgt := 25) C.1 C.2.1 dX15_go_7 (by decide) (fun c_1 => ?_) (fun c_1 => ?_)
  · have hE := br_p hE c_1
    exact bX15_go_25 C hkl hW hZ _ (lv_sub hl [] rfl) hE
  · have hE := br_n hE c_1
    refine lv_iload_n C.1 C.2.1 dX15_go_10 rfl (lv_at hl 2 rfl) ?_
    refine lv_if_lt (tgt := 25) C.1 C.2.1 dX15_go_11 (by decide) (fun c_2 => ?_) (fun c_2 => ?_)
    · have hE := br_p hE c_2
      exact bX15_go_25 C hkl hW hZ _ (lv_sub hl [] rfl) hE
    · have hE := br_n hE c_2
      refine lv_iload_n C.1 C.2.1 dX15_go_14 rfl (lv_at hl 2 rfl) ?_
      refine lv_aload_n C.1 C.2.1 dX15_go_15 rfl (lv_at hl 0 rfl) ?_
      obtain ⟨r_3, er_3, hE⟩ := cl_e hE
      refine gf_X15_288 C hW k_x0 er_3 dX15_go_16 (fun k_r_3 => ?_)
      refine gf_X15_575 C hW k_r_3 dX15_go_19 ?_
      refine lv_icmp_lt (tgt := 28) C.1 C.2.1 dX15_go_22 (by decide) (fun c_4 => ?_) (fun c_4 => ?_)
      · have hE := br_p hE c_4
        refine lv_aload_n C.1 C.2.1 dX15_go_28 rfl (lv_at hl 0 rfl) ?_
        obtain ⟨o_5, eo_5, hE⟩ := cl_e hE
        have m1 := moX15_freePlace eo_5
        have m2 := moX15_go_32 hE
        refine x_kI (o := o_5) (z_runV (As := []) (rest := []) C (ct_X15_freePlace l X F k_x0 eo_5) cw_X15_402 hW hZ k_x0 (by decide) rfl rfl rfl hl.1 (Nat.le_of_ble_eq_true rfl) rfl dX15_go_29 ⟨Nat.le_of_ble_eq_true rfl, Nat.le_of_ble_eq_true rfl⟩ (rm_ok0 hkl m1 m2)) hZ (fun _ _ hW km hZ => ?_)
        replace hkl := hkl.tr km.l
        refine x_wc km ?_
        replace k_x0 := km.at k_x0 (by decide)
        exact bX15_go_32 C k_x0 hkl hW hZ _ (lv_sub hl [0, 1, 2] rfl) hE
      · have hE := br_n hE c_4
        exact bX15_go_25 C hkl hW hZ _ (lv_sub hl [] rfl) hE
set_option maxRecDepth 20000 in
theorem ct_X15_go (l : Launch) (X : Ec) (F : Nat) {h : Hp} {x0 : Nat} {x1 : Int32} {x2 : Int32} {o : Int32 × Hp} (k_x0 : hK h x0 = 15) (hE : sX15_go F h x0 x1 x2 = some o) : MetIA l yX15_go cX15_go 3 (some .int) 8 212 X [.ref x0, .int x1, .int x2] h o := by
  refine x_metA (oh := o.2) (by decide) (Nat.le_of_ble_eq_true rfl) ?_
  intro p e s m below meth c ls C hl hW hZ
  have hl : lv_has ls 3 [(0, .ref x0), (1, .int x1), (2, .int x2)] := hl
  have hkl : Kl h h := Kl.rf h
  refine lv_aload_n C.1 C.2.1 dX15_go_0 rfl (lv_at hl 0 rfl) ?_
  refine lv_iload_n C.1 C.2.1 dX15_go_1 rfl (lv_at hl 1 rfl) ?_
  obtain ⟨o_1, eo_1, hE⟩ := cl_e hE
  have m1 := moX15_moves eo_1
  have m2 := moX15_go_5 hE
  refine x_kI (o := o_1) (z_runV (As := [.int x1]) (rest := []) C (ct_X15_moves l X F k_x0 eo_1) cw_X15_668 hW hZ k_x0 (by decide) rfl rfl rfl hl.1 (Nat.le_of_ble_eq_true rfl) rfl dX15_go_2 ⟨Nat.le_of_ble_eq_true rfl, Nat.le_of_ble_eq_true rfl⟩ (rm_ok0 hkl m1 m2)) hZ (fun _ _ hW km hZ => ?_)
  replace hkl := hkl.tr km.l
  refine x_wc km ?_
  replace k_x0 := km.at k_x0 (by decide)
  exact bX15_go_5 C k_x0 hkl hW hZ _ (lv_sub hl [0, 1, 2] rfl) hE
