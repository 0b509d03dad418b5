set_option maxRecDepth 100000 in
theorem ms_192 : Cond.selects RX15 yX15_seenBy yX15_seenBy ∈ W0 := w0_in (List.mem_append_left _ (List.mem_of_getElem? (i := 192) rfl)) rfl
set_option maxRecDepth 100000 in
theorem m_2699 : Cond.methodLink RX15 710 yX15_seenBy ∈ W0 := w0_in (List.mem_append_right _ (List.mem_of_getElem? (i := 2699) rfl)) rfl
set_option maxRecDepth 100000 in
theorem m_2701 : Cond.instanceMethod yX15_seenBy ∈ W0 := w0_in (List.mem_append_right _ (List.mem_of_getElem? (i := 2701) rfl)) rfl
set_option maxRecDepth 100000 in
theorem m_2702 : Cond.code yX15_seenBy cX15_seenBy 8 (some .long) ∈ W0 := w0_in (List.mem_append_right _ (List.mem_of_getElem? (i := 2702) rfl)) rfl
theorem cw_X15_710 : cwd RX15 710 yX15_seenBy cX15_seenBy 8 (some .long) false 2 := ⟨m_2702, m_2699, m_19, ⟨m_2701, ms_192⟩, by decide, by decide, by decide +kernel⟩
theorem dX15_sees_0 : decode cX15_sees 0 = .ok (.iload_n 2, 1) := by decide +kernel
theorem dX15_sees_1 : decode cX15_sees 1 = .ok (.ifCond .lt 20, 3) := by decide +kernel
theorem dX15_sees_4 : decode cX15_sees 4 = .ok (.iload_n 2, 1) := by decide +kernel
theorem dX15_sees_5 : decode cX15_sees 5 = .ok (.iconst 1, 1) := by decide +kernel
theorem dX15_sees_6 : decode cX15_sees 6 = .ok (.if_icmp .gt 15, 3) := by decide +kernel
theorem dX15_sees_9 : decode cX15_sees 9 = .ok (.iload_n 3, 1) := by decide +kernel
theorem dX15_sees_10 : decode cX15_sees 10 = .ok (.ifCond .lt 11, 3) := by decide +kernel
theorem dX15_sees_13 : decode cX15_sees 13 = .ok (.iload_n 3, 1) := by decide +kernel
theorem dX15_sees_14 : decode cX15_sees 14 = .ok (.aload_n 0, 1) := by decide +kernel
theorem dX15_sees_15 : decode cX15_sees 15 = .ok (.getfield 384, 3) := by decide +kernel
theorem dX15_sees_18 : decode cX15_sees 18 = .ok (.if_icmp .lt 6, 3) := by decide +kernel
theorem dX15_sees_21 : decode cX15_sees 21 = .ok (.bipush (-101), 2) := by decide +kernel
theorem dX15_sees_23 : decode cX15_sees 23 = .ok (.ireturn, 1) := by decide +kernel
theorem dX15_sees_24 : decode cX15_sees 24 = .ok (.aload_n 0, 1) := by decide +kernel
theorem dX15_sees_25 : decode cX15_sees 25 = .ok (.iload_n 1, 1) := by decide +kernel
theorem dX15_sees_26 : decode cX15_sees 26 = .ok (.invokevirtual 486, 3) := by decide +kernel
theorem dX15_sees_29 : decode cX15_sees 29 = .ok (.ifCond .ne 8, 3) := by decide +kernel
theorem dX15_sees_32 : decode cX15_sees 32 = .ok (.bipush (-102), 2) := by decide +kernel
theorem dX15_sees_34 : decode cX15_sees 34 = .ok (.goto 19, 3) := by decide +kernel
theorem dX15_sees_37 : decode cX15_sees 37 = .ok (.aload_n 0, 1) := by decide +kernel
theorem dX15_sees_38 : decode cX15_sees 38 = .ok (.aload_n 0, 1) := by decide +kernel
theorem dX15_sees_39 : decode cX15_sees 39 = .ok (.getfield 257, 3) := by decide +kernel
theorem dX15_sees_42 : decode cX15_sees 42 = .ok (.iload_n 1, 1) := by decide +kernel
theorem dX15_sees_43 : decode cX15_sees 43 = .ok (.aaload, 1) := by decide +kernel
theorem dX15_sees_44 : decode cX15_sees 44 = .ok (.iload_n 2, 1) := by decide +kernel
theorem dX15_sees_45 : decode cX15_sees 45 = .ok (.invokevirtual 710, 3) := by decide +kernel
theorem dX15_sees_48 : decode cX15_sees 48 = .ok (.iload_n 3, 1) := by decide +kernel
theorem dX15_sees_49 : decode cX15_sees 49 = .ok (.lshr, 1) := by decide +kernel
theorem dX15_sees_50 : decode cX15_sees 50 = .ok (.lconst 1, 1) := by decide +kernel
theorem dX15_sees_51 : decode cX15_sees 51 = .ok (.land, 1) := by decide +kernel
theorem dX15_sees_52 : decode cX15_sees 52 = .ok (.l2i, 1) := by decide +kernel
theorem dX15_sees_53 : decode cX15_sees 53 = .ok (.ireturn, 1) := by decide +kernel
set_option maxRecDepth 20000 in
theorem moX15_sees_21 {o : Int32 × Hp} {F : Nat} {h : Hp} (hE : sX15_sees_21 F h  = some o) : Le h o.2 := by
  exact le_some2 hE
set_option maxRecDepth 20000 in
theorem moX15_sees_53 {o : Int32 × Hp} {F : Nat} {h : Hp} {t0 : Int32} (hE : sX15_sees_53 F h  t0 = some o) : Le h o.2 := by
  exact le_some2 hE
set_option maxRecDepth 20000 in
theorem moX15_sees {o : Int32 × Hp} {F : Nat} {h : Hp} {x0 : Nat} {x1 : Int32} {x2 : Int32} {x3 : Int32} (hE : sX15_sees F h x0 x1 x2 x3 = some o) : Le h o.2 := by
  rcases br_e hE with ⟨_, hE⟩ | ⟨_, hE⟩
  · exact moX15_sees_21 hE
  · rcases br_e hE with ⟨_, hE⟩ | ⟨_, hE⟩
    · exact moX15_sees_21 hE
    · rcases br_e hE with ⟨_, hE⟩ | ⟨_, hE⟩
      · exact moX15_sees_21 hE
      · rcases br_e hE with ⟨_, hE⟩ | ⟨_, hE⟩
        · obtain ⟨o_5, eo_5, hE⟩ := cl_e hE
          refine (moX15_has eo_5).tr ?_
          rcases br_e hE with ⟨_, hE⟩ | ⟨_, hE⟩
          · exact moX15_sees_53 hE
          · obtain ⟨r_7, er_7, hE⟩ := cl_e hE
            obtain ⟨g_8, hE⟩ := gd_e hE
            obtain ⟨r_9, er_9, hE⟩ := cl_e hE
            obtain ⟨o_10, eo_10, hE⟩ := cl_e hE
            refine (moX15_seenBy eo_10).tr ?_
            exact moX15_sees_53 hE
        · exact moX15_sees_21 hE
set_option maxRecDepth 20000 in
theorem bX15_sees_21 {p : Program} {l : Launch} {e : Env} {s : State} {m : MethodId} {args : Array Value} {below : List Frame} {meth : Method} {c : Code} {X : Ec} {h0 : Hp} {o : Int32 × Hp} {F : Nat} (C : Cx X p s m args meth c RX15 cX15_sees 4 (some .int) "sees") {h : Hp} {H : Heap} {locs : List Loc} (hkm : Km h0 h) (hW : Wx X h H) (hZ : va_S (aA (eB X)) s.heap H locs) (ls : Array Slot) (hl : lv_has ls 4 []) (hE : sX15_sees_21 F h  = some o) : W p l e (rm 4 111) s m args below meth c H locs 0 0 (MQ below (QI X h0 o.1 o.2) args s 0 0 (aA (eB X))) (F0 m 21 ls []) := by
  refine lv_bipush (v := (-101 : Int32)) C.1 C.2.1 dX15_sees_21 (by decide) ?_
  exact x_iret C rfl rfl hW hZ hkm hE dX15_sees_23
set_option maxRecDepth 20000 in
theorem bX15_sees_53 {p : Program} {l : Launch} {e : Env} {s : State} {m : MethodId} {args : Array Value} {below : List Frame} {meth : Method} {c : Code} {X : Ec} {h0 : Hp} {o : Int32 × Hp} {F : Nat} (C : Cx X p s m args meth c RX15 cX15_sees 4 (some .int) "sees") {h : Hp} {t0 : Int32} {H : Heap} {locs : List Loc} (hkm : Km h0 h) (hW : Wx X h H) (hZ : va_S (aA (eB X)) s.heap H locs) (ls : Array Slot) (hl : lv_has ls 4 []) (hE : sX15_sees_53 F h  t0 = some o) : W p l e (rm 4 111) s m args below meth c H locs 0 0 (MQ below (QI X h0 o.1 o.2) args s 0 0 (aA (eB X))) (F0 m 53 ls [.int t0]) := by
  exact x_iret C rfl rfl hW hZ hkm hE dX15_sees_53
set_option maxRecDepth 20000 in
theorem ct_X15_sees (l : Launch) (X : Ec) (F : Nat) {h : Hp} {x0 : Nat} {x1 : Int32} {x2 : Int32} {x3 : Int32} {o : Int32 × Hp} (k_x0 : hK h x0 = 15) (hE : sX15_sees F h x0 x1 x2 x3 = some o) : MetI l yX15_sees cX15_sees 4 (some .int) 4 111 X [.ref x0, .int x1, .int x2, .int x3] h o := by
  refine x_met (by decide) (Nat.le_of_ble_eq_true rfl) ?_
  intro p e s m below meth c ls C hl hW hZ
  have hl : lv_has ls 4 [(0, .ref x0), (1, .int x1), (2, .int x2), (3, .int x3)] := hl
  have hkm : Km h h := Km.rf h
  refine lv_iload_n C.1 C.2.1 dX15_sees_0 rfl (lv_at hl 2 rfl) ?_
  refine lv_if_lt (tgt := 21) C.1 C.2.1 dX15_sees_1 (by decide) (fun c_1 => ?_) (fun c_1 => ?_)
  · have hE := br_p hE c_1
    exact bX15_sees_21 C hkm hW hZ _ (lv_sub hl [] rfl) hE
  · have hE := br_n hE c_1
    refine lv_iload_n C.1 C.2.1 dX15_sees_4 rfl (lv_at hl 2 rfl) ?_
    refine lv_iconst (v := (1 : Int32)) C.1 C.2.1 dX15_sees_5 (by decide) ?_
    refine lv_icmp_gt (tgt := 21) C.1 C.2.1 dX15_sees_6 (by decide) (fun c_2 => ?_) (fun c_2 => ?_)
    · have hE := br_p hE c_2
      exact bX15_sees_21 C hkm hW hZ _ (lv_sub hl [] rfl) hE
    · have hE := br_n hE c_2
      refine lv_iload_n C.1 C.2.1 dX15_sees_9 rfl (lv_at hl 3 rfl) ?_
      refine lv_if_lt (tgt := 21) C.1 C.2.1 dX15_sees_10 (by decide) (fun c_3 => ?_) (fun c_3 => ?_)
      · have hE := br_p hE c_3
        exact bX15_sees_21 C hkm hW hZ _ (lv_sub hl [] rfl) hE
      · have hE := br_n hE c_3
        refine lv_iload_n C.1 C.2.1 dX15_sees_13 rfl (lv_at hl 3 rfl) ?_
        refine lv_aload_n C.1 C.2.1 dX15_sees_14 rfl (lv_at hl 0 rfl) ?_
        refine gf_X15_384 C hW k_x0 dX15_sees_15 ?_
        refine lv_icmp_lt (tgt := 24) C.1 C.2.1 dX15_sees_18 (by decide) (fun c_4 => ?_) (fun c_4 => ?_)
        · have hE := br_p hE c_4
          refine lv_aload_n C.1 C.2.1 dX15_sees_24 rfl (lv_at hl 0 rfl) ?_
          refine lv_iload_n C.1 C.2.1 dX15_sees_25 rfl (lv_at hl 1 rfl) ?_
          obtain ⟨o_5, eo_5, hE⟩ := cl_e hE
          refine x_kI (o := o_5) (z_runV (As := [.int x1]) (rest := []) C (ct_X15_has l X k_x0 eo_5) cw_X15_486 hW hZ k_x0 (by decide) rfl rfl rfl hl.1 (Nat.le_of_ble_eq_true rfl) rfl dX15_sees_26 ⟨Nat.le_of_ble_eq_true rfl, Nat.le_of_ble_eq_true rfl⟩ ⟨Nat.le_refl _, Nat.le_refl _⟩) hZ (fun _ _ hW km hZ => ?_)
          replace hkm := hkm.tr km
          replace k_x0 := km.at k_x0 (by decide)
          refine lv_if_ne (tgt := 37) C.1 C.2.1 dX15_sees_29 (by decide) (fun c_6 => ?_) (fun c_6 => ?_)
          · have hE := br_n hE c_6
            refine lv_aload_n C.1 C.2.1 dX15_sees_37 rfl (lv_at hl 0 rfl) ?_
            refine lv_aload_n C.1 C.2.1 dX15_sees_38 rfl (lv_at hl 0 rfl) ?_
            obtain ⟨r_7, er_7, hE⟩ := cl_e hE
            refine gf_X15_257 C hW k_x0 er_7 dX15_sees_39 (fun k_r_7 => ?_)
            refine lv_iload_n C.1 C.2.1 dX15_sees_42 rfl (lv_at hl 1 rfl) ?_
            obtain ⟨g_8, hE⟩ := gd_e hE
            obtain ⟨r_9, er_9, hE⟩ := cl_e hE
            refine y_aald (t0 := 5) C hW k_r_7 (by decide) (by decide) rfl rfl rfl (fun _ => rfl) g_8 er_9 dX15_sees_43 (fun k_r_9 => ?_)
            refine lv_iload_n C.1 C.2.1 dX15_sees_44 rfl (lv_at hl 2 rfl) ?_
            obtain ⟨o_10, eo_10, hE⟩ := cl_e hE
            refine x_kJ (o := o_10) (z_runV (As := [.ref r_9, .int x2]) (rest := []) C (ct_X15_seenBy l X F k_x0 k_r_9 eo_10) cw_X15_710 hW hZ k_x0 (by decide) rfl rfl rfl hl.1 (Nat.le_of_ble_eq_true rfl) rfl dX15_sees_45 ⟨Nat.le_of_ble_eq_true rfl, Nat.le_of_ble_eq_true rfl⟩ ⟨Nat.le_refl _, Nat.le_refl _⟩) hZ (fun _ _ hW km hZ => ?_)
            replace hkm := hkm.tr km
            replace k_x0 := km.at k_x0 (by decide)
            refine lv_iload_n C.1 C.2.1 dX15_sees_48 rfl (lv_at hl 3 rfl) ?_
            refine lv_lshr C.1 C.2.1 dX15_sees_49 rfl ?_
            refine lv_lconst (v := (1 : Int64)) C.1 C.2.1 dX15_sees_50 (by decide) ?_
            refine lv_land C.1 C.2.1 dX15_sees_51 ?_
            refine lv_l2i C.1 C.2.1 dX15_sees_52 rfl ?_
            exact bX15_sees_53 C hkm hW hZ _ (lv_sub hl [] rfl) hE
          · have hE := br_p hE c_6
            refine lv_bipush (v := (-102 : Int32)) C.1 C.2.1 dX15_sees_32 (by decide) ?_
            refine lv_goto (tgt := 53) C.1 C.2.1 dX15_sees_34 (by decide) ?_
            exact bX15_sees_53 C hkm hW hZ _ (lv_sub hl [] rfl) hE
        · have hE := br_n hE c_4
          exact bX15_sees_21 C hkm hW hZ _ (lv_sub hl [] rfl) hE
theorem dX15_view_0 : decode cX15_view 0 = .ok (.iload_n 2, 1) := by decide +kernel
theorem dX15_view_1 : decode cX15_view 1 = .ok (.ifCond .lt 8, 3) := by decide +kernel
theorem dX15_view_4 : decode cX15_view 4 = .ok (.iload_n 2, 1) := by decide +kernel
theorem dX15_view_5 : decode cX15_view 5 = .ok (.iconst 1, 1) := by decide +kernel
theorem dX15_view_6 : decode cX15_view 6 = .ok (.if_icmp .le 6, 3) := by decide +kernel
theorem dX15_view_9 : decode cX15_view 9 = .ok (.bipush (-101), 2) := by decide +kernel
theorem dX15_view_11 : decode cX15_view 11 = .ok (.ireturn, 1) := by decide +kernel
theorem dX15_view_12 : decode cX15_view 12 = .ok (.aload_n 0, 1) := by decide +kernel
theorem dX15_view_13 : decode cX15_view 13 = .ok (.iload_n 1, 1) := by decide +kernel
theorem dX15_view_14 : decode cX15_view 14 = .ok (.invokevirtual 486, 3) := by decide +kernel
theorem dX15_view_17 : decode cX15_view 17 = .ok (.ifCond .ne 6, 3) := by decide +kernel
theorem dX15_view_20 : decode cX15_view 20 = .ok (.bipush (-102), 2) := by decide +kernel
theorem dX15_view_22 : decode cX15_view 22 = .ok (.ireturn, 1) := by decide +kernel
theorem dX15_view_23 : decode cX15_view 23 = .ok (.aload_n 0, 1) := by decide +kernel
theorem dX15_view_24 : decode cX15_view 24 = .ok (.aload_n 0, 1) := by decide +kernel
theorem dX15_view_25 : decode cX15_view 25 = .ok (.getfield 257, 3) := by decide +kernel
theorem dX15_view_28 : decode cX15_view 28 = .ok (.iload_n 1, 1) := by decide +kernel
theorem dX15_view_29 : decode cX15_view 29 = .ok (.aaload, 1) := by decide +kernel
theorem dX15_view_30 : decode cX15_view 30 = .ok (.iload_n 2, 1) := by decide +kernel
theorem dX15_view_31 : decode cX15_view 31 = .ok (.invokevirtual 710, 3) := by decide +kernel
theorem dX15_view_34 : decode cX15_view 34 = .ok (.lstore_n 3, 1) := by decide +kernel
theorem dX15_view_35 : decode cX15_view 35 = .ok (.aload_n 0, 1) := by decide +kernel
theorem dX15_view_36 : decode cX15_view 36 = .ok (.iconst 0, 1) := by decide +kernel
theorem dX15_view_37 : decode cX15_view 37 = .ok (.putfield 11, 3) := by decide +kernel
theorem dX15_view_40 : decode cX15_view 40 = .ok (.aload_n 0, 1) := by decide +kernel
theorem dX15_view_41 : decode cX15_view 41 = .ok (.aload_n 0, 1) := by decide +kernel
theorem dX15_view_42 : decode cX15_view 42 = .ok (.getfield 257, 3) := by decide +kernel
theorem dX15_view_45 : decode cX15_view 45 = .ok (.iload_n 1, 1) := by decide +kernel
theorem dX15_view_46 : decode cX15_view 46 = .ok (.aaload, 1) := by decide +kernel
theorem dX15_view_47 : decode cX15_view 47 = .ok (.lload_n 3, 1) := by decide +kernel
theorem dX15_view_48 : decode cX15_view 48 = .ok (.invokevirtual 535, 3) := by decide +kernel
theorem dX15_view_51 : decode cX15_view 51 = .ok (.aload_n 0, 1) := by decide +kernel
theorem dX15_view_52 : decode cX15_view 52 = .ok (.getfield 11, 3) := by decide +kernel
theorem dX15_view_55 : decode cX15_view 55 = .ok (.ireturn, 1) := by decide +kernel
set_option maxRecDepth 20000 in
theorem moX15_view_9 {o : Int32 × Hp} {F : Nat} {h : Hp} (hE : sX15_view_9 F h  = some o) : Le h o.2 := by
  exact le_some2 hE
set_option maxRecDepth 20000 in
theorem moX15_view {o : Int32 × Hp} {F : Nat} {h : Hp} {x0 : Nat} {x1 : Int32} {x2 : Int32} (hE : sX15_view F h x0 x1 x2 = some o) : Le h o.2 := by
  rcases br_e hE with ⟨_, hE⟩ | ⟨_, hE⟩
  · exact moX15_view_9 hE
  · rcases br_e hE with ⟨_, hE⟩ | ⟨_, hE⟩
    · obtain ⟨o_3, eo_3, hE⟩ := cl_e hE
      refine (moX15_has eo_3).tr ?_
      rcases br_e hE with ⟨_, hE⟩ | ⟨_, hE⟩
      · exact le_some2 hE
      · obtain ⟨r_5, er_5, hE⟩ := cl_e hE
        obtain ⟨g_6, hE⟩ := gd_e hE
        obtain ⟨r_7, er_7, hE⟩ := cl_e hE
        obtain ⟨o_8, eo_8, hE⟩ := cl_e hE
        refine (moX15_seenBy eo_8).tr ?_
        obtain ⟨h_9, eh_9, hE⟩ := nm_e2 hE
        refine (le_I eh_9).tr ?_
        obtain ⟨r_10, er_10, hE⟩ := cl_e hE
        obtain ⟨g_11, hE⟩ := gd_e hE
        obtain ⟨r_12, er_12, hE⟩ := cl_e hE
        obtain ⟨o_13, eo_13, hE⟩ := cl_e hE
        refine (moX15_writeMen eo_13).tr ?_
        exact le_some2 hE
    · exact moX15_view_9 hE
set_option maxRecDepth 20000 in
theorem bX15_view_9 {p : Program} {l : Launch} {e : Env} {s : State} {m : MethodId} {args : Array Value} {below : List Frame} {meth : Method} {c : Code} {X : Ec} {h0 : Hp} {o : Int32 × Hp} {F : Nat} (C : Cx X p s m args meth c RX15 cX15_view 5 (some .int) "view") {h : Hp} {H : Heap} {locs : List Loc} (hkm : Km h0 h) (hW : Wx X h H) (hZ : va_S (aA (eB X)) s.heap H locs) (ls : Array Slot) (hl : lv_has ls 5 []) (hE : sX15_view_9 F h  = some o) : W p l e (rm 16 322) s m args below meth c H locs 0 0 (MQ below (QI X h0 o.1 o.2) args s 0 0 (aA (eB X))) (F0 m 9 ls []) := by
  refine lv_bipush (v := (-101 : Int32)) C.1 C.2.1 dX15_view_9 (by decide) ?_
  exact x_iret C rfl rfl hW hZ hkm hE dX15_view_11
set_option maxRecDepth 20000 in
theorem ct_X15_view (l : Launch) (X : Ec) (F : Nat) {h : Hp} {x0 : Nat} {x1 : Int32} {x2 : Int32} {o : Int32 × Hp} (k_x0 : hK h x0 = 15) (hE : sX15_view F h x0 x1 x2 = some o) : MetI l yX15_view cX15_view 5 (some .int) 16 322 X [.ref x0, .int x1, .int x2] h o := by
  refine x_met (by decide) (Nat.le_of_ble_eq_true rfl) ?_
  intro p e s m below meth c ls C hl hW hZ
  have hl : lv_has ls 5 [(0, .ref x0), (1, .int x1), (2, .int x2)] := hl
  have hkm : Km h h := Km.rf h
  refine lv_iload_n C.1 C.2.1 dX15_view_0 rfl (lv_at hl 2 rfl) ?_
  refine lv_if_lt (tgt := 9) C.1 C.2.1 dX15_view_1 (by decide) (fun c_1 => ?_) (fun c_1 => ?_)
  · have hE := br_p hE c_1
    exact bX15_view_9 C hkm hW hZ _ (lv_sub hl [] rfl) hE
  · have hE := br_n hE c_1
    refine lv_iload_n C.1 C.2.1 dX15_view_4 rfl (lv_at hl 2 rfl) ?_
    refine lv_iconst (v := (1 : Int32)) C.1 C.2.1 dX15_view_5 (by decide) ?_
    refine lv_icmp_le (tgt := 12) C.1 C.2.1 dX15_view_6 (by decide) (fun c_2 => ?_) (fun c_2 => ?_)
    · have hE := br_p hE c_2
      refine lv_aload_n C.1 C.2.1 dX15_view_12 rfl (lv_at hl 0 rfl) ?_
      refine lv_iload_n C.1 C.2.1 dX15_view_13 rfl (lv_at hl 1 rfl) ?_
      obtain ⟨o_3, eo_3, hE⟩ := cl_e hE
      refine x_kI (o := o_3) (z_runV (As := [.int x1]) (rest := []) C (ct_X15_has l X k_x0 eo_3) cw_X15_486 hW hZ k_x0 (by decide) rfl rfl rfl hl.1 (Nat.le_of_ble_eq_true rfl) rfl dX15_view_14 ⟨Nat.le_of_ble_eq_true rfl, Nat.le_of_ble_eq_true rfl⟩ ⟨Nat.le_refl _, Nat.le_refl _⟩) hZ (fun _ _ hW km hZ => ?_)
      replace hkm := hkm.tr km
      replace k_x0 := km.at k_x0 (by decide)
      refine lv_if_ne (tgt := 23) C.1 C.2.1 dX15_view_17 (by decide) (fun c_4 => ?_) (fun c_4 => ?_)
      · have hE := br_n hE c_4
        refine lv_aload_n C.1 C.2.1 dX15_view_23 rfl (lv_at hl 0 rfl) ?_
        refine lv_aload_n C.1 C.2.1 dX15_view_24 rfl (lv_at hl 0 rfl) ?_
        obtain ⟨r_5, er_5, hE⟩ := cl_e hE
        refine gf_X15_257 C hW k_x0 er_5 dX15_view_25 (fun k_r_5 => ?_)
        refine lv_iload_n C.1 C.2.1 dX15_view_28 rfl (lv_at hl 1 rfl) ?_
        obtain ⟨g_6, hE⟩ := gd_e hE
        obtain ⟨r_7, er_7, hE⟩ := cl_e hE
        refine y_aald (t0 := 5) C hW k_r_5 (by decide) (by decide) rfl rfl rfl (fun _ => rfl) g_6 er_7 dX15_view_29 (fun k_r_7 => ?_)
        refine lv_iload_n C.1 C.2.1 dX15_view_30 rfl (lv_at hl 2 rfl) ?_
        obtain ⟨o_8, eo_8, hE⟩ := cl_e hE
        refine x_kJ (o := o_8) (z_runV (As := [.ref r_7, .int x2]) (rest := []) C (ct_X15_seenBy l X F k_x0 k_r_7 eo_8) cw_X15_710 hW hZ k_x0 (by decide) rfl rfl rfl hl.1 (Nat.le_of_ble_eq_true rfl) rfl dX15_view_31 ⟨Nat.le_of_ble_eq_true rfl, Nat.le_of_ble_eq_true rfl⟩ ⟨Nat.le_refl _, Nat.le_refl _⟩) hZ (fun _ _ hW km hZ => ?_)
        replace hkm := hkm.tr km
        replace k_x0 := km.at k_x0 (by decide)
        refine lv_lstore_n (lv' := [(3, .long o_8.1), (0, .ref x0), (1, .int x1), (2, .int x2)]) C.1 C.2.1 dX15_view_34 rfl hl (by decide) rfl (fun ls hl => ?_)
        refine lv_aload_n C.1 C.2.1 dX15_view_35 rfl (lv_at hl 1 rfl) ?_
        refine lv_iconst (v := (0 : Int32)) C.1 C.2.1 dX15_view_36 (by decide) ?_
        obtain ⟨h_9, eh_9, hE⟩ := nm_e2 hE
        refine pf_X15_11 C hW hZ k_x0 eh_9 dX15_view_37 (fun _ _ hW km hZ => ?_)
        replace hkm := hkm.tr km
        replace k_x0 := km.at k_x0 (by decide)
        refine lv_aload_n C.1 C.2.1 dX15_view_40 rfl (lv_at hl 1 rfl) ?_
        refine lv_aload_n C.1 C.2.1 dX15_view_41 rfl (lv_at hl 1 rfl) ?_
        obtain ⟨r_10, er_10, hE⟩ := cl_e hE
        refine gf_X15_257 C hW k_x0 er_10 dX15_view_42 (fun k_r_10 => ?_)
        refine lv_iload_n C.1 C.2.1 dX15_view_45 rfl (lv_at hl 2 rfl) ?_
        obtain ⟨g_11, hE⟩ := gd_e hE
        obtain ⟨r_12, er_12, hE⟩ := cl_e hE
        refine y_aald (t0 := 5) C hW k_r_10 (by decide) (by decide) rfl rfl rfl (fun _ => rfl) g_11 er_12 dX15_view_46 (fun k_r_12 => ?_)
        refine lv_lload_n C.1 C.2.1 dX15_view_47 rfl (lv_at hl 0 rfl) ?_
        obtain ⟨o_13, eo_13, hE⟩ := cl_e hE
        refine x_kV (o := o_13) (z_runV (As := [.ref r_12, .long o_8.1]) (rest := []) C (ct_X15_writeMen l X F k_x0 k_r_12 eo_13) cw_X15_535 hW hZ k_x0 (by decide) rfl rfl rfl hl.1 (Nat.le_of_ble_eq_true rfl) rfl dX15_view_48 ⟨Nat.le_of_ble_eq_true rfl, Nat.le_of_ble_eq_true rfl⟩ ⟨Nat.le_refl _, Nat.le_refl _⟩) hZ (fun _ _ hW km hZ => ?_)
        replace hkm := hkm.tr km
        replace k_x0 := km.at k_x0 (by decide)
        refine lv_aload_n C.1 C.2.1 dX15_view_51 rfl (lv_at hl 1 rfl) ?_
        refine gf_X15_11 C hW k_x0 dX15_view_52 ?_
        exact x_iret C rfl rfl hW hZ hkm hE dX15_view_55
      · have hE := br_p hE c_4
        refine lv_bipush (v := (-102 : Int32)) C.1 C.2.1 dX15_view_20 (by decide) ?_
        exact x_iret C rfl rfl hW hZ hkm hE dX15_view_22
    · have hE := br_n hE c_2
      exact bX15_view_9 C hkm hW hZ _ (lv_sub hl [] rfl) hE
section
variable {p : Program} {l : Launch} {e : Env} {R : Room} {s : State} {m : MethodId} {args : Array Value} {below : List Frame} {meth : Method} {c : Code} {H : Heap} {locs : List Loc} {cells slots : Nat} {Q : State → Prop}
variable {cc : ByteArray} {pc : Nat} {ls : Array Slot} {rest : List Value} {X : Ec} {h h1 : Hp} {nL : Nat} {rt : Option FieldType} {mn : String}
theorem gf_X15_330 {a r : Nat} (C : Cx X p s m args meth c RX15 cc nL rt mn) (hW : Wx X h H) (ha : hK h a = 15) (hr : hR h a 45 = some r) (hdg : decode cc pc = .ok (.getfield 330, 3)) (kk : hK h r = 12 → W p l e R s m args below meth c H locs cells slots Q (F0 m (pc + 3) ls (.ref r :: rest))) : W p l e R s m args below meth c H locs cells slots Q (F0 m pc ls (.ref a :: rest)) :=
  y_getr C hW ha i_X15 (by decide) rfl (by decide) m_2156 rfl rfl hr hdg kk
end
theorem dX15_mayCome_0 : decode cX15_mayCome 0 = .ok (.aload_n 0, 1) := by decide +kernel
theorem dX15_mayCome_1 : decode cX15_mayCome 1 = .ok (.aload_n 0, 1) := by decide +kernel
theorem dX15_mayCome_2 : decode cX15_mayCome 2 = .ok (.getfield 330, 3) := by decide +kernel
theorem dX15_mayCome_5 : decode cX15_mayCome 5 = .ok (.iload_n 1, 1) := by decide +kernel
theorem dX15_mayCome_6 : decode cX15_mayCome 6 = .ok (.iconst 0, 1) := by decide +kernel
theorem dX15_mayCome_7 : decode cX15_mayCome 7 = .ok (.invokevirtual 578, 3) := by decide +kernel
theorem dX15_mayCome_10 : decode cX15_mayCome 10 = .ok (.aload_n 0, 1) := by decide +kernel
theorem dX15_mayCome_11 : decode cX15_mayCome 11 = .ok (.getfield 272, 3) := by decide +kernel
theorem dX15_mayCome_14 : decode cX15_mayCome 14 = .ok (.iload_n 2, 1) := by decide +kernel
theorem dX15_mayCome_15 : decode cX15_mayCome 15 = .ok (.iaload, 1) := by decide +kernel
theorem dX15_mayCome_16 : decode cX15_mayCome 16 = .ok (.iconst (-1), 1) := by decide +kernel
theorem dX15_mayCome_17 : decode cX15_mayCome 17 = .ok (.if_icmp .eq 7, 3) := by decide +kernel
theorem dX15_mayCome_20 : decode cX15_mayCome 20 = .ok (.iconst 1, 1) := by decide +kernel
theorem dX15_mayCome_21 : decode cX15_mayCome 21 = .ok (.goto 4, 3) := by decide +kernel
theorem dX15_mayCome_24 : decode cX15_mayCome 24 = .ok (.iconst 0, 1) := by decide +kernel
theorem dX15_mayCome_25 : decode cX15_mayCome 25 = .ok (.ireturn, 1) := by decide +kernel
set_option maxRecDepth 20000 in
theorem moX15_mayCome_25 {o : Int32 × Hp} {F : Nat} {h : Hp} {t0 : Int32} (hE : sX15_mayCome_25 F h  t0 = some o) : Le h o.2 := by
  obtain ⟨g_1, hE⟩ := gd_e hE
  exact le_some2 hE
set_option maxRecDepth 20000 in
theorem moX15_mayCome {o : Int32 × Hp} {F : Nat} {h : Hp} {x0 : Nat} {x1 : Int32} {x2 : Int32} (hE : sX15_mayCome F h x0 x1 x2 = some o) : Le h o.2 := by
  obtain ⟨r_1, er_1, hE⟩ := cl_e hE
  obtain ⟨o_2, eo_2, hE⟩ := cl_e hE
  refine (moX15_lead eo_2).tr ?_
  obtain ⟨r_3, er_3, hE⟩ := cl_e hE
  obtain ⟨g_4, hE⟩ := gd_e hE
  rcases br_e hE with ⟨_, hE⟩ | ⟨_, hE⟩
  · exact moX15_mayCome_25 hE
  · exact moX15_mayCome_25 hE
set_option maxRecDepth 20000 in
theorem bX15_mayCome_25 {p : Program} {l : Launch} {e : Env} {s : State} {m : MethodId} {args : Array Value} {below : List Frame} {meth : Method} {c : Code} {X : Ec} {h0 : Hp} {o : Int32 × Hp} {F : Nat} (C : Cx X p s m args meth c RX15 cX15_mayCome 3 (some .boolean) "mayCome") {h : Hp} {t0 : Int32} {H : Heap} {locs : List Loc} (hkm : Km h0 h) (hW : Wx X h H) (hZ : va_S (aA (eB X)) s.heap H locs) (ls : Array Slot) (hl : lv_has ls 3 []) (hE : sX15_mayCome_25 F h  t0 = some o) : W p l e (rm 3 84) s m args below meth c H locs 0 0 (MQ below (QI X h0 o.1 o.2) args s 0 0 (aA (eB X))) (F0 m 25 ls [.int t0]) := by
  obtain ⟨g_1, hE⟩ := gd_e hE
  exact x_iret C rfl (narB g_1) hW hZ hkm hE dX15_mayCome_25
set_option maxRecDepth 20000 in
theorem ct_X15_mayCome (l : Launch) (X : Ec) (F : Nat) {h : Hp} {x0 : Nat} {x1 : Int32} {x2 : Int32} {o : Int32 × Hp} (k_x0 : hK h x0 = 15) (hE : sX15_mayCome F h x0 x1 x2 = some o) : MetI l yX15_mayCome cX15_mayCome 3 (some .boolean) 3 84 X [.ref x0, .int x1, .int x2] h o := by
  refine x_met (by decide) (Nat.le_of_ble_eq_true rfl) ?_
  intro p e s m below meth c ls C hl hW hZ
  have hl : lv_has ls 3 [(0, .ref x0), (1, .int x1), (2, .int x2)] := hl
  have hkm : Km h h := Km.rf h
  refine lv_aload_n C.1 C.2.1 dX15_mayCome_0 rfl (lv_at hl 0 rfl) ?_
  refine lv_aload_n C.1 C.2.1 dX15_mayCome_1 rfl (lv_at hl 0 rfl) ?_
  obtain ⟨r_1, er_1, hE⟩ := cl_e hE
  refine gf_X15_330 C hW k_x0 er_1 dX15_mayCome_2 (fun k_r_1 => ?_)
  refine lv_iload_n C.1 C.2.1 dX15_mayCome_5 rfl (lv_at hl 1 rfl) ?_
  refine lv_iconst (v := (0 : Int32)) C.1 C.2.1 dX15_mayCome_6 (by decide) ?_
  obtain ⟨o_2, eo_2, hE⟩ := cl_e hE
  refine x_kV (o := o_2) (z_runV (As := [.ref r_1, .int x1, .int (0 : Int32)]) (rest := []) C (ct_X15_lead l X F k_x0 k_r_1 eo_2) cw_X15_578 hW hZ k_x0 (by decide) rfl rfl rfl hl.1 (Nat.le_of_ble_eq_true rfl) rfl dX15_mayCome_7 ⟨Nat.le_of_ble_eq_true rfl, Nat.le_of_ble_eq_true rfl⟩ ⟨Nat.le_refl _, Nat.le_refl _⟩) hZ (fun _ _ hW km hZ => ?_)
  replace hkm := hkm.tr km
  replace k_x0 := km.at k_x0 (by decide)
  refine lv_aload_n C.1 C.2.1 dX15_mayCome_10 rfl (lv_at hl 0 rfl) ?_
  obtain ⟨r_3, er_3, hE⟩ := cl_e hE
  refine gf_X15_272 C hW k_x0 er_3 dX15_mayCome_11 (fun k_r_3 => ?_)
  refine lv_iload_n C.1 C.2.1 dX15_mayCome_14 rfl (lv_at hl 2 rfl) ?_
  obtain ⟨g_4, hE⟩ := gd_e hE
  refine y_iald C hW k_r_3 g_4 dX15_mayCome_15 ?_
  refine lv_iconst (v := (-1 : Int32)) C.1 C.2.1 dX15_mayCome_16 (by decide) ?_
  refine lv_icmp_eq (tgt := 24) C.1 C.2.1 dX15_mayCome_17 (by decide) (fun c_5 => ?_) (fun c_5 => ?_)
  · have hE := br_p hE c_5
    refine lv_iconst (v := (0 : Int32)) C.1 C.2.1 dX15_mayCome_24 (by decide) ?_
    exact bX15_mayCome_25 C hkm hW hZ _ (lv_sub hl [] rfl) hE
  · have hE := br_n hE c_5
    refine lv_iconst (v := (1 : Int32)) C.1 C.2.1 dX15_mayCome_20 (by decide) ?_
    refine lv_goto (tgt := 25) C.1 C.2.1 dX15_mayCome_21 (by decide) ?_
    exact bX15_mayCome_25 C hkm hW hZ _ (lv_sub hl [] rfl) hE
theorem dX15_leadsTo_0 : decode cX15_leadsTo 0 = .ok (.aload_n 0, 1) := by decide +kernel
theorem dX15_leadsTo_1 : decode cX15_leadsTo 1 = .ok (.aload_n 0, 1) := by decide +kernel
theorem dX15_leadsTo_2 : decode cX15_leadsTo 2 = .ok (.getfield 330, 3) := by decide +kernel
theorem dX15_leadsTo_5 : decode cX15_leadsTo 5 = .ok (.invokevirtual 479, 3) := by decide +kernel
theorem dX15_leadsTo_8 : decode cX15_leadsTo 8 = .ok (.ifCond .le 5, 3) := by decide +kernel
theorem dX15_leadsTo_11 : decode cX15_leadsTo 11 = .ok (.iconst 0, 1) := by decide +kernel
theorem dX15_leadsTo_12 : decode cX15_leadsTo 12 = .ok (.ireturn, 1) := by decide +kernel
theorem dX15_leadsTo_13 : decode cX15_leadsTo 13 = .ok (.aload_n 0, 1) := by decide +kernel
theorem dX15_leadsTo_14 : decode cX15_leadsTo 14 = .ok (.aload_n 0, 1) := by decide +kernel
theorem dX15_leadsTo_15 : decode cX15_leadsTo 15 = .ok (.getfield 330, 3) := by decide +kernel
theorem dX15_leadsTo_18 : decode cX15_leadsTo 18 = .ok (.aload_n 0, 1) := by decide +kernel
theorem dX15_leadsTo_19 : decode cX15_leadsTo 19 = .ok (.getfield 288, 3) := by decide +kernel
theorem dX15_leadsTo_22 : decode cX15_leadsTo 22 = .ok (.invokevirtual 652, 3) := by decide +kernel
theorem dX15_leadsTo_25 : decode cX15_leadsTo 25 = .ok (.iconst 0, 1) := by decide +kernel
theorem dX15_leadsTo_26 : decode cX15_leadsTo 26 = .ok (.istore_n 2, 1) := by decide +kernel
theorem dX15_leadsTo_27 : decode cX15_leadsTo 27 = .ok (.iload_n 2, 1) := by decide +kernel
theorem dX15_leadsTo_28 : decode cX15_leadsTo 28 = .ok (.aload_n 0, 1) := by decide +kernel
theorem dX15_leadsTo_29 : decode cX15_leadsTo 29 = .ok (.getfield 288, 3) := by decide +kernel
theorem dX15_leadsTo_32 : decode cX15_leadsTo 32 = .ok (.getfield 575, 3) := by decide +kernel
theorem dX15_leadsTo_35 : decode cX15_leadsTo 35 = .ok (.if_icmp .ge 95, 3) := by decide +kernel
theorem dX15_leadsTo_38 : decode cX15_leadsTo 38 = .ok (.aload_n 0, 1) := by decide +kernel
theorem dX15_leadsTo_39 : decode cX15_leadsTo 39 = .ok (.getfield 288, 3) := by decide +kernel
theorem dX15_leadsTo_42 : decode cX15_leadsTo 42 = .ok (.getfield 602, 3) := by decide +kernel
theorem dX15_leadsTo_45 : decode cX15_leadsTo 45 = .ok (.iload_n 2, 1) := by decide +kernel
theorem dX15_leadsTo_46 : decode cX15_leadsTo 46 = .ok (.iaload, 1) := by decide +kernel
theorem dX15_leadsTo_47 : decode cX15_leadsTo 47 = .ok (.iconst 2, 1) := by decide +kernel
theorem dX15_leadsTo_48 : decode cX15_leadsTo 48 = .ok (.if_icmp .ge 76, 3) := by decide +kernel
theorem dX15_leadsTo_51 : decode cX15_leadsTo 51 = .ok (.aload_n 0, 1) := by decide +kernel
theorem dX15_leadsTo_52 : decode cX15_leadsTo 52 = .ok (.aload_n 0, 1) := by decide +kernel
theorem dX15_leadsTo_53 : decode cX15_leadsTo 53 = .ok (.getfield 330, 3) := by decide +kernel
theorem dX15_leadsTo_56 : decode cX15_leadsTo 56 = .ok (.aload_n 0, 1) := by decide +kernel
theorem dX15_leadsTo_57 : decode cX15_leadsTo 57 = .ok (.getfield 288, 3) := by decide +kernel
theorem dX15_leadsTo_60 : decode cX15_leadsTo 60 = .ok (.iload_n 2, 1) := by decide +kernel
theorem dX15_leadsTo_61 : decode cX15_leadsTo 61 = .ok (.aload_n 0, 1) := by decide +kernel
theorem dX15_leadsTo_62 : decode cX15_leadsTo 62 = .ok (.getfield 295, 3) := by decide +kernel
theorem dX15_leadsTo_65 : decode cX15_leadsTo 65 = .ok (.invokevirtual 627, 3) := by decide +kernel
theorem dX15_leadsTo_68 : decode cX15_leadsTo 68 = .ok (.iconst 1, 1) := by decide +kernel
theorem dX15_leadsTo_69 : decode cX15_leadsTo 69 = .ok (.istore_n 3, 1) := by decide +kernel
theorem dX15_leadsTo_70 : decode cX15_leadsTo 70 = .ok (.iconst 0, 1) := by decide +kernel
theorem dX15_leadsTo_71 : decode cX15_leadsTo 71 = .ok (.istore 4, 2) := by decide +kernel
theorem dX15_leadsTo_73 : decode cX15_leadsTo 73 = .ok (.iload 4, 2) := by decide +kernel
theorem dX15_leadsTo_75 : decode cX15_leadsTo 75 = .ok (.aload_n 0, 1) := by decide +kernel
theorem dX15_leadsTo_76 : decode cX15_leadsTo 76 = .ok (.getfield 384, 3) := by decide +kernel
theorem dX15_leadsTo_79 : decode cX15_leadsTo 79 = .ok (.if_icmp .ge 39, 3) := by decide +kernel
theorem dX15_leadsTo_82 : decode cX15_leadsTo 82 = .ok (.iload_n 3, 1) := by decide +kernel
theorem dX15_leadsTo_83 : decode cX15_leadsTo 83 = .ok (.ifCond .eq 35, 3) := by decide +kernel
theorem dX15_leadsTo_86 : decode cX15_leadsTo 86 = .ok (.aload_n 0, 1) := by decide +kernel
theorem dX15_leadsTo_87 : decode cX15_leadsTo 87 = .ok (.getfield 295, 3) := by decide +kernel
theorem dX15_leadsTo_90 : decode cX15_leadsTo 90 = .ok (.getfield 396, 3) := by decide +kernel
theorem dX15_leadsTo_93 : decode cX15_leadsTo 93 = .ok (.iload 4, 2) := by decide +kernel
theorem dX15_leadsTo_95 : decode cX15_leadsTo 95 = .ok (.iaload, 1) := by decide +kernel
theorem dX15_leadsTo_96 : decode cX15_leadsTo 96 = .ok (.aload_n 1, 1) := by decide +kernel
theorem dX15_leadsTo_97 : decode cX15_leadsTo 97 = .ok (.getfield 396, 3) := by decide +kernel
theorem dX15_leadsTo_100 : decode cX15_leadsTo 100 = .ok (.iload 4, 2) := by decide +kernel
theorem dX15_leadsTo_102 : decode cX15_leadsTo 102 = .ok (.iaload, 1) := by decide +kernel
theorem dX15_leadsTo_103 : decode cX15_leadsTo 103 = .ok (.if_icmp .ne 7, 3) := by decide +kernel
theorem dX15_leadsTo_106 : decode cX15_leadsTo 106 = .ok (.iconst 1, 1) := by decide +kernel
theorem dX15_leadsTo_107 : decode cX15_leadsTo 107 = .ok (.goto 4, 3) := by decide +kernel
theorem dX15_leadsTo_110 : decode cX15_leadsTo 110 = .ok (.iconst 0, 1) := by decide +kernel
theorem dX15_leadsTo_111 : decode cX15_leadsTo 111 = .ok (.istore_n 3, 1) := by decide +kernel
theorem dX15_leadsTo_112 : decode cX15_leadsTo 112 = .ok (.iinc 4 1, 3) := by decide +kernel
theorem dX15_leadsTo_115 : decode cX15_leadsTo 115 = .ok (.goto (-42), 3) := by decide +kernel
theorem dX15_leadsTo_118 : decode cX15_leadsTo 118 = .ok (.iload_n 3, 1) := by decide +kernel
theorem dX15_leadsTo_119 : decode cX15_leadsTo 119 = .ok (.ifCond .eq 5, 3) := by decide +kernel
theorem dX15_leadsTo_122 : decode cX15_leadsTo 122 = .ok (.iconst 1, 1) := by decide +kernel
theorem dX15_leadsTo_123 : decode cX15_leadsTo 123 = .ok (.ireturn, 1) := by decide +kernel
theorem dX15_leadsTo_124 : decode cX15_leadsTo 124 = .ok (.iinc 2 1, 3) := by decide +kernel
theorem dX15_leadsTo_127 : decode cX15_leadsTo 127 = .ok (.goto (-100), 3) := by decide +kernel
theorem dX15_leadsTo_130 : decode cX15_leadsTo 130 = .ok (.iconst 0, 1) := by decide +kernel
theorem dX15_leadsTo_131 : decode cX15_leadsTo 131 = .ok (.ireturn, 1) := by decide +kernel
set_option maxRecDepth 20000 in
theorem moX15_leadsTo_124 {o : Int32 × Hp} {k_27 : Hp → Nat → Nat → Int32 → Option (Int32 × Hp)} {F : Nat} (mk_27 : ∀ (h : Hp) (x0 : Nat) (x1 : Nat) (x2 : Int32), k_27 h x0 x1 x2 = some o → Le h o.2) {h : Hp} {x0 : Nat} {x1 : Nat} {x2 : Int32} (hE : sX15_leadsTo_124 F k_27 h x0 x1 x2 = some o) : Le h o.2 := by
  obtain ⟨v_1, ev_1, hE⟩ := nm_e2 hE
  exact mk_27 _ _ _ _ hE
set_option maxRecDepth 20000 in
theorem moX15_leadsTo_118 {o : Int32 × Hp} {k_27 : Hp → Nat → Nat → Int32 → Option (Int32 × Hp)} {F : Nat} (mk_27 : ∀ (h : Hp) (x0 : Nat) (x1 : Nat) (x2 : Int32), k_27 h x0 x1 x2 = some o → Le h o.2) {h : Hp} {x0 : Nat} {x1 : Nat} {x2 : Int32} {x3 : Int32} (hE : sX15_leadsTo_118 F k_27 h x0 x1 x2 x3 = some o) : Le h o.2 := by
  rcases br_e hE with ⟨_, hE⟩ | ⟨_, hE⟩
  · exact moX15_leadsTo_124 mk_27 hE
  · exact le_some2 hE
set_option maxRecDepth 20000 in
theorem moX15_leadsTo_111 {o : Int32 × Hp} {k_27 : Hp → Nat → Nat → Int32 → Option (Int32 × Hp)} {k_73 : Hp → Nat → Nat → Int32 → Int32 → Int32 → Option (Int32 × Hp)} {F : Nat} (mk_27 : ∀ (h : Hp) (x0 : Nat) (x1 : Nat) (x2 : Int32), k_27 h x0 x1 x2 = some o → Le h o.2) (mk_73 : ∀ (h : Hp) (x0 : Nat) (x1 : Nat) (x2 : Int32) (x3 : Int32) (x4 : Int32), k_73 h x0 x1 x2 x3 x4 = some o → Le h o.2) {h : Hp} {x0 : Nat} {x1 : Nat} {x2 : Int32} {x4 : Int32} {t0 : Int32} (hE : sX15_leadsTo_111 F k_27 k_73 h x0 x1 x2 x4 t0 = some o) : Le h o.2 := by
  obtain ⟨v_1, ev_1, hE⟩ := nm_e2 hE
  exact mk_73 _ _ _ _ _ _ hE
set_option maxRecDepth 20000 in
theorem moX15_leadsTo_73 {o : Int32 × Hp} {k_27 : Hp → Nat → Nat → Int32 → Option (Int32 × Hp)} {F : Nat} (mk_27 : ∀ (h : Hp) (x0 : Nat) (x1 : Nat) (x2 : Int32), k_27 h x0 x1 x2 = some o → Le h o.2) : ∀ (f : Nat) {h : Hp} {x0 : Nat} {x1 : Nat} {x2 : Int32} {x3 : Int32} {x4 : Int32}, sX15_leadsTo_73 F k_27 f h x0 x1 x2 x3 x4 = some o → Le h o.2 := by
  intro f
  induction f with
  | zero =>
    intro h x0 x1 x2 x3 x4 hE
    rw [sX15_leadsTo_73] at hE
    cases hE
  | succ f ih =>
    intro h x0 x1 x2 x3 x4 hE
    rw [sX15_leadsTo_73] at hE
    have mk_73 : ∀ (h : Hp) (x0 : Nat) (x1 : Nat) (x2 : Int32) (x3 : Int32) (x4 : Int32), sX15_leadsTo_73 F k_27 f h x0 x1 x2 x3 x4 = some o → Le h o.2 := fun h x0 x1 x2 x3 x4 hE => ih hE
    rcases br_e hE with ⟨_, hE⟩ | ⟨_, hE⟩
    · exact moX15_leadsTo_118 mk_27 hE
    · rcases br_e hE with ⟨_, hE⟩ | ⟨_, hE⟩
      · exact moX15_leadsTo_118 mk_27 hE
      · obtain ⟨r_3, er_3, hE⟩ := cl_e hE
        obtain ⟨r_4, er_4, hE⟩ := cl_e hE
        obtain ⟨g_5, hE⟩ := gd_e hE
        obtain ⟨r_6, er_6, hE⟩ := cl_e hE
        obtain ⟨g_7, hE⟩ := gd_e hE
        rcases br_e hE with ⟨_, hE⟩ | ⟨_, hE⟩
        · exact moX15_leadsTo_111 mk_27 mk_73 hE
        · exact moX15_leadsTo_111 mk_27 mk_73 hE
set_option maxRecDepth 20000 in
theorem moX15_leadsTo_27 {o : Int32 × Hp} {F : Nat} : ∀ (f : Nat) {h : Hp} {x0 : Nat} {x1 : Nat} {x2 : Int32}, sX15_leadsTo_27 F f h x0 x1 x2 = some o → Le h o.2 := by
  intro f
  induction f with
  | zero =>
    intro h x0 x1 x2 hE
    rw [sX15_leadsTo_27] at hE
    cases hE
  | succ f ih =>
    intro h x0 x1 x2 hE
    rw [sX15_leadsTo_27] at hE
    have mk_27 : ∀ (h : Hp) (x0 : Nat) (x1 : Nat) (x2 : Int32), sX15_leadsTo_27 F f h x0 x1 x2 = some o → Le h o.2 := fun h x0 x1 x2 hE => ih hE
    obtain ⟨r_1, er_1, hE⟩ := cl_e hE
    rcases br_e hE with ⟨_, hE⟩ | ⟨_, hE⟩
    · exact le_some2 hE
    · obtain ⟨r_3, er_3, hE⟩ := cl_e hE
      obtain ⟨r_4, er_4, hE⟩ := cl_e hE
      obtain ⟨g_5, hE⟩ := gd_e hE
      rcases br_e hE with ⟨_, hE⟩ | ⟨_, hE⟩
      · exact moX15_leadsTo_124 mk_27 hE
      · obtain ⟨r_7, er_7, hE⟩ := cl_e hE
        obtain ⟨r_8, er_8, hE⟩ := cl_e hE
        obtain ⟨r_9, er_9, hE⟩ := cl_e hE
        obtain ⟨o_10, eo_10, hE⟩ := cl_e hE
        refine (moX15_make eo_10).tr ?_
        exact moX15_leadsTo_73 mk_27 _ hE
set_option maxRecDepth 20000 in
theorem moX15_leadsTo {o : Int32 × Hp} {F : Nat} {h : Hp} {x0 : Nat} {x1 : Nat} (hE : sX15_leadsTo F h x0 x1 = some o) : Le h o.2 := by
  obtain ⟨r_1, er_1, hE⟩ := cl_e hE
  obtain ⟨o_2, eo_2, hE⟩ := cl_e hE
  refine (moX15_wrongOf eo_2).tr ?_
  rcases br_e hE with ⟨_, hE⟩ | ⟨_, hE⟩
  · obtain ⟨r_4, er_4, hE⟩ := cl_e hE
    obtain ⟨r_5, er_5, hE⟩ := cl_e hE
    obtain ⟨o_6, eo_6, hE⟩ := cl_e hE
    refine (moX15_legal eo_6).tr ?_
    exact moX15_leadsTo_27 _ hE
  · exact le_some2 hE
set_option maxRecDepth 20000 in
theorem bX15_leadsTo_124 {p : Program} {l : Launch} {e : Env} {s : State} {m : MethodId} {args : Array Value} {below : List Frame} {meth : Method} {c : Code} {X : Ec} {h0 : Hp} {o : Int32 × Hp} {k_27 : Hp → Nat → Nat → Int32 → Option (Int32 × Hp)} {F : Nat} (C : Cx X p s m args meth c RX15 cX15_leadsTo 5 (some .boolean) "leadsTo") (hk_27 : ∀ (h : Hp) (x0 : Nat) (x1 : Nat) (x2 : Int32) (H : Heap) (locs : List Loc), hK h x0 = 15 → hK h x1 = 12 → Km h0 h → Wx X h H → va_S (aA (eB X)) s.heap H locs → ∀ (ls : Array Slot), lv_has ls 5 [(0, .ref x0), (1, .ref x1), (2, .int x2)] → k_27 h x0 x1 x2 = some o → W p l e (rm 7 191) s m args below meth c H locs 0 0 (MQ below (QI X h0 o.1 o.2) args s 0 0 (aA (eB X))) (F0 m 27 ls [])) {h : Hp} {x0 : Nat} {x1 : Nat} {x2 : Int32} {H : Heap} {locs : List Loc} (k_x0 : hK h x0 = 15) (k_x1 : hK h x1 = 12) (hkm : Km h0 h) (hW : Wx X h H) (hZ : va_S (aA (eB X)) s.heap H locs) (ls : Array Slot) (hl : lv_has ls 5 [(0, .ref x0), (1, .ref x1), (2, .int x2)]) (hE : sX15_leadsTo_124 F k_27 h x0 x1 x2 = some o) : W p l e (rm 7 191) s m args below meth c H locs 0 0 (MQ below (QI X h0 o.1 o.2) args s 0 0 (aA (eB X))) (F0 m 124 ls []) := by
  obtain ⟨v_1, ev_1, hE⟩ := nm_e2 hE
  refine lv_iinc (v := v_1) (lv' := [(2, .int v_1), (0, .ref x0), (1, .ref x1)]) C.1 C.2.1 dX15_leadsTo_124 hl (k := 2) rfl (by rw [ev_1]; rfl) (by decide) rfl (fun ls hl => ?_)
  refine lv_goto (tgt := 27) C.1 C.2.1 dX15_leadsTo_127 (by decide) ?_
  exact hk_27 _ _ _ _ _ _ k_x0 k_x1 hkm hW hZ _ (lv_sub hl [1, 2, 0] rfl) hE
set_option maxRecDepth 20000 in
theorem bX15_leadsTo_118 {p : Program} {l : Launch} {e : Env} {s : State} {m : MethodId} {args : Array Value} {below : List Frame} {meth : Method} {c : Code} {X : Ec} {h0 : Hp} {o : Int32 × Hp} {k_27 : Hp → Nat → Nat → Int32 → Option (Int32 × Hp)} {F : Nat} (C : Cx X p s m args meth c RX15 cX15_leadsTo 5 (some .boolean) "leadsTo") (hk_27 : ∀ (h : Hp) (x0 : Nat) (x1 : Nat) (x2 : Int32) (H : Heap) (locs : List Loc), hK h x0 = 15 → hK h x1 = 12 → Km h0 h → Wx X h H → va_S (aA (eB X)) s.heap H locs → ∀ (ls : Array Slot), lv_has ls 5 [(0, .ref x0), (1, .ref x1), (2, .int x2)] → k_27 h x0 x1 x2 = some o → W p l e (rm 7 191) s m args below meth c H locs 0 0 (MQ below (QI X h0 o.1 o.2) args s 0 0 (aA (eB X))) (F0 m 27 ls [])) {h : Hp} {x0 : Nat} {x1 : Nat} {x2 : Int32} {x3 : Int32} {H : Heap} {locs : List Loc} (k_x0 : hK h x0 = 15) (k_x1 : hK h x1 = 12) (hkm : Km h0 h) (hW : Wx X h H) (hZ : va_S (aA (eB X)) s.heap H locs) (ls : Array Slot) (hl : lv_has ls 5 [(0, .ref x0), (1, .ref x1), (2, .int x2), (3, .int x3)]) (hE : sX15_leadsTo_118 F k_27 h x0 x1 x2 x3 = some o) : W p l e (rm 7 191) s m args below meth c H locs 0 0 (MQ below (QI X h0 o.1 o.2) args s 0 0 (aA (eB X))) (F0 m 118 ls []) := by
  refine lv_iload_n C.1 C.2.1 dX15_leadsTo_118 rfl (lv_at hl 3 rfl) ?_
  refine lv_if_eq (tgt := 124) C.1 C.2.1 dX15_leadsTo_119 (by decide) (fun c_1 => ?_) (fun c_1 => ?_)
  · have hE := br_p hE c_1
    exact bX15_leadsTo_124 C hk_27 k_x0 k_x1 hkm hW hZ _ (lv_sub hl [0, 1, 2] rfl) hE
  · have hE := br_n hE c_1
    refine lv_iconst (v := (1 : Int32)) C.1 C.2.1 dX15_leadsTo_122 (by decide) ?_
    exact x_iret C rfl (by decide) hW hZ hkm hE dX15_leadsTo_123
set_option maxRecDepth 20000 in
theorem bX15_leadsTo_111 {p : Program} {l : Launch} {e : Env} {s : State} {m : MethodId} {args : Array Value} {below : List Frame} {meth : Method} {c : Code} {X : Ec} {h0 : Hp} {o : Int32 × Hp} {k_27 : Hp → Nat → Nat → Int32 → Option (Int32 × Hp)} {k_73 : Hp → Nat → Nat → Int32 → Int32 → Int32 → Option (Int32 × Hp)} {F : Nat} (C : Cx X p s m args meth c RX15 cX15_leadsTo 5 (some .boolean) "leadsTo") (hk_27 : ∀ (h : Hp) (x0 : Nat) (x1 : Nat) (x2 : Int32) (H : Heap) (locs : List Loc), hK h x0 = 15 → hK h x1 = 12 → Km h0 h → Wx X h H → va_S (aA (eB X)) s.heap H locs → ∀ (ls : Array Slot), lv_has ls 5 [(0, .ref x0), (1, .ref x1), (2, .int x2)] → k_27 h x0 x1 x2 = some o → W p l e (rm 7 191) s m args below meth c H locs 0 0 (MQ below (QI X h0 o.1 o.2) args s 0 0 (aA (eB X))) (F0 m 27 ls [])) (hk_73 : ∀ (h : Hp) (x0 : Nat) (x1 : Nat) (x2 : Int32) (x3 : Int32) (x4 : Int32) (H : Heap) (locs : List Loc), hK h x0 = 15 → hK h x1 = 12 → Km h0 h → Wx X h H → va_S (aA (eB X)) s.heap H locs → ∀ (ls : Array Slot), lv_has ls 5 [(0, .ref x0), (1, .ref x1), (2, .int x2), (3, .int x3), (4, .int x4)] → k_73 h x0 x1 x2 x3 x4 = some o → W p l e (rm 7 191) s m args below meth c H locs 0 0 (MQ below (QI X h0 o.1 o.2) args s 0 0 (aA (eB X))) (F0 m 73 ls [])) {h : Hp} {x0 : Nat} {x1 : Nat} {x2 : Int32} {x4 : Int32} {t0 : Int32} {H : Heap} {locs : List Loc} (k_x0 : hK h x0 = 15) (k_x1 : hK h x1 = 12) (hkm : Km h0 h) (hW : Wx X h H) (hZ : va_S (aA (eB X)) s.heap H locs) (ls : Array Slot) (hl : lv_has ls 5 [(0, .ref x0), (1, .ref x1), (2, .int x2), (4, .int x4)]) (hE : sX15_leadsTo_111 F k_27 k_73 h x0 x1 x2 x4 t0 = some o) : W p l e (rm 7 191) s m args below meth c H locs 0 0 (MQ below (QI X h0 o.1 o.2) args s 0 0 (aA (eB X))) (F0 m 111 ls [.int t0]) := by
  refine lv_istore_n (lv' := [(3, .int t0), (0, .ref x0), (1, .ref x1), (2, .int x2), (4, .int x4)]) C.1 C.2.1 dX15_leadsTo_111 rfl hl (by decide) rfl (fun ls hl => ?_)
  obtain ⟨v_1, ev_1, hE⟩ := nm_e2 hE
  refine lv_iinc (v := v_1) (lv' := [(4, .int v_1), (3, .int t0), (0, .ref x0), (1, .ref x1), (2, .int x2)]) C.1 C.2.1 dX15_leadsTo_112 hl (k := 4) rfl (by rw [ev_1]; rfl) (by decide) rfl (fun ls hl => ?_)
  refine lv_goto (tgt := 73) C.1 C.2.1 dX15_leadsTo_115 (by decide) ?_
  exact hk_73 _ _ _ _ _ _ _ _ k_x0 k_x1 hkm hW hZ _ (lv_sub hl [2, 3, 4, 1, 0] rfl) hE
set_option maxRecDepth 20000 in
theorem bX15_leadsTo_73 {p : Program} {l : Launch} {e : Env} {s : State} {m : MethodId} {args : Array Value} {below : List Frame} {meth : Method} {c : Code} {X : Ec} {h0 : Hp} {o : Int32 × Hp} {k_27 : Hp → Nat → Nat → Int32 → Option (Int32 × Hp)} {F : Nat} (C : Cx X p s m args meth c RX15 cX15_leadsTo 5 (some .boolean) "leadsTo") (hk_27 : ∀ (h : Hp) (x0 : Nat) (x1 : Nat) (x2 : Int32) (H : Heap) (locs : List Loc), hK h x0 = 15 → hK h x1 = 12 → Km h0 h → Wx X h H → va_S (aA (eB X)) s.heap H locs → ∀ (ls : Array Slot), lv_has ls 5 [(0, .ref x0), (1, .ref x1), (2, .int x2)] → k_27 h x0 x1 x2 = some o → W p l e (rm 7 191) s m args below meth c H locs 0 0 (MQ below (QI X h0 o.1 o.2) args s 0 0 (aA (eB X))) (F0 m 27 ls [])) : ∀ (f : Nat) {h : Hp} {x0 : Nat} {x1 : Nat} {x2 : Int32} {x3 : Int32} {x4 : Int32} {H : Heap} {locs : List Loc} (k_x0 : hK h x0 = 15) (k_x1 : hK h x1 = 12), Km h0 h → Wx X h H → va_S (aA (eB X)) s.heap H locs → ∀ (ls : Array Slot), lv_has ls 5 [(0, .ref x0), (1, .ref x1), (2, .int x2), (3, .int x3), (4, .int x4)] → sX15_leadsTo_73 F k_27 f h x0 x1 x2 x3 x4 = some o → W p l e (rm 7 191) s m args below meth c H locs 0 0 (MQ below (QI X h0 o.1 o.2) args s 0 0 (aA (eB X))) (F0 m 73 ls []) := by
  intro f
  induction f with
  | zero =>
    intro h x0 x1 x2 x3 x4 H locs k_x0 k_x1 hkm hW hZ ls hl hE
    rw [sX15_leadsTo_73] at hE
    cases hE
  | succ f ih =>
    intro h x0 x1 x2 x3 x4 H locs k_x0 k_x1 hkm hW hZ ls hl hE
    rw [sX15_leadsTo_73] at hE
    have hk_73 : ∀ (h : Hp) (x0 : Nat) (x1 : Nat) (x2 : Int32) (x3 : Int32) (x4 : Int32) (H : Heap) (locs : List Loc), hK h x0 = 15 → hK h x1 = 12 → Km h0 h → Wx X h H → va_S (aA (eB X)) s.heap H locs → ∀ (ls : Array Slot), lv_has ls 5 [(0, .ref x0), (1, .ref x1), (2, .int x2), (3, .int x3), (4, .int x4)] → sX15_leadsTo_73 F k_27 f h x0 x1 x2 x3 x4 = some o → W p l e (rm 7 191) s m args below meth c H locs 0 0 (MQ below (QI X h0 o.1 o.2) args s 0 0 (aA (eB X))) (F0 m 73 ls []) := fun h x0 x1 x2 x3 x4 H locs k_x0 k_x1 a b c ls hl hE => ih k_x0 k_x1 a b c ls hl hE
    refine lv_iload C.1 C.2.1 dX15_leadsTo_73 (lv_at hl 4 rfl) ?_
    refine lv_aload_n C.1 C.2.1 dX15_leadsTo_75 rfl (lv_at hl 0 rfl) ?_
    refine gf_X15_384 C hW k_x0 dX15_leadsTo_76 ?_
    refine lv_icmp_ge (tgt := 118) C.1 C.2.1 dX15_leadsTo_79 (by decide) (fun c_1 => ?_) (fun c_1 => ?_)
    · have hE := br_p hE c_1
      exact bX15_leadsTo_118 C hk_27 k_x0 k_x1 hkm hW hZ _ (lv_sub hl [0, 1, 2, 3] rfl) hE
    · have hE := br_n hE c_1
      refine lv_iload_n C.1 C.2.1 dX15_leadsTo_82 rfl (lv_at hl 3 rfl) ?_
      refine lv_if_eq (tgt := 118) C.1 C.2.1 dX15_leadsTo_83 (by decide) (fun c_2 => ?_) (fun c_2 => ?_)
      · have hE := br_p hE c_2
        exact bX15_leadsTo_118 C hk_27 k_x0 k_x1 hkm hW hZ _ (lv_sub hl [0, 1, 2, 3] rfl) hE
      · have hE := br_n hE c_2
        refine lv_aload_n C.1 C.2.1 dX15_leadsTo_86 rfl (lv_at hl 0 rfl) ?_
        obtain ⟨r_3, er_3, hE⟩ := cl_e hE
        refine gf_X15_295 C hW k_x0 er_3 dX15_leadsTo_87 (fun k_r_3 => ?_)
        obtain ⟨r_4, er_4, hE⟩ := cl_e hE
        refine gf_X15_396 C hW k_r_3 er_4 dX15_leadsTo_90 (fun k_r_4 => ?_)
        refine lv_iload C.1 C.2.1 dX15_leadsTo_93 (lv_at hl 4 rfl) ?_
        obtain ⟨g_5, hE⟩ := gd_e hE
        refine y_iald C hW k_r_4 g_5 dX15_leadsTo_95 ?_
        refine lv_aload_n C.1 C.2.1 dX15_leadsTo_96 rfl (lv_at hl 1 rfl) ?_
        obtain ⟨r_6, er_6, hE⟩ := cl_e hE
        refine gf_X15_396 C hW k_x1 er_6 dX15_leadsTo_97 (fun k_r_6 => ?_)
        refine lv_iload C.1 C.2.1 dX15_leadsTo_100 (lv_at hl 4 rfl) ?_
        obtain ⟨g_7, hE⟩ := gd_e hE
        refine y_iald C hW k_r_6 g_7 dX15_leadsTo_102 ?_
        refine lv_icmp_ne (tgt := 110) C.1 C.2.1 dX15_leadsTo_103 (by decide) (fun c_8 => ?_) (fun c_8 => ?_)
        · have hE := br_n hE c_8
          refine lv_iconst (v := (0 : Int32)) C.1 C.2.1 dX15_leadsTo_110 (by decide) ?_
          exact bX15_leadsTo_111 C hk_27 hk_73 k_x0 k_x1 hkm hW hZ _ (lv_sub hl [0, 1, 2, 4] rfl) hE
        · have hE := br_p hE c_8
          refine lv_iconst (v := (1 : Int32)) C.1 C.2.1 dX15_leadsTo_106 (by decide) ?_
          refine lv_goto (tgt := 111) C.1 C.2.1 dX15_leadsTo_107 (by decide) ?_
          exact bX15_leadsTo_111 C hk_27 hk_73 k_x0 k_x1 hkm hW hZ _ (lv_sub hl [0, 1, 2, 4] rfl) hE
set_option maxRecDepth 20000 in
theorem bX15_leadsTo_27 {p : Program} {l : Launch} {e : Env} {s : State} {m : MethodId} {args : Array Value} {below : List Frame} {meth : Method} {c : Code} {X : Ec} {h0 : Hp} {o : Int32 × Hp} {F : Nat} (C : Cx X p s m args meth c RX15 cX15_leadsTo 5 (some .boolean) "leadsTo") : ∀ (f : Nat) {h : Hp} {x0 : Nat} {x1 : Nat} {x2 : Int32} {H : Heap} {locs : List Loc} (k_x0 : hK h x0 = 15) (k_x1 : hK h x1 = 12), Km h0 h → Wx X h H → va_S (aA (eB X)) s.heap H locs → ∀ (ls : Array Slot), lv_has ls 5 [(0, .ref x0), (1, .ref x1), (2, .int x2)] → sX15_leadsTo_27 F f h x0 x1 x2 = some o → W p l e (rm 7 191) s m args below meth c H locs 0 0 (MQ below (QI X h0 o.1 o.2) args s 0 0 (aA (eB X))) (F0 m 27 ls []) := by
  intro f
  induction f with
  | zero =>
    intro h x0 x1 x2 H locs k_x0 k_x1 hkm hW hZ ls hl hE
    rw [sX15_leadsTo_27] at hE
    cases hE
  | succ f ih =>
    intro h x0 x1 x2 H locs k_x0 k_x1 hkm hW hZ ls hl hE
    rw [sX15_leadsTo_27] at hE
    have hk_27 : ∀ (h : Hp) (x0 : Nat) (x1 : Nat) (x2 : Int32) (H : Heap) (locs : List Loc), hK h x0 = 15 → hK h x1 = 12 → Km h0 h → Wx X h H → va_S (aA (eB X)) s.heap H locs → ∀ (ls : Array Slot), lv_has ls 5 [(0, .ref x0), (1, .ref x1), (2, .int x2)] → sX15_leadsTo_27 F f h x0 x1 x2 = some o → W p l e (rm 7 191) s m args below meth c H locs 0 0 (MQ below (QI X h0 o.1 o.2) args s 0 0 (aA (eB X))) (F0 m 27 ls []) := fun h x0 x1 x2 H locs k_x0 k_x1 a b c ls hl hE => ih k_x0 k_x1 a b c ls hl hE
    refine lv_iload_n C.1 C.2.1 dX15_leadsTo_27 rfl (lv_at hl 2 rfl) ?_
    refine lv_aload_n C.1 C.2.1 dX15_leadsTo_28 rfl (lv_at hl 0 rfl) ?_
    obtain ⟨r_1, er_1, hE⟩ := cl_e hE
    refine gf_X15_288 C hW k_x0 er_1 dX15_leadsTo_29 (fun k_r_1 => ?_)
    refine gf_X15_575 C hW k_r_1 dX15_leadsTo_32 ?_
    refine lv_icmp_ge (tgt := 130) C.1 C.2.1 dX15_leadsTo_35 (by decide) (fun c_2 => ?_) (fun c_2 => ?_)
    · have hE := br_p hE c_2
      refine lv_iconst (v := (0 : Int32)) C.1 C.2.1 dX15_leadsTo_130 (by decide) ?_
      exact x_iret C rfl (by decide) hW hZ hkm hE dX15_leadsTo_131
    · have hE := br_n hE c_2
      refine lv_aload_n C.1 C.2.1 dX15_leadsTo_38 rfl (lv_at hl 0 rfl) ?_
      obtain ⟨r_3, er_3, hE⟩ := cl_e hE
      refine gf_X15_288 C hW k_x0 er_3 dX15_leadsTo_39 (fun k_r_3 => ?_)
      obtain ⟨r_4, er_4, hE⟩ := cl_e hE
      refine gf_X15_602 C hW k_r_3 er_4 dX15_leadsTo_42 (fun k_r_4 => ?_)
      refine lv_iload_n C.1 C.2.1 dX15_leadsTo_45 rfl (lv_at hl 2 rfl) ?_
      obtain ⟨g_5, hE⟩ := gd_e hE
      refine y_iald C hW k_r_4 g_5 dX15_leadsTo_46 ?_
      refine lv_iconst (v := (2 : Int32)) C.1 C.2.1 dX15_leadsTo_47 (by decide) ?_
      refine lv_icmp_ge (tgt := 124) C.1 C.2.1 dX15_leadsTo_48 (by decide) (fun c_6 => ?_) (fun c_6 => ?_)
      · have hE := br_p hE c_6
        exact bX15_leadsTo_124 C hk_27 k_x0 k_x1 hkm hW hZ _ (lv_sub hl [0, 1, 2] rfl) hE
      · have hE := br_n hE c_6
        refine lv_aload_n C.1 C.2.1 dX15_leadsTo_51 rfl (lv_at hl 0 rfl) ?_
        refine lv_aload_n C.1 C.2.1 dX15_leadsTo_52 rfl (lv_at hl 0 rfl) ?_
        obtain ⟨r_7, er_7, hE⟩ := cl_e hE
        refine gf_X15_330 C hW k_x0 er_7 dX15_leadsTo_53 (fun k_r_7 => ?_)
        refine lv_aload_n C.1 C.2.1 dX15_leadsTo_56 rfl (lv_at hl 0 rfl) ?_
        obtain ⟨r_8, er_8, hE⟩ := cl_e hE
        refine gf_X15_288 C hW k_x0 er_8 dX15_leadsTo_57 (fun k_r_8 => ?_)
        refine lv_iload_n C.1 C.2.1 dX15_leadsTo_60 rfl (lv_at hl 2 rfl) ?_
        refine lv_aload_n C.1 C.2.1 dX15_leadsTo_61 rfl (lv_at hl 0 rfl) ?_
        obtain ⟨r_9, er_9, hE⟩ := cl_e hE
        refine gf_X15_295 C hW k_x0 er_9 dX15_leadsTo_62 (fun k_r_9 => ?_)
        obtain ⟨o_10, eo_10, hE⟩ := cl_e hE
        refine x_kV (o := o_10) (z_runV (As := [.ref r_7, .ref r_8, .int x2, .ref r_9]) (rest := []) C (ct_X15_make l X F k_x0 k_r_7 k_r_8 k_r_9 eo_10) cw_X15_627 hW hZ k_x0 (by decide) rfl rfl rfl hl.1 (Nat.le_of_ble_eq_true rfl) rfl dX15_leadsTo_65 ⟨Nat.le_of_ble_eq_true rfl, Nat.le_of_ble_eq_true rfl⟩ ⟨Nat.le_refl _, Nat.le_refl _⟩) hZ (fun _ _ hW km hZ => ?_)
        replace hkm := hkm.tr km
        replace k_x0 := km.at k_x0 (by decide)
        replace k_x1 := km.at k_x1 (by decide)
        refine lv_iconst (v := (1 : Int32)) C.1 C.2.1 dX15_leadsTo_68 (by decide) ?_
        refine lv_istore_n (lv' := [(3, .int (1 : Int32)), (0, .ref x0), (1, .ref x1), (2, .int x2)]) C.1 C.2.1 dX15_leadsTo_69 rfl hl (by decide) rfl (fun ls hl => ?_)
        refine lv_iconst (v := (0 : Int32)) C.1 C.2.1 dX15_leadsTo_70 (by decide) ?_
        refine lv_istore (lv' := [(4, .int (0 : Int32)), (3, .int (1 : Int32)), (0, .ref x0), (1, .ref x1), (2, .int x2)]) C.1 C.2.1 dX15_leadsTo_71 hl (by decide) rfl (fun ls hl => ?_)
        exact bX15_leadsTo_73 C hk_27 F k_x0 k_x1 hkm hW hZ _ (lv_sub hl [2, 3, 4, 1, 0] rfl) hE
set_option maxRecDepth 20000 in
theorem ct_X15_leadsTo (l : Launch) (X : Ec) (F : Nat) {h : Hp} {x0 : Nat} {x1 : Nat} {o : Int32 × Hp} (k_x0 : hK h x0 = 15) (k_x1 : hK h x1 = 12) (hE : sX15_leadsTo F h x0 x1 = some o) : MetI l yX15_leadsTo cX15_leadsTo 5 (some .boolean) 7 191 X [.ref x0, .ref x1] h o := by
  refine x_met (by decide) (Nat.le_of_ble_eq_true rfl) ?_
  intro p e s m below meth c ls C hl hW hZ
  have hl : lv_has ls 5 [(0, .ref x0), (1, .ref x1)] := hl
  have hkm : Km h h := Km.rf h
  refine lv_aload_n C.1 C.2.1 dX15_leadsTo_0 rfl (lv_at hl 0 rfl) ?_
  refine lv_aload_n C.1 C.2.1 dX15_leadsTo_1 rfl (lv_at hl 0 rfl) ?_
  obtain ⟨r_1, er_1, hE⟩ := cl_e hE
  refine gf_X15_330 C hW k_x0 er_1 dX15_leadsTo_2 (fun k_r_1 => ?_)
  obtain ⟨o_2, eo_2, hE⟩ := cl_e hE
  refine x_kI (o := o_2) (z_runV (As := [.ref r_1]) (rest := []) C (ct_X15_wrongOf l X F k_x0 k_r_1 eo_2) cw_X15_479 hW hZ k_x0 (by decide) rfl rfl rfl hl.1 (Nat.le_of_ble_eq_true rfl) rfl dX15_leadsTo_5 ⟨Nat.le_of_ble_eq_true rfl, Nat.le_of_ble_eq_true rfl⟩ ⟨Nat.le_refl _, Nat.le_refl _⟩) hZ (fun _ _ hW km hZ => ?_)
  replace hkm := hkm.tr km
  replace k_x0 := km.at k_x0 (by decide)
  replace k_x1 := km.at k_x1 (by decide)
  refine lv_if_le (tgt := 13) C.1 C.2.1 dX15_leadsTo_8 (by decide) (fun c_3 => ?_) (fun c_3 => ?_)
  · have hE := br_p hE c_3
    refine lv_aload_n C.1 C.2.1 dX15_leadsTo_13 rfl (lv_at hl 0 rfl) ?_
    refine lv_aload_n C.1 C.2.1 dX15_leadsTo_14 rfl (lv_at hl 0 rfl) ?_
    obtain ⟨r_4, er_4, hE⟩ := cl_e hE
    refine gf_X15_330 C hW k_x0 er_4 dX15_leadsTo_15 (fun k_r_4 => ?_)
    refine lv_aload_n C.1 C.2.1 dX15_leadsTo_18 rfl (lv_at hl 0 rfl) ?_
    obtain ⟨r_5, er_5, hE⟩ := cl_e hE
    refine gf_X15_288 C hW k_x0 er_5 dX15_leadsTo_19 (fun k_r_5 => ?_)
    obtain ⟨o_6, eo_6, hE⟩ := cl_e hE
    refine x_kV (o := o_6) (z_runV (As := [.ref r_4, .ref r_5]) (rest := []) C (ct_X15_legal l X F k_x0 k_r_4 k_r_5 eo_6) cw_X15_652 hW hZ k_x0 (by decide) rfl rfl rfl hl.1 (Nat.le_of_ble_eq_true rfl) rfl dX15_leadsTo_22 ⟨Nat.le_of_ble_eq_true rfl, Nat.le_of_ble_eq_true rfl⟩ ⟨Nat.le_refl _, Nat.le_refl _⟩) hZ (fun _ _ hW km hZ => ?_)
    replace hkm := hkm.tr km
    replace k_x0 := km.at k_x0 (by decide)
    replace k_x1 := km.at k_x1 (by decide)
    refine lv_iconst (v := (0 : Int32)) C.1 C.2.1 dX15_leadsTo_25 (by decide) ?_
    refine lv_istore_n (lv' := [(2, .int (0 : Int32)), (0, .ref x0), (1, .ref x1)]) C.1 C.2.1 dX15_leadsTo_26 rfl hl (by decide) rfl (fun ls hl => ?_)
    exact bX15_leadsTo_27 C F k_x0 k_x1 hkm hW hZ _ (lv_sub hl [1, 2, 0] rfl) hE
  · have hE := br_n hE c_3
    refine lv_iconst (v := (0 : Int32)) C.1 C.2.1 dX15_leadsTo_11 (by decide) ?_
    exact x_iret C rfl (by decide) hW hZ hkm hE dX15_leadsTo_12
section
variable {p : Program} {l : Launch} {e : Env} {R : Room} {s : State} {m : MethodId} {args : Array Value} {below : List Frame} {meth : Method} {c : Code} {H : Heap} {locs : List Loc} {cells slots : Nat} {Q : State → Prop}
variable {cc : ByteArray} {pc : Nat} {ls : Array Slot} {rest : List Value} {X : Ec} {h h1 : Hp} {nL : Nat} {rt : Option FieldType} {mn : String}
theorem gf_X15_321 {a r : Nat} (C : Cx X p s m args meth c RX15 cc nL rt mn) (hW : Wx X h H) (ha : hK h a = 15) (hr : hR h a 41 = some r) (hdg : decode cc pc = .ok (.getfield 321, 3)) (kk : hK h r = 16 → W p l e R s m args below meth c H locs cells slots Q (F0 m (pc + 3) ls (.ref r :: rest))) : W p l e R s m args below meth c H locs cells slots Q (F0 m pc ls (.ref a :: rest)) :=
  y_getr C hW ha i_X15 (by decide) rfl (by decide) m_2152 rfl rfl hr hdg kk
end
theorem dX15_compare_0 : decode cX15_compare 0 = .ok (.aload_n 0, 1) := by decide +kernel
theorem dX15_compare_1 : decode cX15_compare 1 = .ok (.getfield 321, 3) := by decide +kernel
theorem dX15_compare_4 : decode cX15_compare 4 = .ok (.bipush 96, 2) := by decide +kernel
theorem dX15_compare_6 : decode cX15_compare 6 = .ok (.iload_n 1, 1) := by decide +kernel
theorem dX15_compare_7 : decode cX15_compare 7 = .ok (.imul, 1) := by decide +kernel
theorem dX15_compare_8 : decode cX15_compare 8 = .ok (.baload, 1) := by decide +kernel
theorem dX15_compare_9 : decode cX15_compare 9 = .ok (.istore_n 2, 1) := by decide +kernel
theorem dX15_compare_10 : decode cX15_compare 10 = .ok (.iconst 0, 1) := by decide +kernel
theorem dX15_compare_11 : decode cX15_compare 11 = .ok (.istore_n 3, 1) := by decide +kernel
theorem dX15_compare_12 : decode cX15_compare 12 = .ok (.iload_n 3, 1) := by decide +kernel
theorem dX15_compare_13 : decode cX15_compare 13 = .ok (.iload_n 2, 1) := by decide +kernel
theorem dX15_compare_14 : decode cX15_compare 14 = .ok (.if_icmp .ge 60, 3) := by decide +kernel
theorem dX15_compare_17 : decode cX15_compare 17 = .ok (.iload_n 3, 1) := by decide +kernel
theorem dX15_compare_18 : decode cX15_compare 18 = .ok (.aload_n 0, 1) := by decide +kernel
theorem dX15_compare_19 : decode cX15_compare 19 = .ok (.getfield 11, 3) := by decide +kernel
theorem dX15_compare_22 : decode cX15_compare 22 = .ok (.if_icmp .ge 52, 3) := by decide +kernel
theorem dX15_compare_25 : decode cX15_compare 25 = .ok (.aload_n 0, 1) := by decide +kernel
theorem dX15_compare_26 : decode cX15_compare 26 = .ok (.getfield 14, 3) := by decide +kernel
theorem dX15_compare_29 : decode cX15_compare 29 = .ok (.iload_n 3, 1) := by decide +kernel
theorem dX15_compare_30 : decode cX15_compare 30 = .ok (.baload, 1) := by decide +kernel
theorem dX15_compare_31 : decode cX15_compare 31 = .ok (.aload_n 0, 1) := by decide +kernel
theorem dX15_compare_32 : decode cX15_compare 32 = .ok (.getfield 321, 3) := by decide +kernel
theorem dX15_compare_35 : decode cX15_compare 35 = .ok (.bipush 96, 2) := by decide +kernel
theorem dX15_compare_37 : decode cX15_compare 37 = .ok (.iload_n 1, 1) := by decide +kernel
theorem dX15_compare_38 : decode cX15_compare 38 = .ok (.imul, 1) := by decide +kernel
theorem dX15_compare_39 : decode cX15_compare 39 = .ok (.iconst 1, 1) := by decide +kernel
theorem dX15_compare_40 : decode cX15_compare 40 = .ok (.iadd, 1) := by decide +kernel
theorem dX15_compare_41 : decode cX15_compare 41 = .ok (.iload_n 3, 1) := by decide +kernel
theorem dX15_compare_42 : decode cX15_compare 42 = .ok (.iadd, 1) := by decide +kernel
theorem dX15_compare_43 : decode cX15_compare 43 = .ok (.baload, 1) := by decide +kernel
theorem dX15_compare_44 : decode cX15_compare 44 = .ok (.if_icmp .eq 24, 3) := by decide +kernel
theorem dX15_compare_47 : decode cX15_compare 47 = .ok (.aload_n 0, 1) := by decide +kernel
theorem dX15_compare_48 : decode cX15_compare 48 = .ok (.getfield 14, 3) := by decide +kernel
theorem dX15_compare_51 : decode cX15_compare 51 = .ok (.iload_n 3, 1) := by decide +kernel
theorem dX15_compare_52 : decode cX15_compare 52 = .ok (.baload, 1) := by decide +kernel
theorem dX15_compare_53 : decode cX15_compare 53 = .ok (.aload_n 0, 1) := by decide +kernel
theorem dX15_compare_54 : decode cX15_compare 54 = .ok (.getfield 321, 3) := by decide +kernel
theorem dX15_compare_57 : decode cX15_compare 57 = .ok (.bipush 96, 2) := by decide +kernel
theorem dX15_compare_59 : decode cX15_compare 59 = .ok (.iload_n 1, 1) := by decide +kernel
theorem dX15_compare_60 : decode cX15_compare 60 = .ok (.imul, 1) := by decide +kernel
theorem dX15_compare_61 : decode cX15_compare 61 = .ok (.iconst 1, 1) := by decide +kernel
theorem dX15_compare_62 : decode cX15_compare 62 = .ok (.iadd, 1) := by decide +kernel
theorem dX15_compare_63 : decode cX15_compare 63 = .ok (.iload_n 3, 1) := by decide +kernel
theorem dX15_compare_64 : decode cX15_compare 64 = .ok (.iadd, 1) := by decide +kernel
theorem dX15_compare_65 : decode cX15_compare 65 = .ok (.baload, 1) := by decide +kernel
theorem dX15_compare_66 : decode cX15_compare 66 = .ok (.isub, 1) := by decide +kernel
theorem dX15_compare_67 : decode cX15_compare 67 = .ok (.ireturn, 1) := by decide +kernel
theorem dX15_compare_68 : decode cX15_compare 68 = .ok (.iinc 3 1, 3) := by decide +kernel
theorem dX15_compare_71 : decode cX15_compare 71 = .ok (.goto (-59), 3) := by decide +kernel
theorem dX15_compare_74 : decode cX15_compare 74 = .ok (.aload_n 0, 1) := by decide +kernel
theorem dX15_compare_75 : decode cX15_compare 75 = .ok (.getfield 11, 3) := by decide +kernel
theorem dX15_compare_78 : decode cX15_compare 78 = .ok (.iload_n 2, 1) := by decide +kernel
theorem dX15_compare_79 : decode cX15_compare 79 = .ok (.isub, 1) := by decide +kernel
theorem dX15_compare_80 : decode cX15_compare 80 = .ok (.ireturn, 1) := by decide +kernel
set_option maxRecDepth 20000 in
theorem moX15_compare_74 {o : Int32 × Hp} {F : Nat} {h : Hp} {x0 : Nat} {x2 : Int32} (hE : sX15_compare_74 F h x0 x2 = some o) : Le h o.2 := by
  exact le_some2 hE
set_option maxRecDepth 20000 in
theorem moX15_compare_12 {o : Int32 × Hp} {F : Nat} : ∀ (f : Nat) {h : Hp} {x0 : Nat} {x1 : Int32} {x2 : Int32} {x3 : Int32}, sX15_compare_12 F f h x0 x1 x2 x3 = some o → Le h o.2 := by
  intro f
  induction f with
  | zero =>
    intro h x0 x1 x2 x3 hE
    rw [sX15_compare_12] at hE
    cases hE
  | succ f ih =>
    intro h x0 x1 x2 x3 hE
    rw [sX15_compare_12] at hE
    have mk_12 : ∀ (h : Hp) (x0 : Nat) (x1 : Int32) (x2 : Int32) (x3 : Int32), sX15_compare_12 F f h x0 x1 x2 x3 = some o → Le h o.2 := fun h x0 x1 x2 x3 hE => ih hE
    rcases br_e hE with ⟨_, hE⟩ | ⟨_, hE⟩
    · exact moX15_compare_74 hE
    · rcases br_e hE with ⟨_, hE⟩ | ⟨_, hE⟩
      · exact moX15_compare_74 hE
      · obtain ⟨r_3, er_3, hE⟩ := cl_e hE
        obtain ⟨g_4, hE⟩ := gd_e hE
        obtain ⟨r_5, er_5, hE⟩ := cl_e hE
        obtain ⟨g_6, hE⟩ := gd_e hE
        rcases br_e hE with ⟨_, hE⟩ | ⟨_, hE⟩
        · obtain ⟨v_8, ev_8, hE⟩ := nm_e2 hE
          exact mk_12 _ _ _ _ _ hE
        · obtain ⟨r_9, er_9, hE⟩ := cl_e hE
          obtain ⟨g_10, hE⟩ := gd_e hE
          obtain ⟨r_11, er_11, hE⟩ := cl_e hE
          obtain ⟨g_12, hE⟩ := gd_e hE
          exact le_some2 hE
set_option maxRecDepth 20000 in
theorem moX15_compare {o : Int32 × Hp} {F : Nat} {h : Hp} {x0 : Nat} {x1 : Int32} (hE : sX15_compare F h x0 x1 = some o) : Le h o.2 := by
  obtain ⟨r_1, er_1, hE⟩ := cl_e hE
  obtain ⟨g_2, hE⟩ := gd_e hE
  obtain ⟨v_3, ev_3, hE⟩ := nm_e2 hE
  exact moX15_compare_12 _ hE
set_option maxRecDepth 20000 in
theorem bX15_compare_74 {p : Program} {l : Launch} {e : Env} {s : State} {m : MethodId} {args : Array Value} {below : List Frame} {meth : Method} {c : Code} {X : Ec} {h0 : Hp} {o : Int32 × Hp} {F : Nat} (C : Cx X p s m args meth c RX15 cX15_compare 4 (some .int) "compare") {h : Hp} {x0 : Nat} {x2 : Int32} {H : Heap} {locs : List Loc} (k_x0 : hK h x0 = 15) (hkm : Km h0 h) (hW : Wx X h H) (hZ : va_S (aA (eB X)) s.heap H locs) (ls : Array Slot) (hl : lv_has ls 4 [(0, .ref x0), (2, .int x2)]) (hE : sX15_compare_74 F h x0 x2 = some o) : W p l e (rm 0 0) s m args below meth c H locs 0 0 (MQ below (QI X h0 o.1 o.2) args s 0 0 (aA (eB X))) (F0 m 74 ls []) := by
  refine lv_aload_n C.1 C.2.1 dX15_compare_74 rfl (lv_at hl 0 rfl) ?_
  refine gf_X15_11 C hW k_x0 dX15_compare_75 ?_
  refine lv_iload_n C.1 C.2.1 dX15_compare_78 rfl (lv_at hl 1 rfl) ?_
  refine lv_isub C.1 C.2.1 dX15_compare_79 ?_
  exact x_iret C rfl rfl hW hZ hkm hE dX15_compare_80
set_option maxRecDepth 20000 in
theorem bX15_compare_12 {p : Program} {l : Launch} {e : Env} {s : State} {m : MethodId} {args : Array Value} {below : List Frame} {meth : Method} {c : Code} {X : Ec} {h0 : Hp} {o : Int32 × Hp} {F : Nat} (C : Cx X p s m args meth c RX15 cX15_compare 4 (some .int) "compare") : ∀ (f : Nat) {h : Hp} {x0 : Nat} {x1 : Int32} {x2 : Int32} {x3 : Int32} {H : Heap} {locs : List Loc} (k_x0 : hK h x0 = 15), Km h0 h → Wx X h H → va_S (aA (eB X)) s.heap H locs → ∀ (ls : Array Slot), lv_has ls 4 [(0, .ref x0), (1, .int x1), (2, .int x2), (3, .int x3)] → sX15_compare_12 F f h x0 x1 x2 x3 = some o → W p l e (rm 0 0) s m args below meth c H locs 0 0 (MQ below (QI X h0 o.1 o.2) args s 0 0 (aA (eB X))) (F0 m 12 ls []) := by
  intro f
  induction f with
  | zero =>
    intro h x0 x1 x2 x3 H locs k_x0 hkm hW hZ ls hl hE
    rw [sX15_compare_12] at hE
    cases hE
  | succ f ih =>
    intro h x0 x1 x2 x3 H locs k_x0 hkm hW hZ ls hl hE
    rw [sX15_compare_12] at hE
    have hk_12 : ∀ (h : Hp) (x0 : Nat) (x1 : Int32) (x2 : Int32) (x3 : Int32) (H : Heap) (locs : List Loc), hK h x0 = 15 → Km h0 h → Wx X h H → va_S (aA (eB X)) s.heap H locs → ∀ (ls : Array Slot), lv_has ls 4 [(0, .ref x0), (1, .int x1), (2, .int x2), (3, .int x3)] → sX15_compare_12 F f h x0 x1 x2 x3 = some o → W p l e (rm 0 0) s m args below meth c H locs 0 0 (MQ below (QI X h0 o.1 o.2) args s 0 0 (aA (eB X))) (F0 m 12 ls []) := fun h x0 x1 x2 x3 H locs k_x0 a b c ls hl hE => ih k_x0 a b c ls hl hE
    refine lv_iload_n C.1 C.2.1 dX15_compare_12 rfl (lv_at hl 3 rfl) ?_
    refine lv_iload_n C.1 C.2.1 dX15_compare_13 rfl (lv_at hl 2 rfl) ?_
    refine lv_icmp_ge (tgt := 74) C.1 C.2.1 dX15_compare_14 (by decide) (fun c_1 => ?_) (fun c_1 => ?_)
    · have hE := br_p hE c_1
      exact bX15_compare_74 C k_x0 hkm hW hZ _ (lv_sub hl [0, 2] rfl) hE
    · have hE := br_n hE c_1
      refine lv_iload_n C.1 C.2.1 dX15_compare_17 rfl (lv_at hl 3 rfl) ?_
      refine lv_aload_n C.1 C.2.1 dX15_compare_18 rfl (lv_at hl 0 rfl) ?_
      refine gf_X15_11 C hW k_x0 dX15_compare_19 ?_
      refine lv_icmp_ge (tgt := 74) C.1 C.2.1 dX15_compare_22 (by decide) (fun c_2 => ?_) (fun c_2 => ?_)
      · have hE := br_p hE c_2
        exact bX15_compare_74 C k_x0 hkm hW hZ _ (lv_sub hl [0, 2] rfl) hE
      · have hE := br_n hE c_2
        refine lv_aload_n C.1 C.2.1 dX15_compare_25 rfl (lv_at hl 0 rfl) ?_
        obtain ⟨r_3, er_3, hE⟩ := cl_e hE
        refine gf_X15_14 C hW k_x0 er_3 dX15_compare_26 (fun k_r_3 => ?_)
        refine lv_iload_n C.1 C.2.1 dX15_compare_29 rfl (lv_at hl 3 rfl) ?_
        obtain ⟨g_4, hE⟩ := gd_e hE
        refine y_bald C hW k_r_3 g_4 dX15_compare_30 ?_
        refine lv_aload_n C.1 C.2.1 dX15_compare_31 rfl (lv_at hl 0 rfl) ?_
        obtain ⟨r_5, er_5, hE⟩ := cl_e hE
        refine gf_X15_321 C hW k_x0 er_5 dX15_compare_32 (fun k_r_5 => ?_)
        refine lv_bipush (v := (96 : Int32)) C.1 C.2.1 dX15_compare_35 (by decide) ?_
        refine lv_iload_n C.1 C.2.1 dX15_compare_37 rfl (lv_at hl 1 rfl) ?_
        refine lv_imul C.1 C.2.1 dX15_compare_38 ?_
        refine lv_iconst (v := (1 : Int32)) C.1 C.2.1 dX15_compare_39 (by decide) ?_
        refine lv_iadd C.1 C.2.1 dX15_compare_40 ?_
        refine lv_iload_n C.1 C.2.1 dX15_compare_41 rfl (lv_at hl 3 rfl) ?_
        refine lv_iadd C.1 C.2.1 dX15_compare_42 ?_
        obtain ⟨g_6, hE⟩ := gd_e hE
        refine y_bald C hW k_r_5 g_6 dX15_compare_43 ?_
        refine lv_icmp_eq (tgt := 68) C.1 C.2.1 dX15_compare_44 (by decide) (fun c_7 => ?_) (fun c_7 => ?_)
        · have hE := br_p hE c_7
          obtain ⟨v_8, ev_8, hE⟩ := nm_e2 hE
          refine lv_iinc (v := v_8) (lv' := [(3, .int v_8), (0, .ref x0), (1, .int x1), (2, .int x2)]) C.1 C.2.1 dX15_compare_68 hl (k := 3) rfl (by rw [ev_8]; rfl) (by decide) rfl (fun ls hl => ?_)
          refine lv_goto (tgt := 12) C.1 C.2.1 dX15_compare_71 (by decide) ?_
          exact hk_12 _ _ _ _ _ _ _ k_x0 hkm hW hZ _ (lv_sub hl [1, 2, 3, 0] rfl) hE
        · have hE := br_n hE c_7
          refine lv_aload_n C.1 C.2.1 dX15_compare_47 rfl (lv_at hl 0 rfl) ?_
          obtain ⟨r_9, er_9, hE⟩ := cl_e hE
          refine gf_X15_14 C hW k_x0 er_9 dX15_compare_48 (fun k_r_9 => ?_)
          refine lv_iload_n C.1 C.2.1 dX15_compare_51 rfl (lv_at hl 3 rfl) ?_
          obtain ⟨g_10, hE⟩ := gd_e hE
          refine y_bald C hW k_r_9 g_10 dX15_compare_52 ?_
          refine lv_aload_n C.1 C.2.1 dX15_compare_53 rfl (lv_at hl 0 rfl) ?_
          obtain ⟨r_11, er_11, hE⟩ := cl_e hE
          refine gf_X15_321 C hW k_x0 er_11 dX15_compare_54 (fun k_r_11 => ?_)
          refine lv_bipush (v := (96 : Int32)) C.1 C.2.1 dX15_compare_57 (by decide) ?_
          refine lv_iload_n C.1 C.2.1 dX15_compare_59 rfl (lv_at hl 1 rfl) ?_
          refine lv_imul C.1 C.2.1 dX15_compare_60 ?_
          refine lv_iconst (v := (1 : Int32)) C.1 C.2.1 dX15_compare_61 (by decide) ?_
          refine lv_iadd C.1 C.2.1 dX15_compare_62 ?_
          refine lv_iload_n C.1 C.2.1 dX15_compare_63 rfl (lv_at hl 3 rfl) ?_
          refine lv_iadd C.1 C.2.1 dX15_compare_64 ?_
          obtain ⟨g_12, hE⟩ := gd_e hE
          refine y_bald C hW k_r_11 g_12 dX15_compare_65 ?_
          refine lv_isub C.1 C.2.1 dX15_compare_66 ?_
          exact x_iret C rfl rfl hW hZ hkm hE dX15_compare_67
set_option maxRecDepth 20000 in
theorem ct_X15_compare (l : Launch) (X : Ec) (F : Nat) {h : Hp} {x0 : Nat} {x1 : Int32} {o : Int32 × Hp} (k_x0 : hK h x0 = 15) (hE : sX15_compare F h x0 x1 = some o) : MetI l yX15_compare cX15_compare 4 (some .int) 0 0 X [.ref x0, .int x1] h o := by
  refine x_met (by decide) (Nat.le_of_ble_eq_true rfl) ?_
  intro p e s m below meth c ls C hl hW hZ
  have hl : lv_has ls 4 [(0, .ref x0), (1, .int x1)] := hl
  have hkm : Km h h := Km.rf h
  refine lv_aload_n C.1 C.2.1 dX15_compare_0 rfl (lv_at hl 0 rfl) ?_
  obtain ⟨r_1, er_1, hE⟩ := cl_e hE
  refine gf_X15_321 C hW k_x0 er_1 dX15_compare_1 (fun k_r_1 => ?_)
  refine lv_bipush (v := (96 : Int32)) C.1 C.2.1 dX15_compare_4 (by decide) ?_
  refine lv_iload_n C.1 C.2.1 dX15_compare_6 rfl (lv_at hl 1 rfl) ?_
  refine lv_imul C.1 C.2.1 dX15_compare_7 ?_
  obtain ⟨g_2, hE⟩ := gd_e hE
  refine y_bald C hW k_r_1 g_2 dX15_compare_8 ?_
  obtain ⟨v_3, ev_3, hE⟩ := nm_e2 hE
  refine x_nmI ev_3 ?_
  refine lv_istore_n (lv' := [(2, .int v_3), (0, .ref x0), (1, .int x1)]) C.1 C.2.1 dX15_compare_9 rfl hl (by decide) rfl (fun ls hl => ?_)
  refine lv_iconst (v := (0 : Int32)) C.1 C.2.1 dX15_compare_10 (by decide) ?_
  refine lv_istore_n (lv' := [(3, .int (0 : Int32)), (2, .int v_3), (0, .ref x0), (1, .int x1)]) C.1 C.2.1 dX15_compare_11 rfl hl (by decide) rfl (fun ls hl => ?_)
  exact bX15_compare_12 C F k_x0 hkm hW hZ _ (lv_sub hl [2, 3, 1, 0] rfl) hE
set_option maxRecDepth 100000 in
theorem ms_198 : Cond.selects RX15 yX15_compare yX15_compare ∈ W0 := w0_in (List.mem_append_left _ (List.mem_of_getElem? (i := 198) rfl)) rfl
set_option maxRecDepth 100000 in
theorem m_2731 : Cond.methodLink RX15 714 yX15_compare ∈ W0 := w0_in (List.mem_append_right _ (List.mem_of_getElem? (i := 2731) rfl)) rfl
set_option maxRecDepth 100000 in
theorem m_2733 : Cond.instanceMethod yX15_compare ∈ W0 := w0_in (List.mem_append_right _ (List.mem_of_getElem? (i := 2733) rfl)) rfl
set_option maxRecDepth 100000 in
theorem m_2734 : Cond.code yX15_compare cX15_compare 4 (some .int) ∈ W0 := w0_in (List.mem_append_right _ (List.mem_of_getElem? (i := 2734) rfl)) rfl
section
variable {p : Program} {l : Launch} {e : Env} {R : Room} {s : State} {m : MethodId} {args : Array Value} {below : List Frame} {meth : Method} {c : Code} {H : Heap} {locs : List Loc} {cells slots : Nat} {Q : State → Prop}
variable {cc : ByteArray} {pc : Nat} {ls : Array Slot} {rest : List Value} {X : Ec} {h h1 : Hp} {nL : Nat} {rt : Option FieldType} {mn : String}
theorem gf_X15_390 {a : Nat} (C : Cx X p s m args meth c RX15 cc nL rt mn) (hW : Wx X h H) (ha : hK h a = 15) (hdg : decode cc pc = .ok (.getfield 390, 3)) (kk : W p l e R s m args below meth c H locs cells slots Q (F0 m (pc + 3) ls (.int (hI h a 44) :: rest))) : W p l e R s m args below meth c H locs cells slots Q (F0 m pc ls (.ref a :: rest)) :=
  y_geti C hW ha i_X15 (by decide) rfl (by decide) m_2155 rfl hdg kk
theorem gf_X15_324 {a r : Nat} (C : Cx X p s m args meth c RX15 cc nL rt mn) (hW : Wx X h H) (ha : hK h a = 15) (hr : hR h a 42 = some r) (hdg : decode cc pc = .ok (.getfield 324, 3)) (kk : hK h r = 17 → W p l e R s m args below meth c H locs cells slots Q (F0 m (pc + 3) ls (.ref r :: rest))) : W p l e R s m args below meth c H locs cells slots Q (F0 m pc ls (.ref a :: rest)) :=
  y_getr C hW ha i_X15 (by decide) rfl (by decide) m_2153 rfl rfl hr hdg kk
theorem gf_X15_317 {a r : Nat} (C : Cx X p s m args meth c RX15 cc nL rt mn) (hW : Wx X h H) (ha : hK h a = 15) (hr : hR h a 40 = some r) (hdg : decode cc pc = .ok (.getfield 317, 3)) (kk : hK h r = 21 → W p l e R s m args below meth c H locs cells slots Q (F0 m (pc + 3) ls (.ref r :: rest))) : W p l e R s m args below meth c H locs cells slots Q (F0 m pc ls (.ref a :: rest)) :=
  y_getr C hW ha i_X15 (by decide) rfl (by decide) m_2151 rfl rfl hr hdg kk
end
theorem cw_X15_714 : cwd RX15 714 yX15_compare cX15_compare 4 (some .int) false 1 := ⟨m_2734, m_2731, m_19, ⟨m_2733, ms_198⟩, by decide, by decide, by decide +kernel⟩
theorem dX15_findsRoom_0 : decode cX15_findsRoom 0 = .ok (.aload_n 0, 1) := by decide +kernel
theorem dX15_findsRoom_1 : decode cX15_findsRoom 1 = .ok (.getfield 11, 3) := by decide +kernel
theorem dX15_findsRoom_4 : decode cX15_findsRoom 4 = .ok (.istore_n 1, 1) := by decide +kernel
theorem dX15_findsRoom_5 : decode cX15_findsRoom 5 = .ok (.aload_n 0, 1) := by decide +kernel
theorem dX15_findsRoom_6 : decode cX15_findsRoom 6 = .ok (.getfield 14, 3) := by decide +kernel
theorem dX15_findsRoom_9 : decode cX15_findsRoom 9 = .ok (.iconst 0, 1) := by decide +kernel
theorem dX15_findsRoom_10 : decode cX15_findsRoom 10 = .ok (.aload_n 0, 1) := by decide +kernel
theorem dX15_findsRoom_11 : decode cX15_findsRoom 11 = .ok (.getfield 327, 3) := by decide +kernel
theorem dX15_findsRoom_14 : decode cX15_findsRoom 14 = .ok (.iconst 0, 1) := by decide +kernel
theorem dX15_findsRoom_15 : decode cX15_findsRoom 15 = .ok (.iload_n 1, 1) := by decide +kernel
theorem dX15_findsRoom_16 : decode cX15_findsRoom 16 = .ok (.invokestatic 697, 3) := by decide +kernel
theorem dX15_findsRoom_19 : decode cX15_findsRoom 19 = .ok (.aload_n 0, 1) := by decide +kernel
theorem dX15_findsRoom_20 : decode cX15_findsRoom 20 = .ok (.iconst 0, 1) := by decide +kernel
theorem dX15_findsRoom_21 : decode cX15_findsRoom 21 = .ok (.putfield 11, 3) := by decide +kernel
theorem dX15_findsRoom_24 : decode cX15_findsRoom 24 = .ok (.aload_n 0, 1) := by decide +kernel
theorem dX15_findsRoom_25 : decode cX15_findsRoom 25 = .ok (.aload_n 0, 1) := by decide +kernel
theorem dX15_findsRoom_26 : decode cX15_findsRoom 26 = .ok (.getfield 330, 3) := by decide +kernel
theorem dX15_findsRoom_29 : decode cX15_findsRoom 29 = .ok (.invokevirtual 542, 3) := by decide +kernel
theorem dX15_findsRoom_32 : decode cX15_findsRoom 32 = .ok (.iconst 0, 1) := by decide +kernel
theorem dX15_findsRoom_33 : decode cX15_findsRoom 33 = .ok (.istore_n 2, 1) := by decide +kernel
theorem dX15_findsRoom_34 : decode cX15_findsRoom 34 = .ok (.aload_n 0, 1) := by decide +kernel
theorem dX15_findsRoom_35 : decode cX15_findsRoom 35 = .ok (.getfield 390, 3) := by decide +kernel
theorem dX15_findsRoom_38 : decode cX15_findsRoom 38 = .ok (.istore_n 3, 1) := by decide +kernel
theorem dX15_findsRoom_39 : decode cX15_findsRoom 39 = .ok (.iconst 0, 1) := by decide +kernel
theorem dX15_findsRoom_40 : decode cX15_findsRoom 40 = .ok (.istore 4, 2) := by decide +kernel
theorem dX15_findsRoom_42 : decode cX15_findsRoom 42 = .ok (.iload_n 2, 1) := by decide +kernel
theorem dX15_findsRoom_43 : decode cX15_findsRoom 43 = .ok (.iload_n 3, 1) := by decide +kernel
theorem dX15_findsRoom_44 : decode cX15_findsRoom 44 = .ok (.if_icmp .ge 64, 3) := by decide +kernel
theorem dX15_findsRoom_47 : decode cX15_findsRoom 47 = .ok (.iload 4, 2) := by decide +kernel
theorem dX15_findsRoom_49 : decode cX15_findsRoom 49 = .ok (.ifCond .ne 59, 3) := by decide +kernel
theorem dX15_findsRoom_52 : decode cX15_findsRoom 52 = .ok (.iload_n 2, 1) := by decide +kernel
theorem dX15_findsRoom_53 : decode cX15_findsRoom 53 = .ok (.iload_n 3, 1) := by decide +kernel
theorem dX15_findsRoom_54 : decode cX15_findsRoom 54 = .ok (.iadd, 1) := by decide +kernel
theorem dX15_findsRoom_55 : decode cX15_findsRoom 55 = .ok (.iconst 2, 1) := by decide +kernel
theorem dX15_findsRoom_56 : decode cX15_findsRoom 56 = .ok (.idiv, 1) := by decide +kernel
theorem dX15_findsRoom_57 : decode cX15_findsRoom 57 = .ok (.istore 5, 2) := by decide +kernel
theorem dX15_findsRoom_59 : decode cX15_findsRoom 59 = .ok (.aload_n 0, 1) := by decide +kernel
theorem dX15_findsRoom_60 : decode cX15_findsRoom 60 = .ok (.aload_n 0, 1) := by decide +kernel
theorem dX15_findsRoom_61 : decode cX15_findsRoom 61 = .ok (.getfield 324, 3) := by decide +kernel
theorem dX15_findsRoom_64 : decode cX15_findsRoom 64 = .ok (.iload 5, 2) := by decide +kernel
theorem dX15_findsRoom_66 : decode cX15_findsRoom 66 = .ok (.iaload, 1) := by decide +kernel
theorem dX15_findsRoom_67 : decode cX15_findsRoom 67 = .ok (.invokevirtual 714, 3) := by decide +kernel
theorem dX15_findsRoom_70 : decode cX15_findsRoom 70 = .ok (.istore 6, 2) := by decide +kernel
theorem dX15_findsRoom_72 : decode cX15_findsRoom 72 = .ok (.iload 6, 2) := by decide +kernel
theorem dX15_findsRoom_74 : decode cX15_findsRoom 74 = .ok (.ifCond .ne 7, 3) := by decide +kernel
theorem dX15_findsRoom_77 : decode cX15_findsRoom 77 = .ok (.iconst 1, 1) := by decide +kernel
theorem dX15_findsRoom_78 : decode cX15_findsRoom 78 = .ok (.goto 4, 3) := by decide +kernel
theorem dX15_findsRoom_81 : decode cX15_findsRoom 81 = .ok (.iconst 0, 1) := by decide +kernel
theorem dX15_findsRoom_82 : decode cX15_findsRoom 82 = .ok (.istore 4, 2) := by decide +kernel
theorem dX15_findsRoom_84 : decode cX15_findsRoom 84 = .ok (.iload 6, 2) := by decide +kernel
theorem dX15_findsRoom_86 : decode cX15_findsRoom 86 = .ok (.ifCond .ge 9, 3) := by decide +kernel
theorem dX15_findsRoom_89 : decode cX15_findsRoom 89 = .ok (.iload 5, 2) := by decide +kernel
theorem dX15_findsRoom_91 : decode cX15_findsRoom 91 = .ok (.istore_n 3, 1) := by decide +kernel
theorem dX15_findsRoom_92 : decode cX15_findsRoom 92 = .ok (.goto 13, 3) := by decide +kernel
theorem dX15_findsRoom_95 : decode cX15_findsRoom 95 = .ok (.iload 6, 2) := by decide +kernel
theorem dX15_findsRoom_97 : decode cX15_findsRoom 97 = .ok (.ifCond .le 8, 3) := by decide +kernel
theorem dX15_findsRoom_100 : decode cX15_findsRoom 100 = .ok (.iload 5, 2) := by decide +kernel
theorem dX15_findsRoom_102 : decode cX15_findsRoom 102 = .ok (.iconst 1, 1) := by decide +kernel
theorem dX15_findsRoom_103 : decode cX15_findsRoom 103 = .ok (.iadd, 1) := by decide +kernel
theorem dX15_findsRoom_104 : decode cX15_findsRoom 104 = .ok (.istore_n 2, 1) := by decide +kernel
theorem dX15_findsRoom_105 : decode cX15_findsRoom 105 = .ok (.goto (-63), 3) := by decide +kernel
theorem dX15_findsRoom_108 : decode cX15_findsRoom 108 = .ok (.iload 4, 2) := by decide +kernel
theorem dX15_findsRoom_110 : decode cX15_findsRoom 110 = .ok (.ifCond .ne 13, 3) := by decide +kernel
theorem dX15_findsRoom_113 : decode cX15_findsRoom 113 = .ok (.aload_n 0, 1) := by decide +kernel
theorem dX15_findsRoom_114 : decode cX15_findsRoom 114 = .ok (.getfield 390, 3) := by decide +kernel
theorem dX15_findsRoom_117 : decode cX15_findsRoom 117 = .ok (.sipush 3000, 3) := by decide +kernel
theorem dX15_findsRoom_120 : decode cX15_findsRoom 120 = .ok (.if_icmp .ge 7, 3) := by decide +kernel
theorem dX15_findsRoom_123 : decode cX15_findsRoom 123 = .ok (.iconst 1, 1) := by decide +kernel
theorem dX15_findsRoom_124 : decode cX15_findsRoom 124 = .ok (.goto 4, 3) := by decide +kernel
theorem dX15_findsRoom_127 : decode cX15_findsRoom 127 = .ok (.iconst 0, 1) := by decide +kernel
theorem dX15_findsRoom_128 : decode cX15_findsRoom 128 = .ok (.istore 5, 2) := by decide +kernel
theorem dX15_findsRoom_130 : decode cX15_findsRoom 130 = .ok (.iload 4, 2) := by decide +kernel
theorem dX15_findsRoom_132 : decode cX15_findsRoom 132 = .ok (.ifCond .ne 148, 3) := by decide +kernel
theorem dX15_findsRoom_135 : decode cX15_findsRoom 135 = .ok (.iload 5, 2) := by decide +kernel
theorem dX15_findsRoom_137 : decode cX15_findsRoom 137 = .ok (.ifCond .eq 143, 3) := by decide +kernel
theorem dX15_findsRoom_140 : decode cX15_findsRoom 140 = .ok (.aload_n 0, 1) := by decide +kernel
theorem dX15_findsRoom_141 : decode cX15_findsRoom 141 = .ok (.getfield 317, 3) := by decide +kernel
theorem dX15_findsRoom_144 : decode cX15_findsRoom 144 = .ok (.aload_n 0, 1) := by decide +kernel
theorem dX15_findsRoom_145 : decode cX15_findsRoom 145 = .ok (.getfield 390, 3) := by decide +kernel
theorem dX15_findsRoom_148 : decode cX15_findsRoom 148 = .ok (.aaload, 1) := by decide +kernel
theorem dX15_findsRoom_149 : decode cX15_findsRoom 149 = .ok (.ifnonnull 19, 3) := by decide +kernel
theorem dX15_findsRoom_152 : decode cX15_findsRoom 152 = .ok (.aload_n 0, 1) := by decide +kernel
theorem dX15_findsRoom_153 : decode cX15_findsRoom 153 = .ok (.getfield 317, 3) := by decide +kernel
theorem dX15_findsRoom_156 : decode cX15_findsRoom 156 = .ok (.aload_n 0, 1) := by decide +kernel
theorem dX15_findsRoom_157 : decode cX15_findsRoom 157 = .ok (.getfield 390, 3) := by decide +kernel
theorem dX15_findsRoom_160 : decode cX15_findsRoom 160 = .ok (.new 255, 3) := by decide +kernel
theorem dX15_findsRoom_163 : decode cX15_findsRoom 163 = .ok (.dup, 1) := by decide +kernel
theorem dX15_findsRoom_164 : decode cX15_findsRoom 164 = .ok (.invokespecial 264, 3) := by decide +kernel
theorem dX15_findsRoom_167 : decode cX15_findsRoom 167 = .ok (.aastore, 1) := by decide +kernel
theorem dX15_findsRoom_168 : decode cX15_findsRoom 168 = .ok (.aload_n 0, 1) := by decide +kernel
theorem dX15_findsRoom_169 : decode cX15_findsRoom 169 = .ok (.getfield 390, 3) := by decide +kernel
theorem dX15_findsRoom_172 : decode cX15_findsRoom 172 = .ok (.istore 6, 2) := by decide +kernel
theorem dX15_findsRoom_174 : decode cX15_findsRoom 174 = .ok (.iload 6, 2) := by decide +kernel
theorem dX15_findsRoom_176 : decode cX15_findsRoom 176 = .ok (.iload_n 2, 1) := by decide +kernel
theorem dX15_findsRoom_177 : decode cX15_findsRoom 177 = .ok (.if_icmp .le 25, 3) := by decide +kernel
theorem dX15_findsRoom_180 : decode cX15_findsRoom 180 = .ok (.aload_n 0, 1) := by decide +kernel
theorem dX15_findsRoom_181 : decode cX15_findsRoom 181 = .ok (.getfield 324, 3) := by decide +kernel
theorem dX15_findsRoom_184 : decode cX15_findsRoom 184 = .ok (.iload 6, 2) := by decide +kernel
theorem dX15_findsRoom_186 : decode cX15_findsRoom 186 = .ok (.aload_n 0, 1) := by decide +kernel
theorem dX15_findsRoom_187 : decode cX15_findsRoom 187 = .ok (.getfield 324, 3) := by decide +kernel
theorem dX15_findsRoom_190 : decode cX15_findsRoom 190 = .ok (.iload 6, 2) := by decide +kernel
theorem dX15_findsRoom_192 : decode cX15_findsRoom 192 = .ok (.iconst 1, 1) := by decide +kernel
theorem dX15_findsRoom_193 : decode cX15_findsRoom 193 = .ok (.isub, 1) := by decide +kernel
theorem dX15_findsRoom_194 : decode cX15_findsRoom 194 = .ok (.iaload, 1) := by decide +kernel
theorem dX15_findsRoom_195 : decode cX15_findsRoom 195 = .ok (.iastore, 1) := by decide +kernel
theorem dX15_findsRoom_196 : decode cX15_findsRoom 196 = .ok (.iinc 6 (-1), 3) := by decide +kernel
theorem dX15_findsRoom_199 : decode cX15_findsRoom 199 = .ok (.goto (-25), 3) := by decide +kernel
theorem dX15_findsRoom_202 : decode cX15_findsRoom 202 = .ok (.aload_n 0, 1) := by decide +kernel
theorem dX15_findsRoom_203 : decode cX15_findsRoom 203 = .ok (.getfield 324, 3) := by decide +kernel
theorem dX15_findsRoom_206 : decode cX15_findsRoom 206 = .ok (.iload_n 2, 1) := by decide +kernel
theorem dX15_findsRoom_207 : decode cX15_findsRoom 207 = .ok (.aload_n 0, 1) := by decide +kernel
theorem dX15_findsRoom_208 : decode cX15_findsRoom 208 = .ok (.getfield 390, 3) := by decide +kernel
theorem dX15_findsRoom_211 : decode cX15_findsRoom 211 = .ok (.iastore, 1) := by decide +kernel
theorem dX15_findsRoom_212 : decode cX15_findsRoom 212 = .ok (.aload_n 0, 1) := by decide +kernel
theorem dX15_findsRoom_213 : decode cX15_findsRoom 213 = .ok (.getfield 317, 3) := by decide +kernel
theorem dX15_findsRoom_216 : decode cX15_findsRoom 216 = .ok (.aload_n 0, 1) := by decide +kernel
theorem dX15_findsRoom_217 : decode cX15_findsRoom 217 = .ok (.getfield 390, 3) := by decide +kernel
theorem dX15_findsRoom_220 : decode cX15_findsRoom 220 = .ok (.aaload, 1) := by decide +kernel
theorem dX15_findsRoom_221 : decode cX15_findsRoom 221 = .ok (.aload_n 0, 1) := by decide +kernel
theorem dX15_findsRoom_222 : decode cX15_findsRoom 222 = .ok (.getfield 330, 3) := by decide +kernel
theorem dX15_findsRoom_225 : decode cX15_findsRoom 225 = .ok (.invokevirtual 405, 3) := by decide +kernel
theorem dX15_findsRoom_228 : decode cX15_findsRoom 228 = .ok (.aload_n 0, 1) := by decide +kernel
theorem dX15_findsRoom_229 : decode cX15_findsRoom 229 = .ok (.getfield 321, 3) := by decide +kernel
theorem dX15_findsRoom_232 : decode cX15_findsRoom 232 = .ok (.bipush 96, 2) := by decide +kernel
theorem dX15_findsRoom_234 : decode cX15_findsRoom 234 = .ok (.aload_n 0, 1) := by decide +kernel
theorem dX15_findsRoom_235 : decode cX15_findsRoom 235 = .ok (.getfield 390, 3) := by decide +kernel
theorem dX15_findsRoom_238 : decode cX15_findsRoom 238 = .ok (.imul, 1) := by decide +kernel
theorem dX15_findsRoom_239 : decode cX15_findsRoom 239 = .ok (.aload_n 0, 1) := by decide +kernel
theorem dX15_findsRoom_240 : decode cX15_findsRoom 240 = .ok (.getfield 11, 3) := by decide +kernel
theorem dX15_findsRoom_243 : decode cX15_findsRoom 243 = .ok (.i2b, 1) := by decide +kernel
theorem dX15_findsRoom_244 : decode cX15_findsRoom 244 = .ok (.bastore, 1) := by decide +kernel
theorem dX15_findsRoom_245 : decode cX15_findsRoom 245 = .ok (.aload_n 0, 1) := by decide +kernel
theorem dX15_findsRoom_246 : decode cX15_findsRoom 246 = .ok (.getfield 14, 3) := by decide +kernel
theorem dX15_findsRoom_249 : decode cX15_findsRoom 249 = .ok (.iconst 0, 1) := by decide +kernel
theorem dX15_findsRoom_250 : decode cX15_findsRoom 250 = .ok (.aload_n 0, 1) := by decide +kernel
theorem dX15_findsRoom_251 : decode cX15_findsRoom 251 = .ok (.getfield 321, 3) := by decide +kernel
theorem dX15_findsRoom_254 : decode cX15_findsRoom 254 = .ok (.bipush 96, 2) := by decide +kernel
theorem dX15_findsRoom_256 : decode cX15_findsRoom 256 = .ok (.aload_n 0, 1) := by decide +kernel
theorem dX15_findsRoom_257 : decode cX15_findsRoom 257 = .ok (.getfield 390, 3) := by decide +kernel
theorem dX15_findsRoom_260 : decode cX15_findsRoom 260 = .ok (.imul, 1) := by decide +kernel
theorem dX15_findsRoom_261 : decode cX15_findsRoom 261 = .ok (.iconst 1, 1) := by decide +kernel
theorem dX15_findsRoom_262 : decode cX15_findsRoom 262 = .ok (.iadd, 1) := by decide +kernel
theorem dX15_findsRoom_263 : decode cX15_findsRoom 263 = .ok (.aload_n 0, 1) := by decide +kernel
theorem dX15_findsRoom_264 : decode cX15_findsRoom 264 = .ok (.getfield 11, 3) := by decide +kernel
theorem dX15_findsRoom_267 : decode cX15_findsRoom 267 = .ok (.invokestatic 697, 3) := by decide +kernel
theorem dX15_findsRoom_270 : decode cX15_findsRoom 270 = .ok (.aload_n 0, 1) := by decide +kernel
theorem dX15_findsRoom_271 : decode cX15_findsRoom 271 = .ok (.dup, 1) := by decide +kernel
theorem dX15_findsRoom_272 : decode cX15_findsRoom 272 = .ok (.getfield 390, 3) := by decide +kernel
theorem dX15_findsRoom_275 : decode cX15_findsRoom 275 = .ok (.iconst 1, 1) := by decide +kernel
theorem dX15_findsRoom_276 : decode cX15_findsRoom 276 = .ok (.iadd, 1) := by decide +kernel
theorem dX15_findsRoom_277 : decode cX15_findsRoom 277 = .ok (.putfield 390, 3) := by decide +kernel
theorem dX15_findsRoom_280 : decode cX15_findsRoom 280 = .ok (.aload_n 0, 1) := by decide +kernel
theorem dX15_findsRoom_281 : decode cX15_findsRoom 281 = .ok (.getfield 327, 3) := by decide +kernel
theorem dX15_findsRoom_284 : decode cX15_findsRoom 284 = .ok (.iconst 0, 1) := by decide +kernel
theorem dX15_findsRoom_285 : decode cX15_findsRoom 285 = .ok (.aload_n 0, 1) := by decide +kernel
theorem dX15_findsRoom_286 : decode cX15_findsRoom 286 = .ok (.getfield 14, 3) := by decide +kernel
theorem dX15_findsRoom_289 : decode cX15_findsRoom 289 = .ok (.iconst 0, 1) := by decide +kernel
theorem dX15_findsRoom_290 : decode cX15_findsRoom 290 = .ok (.iload_n 1, 1) := by decide +kernel
theorem dX15_findsRoom_291 : decode cX15_findsRoom 291 = .ok (.invokestatic 697, 3) := by decide +kernel
theorem dX15_findsRoom_294 : decode cX15_findsRoom 294 = .ok (.aload_n 0, 1) := by decide +kernel
theorem dX15_findsRoom_295 : decode cX15_findsRoom 295 = .ok (.iload_n 1, 1) := by decide +kernel
theorem dX15_findsRoom_296 : decode cX15_findsRoom 296 = .ok (.putfield 11, 3) := by decide +kernel
theorem dX15_findsRoom_299 : decode cX15_findsRoom 299 = .ok (.iload 5, 2) := by decide +kernel
theorem dX15_findsRoom_301 : decode cX15_findsRoom 301 = .ok (.ireturn, 1) := by decide +kernel
set_option maxRecDepth 20000 in
theorem moX15_findsRoom_294 {o : Int32 × Hp} {F : Nat} {h : Hp} {x0 : Nat} {x1 : Int32} {x5 : Int32} (hE : sX15_findsRoom_294 F h x0 x1 x5 = some o) : Le h o.2 := by
  obtain ⟨h_1, eh_1, hE⟩ := nm_e2 hE
  refine (le_I eh_1).tr ?_
  obtain ⟨g_2, hE⟩ := gd_e hE
  exact le_some2 hE
set_option maxRecDepth 20000 in
theorem moX15_findsRoom_280 {o : Int32 × Hp} {F : Nat} {h : Hp} {x0 : Nat} {x1 : Int32} {x5 : Int32} (hE : sX15_findsRoom_280 F h x0 x1 x5 = some o) : Le h o.2 := by
  obtain ⟨r_1, er_1, hE⟩ := cl_e hE
  obtain ⟨r_2, er_2, hE⟩ := cl_e hE
  obtain ⟨g_3, hE⟩ := gd_e hE
  obtain ⟨g_4, hE⟩ := gd_e hE
  obtain ⟨g_5, hE⟩ := gd_e hE
  obtain ⟨g_6, hE⟩ := gd_e hE
  obtain ⟨g_7, hE⟩ := gd_e hE
  obtain ⟨g_8, hE⟩ := gd_e hE
  obtain ⟨h_9, eh_9, hE⟩ := nm_e2 hE
  refine (le_cI eh_9).tr ?_
  exact moX15_findsRoom_294 hE
set_option maxRecDepth 20000 in
theorem moX15_findsRoom_270 {o : Int32 × Hp} {F : Nat} {h : Hp} {x0 : Nat} {x1 : Int32} {x5 : Int32} (hE : sX15_findsRoom_270 F h x0 x1 x5 = some o) : Le h o.2 := by
  obtain ⟨h_1, eh_1, hE⟩ := nm_e2 hE
  refine (le_I eh_1).tr ?_
  exact moX15_findsRoom_280 hE
set_option maxRecDepth 20000 in
theorem moX15_findsRoom_228 {o : Int32 × Hp} {F : Nat} {h : Hp} {x0 : Nat} {x1 : Int32} {x5 : Int32} (hE : sX15_findsRoom_228 F h x0 x1 x5 = some o) : Le h o.2 := by
  obtain ⟨r_1, er_1, hE⟩ := cl_e hE
  obtain ⟨g_2, hE⟩ := gd_e hE
  obtain ⟨h_3, eh_3, hE⟩ := nm_e2 hE
  refine (le_I eh_3).tr ?_
  obtain ⟨r_4, er_4, hE⟩ := cl_e hE
  obtain ⟨r_5, er_5, hE⟩ := cl_e hE
  obtain ⟨g_6, hE⟩ := gd_e hE
  obtain ⟨g_7, hE⟩ := gd_e hE
  obtain ⟨g_8, hE⟩ := gd_e hE
  obtain ⟨g_9, hE⟩ := gd_e hE
  obtain ⟨g_10, hE⟩ := gd_e hE
  obtain ⟨g_11, hE⟩ := gd_e hE
  obtain ⟨h_12, eh_12, hE⟩ := nm_e2 hE
  refine (le_cI eh_12).tr ?_
  exact moX15_findsRoom_270 hE
set_option maxRecDepth 20000 in
theorem moX15_findsRoom_174 {o : Int32 × Hp} {F : Nat} : ∀ (f : Nat) {h : Hp} {x0 : Nat} {x1 : Int32} {x2 : Int32} {x5 : Int32} {x6 : Int32}, sX15_findsRoom_174 F f h x0 x1 x2 x5 x6 = some o → Le h o.2 := by
  intro f
  induction f with
  | zero =>
    intro h x0 x1 x2 x5 x6 hE
    rw [sX15_findsRoom_174] at hE
    cases hE
  | succ f ih =>
    intro h x0 x1 x2 x5 x6 hE
    rw [sX15_findsRoom_174] at hE
    have mk_174 : ∀ (h : Hp) (x0 : Nat) (x1 : Int32) (x2 : Int32) (x5 : Int32) (x6 : Int32), sX15_findsRoom_174 F f h x0 x1 x2 x5 x6 = some o → Le h o.2 := fun h x0 x1 x2 x5 x6 hE => ih hE
    rcases br_e hE with ⟨_, hE⟩ | ⟨_, hE⟩
    · obtain ⟨r_2, er_2, hE⟩ := cl_e hE
      obtain ⟨g_3, hE⟩ := gd_e hE
      obtain ⟨h_4, eh_4, hE⟩ := nm_e2 hE
      refine (le_I eh_4).tr ?_
      obtain ⟨r_5, er_5, hE⟩ := cl_e hE
      obtain ⟨g_6, hE⟩ := gd_e hE
      obtain ⟨r_7, er_7, hE⟩ := cl_e hE
      obtain ⟨r_8, er_8, hE⟩ := cl_e hE
      obtain ⟨o_9, eo_9, hE⟩ := cl_e hE
      refine (moX12_copy eo_9).tr ?_
      exact moX15_findsRoom_228 hE
    · obtain ⟨r_10, er_10, hE⟩ := cl_e hE
      obtain ⟨r_11, er_11, hE⟩ := cl_e hE
      obtain ⟨g_12, hE⟩ := gd_e hE
      obtain ⟨g_13, hE⟩ := gd_e hE
      obtain ⟨h_14, eh_14, hE⟩ := nm_e2 hE
      refine (le_I eh_14).tr ?_
      obtain ⟨v_15, ev_15, hE⟩ := nm_e2 hE
      exact mk_174 _ _ _ _ _ _ hE
set_option maxRecDepth 20000 in
theorem moX15_findsRoom_168 {o : Int32 × Hp} {F : Nat} {h : Hp} {x0 : Nat} {x1 : Int32} {x2 : Int32} {x5 : Int32} (hE : sX15_findsRoom_168 F h x0 x1 x2 x5 = some o) : Le h o.2 := by
  obtain ⟨v_1, ev_1, hE⟩ := nm_e2 hE
  exact moX15_findsRoom_174 _ hE
set_option maxRecDepth 20000 in
theorem moX15_findsRoom_167 {o : Int32 × Hp} {F : Nat} {h : Hp} {x0 : Nat} {x1 : Int32} {x2 : Int32} {x5 : Int32} {t0 : Nat} {t1 : Int32} {t2 : Nat} (hE : sX15_findsRoom_167 F h x0 x1 x2 x5 t0 t1 t2 = some o) : Le h o.2 := by
  obtain ⟨g_1, hE⟩ := gd_e hE
  obtain ⟨h_2, eh_2, hE⟩ := nm_e2 hE
  refine (le_R eh_2).tr ?_
  exact moX15_findsRoom_168 hE
set_option maxRecDepth 20000 in
theorem moX15_findsRoom_163 {o : Int32 × Hp} {F : Nat} {h : Hp} {x0 : Nat} {x1 : Int32} {x2 : Int32} {x5 : Int32} {t0 : Nat} {t1 : Int32} {t2 : Nat} (hE : sX15_findsRoom_163 F h x0 x1 x2 x5 t0 t1 t2 = some o) : Le h o.2 := by
  obtain ⟨o_1, eo_1, hE⟩ := cl_e hE
  refine (moX12_init eo_1).tr ?_
  exact moX15_findsRoom_167 hE
set_option maxRecDepth 20000 in
theorem moX15_findsRoom_128 {o : Int32 × Hp} {F : Nat} {h : Hp} {x0 : Nat} {x1 : Int32} {x2 : Int32} {x4 : Int32} {t0 : Int32} (hE : sX15_findsRoom_128 F h x0 x1 x2 x4 t0 = some o) : Le h o.2 := by
  rcases br_e hE with ⟨_, hE⟩ | ⟨_, hE⟩
  · rcases br_e hE with ⟨_, hE⟩ | ⟨_, hE⟩
    · exact moX15_findsRoom_280 hE
    · obtain ⟨r_3, er_3, hE⟩ := cl_e hE
      obtain ⟨g_4, hE⟩ := gd_e hE
      rcases onr_e hE with hE | ⟨r_5, hE⟩
      · obtain ⟨r_7, er_7, hE⟩ := cl_e hE
        obtain ⟨a_8, ea_8, hE⟩ := nm_e2 hE
        obtain ⟨h_9, eh_9, hE⟩ := nm_e2 hE
        refine (le_C eh_9).tr ?_
        exact moX15_findsRoom_163 hE
      · exact moX15_findsRoom_168 hE
  · exact moX15_findsRoom_280 hE
set_option maxRecDepth 20000 in
theorem moX15_findsRoom_123 {o : Int32 × Hp} {F : Nat} {h : Hp} {x0 : Nat} {x1 : Int32} {x2 : Int32} {x4 : Int32} (hE : sX15_findsRoom_123 F h x0 x1 x2 x4 = some o) : Le h o.2 := by
  exact moX15_findsRoom_128 hE
set_option maxRecDepth 20000 in
theorem moX15_findsRoom_108 {o : Int32 × Hp} {F : Nat} {h : Hp} {x0 : Nat} {x1 : Int32} {x2 : Int32} {x4 : Int32} (hE : sX15_findsRoom_108 F h x0 x1 x2 x4 = some o) : Le h o.2 := by
  rcases br_e hE with ⟨_, hE⟩ | ⟨_, hE⟩
  · rcases br_e hE with ⟨_, hE⟩ | ⟨_, hE⟩
    · exact moX15_findsRoom_128 hE
    · exact moX15_findsRoom_123 hE
  · exact moX15_findsRoom_123 hE
set_option maxRecDepth 20000 in
theorem moX15_findsRoom_105 {o : Int32 × Hp} {k_42 : Hp → Nat → Int32 → Int32 → Int32 → Int32 → Option (Int32 × Hp)} {F : Nat} (mk_42 : ∀ (h : Hp) (x0 : Nat) (x1 : Int32) (x2 : Int32) (x3 : Int32) (x4 : Int32), k_42 h x0 x1 x2 x3 x4 = some o → Le h o.2) {h : Hp} {x0 : Nat} {x1 : Int32} {x2 : Int32} {x3 : Int32} {x4 : Int32} (hE : sX15_findsRoom_105 F k_42 h x0 x1 x2 x3 x4 = some o) : Le h o.2 := by
  exact mk_42 _ _ _ _ _ _ hE
set_option maxRecDepth 20000 in
theorem moX15_findsRoom_82 {o : Int32 × Hp} {k_42 : Hp → Nat → Int32 → Int32 → Int32 → Int32 → Option (Int32 × Hp)} {F : Nat} (mk_42 : ∀ (h : Hp) (x0 : Nat) (x1 : Int32) (x2 : Int32) (x3 : Int32) (x4 : Int32), k_42 h x0 x1 x2 x3 x4 = some o → Le h o.2) {h : Hp} {x0 : Nat} {x1 : Int32} {x2 : Int32} {x3 : Int32} {x5 : Int32} {x6 : Int32} {t0 : Int32} (hE : sX15_findsRoom_82 F k_42 h x0 x1 x2 x3 x5 x6 t0 = some o) : Le h o.2 := by
  rcases br_e hE with ⟨_, hE⟩ | ⟨_, hE⟩
  · rcases br_e hE with ⟨_, hE⟩ | ⟨_, hE⟩
    · exact moX15_findsRoom_105 mk_42 hE
    · obtain ⟨v_3, ev_3, hE⟩ := nm_e2 hE
      exact moX15_findsRoom_105 mk_42 hE
  · exact moX15_findsRoom_105 mk_42 hE
set_option maxRecDepth 20000 in
theorem moX15_findsRoom_70 {o : Int32 × Hp} {k_42 : Hp → Nat → Int32 → Int32 → Int32 → Int32 → Option (Int32 × Hp)} {F : Nat} (mk_42 : ∀ (h : Hp) (x0 : Nat) (x1 : Int32) (x2 : Int32) (x3 : Int32) (x4 : Int32), k_42 h x0 x1 x2 x3 x4 = some o → Le h o.2) {h : Hp} {x0 : Nat} {x1 : Int32} {x2 : Int32} {x3 : Int32} {x5 : Int32} {t0 : Int32} (hE : sX15_findsRoom_70 F k_42 h x0 x1 x2 x3 x5 t0 = some o) : Le h o.2 := by
  rcases br_e hE with ⟨_, hE⟩ | ⟨_, hE⟩
  · exact moX15_findsRoom_82 mk_42 hE
  · exact moX15_findsRoom_82 mk_42 hE
set_option maxRecDepth 20000 in
theorem moX15_findsRoom_42 {o : Int32 × Hp} {F : Nat} : ∀ (f : Nat) {h : Hp} {x0 : Nat} {x1 : Int32} {x2 : Int32} {x3 : Int32} {x4 : Int32}, sX15_findsRoom_42 F f h x0 x1 x2 x3 x4 = some o → Le h o.2 := by
  intro f
  induction f with
  | zero =>
    intro h x0 x1 x2 x3 x4 hE
    rw [sX15_findsRoom_42] at hE
    cases hE
  | succ f ih =>
    intro h x0 x1 x2 x3 x4 hE
    rw [sX15_findsRoom_42] at hE
    have mk_42 : ∀ (h : Hp) (x0 : Nat) (x1 : Int32) (x2 : Int32) (x3 : Int32) (x4 : Int32), sX15_findsRoom_42 F f h x0 x1 x2 x3 x4 = some o → Le h o.2 := fun h x0 x1 x2 x3 x4 hE => ih hE
    rcases br_e hE with ⟨_, hE⟩ | ⟨_, hE⟩
    · exact moX15_findsRoom_108 hE
    · rcases br_e hE with ⟨_, hE⟩ | ⟨_, hE⟩
      · obtain ⟨v_3, ev_3, hE⟩ := nm_e2 hE
        obtain ⟨r_4, er_4, hE⟩ := cl_e hE
        obtain ⟨g_5, hE⟩ := gd_e hE
        obtain ⟨o_6, eo_6, hE⟩ := cl_e hE
        refine (moX15_compare eo_6).tr ?_
        exact moX15_findsRoom_70 mk_42 hE
      · exact moX15_findsRoom_108 hE
set_option maxRecDepth 20000 in
theorem moX15_findsRoom_32 {o : Int32 × Hp} {F : Nat} {h : Hp} {x0 : Nat} {x1 : Int32} (hE : sX15_findsRoom_32 F h x0 x1 = some o) : Le h o.2 := by
  obtain ⟨v_1, ev_1, hE⟩ := nm_e2 hE
  exact moX15_findsRoom_42 _ hE
set_option maxRecDepth 20000 in
theorem moX15_findsRoom_19 {o : Int32 × Hp} {F : Nat} {h : Hp} {x0 : Nat} {x1 : Int32} (hE : sX15_findsRoom_19 F h x0 x1 = some o) : Le h o.2 := by
  obtain ⟨h_1, eh_1, hE⟩ := nm_e2 hE
  refine (le_I eh_1).tr ?_
  obtain ⟨r_2, er_2, hE⟩ := cl_e hE
  obtain ⟨o_3, eo_3, hE⟩ := cl_e hE
  refine (moX15_writeAll eo_3).tr ?_
  exact moX15_findsRoom_32 hE
set_option maxRecDepth 20000 in
theorem moX15_findsRoom {o : Int32 × Hp} {F : Nat} {h : Hp} {x0 : Nat} (hE : sX15_findsRoom F h x0 = some o) : Le h o.2 := by
  obtain ⟨v_1, ev_1, hE⟩ := nm_e2 hE
  obtain ⟨r_2, er_2, hE⟩ := cl_e hE
  obtain ⟨r_3, er_3, hE⟩ := cl_e hE
  obtain ⟨g_4, hE⟩ := gd_e hE
  obtain ⟨g_5, hE⟩ := gd_e hE
  obtain ⟨g_6, hE⟩ := gd_e hE
  obtain ⟨g_7, hE⟩ := gd_e hE
  obtain ⟨g_8, hE⟩ := gd_e hE
  obtain ⟨g_9, hE⟩ := gd_e hE
  obtain ⟨h_10, eh_10, hE⟩ := nm_e2 hE
  refine (le_cI eh_10).tr ?_
  exact moX15_findsRoom_19 hE
set_option maxRecDepth 20000 in
theorem bX15_findsRoom_294 {p : Program} {l : Launch} {e : Env} {s : State} {m : MethodId} {args : Array Value} {below : List Frame} {meth : Method} {c : Code} {X : Ec} {h0 : Hp} {o : Int32 × Hp} {F : Nat} (C : Cx X p s m args meth c RX15 cX15_findsRoom 7 (some .boolean) "findsRoom") {h : Hp} {x0 : Nat} {x1 : Int32} {x5 : Int32} {H : Heap} {locs : List Loc} (k_x0 : hK h x0 = 15) (hkl : Kl h0 h) (hW : Wx X h H) (hZ : va_S (aA (eB X)) s.heap H locs) (ls : Array Slot) (hl : lv_has ls 7 [(0, .ref x0), (1, .int x1), (5, .int x5)]) (hE : sX15_findsRoom_294 F h x0 x1 x5 = some o) : W p l e (rmA 17 347 h0 o.2) s m args below meth c H locs (hS h - hS h0) (hL h - hL h0) (MQ below (QIA X h0 o.1 o.2) args s (hS o.2 - hS h0) (hL o.2 - hL h0) (aA (eB X))) (F0 m 294 ls []) := by
  refine lv_aload_n C.1 C.2.1 dX15_findsRoom_294 rfl (lv_at hl 0 rfl) ?_
  refine lv_iload_n C.1 C.2.1 dX15_findsRoom_295 rfl (lv_at hl 1 rfl) ?_
  obtain ⟨h_1, eh_1, hE⟩ := nm_e2 hE
  refine pf_X15_11 C hW hZ k_x0 eh_1 dX15_findsRoom_296 (fun _ _ hW km hZ => ?_)
  replace hkl := hkl.tr km.l
  refine x_wc km ?_
  replace k_x0 := km.at k_x0 (by decide)
  refine lv_iload C.1 C.2.1 dX15_findsRoom_299 (lv_at hl 2 rfl) ?_
  obtain ⟨g_2, hE⟩ := gd_e hE
  exact x_iretA C rfl (narB g_2) hW hZ hkl hE dX15_findsRoom_301
set_option maxRecDepth 20000 in
theorem bX15_findsRoom_280 {p : Program} {l : Launch} {e : Env} {s : State} {m : MethodId} {args : Array Value} {below : List Frame} {meth : Method} {c : Code} {X : Ec} {h0 : Hp} {o : Int32 × Hp} {F : Nat} (C : Cx X p s m args meth c RX15 cX15_findsRoom 7 (some .boolean) "findsRoom") {h : Hp} {x0 : Nat} {x1 : Int32} {x5 : Int32} {H : Heap} {locs : List Loc} (k_x0 : hK h x0 = 15) (hkl : Kl h0 h) (hW : Wx X h H) (hZ : va_S (aA (eB X)) s.heap H locs) (ls : Array Slot) (hl : lv_has ls 7 [(0, .ref x0), (1, .int x1), (5, .int x5)]) (hE : sX15_findsRoom_280 F h x0 x1 x5 = some o) : W p l e (rmA 17 347 h0 o.2) s m args below meth c H locs (hS h - hS h0) (hL h - hL h0) (MQ below (QIA X h0 o.1 o.2) args s (hS o.2 - hS h0) (hL o.2 - hL h0) (aA (eB X))) (F0 m 280 ls []) := by
  refine lv_aload_n C.1 C.2.1 dX15_findsRoom_280 rfl (lv_at hl 0 rfl) ?_
  obtain ⟨r_1, er_1, hE⟩ := cl_e hE
  refine gf_X15_327 C hW k_x0 er_1 dX15_findsRoom_281 (fun k_r_1 => ?_)
  refine lv_iconst (v := (0 : Int32)) C.1 C.2.1 dX15_findsRoom_284 (by decide) ?_
  refine lv_aload_n C.1 C.2.1 dX15_findsRoom_285 rfl (lv_at hl 0 rfl) ?_
  obtain ⟨r_2, er_2, hE⟩ := cl_e hE
  refine gf_X15_14 C hW k_x0 er_2 dX15_findsRoom_286 (fun k_r_2 => ?_)
  refine lv_iconst (v := (0 : Int32)) C.1 C.2.1 dX15_findsRoom_289 (by decide) ?_
  refine lv_iload_n C.1 C.2.1 dX15_findsRoom_290 rfl (lv_at hl 1 rfl) ?_
  obtain ⟨g_3, hE⟩ := gd_e hE
  obtain ⟨g_4, hE⟩ := gd_e hE
  obtain ⟨g_5, hE⟩ := gd_e hE
  obtain ⟨g_6, hE⟩ := gd_e hE
  obtain ⟨g_7, hE⟩ := gd_e hE
  obtain ⟨g_8, hE⟩ := gd_e hE
  obtain ⟨h_9, eh_9, hE⟩ := nm_e2 hE
  refine y_cpyI (ty := .byte) C hW hZ hl.1 m_2659 m_1235 m_1234 m_23 k_r_1 k_r_2 (Or.inl ⟨rfl, rfl⟩) g_3 g_4 g_5 g_6 g_7 g_8 (Nat.le_of_ble_eq_true rfl) (Nat.le_of_ble_eq_true rfl) eh_9 dX15_findsRoom_291 (fun _ _ hW km hZ => ?_)
  replace hkl := hkl.tr km.l
  refine x_wc km ?_
  replace k_x0 := km.at k_x0 (by decide)
  exact bX15_findsRoom_294 C k_x0 hkl hW hZ _ (lv_sub hl [0, 1, 2] rfl) hE
set_option maxRecDepth 20000 in
theorem bX15_findsRoom_270 {p : Program} {l : Launch} {e : Env} {s : State} {m : MethodId} {args : Array Value} {below : List Frame} {meth : Method} {c : Code} {X : Ec} {h0 : Hp} {o : Int32 × Hp} {F : Nat} (C : Cx X p s m args meth c RX15 cX15_findsRoom 7 (some .boolean) "findsRoom") {h : Hp} {x0 : Nat} {x1 : Int32} {x5 : Int32} {H : Heap} {locs : List Loc} (k_x0 : hK h x0 = 15) (hkl : Kl h0 h) (hW : Wx X h H) (hZ : va_S (aA (eB X)) s.heap H locs) (ls : Array Slot) (hl : lv_has ls 7 [(0, .ref x0), (1, .int x1), (5, .int x5)]) (hE : sX15_findsRoom_270 F h x0 x1 x5 = some o) : W p l e (rmA 17 347 h0 o.2) s m args below meth c H locs (hS h - hS h0) (hL h - hL h0) (MQ below (QIA X h0 o.1 o.2) args s (hS o.2 - hS h0) (hL o.2 - hL h0) (aA (eB X))) (F0 m 270 ls []) := by
  refine lv_aload_n C.1 C.2.1 dX15_findsRoom_270 rfl (lv_at hl 0 rfl) ?_
  refine lv_dup C.1 C.2.1 dX15_findsRoom_271 rfl ?_
  refine gf_X15_390 C hW k_x0 dX15_findsRoom_272 ?_
  refine lv_iconst (v := (1 : Int32)) C.1 C.2.1 dX15_findsRoom_275 (by decide) ?_
  refine lv_iadd C.1 C.2.1 dX15_findsRoom_276 ?_
  obtain ⟨h_1, eh_1, hE⟩ := nm_e2 hE
  refine pf_X15_390 C hW hZ k_x0 eh_1 dX15_findsRoom_277 (fun _ _ hW km hZ => ?_)
  replace hkl := hkl.tr km.l
  refine x_wc km ?_
  replace k_x0 := km.at k_x0 (by decide)
  exact bX15_findsRoom_280 C k_x0 hkl hW hZ _ (lv_sub hl [0, 1, 2] rfl) hE
set_option maxRecDepth 20000 in
theorem bX15_findsRoom_228 {p : Program} {l : Launch} {e : Env} {s : State} {m : MethodId} {args : Array Value} {below : List Frame} {meth : Method} {c : Code} {X : Ec} {h0 : Hp} {o : Int32 × Hp} {F : Nat} (C : Cx X p s m args meth c RX15 cX15_findsRoom 7 (some .boolean) "findsRoom") {h : Hp} {x0 : Nat} {x1 : Int32} {x5 : Int32} {H : Heap} {locs : List Loc} (k_x0 : hK h x0 = 15) (hkl : Kl h0 h) (hW : Wx X h H) (hZ : va_S (aA (eB X)) s.heap H locs) (ls : Array Slot) (hl : lv_has ls 7 [(0, .ref x0), (1, .int x1), (5, .int x5)]) (hE : sX15_findsRoom_228 F h x0 x1 x5 = some o) : W p l e (rmA 17 347 h0 o.2) s m args below meth c H locs (hS h - hS h0) (hL h - hL h0) (MQ below (QIA X h0 o.1 o.2) args s (hS o.2 - hS h0) (hL o.2 - hL h0) (aA (eB X))) (F0 m 228 ls []) := by
  refine lv_aload_n C.1 C.2.1 dX15_findsRoom_228 rfl (lv_at hl 0 rfl) ?_
  obtain ⟨r_1, er_1, hE⟩ := cl_e hE
  refine gf_X15_321 C hW k_x0 er_1 dX15_findsRoom_229 (fun k_r_1 => ?_)
  refine lv_bipush (v := (96 : Int32)) C.1 C.2.1 dX15_findsRoom_232 (by decide) ?_
  refine lv_aload_n C.1 C.2.1 dX15_findsRoom_234 rfl (lv_at hl 0 rfl) ?_
  refine gf_X15_390 C hW k_x0 dX15_findsRoom_235 ?_
  refine lv_imul C.1 C.2.1 dX15_findsRoom_238 ?_
  refine lv_aload_n C.1 C.2.1 dX15_findsRoom_239 rfl (lv_at hl 0 rfl) ?_
  refine gf_X15_11 C hW k_x0 dX15_findsRoom_240 ?_
  refine lv_i2b C.1 C.2.1 dX15_findsRoom_243 rfl ?_
  obtain ⟨g_2, hE⟩ := gd_e hE
  obtain ⟨h_3, eh_3, hE⟩ := nm_e2 hE
  refine y_bast C hW hZ k_r_1 g_2 eh_3 dX15_findsRoom_244 (fun _ _ hW km hZ => ?_)
  replace hkl := hkl.tr km.l
  refine x_wc km ?_
  replace k_x0 := km.at k_x0 (by decide)
  refine lv_aload_n C.1 C.2.1 dX15_findsRoom_245 rfl (lv_at hl 0 rfl) ?_
  obtain ⟨r_4, er_4, hE⟩ := cl_e hE
  refine gf_X15_14 C hW k_x0 er_4 dX15_findsRoom_246 (fun k_r_4 => ?_)
  refine lv_iconst (v := (0 : Int32)) C.1 C.2.1 dX15_findsRoom_249 (by decide) ?_
  refine lv_aload_n C.1 C.2.1 dX15_findsRoom_250 rfl (lv_at hl 0 rfl) ?_
  obtain ⟨r_5, er_5, hE⟩ := cl_e hE
  refine gf_X15_321 C hW k_x0 er_5 dX15_findsRoom_251 (fun k_r_5 => ?_)
  refine lv_bipush (v := (96 : Int32)) C.1 C.2.1 dX15_findsRoom_254 (by decide) ?_
  refine lv_aload_n C.1 C.2.1 dX15_findsRoom_256 rfl (lv_at hl 0 rfl) ?_
  refine gf_X15_390 C hW k_x0 dX15_findsRoom_257 ?_
  refine lv_imul C.1 C.2.1 dX15_findsRoom_260 ?_
  refine lv_iconst (v := (1 : Int32)) C.1 C.2.1 dX15_findsRoom_261 (by decide) ?_
  refine lv_iadd C.1 C.2.1 dX15_findsRoom_262 ?_
  refine lv_aload_n C.1 C.2.1 dX15_findsRoom_263 rfl (lv_at hl 0 rfl) ?_
  refine gf_X15_11 C hW k_x0 dX15_findsRoom_264 ?_
  obtain ⟨g_6, hE⟩ := gd_e hE
  obtain ⟨g_7, hE⟩ := gd_e hE
  obtain ⟨g_8, hE⟩ := gd_e hE
  obtain ⟨g_9, hE⟩ := gd_e hE
  obtain ⟨g_10, hE⟩ := gd_e hE
  obtain ⟨g_11, hE⟩ := gd_e hE
  obtain ⟨h_12, eh_12, hE⟩ := nm_e2 hE
  refine y_cpyI (ty := .byte) C hW hZ hl.1 m_2659 m_1235 m_1234 m_23 k_r_4 k_r_5 (Or.inl ⟨rfl, rfl⟩) g_6 g_7 g_8 g_9 g_10 g_11 (Nat.le_of_ble_eq_true rfl) (Nat.le_of_ble_eq_true rfl) eh_12 dX15_findsRoom_267 (fun _ _ hW km hZ => ?_)
  replace hkl := hkl.tr km.l
  refine x_wc km ?_
  replace k_x0 := km.at k_x0 (by decide)
  exact bX15_findsRoom_270 C k_x0 hkl hW hZ _ (lv_sub hl [0, 1, 2] rfl) hE
set_option maxRecDepth 20000 in
theorem bX15_findsRoom_174 {p : Program} {l : Launch} {e : Env} {s : State} {m : MethodId} {args : Array Value} {below : List Frame} {meth : Method} {c : Code} {X : Ec} {h0 : Hp} {o : Int32 × Hp} {F : Nat} (C : Cx X p s m args meth c RX15 cX15_findsRoom 7 (some .boolean) "findsRoom") : ∀ (f : Nat) {h : Hp} {x0 : Nat} {x1 : Int32} {x2 : Int32} {x5 : Int32} {x6 : Int32} {H : Heap} {locs : List Loc} (k_x0 : hK h x0 = 15), Kl h0 h → Wx X h H → va_S (aA (eB X)) s.heap H locs → ∀ (ls : Array Slot), lv_has ls 7 [(0, .ref x0), (1, .int x1), (2, .int x2), (5, .int x5), (6, .int x6)] → sX15_findsRoom_174 F f h x0 x1 x2 x5 x6 = some o → W p l e (rmA 17 347 h0 o.2) s m args below meth c H locs (hS h - hS h0) (hL h - hL h0) (MQ below (QIA X h0 o.1 o.2) args s (hS o.2 - hS h0) (hL o.2 - hL h0) (aA (eB X))) (F0 m 174 ls []) := by
  intro f
  induction f with
  | zero =>
    intro h x0 x1 x2 x5 x6 H locs k_x0 hkl hW hZ ls hl hE
    rw [sX15_findsRoom_174] at hE
    cases hE
  | succ f ih =>
    intro h x0 x1 x2 x5 x6 H locs k_x0 hkl hW hZ ls hl hE
    rw [sX15_findsRoom_174] at hE
    have mk_174 : ∀ (h : Hp) (x0 : Nat) (x1 : Int32) (x2 : Int32) (x5 : Int32) (x6 : Int32), sX15_findsRoom_174 F f h x0 x1 x2 x5 x6 = some o → Le h o.2 := fun h x0 x1 x2 x5 x6 hE => moX15_findsRoom_174 _ hE
    have hk_174 : ∀ (h : Hp) (x0 : Nat) (x1 : Int32) (x2 : Int32) (x5 : Int32) (x6 : Int32) (H : Heap) (locs : List Loc), hK h x0 = 15 → Kl h0 h → Wx X h H → va_S (aA (eB X)) s.heap H locs → ∀ (ls : Array Slot), lv_has ls 7 [(0, .ref x0), (1, .int x1), (2, .int x2), (5, .int x5), (6, .int x6)] → sX15_findsRoom_174 F f h x0 x1 x2 x5 x6 = some o → W p l e (rmA 17 347 h0 o.2) s m args below meth c H locs (hS h - hS h0) (hL h - hL h0) (MQ below (QIA X h0 o.1 o.2) args s (hS o.2 - hS h0) (hL o.2 - hL h0) (aA (eB X))) (F0 m 174 ls []) := fun h x0 x1 x2 x5 x6 H locs k_x0 a b c ls hl hE => ih k_x0 a b c ls hl hE
    refine lv_iload C.1 C.2.1 dX15_findsRoom_174 (lv_at hl 4 rfl) ?_
    refine lv_iload_n C.1 C.2.1 dX15_findsRoom_176 rfl (lv_at hl 2 rfl) ?_
    refine lv_icmp_le (tgt := 202) C.1 C.2.1 dX15_findsRoom_177 (by decide) (fun c_1 => ?_) (fun c_1 => ?_)
    · have hE := br_p hE c_1
      refine lv_aload_n C.1 C.2.1 dX15_findsRoom_202 rfl (lv_at hl 0 rfl) ?_
      obtain ⟨r_2, er_2, hE⟩ := cl_e hE
      refine gf_X15_324 C hW k_x0 er_2 dX15_findsRoom_203 (fun k_r_2 => ?_)
      refine lv_iload_n C.1 C.2.1 dX15_findsRoom_206 rfl (lv_at hl 2 rfl) ?_
      refine lv_aload_n C.1 C.2.1 dX15_findsRoom_207 rfl (lv_at hl 0 rfl) ?_
      refine gf_X15_390 C hW k_x0 dX15_findsRoom_208 ?_
      obtain ⟨g_3, hE⟩ := gd_e hE
      obtain ⟨h_4, eh_4, hE⟩ := nm_e2 hE
      refine y_iast C hW hZ k_r_2 g_3 eh_4 dX15_findsRoom_211 (fun _ _ hW km hZ => ?_)
      replace hkl := hkl.tr km.l
      refine x_wc km ?_
      replace k_x0 := km.at k_x0 (by decide)
      refine lv_aload_n C.1 C.2.1 dX15_findsRoom_212 rfl (lv_at hl 0 rfl) ?_
      obtain ⟨r_5, er_5, hE⟩ := cl_e hE
      refine gf_X15_317 C hW k_x0 er_5 dX15_findsRoom_213 (fun k_r_5 => ?_)
      refine lv_aload_n C.1 C.2.1 dX15_findsRoom_216 rfl (lv_at hl 0 rfl) ?_
      refine gf_X15_390 C hW k_x0 dX15_findsRoom_217 ?_
      obtain ⟨g_6, hE⟩ := gd_e hE
      obtain ⟨r_7, er_7, hE⟩ := cl_e hE
      refine y_aald (t0 := 5) C hW k_r_5 (by decide) (by decide) rfl rfl rfl (fun _ => rfl) g_6 er_7 dX15_findsRoom_220 (fun k_r_7 => ?_)
      refine lv_aload_n C.1 C.2.1 dX15_findsRoom_221 rfl (lv_at hl 0 rfl) ?_
      obtain ⟨r_8, er_8, hE⟩ := cl_e hE
      refine gf_X15_330 C hW k_x0 er_8 dX15_findsRoom_222 (fun k_r_8 => ?_)
      obtain ⟨o_9, eo_9, hE⟩ := cl_e hE
      have m1 := moX12_copy eo_9
      have m2 := moX15_findsRoom_228 hE
      refine x_kV (o := o_9) (z_runV (As := [.ref r_8]) (rest := []) C (ct_X12_copy l X k_r_7 k_r_8 eo_9) cw_X15_405 hW hZ k_r_7 (by decide) rfl rfl rfl hl.1 (Nat.le_of_ble_eq_true rfl) rfl dX15_findsRoom_225 ⟨Nat.le_of_ble_eq_true rfl, Nat.le_of_ble_eq_true rfl⟩ (rm_ok0 hkl m1 m2)) hZ (fun _ _ hW km hZ => ?_)
      replace hkl := hkl.tr km.l
      refine x_wc km ?_
      replace k_x0 := km.at k_x0 (by decide)
      exact bX15_findsRoom_228 C k_x0 hkl hW hZ _ (lv_sub hl [0, 1, 3] rfl) hE
    · have hE := br_n hE c_1
      refine lv_aload_n C.1 C.2.1 dX15_findsRoom_180 rfl (lv_at hl 0 rfl) ?_
      obtain ⟨r_10, er_10, hE⟩ := cl_e hE
      refine gf_X15_324 C hW k_x0 er_10 dX15_findsRoom_181 (fun k_r_10 => ?_)
      refine lv_iload C.1 C.2.1 dX15_findsRoom_184 (lv_at hl 4 rfl) ?_
      refine lv_aload_n C.1 C.2.1 dX15_findsRoom_186 rfl (lv_at hl 0 rfl) ?_
      obtain ⟨r_11, er_11, hE⟩ := cl_e hE
      refine gf_X15_324 C hW k_x0 er_11 dX15_findsRoom_187 (fun k_r_11 => ?_)
      refine lv_iload C.1 C.2.1 dX15_findsRoom_190 (lv_at hl 4 rfl) ?_
      refine lv_iconst (v := (1 : Int32)) C.1 C.2.1 dX15_findsRoom_192 (by decide) ?_
      refine lv_isub C.1 C.2.1 dX15_findsRoom_193 ?_
      obtain ⟨g_12, hE⟩ := gd_e hE
      refine y_iald C hW k_r_11 g_12 dX15_findsRoom_194 ?_
      obtain ⟨g_13, hE⟩ := gd_e hE
      obtain ⟨h_14, eh_14, hE⟩ := nm_e2 hE
      refine y_iast C hW hZ k_r_10 g_13 eh_14 dX15_findsRoom_195 (fun _ _ hW km hZ => ?_)
      replace hkl := hkl.tr km.l
      refine x_wc km ?_
      replace k_x0 := km.at k_x0 (by decide)
      obtain ⟨v_15, ev_15, hE⟩ := nm_e2 hE
      refine lv_iinc (v := v_15) (lv' := [(6, .int v_15), (0, .ref x0), (1, .int x1), (2, .int x2), (5, .int x5)]) C.1 C.2.1 dX15_findsRoom_196 hl (k := 4) rfl (by rw [ev_15]; rfl) (by decide) rfl (fun ls hl => ?_)
      refine lv_goto (tgt := 174) C.1 C.2.1 dX15_findsRoom_199 (by decide) ?_
      exact hk_174 _ _ _ _ _ _ _ _ k_x0 hkl hW hZ _ (lv_sub hl [1, 2, 3, 4, 0] rfl) hE
set_option maxRecDepth 20000 in
theorem bX15_findsRoom_168 {p : Program} {l : Launch} {e : Env} {s : State} {m : MethodId} {args : Array Value} {below : List Frame} {meth : Method} {c : Code} {X : Ec} {h0 : Hp} {o : Int32 × Hp} {F : Nat} (C : Cx X p s m args meth c RX15 cX15_findsRoom 7 (some .boolean) "findsRoom") {h : Hp} {x0 : Nat} {x1 : Int32} {x2 : Int32} {x5 : Int32} {H : Heap} {locs : List Loc} (k_x0 : hK h x0 = 15) (hkl : Kl h0 h) (hW : Wx X h H) (hZ : va_S (aA (eB X)) s.heap H locs) (ls : Array Slot) (hl : lv_has ls 7 [(0, .ref x0), (1, .int x1), (2, .int x2), (5, .int x5)]) (hE : sX15_findsRoom_168 F h x0 x1 x2 x5 = some o) : W p l e (rmA 17 347 h0 o.2) s m args below meth c H locs (hS h - hS h0) (hL h - hL h0) (MQ below (QIA X h0 o.1 o.2) args s (hS o.2 - hS h0) (hL o.2 - hL h0) (aA (eB X))) (F0 m 168 ls []) := by
  refine lv_aload_n C.1 C.2.1 dX15_findsRoom_168 rfl (lv_at hl 0 rfl) ?_
  refine gf_X15_390 C hW k_x0 dX15_findsRoom_169 ?_
  obtain ⟨v_1, ev_1, hE⟩ := nm_e2 hE
  refine x_nmI ev_1 ?_
  refine lv_istore (lv' := [(6, .int v_1), (0, .ref x0), (1, .int x1), (2, .int x2), (5, .int x5)]) C.1 C.2.1 dX15_findsRoom_172 hl (by decide) rfl (fun ls hl => ?_)
  exact bX15_findsRoom_174 C F k_x0 hkl hW hZ _ (lv_sub hl [1, 2, 3, 4, 0] rfl) hE
set_option maxRecDepth 20000 in
theorem bX15_findsRoom_167 {p : Program} {l : Launch} {e : Env} {s : State} {m : MethodId} {args : Array Value} {below : List Frame} {meth : Method} {c : Code} {X : Ec} {h0 : Hp} {o : Int32 × Hp} {F : Nat} (C : Cx X p s m args meth c RX15 cX15_findsRoom 7 (some .boolean) "findsRoom") {h : Hp} {x0 : Nat} {x1 : Int32} {x2 : Int32} {x5 : Int32} {t0 : Nat} {t1 : Int32} {t2 : Nat} {H : Heap} {locs : List Loc} (k_x0 : hK h x0 = 15) (k_t0 : hK h t0 = 12) (k_t2 : hK h t2 = 21) (hkl : Kl h0 h) (hW : Wx X h H) (hZ : va_S (aA (eB X)) s.heap H locs) (ls : Array Slot) (hl : lv_has ls 7 [(0, .ref x0), (1, .int x1), (2, .int x2), (5, .int x5)]) (hE : sX15_findsRoom_167 F h x0 x1 x2 x5 t0 t1 t2 = some o) : W p l e (rmA 17 347 h0 o.2) s m args below meth c H locs (hS h - hS h0) (hL h - hL h0) (MQ below (QIA X h0 o.1 o.2) args s (hS o.2 - hS h0) (hL o.2 - hL h0) (aA (eB X))) (F0 m 167 ls [.ref t0, .int t1, .ref t2]) := by
  obtain ⟨g_1, hE⟩ := gd_e hE
  obtain ⟨h_2, eh_2, hE⟩ := nm_e2 hE
  refine y_aast (t0 := 5) C hW hZ k_t2 (by decide) (by decide) rfl k_t0 (by decide) rfl (fun _ => rfl) g_1 eh_2 dX15_findsRoom_167 (fun _ _ hW km hZ => ?_)
  replace hkl := hkl.tr km.l
  refine x_wc km ?_
  replace k_x0 := km.at k_x0 (by decide)
  exact bX15_findsRoom_168 C k_x0 hkl hW hZ _ (lv_sub hl [0, 1, 2, 3] rfl) hE
set_option maxRecDepth 20000 in
theorem bX15_findsRoom_163 {p : Program} {l : Launch} {e : Env} {s : State} {m : MethodId} {args : Array Value} {below : List Frame} {meth : Method} {c : Code} {X : Ec} {h0 : Hp} {o : Int32 × Hp} {F : Nat} (C : Cx X p s m args meth c RX15 cX15_findsRoom 7 (some .boolean) "findsRoom") {h : Hp} {x0 : Nat} {x1 : Int32} {x2 : Int32} {x5 : Int32} {t0 : Nat} {t1 : Int32} {t2 : Nat} {H : Heap} {locs : List Loc} (k_x0 : hK h x0 = 15) (k_t0 : hK h t0 = 12) (k_t2 : hK h t2 = 21) (hkl : Kl h0 h) (hW : Wx X h H) (hZ : va_S (aA (eB X)) s.heap H locs) (ls : Array Slot) (hl : lv_has ls 7 [(0, .ref x0), (1, .int x1), (2, .int x2), (5, .int x5)]) (hE : sX15_findsRoom_163 F h x0 x1 x2 x5 t0 t1 t2 = some o) : W p l e (rmA 17 347 h0 o.2) s m args below meth c H locs (hS h - hS h0) (hL h - hL h0) (MQ below (QIA X h0 o.1 o.2) args s (hS o.2 - hS h0) (hL o.2 - hL h0) (aA (eB X))) (F0 m 163 ls [.ref t0, .int t1, .ref t2]) := by
  refine lv_dup C.1 C.2.1 dX15_findsRoom_163 rfl ?_
  obtain ⟨o_1, eo_1, hE⟩ := cl_e hE
  have m1 := moX12_init eo_1
  have m2 := moX15_findsRoom_167 hE
  refine x_kVA (o := o_1) hkl (z_runIN (As := []) (rest := [.ref t0, .int t1, .ref t2]) C (ct_X12_init l X k_t0 eo_1) cj_X15_264 hW hZ rfl hl.1 (Nat.le_of_ble_eq_true rfl) rfl dX15_findsRoom_164 ⟨Nat.le_of_ble_eq_true rfl, Nat.le_of_ble_eq_true rfl⟩ (rm_ok hkl m1 m2)) hZ (fun _ _ hW km hZ => ?_)
  replace hkl := hkl.tr km
  replace k_x0 := km.at k_x0 (by decide)
  replace k_t0 := km.at k_t0 (by decide)
  replace k_t2 := km.at k_t2 (by decide)
  exact bX15_findsRoom_167 C k_x0 k_t0 k_t2 hkl hW hZ _ (lv_sub hl [0, 1, 2, 3] rfl) hE
set_option maxRecDepth 20000 in
theorem bX15_findsRoom_128 {p : Program} {l : Launch} {e : Env} {s : State} {m : MethodId} {args : Array Value} {below : List Frame} {meth : Method} {c : Code} {X : Ec} {h0 : Hp} {o : Int32 × Hp} {F : Nat} (C : Cx X p s m args meth c RX15 cX15_findsRoom 7 (some .boolean) "findsRoom") {h : Hp} {x0 : Nat} {x1 : Int32} {x2 : Int32} {x4 : Int32} {t0 : Int32} {H : Heap} {locs : List Loc} (k_x0 : hK h x0 = 15) (hkl : Kl h0 h) (hW : Wx X h H) (hZ : va_S (aA (eB X)) s.heap H locs) (ls : Array Slot) (hl : lv_has ls 7 [(0, .ref x0), (1, .int x1), (2, .int x2), (4, .int x4)]) (hE : sX15_findsRoom_128 F h x0 x1 x2 x4 t0 = some o) : W p l e (rmA 17 347 h0 o.2) s m args below meth c H locs (hS h - hS h0) (hL h - hL h0) (MQ below (QIA X h0 o.1 o.2) args s (hS o.2 - hS h0) (hL o.2 - hL h0) (aA (eB X))) (F0 m 128 ls [.int t0]) := by
  refine lv_istore (lv' := [(5, .int t0), (0, .ref x0), (1, .int x1), (2, .int x2), (4, .int x4)]) C.1 C.2.1 dX15_findsRoom_128 hl (by decide) rfl (fun ls hl => ?_)
  refine lv_iload C.1 C.2.1 dX15_findsRoom_130 (lv_at hl 4 rfl) ?_
  refine lv_if_ne (tgt := 280) C.1 C.2.1 dX15_findsRoom_132 (by decide) (fun c_1 => ?_) (fun c_1 => ?_)
  · have hE := br_n hE c_1
    exact bX15_findsRoom_280 C k_x0 hkl hW hZ _ (lv_sub hl [1, 2, 0] rfl) hE
  · have hE := br_p hE c_1
    refine lv_iload C.1 C.2.1 dX15_findsRoom_135 (lv_at hl 0 rfl) ?_
    refine lv_if_eq (tgt := 280) C.1 C.2.1 dX15_findsRoom_137 (by decide) (fun c_2 => ?_) (fun c_2 => ?_)
    · have hE := br_p hE c_2
      exact bX15_findsRoom_280 C k_x0 hkl hW hZ _ (lv_sub hl [1, 2, 0] rfl) hE
    · have hE := br_n hE c_2
      refine lv_aload_n C.1 C.2.1 dX15_findsRoom_140 rfl (lv_at hl 1 rfl) ?_
      obtain ⟨r_3, er_3, hE⟩ := cl_e hE
      refine gf_X15_317 C hW k_x0 er_3 dX15_findsRoom_141 (fun k_r_3 => ?_)
      refine lv_aload_n C.1 C.2.1 dX15_findsRoom_144 rfl (lv_at hl 1 rfl) ?_
      refine gf_X15_390 C hW k_x0 dX15_findsRoom_145 ?_
      obtain ⟨g_4, hE⟩ := gd_e hE
      rcases e_6 : hR h r_3 (hI h x0 44).toNatClampNeg with _ | r_5
      · have hE := onr_n hE e_6
        refine y_aald0 (t0 := 5) C hW k_r_3 (by decide) (by decide) rfl rfl g_4 e_6 dX15_findsRoom_148 ?_
        refine lv_ifnonnullN C.1 C.2.1 dX15_findsRoom_149 ?_
        refine lv_aload_n C.1 C.2.1 dX15_findsRoom_152 rfl (lv_at hl 1 rfl) ?_
        obtain ⟨r_7, er_7, hE⟩ := cl_e hE
        refine gf_X15_317 C hW k_x0 er_7 dX15_findsRoom_153 (fun k_r_7 => ?_)
        refine lv_aload_n C.1 C.2.1 dX15_findsRoom_156 rfl (lv_at hl 1 rfl) ?_
        refine gf_X15_390 C hW k_x0 dX15_findsRoom_157 ?_
        obtain ⟨a_8, ea_8, hE⟩ := nm_e2 hE
        obtain ⟨h_9, eh_9, hE⟩ := nm_e2 hE
        refine y_new C hW hZ hkl (moX15_findsRoom_163 hE) ⟨rfl, rfl⟩ i_X12 tyX12 tyX12_ok (by decide) rfl rfl dv_X12 m_1901 m_1903 m_21 eh_9 dX15_findsRoom_160 (fun _ hW km k_a_8 hZ => ?_)
        replace hkl := hkl.tr km
        refine x_nmA ea_8 ?_
        rw [← ea_8] at k_a_8
        replace k_x0 := km.at k_x0 (by decide)
        replace k_r_7 := km.at k_r_7 (by decide)
        exact bX15_findsRoom_163 C k_x0 k_a_8 k_r_7 hkl hW hZ _ (lv_sub hl [1, 2, 3, 0] rfl) hE
      · have hE := onr_s hE e_6
        refine y_aald (t0 := 5) C hW k_r_3 (by decide) (by decide) rfl rfl rfl (fun _ => rfl) g_4 e_6 dX15_findsRoom_148 (fun k_r_5 => ?_)
        refine lv_ifnonnull (tgt := 168) C.1 C.2.1 dX15_findsRoom_149 (by decide) ?_
        exact bX15_findsRoom_168 C k_x0 hkl hW hZ _ (lv_sub hl [1, 2, 3, 0] rfl) hE
set_option maxRecDepth 20000 in
theorem bX15_findsRoom_123 {p : Program} {l : Launch} {e : Env} {s : State} {m : MethodId} {args : Array Value} {below : List Frame} {meth : Method} {c : Code} {X : Ec} {h0 : Hp} {o : Int32 × Hp} {F : Nat} (C : Cx X p s m args meth c RX15 cX15_findsRoom 7 (some .boolean) "findsRoom") {h : Hp} {x0 : Nat} {x1 : Int32} {x2 : Int32} {x4 : Int32} {H : Heap} {locs : List Loc} (k_x0 : hK h x0 = 15) (hkl : Kl h0 h) (hW : Wx X h H) (hZ : va_S (aA (eB X)) s.heap H locs) (ls : Array Slot) (hl : lv_has ls 7 [(0, .ref x0), (1, .int x1), (2, .int x2), (4, .int x4)]) (hE : sX15_findsRoom_123 F h x0 x1 x2 x4 = some o) : W p l e (rmA 17 347 h0 o.2) s m args below meth c H locs (hS h - hS h0) (hL h - hL h0) (MQ below (QIA X h0 o.1 o.2) args s (hS o.2 - hS h0) (hL o.2 - hL h0) (aA (eB X))) (F0 m 123 ls []) := by
  refine lv_iconst (v := (1 : Int32)) C.1 C.2.1 dX15_findsRoom_123 (by decide) ?_
  refine lv_goto (tgt := 128) C.1 C.2.1 dX15_findsRoom_124 (by decide) ?_
  exact bX15_findsRoom_128 C k_x0 hkl hW hZ _ (lv_sub hl [0, 1, 2, 3] rfl) hE
set_option maxRecDepth 20000 in
theorem bX15_findsRoom_108 {p : Program} {l : Launch} {e : Env} {s : State} {m : MethodId} {args : Array Value} {below : List Frame} {meth : Method} {c : Code} {X : Ec} {h0 : Hp} {o : Int32 × Hp} {F : Nat} (C : Cx X p s m args meth c RX15 cX15_findsRoom 7 (some .boolean) "findsRoom") {h : Hp} {x0 : Nat} {x1 : Int32} {x2 : Int32} {x4 : Int32} {H : Heap} {locs : List Loc} (k_x0 : hK h x0 = 15) (hkl : Kl h0 h) (hW : Wx X h H) (hZ : va_S (aA (eB X)) s.heap H locs) (ls : Array Slot) (hl : lv_has ls 7 [(0, .ref x0), (1, .int x1), (2, .int x2), (4, .int x4)]) (hE : sX15_findsRoom_108 F h x0 x1 x2 x4 = some o) : W p l e (rmA 17 347 h0 o.2) s m args below meth c H locs (hS h - hS h0) (hL h - hL h0) (MQ below (QIA X h0 o.1 o.2) args s (hS o.2 - hS h0) (hL o.2 - hL h0) (aA (eB X))) (F0 m 108 ls []) := by
  refine lv_iload C.1 C.2.1 dX15_findsRoom_108 (lv_at hl 3 rfl) ?_
  refine lv_if_ne (tgt := 123) C.1 C.2.1 dX15_findsRoom_110 (by decide) (fun c_1 => ?_) (fun c_1 => ?_)
  · have hE := br_n hE c_1
    exact bX15_findsRoom_123 C k_x0 hkl hW hZ _ (lv_sub hl [0, 1, 2, 3] rfl) hE
  · have hE := br_p hE c_1
    refine lv_aload_n C.1 C.2.1 dX15_findsRoom_113 rfl (lv_at hl 0 rfl) ?_
    refine gf_X15_390 C hW k_x0 dX15_findsRoom_114 ?_
    refine lv_sipush (v := (3000 : Int32)) C.1 C.2.1 dX15_findsRoom_117 (by decide) ?_
    refine lv_icmp_ge (tgt := 127) C.1 C.2.1 dX15_findsRoom_120 (by decide) (fun c_2 => ?_) (fun c_2 => ?_)
    · have hE := br_p hE c_2
      refine lv_iconst (v := (0 : Int32)) C.1 C.2.1 dX15_findsRoom_127 (by decide) ?_
      exact bX15_findsRoom_128 C k_x0 hkl hW hZ _ (lv_sub hl [0, 1, 2, 3] rfl) hE
    · have hE := br_n hE c_2
      exact bX15_findsRoom_123 C k_x0 hkl hW hZ _ (lv_sub hl [0, 1, 2, 3] rfl) hE
set_option maxRecDepth 20000 in
theorem bX15_findsRoom_105 {p : Program} {l : Launch} {e : Env} {s : State} {m : MethodId} {args : Array Value} {below : List Frame} {meth : Method} {c : Code} {X : Ec} {h0 : Hp} {o : Int32 × Hp} {k_42 : Hp → Nat → Int32 → Int32 → Int32 → Int32 → Option (Int32 × Hp)} {F : Nat} (C : Cx X p s m args meth c RX15 cX15_findsRoom 7 (some .boolean) "findsRoom") (hk_42 : ∀ (h : Hp) (x0 : Nat) (x1 : Int32) (x2 : Int32) (x3 : Int32) (x4 : Int32) (H : Heap) (locs : List Loc), hK h x0 = 15 → Kl h0 h → Wx X h H → va_S (aA (eB X)) s.heap H locs → ∀ (ls : Array Slot), lv_has ls 7 [(0, .ref x0), (1, .int x1), (2, .int x2), (3, .int x3), (4, .int x4)] → k_42 h x0 x1 x2 x3 x4 = some o → W p l e (rmA 17 347 h0 o.2) s m args below meth c H locs (hS h - hS h0) (hL h - hL h0) (MQ below (QIA X h0 o.1 o.2) args s (hS o.2 - hS h0) (hL o.2 - hL h0) (aA (eB X))) (F0 m 42 ls [])) (mk_42 : ∀ (h : Hp) (x0 : Nat) (x1 : Int32) (x2 : Int32) (x3 : Int32) (x4 : Int32), k_42 h x0 x1 x2 x3 x4 = some o → Le h o.2) {h : Hp} {x0 : Nat} {x1 : Int32} {x2 : Int32} {x3 : Int32} {x4 : Int32} {H : Heap} {locs : List Loc} (k_x0 : hK h x0 = 15) (hkl : Kl h0 h) (hW : Wx X h H) (hZ : va_S (aA (eB X)) s.heap H locs) (ls : Array Slot) (hl : lv_has ls 7 [(0, .ref x0), (1, .int x1), (2, .int x2), (3, .int x3), (4, .int x4)]) (hE : sX15_findsRoom_105 F k_42 h x0 x1 x2 x3 x4 = some o) : W p l e (rmA 17 347 h0 o.2) s m args below meth c H locs (hS h - hS h0) (hL h - hL h0) (MQ below (QIA X h0 o.1 o.2) args s (hS o.2 - hS h0) (hL o.2 - hL h0) (aA (eB X))) (F0 m 105 ls []) := by
  refine lv_goto (tgt := 42) C.1 C.2.1 dX15_findsRoom_105 (by decide) ?_
  exact hk_42 _ _ _ _ _ _ _ _ k_x0 hkl hW hZ _ (lv_sub hl [0, 1, 2, 3, 4] rfl) hE
set_option maxRecDepth 20000 in
theorem bX15_findsRoom_82 {p : Program} {l : Launch} {e : Env} {s : State} {m : MethodId} {args : Array Value} {below : List Frame} {meth : Method} {c : Code} {X : Ec} {h0 : Hp} {o : Int32 × Hp} {k_42 : Hp → Nat → Int32 → Int32 → Int32 → Int32 → Option (Int32 × Hp)} {F : Nat} (C : Cx X p s m args meth c RX15 cX15_findsRoom 7 (some .boolean) "findsRoom") (hk_42 : ∀ (h : Hp) (x0 : Nat) (x1 : Int32) (x2 : Int32) (x3 : Int32) (x4 : Int32) (H : Heap) (locs : List Loc), hK h x0 = 15 → Kl h0 h → Wx X h H → va_S (aA (eB X)) s.heap H locs → ∀ (ls : Array Slot), lv_has ls 7 [(0, .ref x0), (1, .int x1), (2, .int x2), (3, .int x3), (4, .int x4)] → k_42 h x0 x1 x2 x3 x4 = some o → W p l e (rmA 17 347 h0 o.2) s m args below meth c H locs (hS h - hS h0) (hL h - hL h0) (MQ below (QIA X h0 o.1 o.2) args s (hS o.2 - hS h0) (hL o.2 - hL h0) (aA (eB X))) (F0 m 42 ls [])) (mk_42 : ∀ (h : Hp) (x0 : Nat) (x1 : Int32) (x2 : Int32) (x3 : Int32) (x4 : Int32), k_42 h x0 x1 x2 x3 x4 = some o → Le h o.2) {h : Hp} {x0 : Nat} {x1 : Int32} {x2 : Int32} {x3 : Int32} {x5 : Int32} {x6 : Int32} {t0 : Int32} {H : Heap} {locs : List Loc} (k_x0 : hK h x0 = 15) (hkl : Kl h0 h) (hW : Wx X h H) (hZ : va_S (aA (eB X)) s.heap H locs) (ls : Array Slot) (hl : lv_has ls 7 [(0, .ref x0), (1, .int x1), (2, .int x2), (3, .int x3), (5, .int x5), (6, .int x6)]) (hE : sX15_findsRoom_82 F k_42 h x0 x1 x2 x3 x5 x6 t0 = some o) : W p l e (rmA 17 347 h0 o.2) s m args below meth c H locs (hS h - hS h0) (hL h - hL h0) (MQ below (QIA X h0 o.1 o.2) args s (hS o.2 - hS h0) (hL o.2 - hL h0) (aA (eB X))) (F0 m 82 ls [.int t0]) := by
  refine lv_istore (lv' := [(4, .int t0), (0, .ref x0), (1, .int x1), (2, .int x2), (3, .int x3), (5, .int x5), (6, .int x6)]) C.1 C.2.1 dX15_findsRoom_82 hl (by decide) rfl (fun ls hl => ?_)
  refine lv_iload C.1 C.2.1 dX15_findsRoom_84 (lv_at hl 6 rfl) ?_
  refine lv_if_ge (tgt := 95) C.1 C.2.1 dX15_findsRoom_86 (by decide) (fun c_1 => ?_) (fun c_1 => ?_)
  · have hE := br_p hE c_1
    refine lv_iload C.1 C.2.1 dX15_findsRoom_95 (lv_at hl 6 rfl) ?_
    refine lv_if_le (tgt := 105) C.1 C.2.1 dX15_findsRoom_97 (by decide) (fun c_2 => ?_) (fun c_2 => ?_)
    · have hE := br_p hE c_2
      exact bX15_findsRoom_105 C hk_42 mk_42 k_x0 hkl hW hZ _ (lv_sub hl [1, 2, 3, 4, 0] rfl) hE
    · have hE := br_n hE c_2
      refine lv_iload C.1 C.2.1 dX15_findsRoom_100 (lv_at hl 5 rfl) ?_
      refine lv_iconst (v := (1 : Int32)) C.1 C.2.1 dX15_findsRoom_102 (by decide) ?_
      refine lv_iadd C.1 C.2.1 dX15_findsRoom_103 ?_
      obtain ⟨v_3, ev_3, hE⟩ := nm_e2 hE
      refine x_nmI ev_3 ?_
      refine lv_istore_n (lv' := [(2, .int v_3), (4, .int t0), (0, .ref x0), (1, .int x1), (3, .int x3), (5, .int x5), (6, .int x6)]) C.1 C.2.1 dX15_findsRoom_104 rfl hl (by decide) rfl (fun ls hl => ?_)
      exact bX15_findsRoom_105 C hk_42 mk_42 k_x0 hkl hW hZ _ (lv_sub hl [2, 3, 0, 4, 1] rfl) hE
  · have hE := br_n hE c_1
    refine lv_iload C.1 C.2.1 dX15_findsRoom_89 (lv_at hl 5 rfl) ?_
    refine lv_istore_n (lv' := [(3, .int x5), (4, .int t0), (0, .ref x0), (1, .int x1), (2, .int x2), (5, .int x5), (6, .int x6)]) C.1 C.2.1 dX15_findsRoom_91 rfl hl (by decide) rfl (fun ls hl => ?_)
    refine lv_goto (tgt := 105) C.1 C.2.1 dX15_findsRoom_92 (by decide) ?_
    exact bX15_findsRoom_105 C hk_42 mk_42 k_x0 hkl hW hZ _ (lv_sub hl [2, 3, 4, 0, 1] rfl) hE
set_option maxRecDepth 20000 in
theorem bX15_findsRoom_70 {p : Program} {l : Launch} {e : Env} {s : State} {m : MethodId} {args : Array Value} {below : List Frame} {meth : Method} {c : Code} {X : Ec} {h0 : Hp} {o : Int32 × Hp} {k_42 : Hp → Nat → Int32 → Int32 → Int32 → Int32 → Option (Int32 × Hp)} {F : Nat} (C : Cx X p s m args meth c RX15 cX15_findsRoom 7 (some .boolean) "findsRoom") (hk_42 : ∀ (h : Hp) (x0 : Nat) (x1 : Int32) (x2 : Int32) (x3 : Int32) (x4 : Int32) (H : Heap) (locs : List Loc), hK h x0 = 15 → Kl h0 h → Wx X h H → va_S (aA (eB X)) s.heap H locs → ∀ (ls : Array Slot), lv_has ls 7 [(0, .ref x0), (1, .int x1), (2, .int x2), (3, .int x3), (4, .int x4)] → k_42 h x0 x1 x2 x3 x4 = some o → W p l e (rmA 17 347 h0 o.2) s m args below meth c H locs (hS h - hS h0) (hL h - hL h0) (MQ below (QIA X h0 o.1 o.2) args s (hS o.2 - hS h0) (hL o.2 - hL h0) (aA (eB X))) (F0 m 42 ls [])) (mk_42 : ∀ (h : Hp) (x0 : Nat) (x1 : Int32) (x2 : Int32) (x3 : Int32) (x4 : Int32), k_42 h x0 x1 x2 x3 x4 = some o → Le h o.2) {h : Hp} {x0 : Nat} {x1 : Int32} {x2 : Int32} {x3 : Int32} {x5 : Int32} {t0 : Int32} {H : Heap} {locs : List Loc} (k_x0 : hK h x0 = 15) (hkl : Kl h0 h) (hW : Wx X h H) (hZ : va_S (aA (eB X)) s.heap H locs) (ls : Array Slot) (hl : lv_has ls 7 [(0, .ref x0), (1, .int x1), (2, .int x2), (3, .int x3), (5, .int x5)]) (hE : sX15_findsRoom_70 F k_42 h x0 x1 x2 x3 x5 t0 = some o) : W p l e (rmA 17 347 h0 o.2) s m args below meth c H locs (hS h - hS h0) (hL h - hL h0) (MQ below (QIA X h0 o.1 o.2) args s (hS o.2 - hS h0) (hL o.2 - hL h0) (aA (eB X))) (F0 m 70 ls [.int t0]) := by
  refine lv_istore (lv' := [(6, .int t0), (0, .ref x0), (1, .int x1), (2, .int x2), (3, .int x3), (5, .int x5)]) C.1 C.2.1 dX15_findsRoom_70 hl (by decide) rfl (fun ls hl => ?_)
  refine lv_iload C.1 C.2.1 dX15_findsRoom_72 (lv_at hl 0 rfl) ?_
  refine lv_if_ne (tgt := 81) C.1 C.2.1 dX15_findsRoom_74 (by decide) (fun c_1 => ?_) (fun c_1 => ?_)
  · have hE := br_n hE c_1
    refine lv_iconst (v := (0 : Int32)) C.1 C.2.1 dX15_findsRoom_81 (by decide) ?_
    exact bX15_findsRoom_82 C hk_42 mk_42 k_x0 hkl hW hZ _ (lv_sub hl [1, 2, 3, 4, 5, 0] rfl) hE
  · have hE := br_p hE c_1
    refine lv_iconst (v := (1 : Int32)) C.1 C.2.1 dX15_findsRoom_77 (by decide) ?_
    refine lv_goto (tgt := 82) C.1 C.2.1 dX15_findsRoom_78 (by decide) ?_
    exact bX15_findsRoom_82 C hk_42 mk_42 k_x0 hkl hW hZ _ (lv_sub hl [1, 2, 3, 4, 5, 0] rfl) hE
set_option maxRecDepth 20000 in
theorem bX15_findsRoom_42 {p : Program} {l : Launch} {e : Env} {s : State} {m : MethodId} {args : Array Value} {below : List Frame} {meth : Method} {c : Code} {X : Ec} {h0 : Hp} {o : Int32 × Hp} {F : Nat} (C : Cx X p s m args meth c RX15 cX15_findsRoom 7 (some .boolean) "findsRoom") : ∀ (f : Nat) {h : Hp} {x0 : Nat} {x1 : Int32} {x2 : Int32} {x3 : Int32} {x4 : Int32} {H : Heap} {locs : List Loc} (k_x0 : hK h x0 = 15), Kl h0 h → Wx X h H → va_S (aA (eB X)) s.heap H locs → ∀ (ls : Array Slot), lv_has ls 7 [(0, .ref x0), (1, .int x1), (2, .int x2), (3, .int x3), (4, .int x4)] → sX15_findsRoom_42 F f h x0 x1 x2 x3 x4 = some o → W p l e (rmA 17 347 h0 o.2) s m args below meth c H locs (hS h - hS h0) (hL h - hL h0) (MQ below (QIA X h0 o.1 o.2) args s (hS o.2 - hS h0) (hL o.2 - hL h0) (aA (eB X))) (F0 m 42 ls []) := by
  intro f
  induction f with
  | zero =>
    intro h x0 x1 x2 x3 x4 H locs k_x0 hkl hW hZ ls hl hE
    rw [sX15_findsRoom_42] at hE
    cases hE
  | succ f ih =>
    intro h x0 x1 x2 x3 x4 H locs k_x0 hkl hW hZ ls hl hE
    rw [sX15_findsRoom_42] at hE
    have mk_42 : ∀ (h : Hp) (x0 : Nat) (x1 : Int32) (x2 : Int32) (x3 : Int32) (x4 : Int32), sX15_findsRoom_42 F f h x0 x1 x2 x3 x4 = some o → Le h o.2 := fun h x0 x1 x2 x3 x4 hE => moX15_findsRoom_42 _ hE
    have hk_42 : ∀ (h : Hp) (x0 : Nat) (x1 : Int32) (x2 : Int32) (x3 : Int32) (x4 : Int32) (H : Heap) (locs : List Loc), hK h x0 = 15 → Kl h0 h → Wx X h H → va_S (aA (eB X)) s.heap H locs → ∀ (ls : Array Slot), lv_has ls 7 [(0, .ref x0), (1, .int x1), (2, .int x2), (3, .int x3), (4, .int x4)] → sX15_findsRoom_42 F f h x0 x1 x2 x3 x4 = some o → W p l e (rmA 17 347 h0 o.2) s m args below meth c H locs (hS h - hS h0) (hL h - hL h0) (MQ below (QIA X h0 o.1 o.2) args s (hS o.2 - hS h0) (hL o.2 - hL h0) (aA (eB X))) (F0 m 42 ls []) := fun h x0 x1 x2 x3 x4 H locs k_x0 a b c ls hl hE => ih k_x0 a b c ls hl hE
    refine lv_iload_n C.1 C.2.1 dX15_findsRoom_42 rfl (lv_at hl 2 rfl) ?_
    refine lv_iload_n C.1 C.2.1 dX15_findsRoom_43 rfl (lv_at hl 3 rfl) ?_
    refine lv_icmp_ge (tgt := 108) C.1 C.2.1 dX15_findsRoom_44 (by decide) (fun c_1 => ?_) (fun c_1 => ?_)
    · have hE := br_p hE c_1
      exact bX15_findsRoom_108 C k_x0 hkl hW hZ _ (lv_sub hl [0, 1, 2, 4] rfl) hE
    · have hE := br_n hE c_1
      refine lv_iload C.1 C.2.1 dX15_findsRoom_47 (lv_at hl 4 rfl) ?_
      refine lv_if_ne (tgt := 108) C.1 C.2.1 dX15_findsRoom_49 (by decide) (fun c_2 => ?_) (fun c_2 => ?_)
      · have hE := br_n hE c_2
        exact bX15_findsRoom_108 C k_x0 hkl hW hZ _ (lv_sub hl [0, 1, 2, 4] rfl) hE
      · have hE := br_p hE c_2
        refine lv_iload_n C.1 C.2.1 dX15_findsRoom_52 rfl (lv_at hl 2 rfl) ?_
        refine lv_iload_n C.1 C.2.1 dX15_findsRoom_53 rfl (lv_at hl 3 rfl) ?_
        refine lv_iadd C.1 C.2.1 dX15_findsRoom_54 ?_
        refine lv_iconst (v := (2 : Int32)) C.1 C.2.1 dX15_findsRoom_55 (by decide) ?_
        refine lv_idiv C.1 C.2.1 dX15_findsRoom_56 (by decide) ?_
        obtain ⟨v_3, ev_3, hE⟩ := nm_e2 hE
        refine x_nmI ev_3 ?_
        refine lv_istore (lv' := [(5, .int v_3), (0, .ref x0), (1, .int x1), (2, .int x2), (3, .int x3), (4, .int x4)]) C.1 C.2.1 dX15_findsRoom_57 hl (by decide) rfl (fun ls hl => ?_)
        refine lv_aload_n C.1 C.2.1 dX15_findsRoom_59 rfl (lv_at hl 1 rfl) ?_
        refine lv_aload_n C.1 C.2.1 dX15_findsRoom_60 rfl (lv_at hl 1 rfl) ?_
        obtain ⟨r_4, er_4, hE⟩ := cl_e hE
        refine gf_X15_324 C hW k_x0 er_4 dX15_findsRoom_61 (fun k_r_4 => ?_)
        refine lv_iload C.1 C.2.1 dX15_findsRoom_64 (lv_at hl 0 rfl) ?_
        obtain ⟨g_5, hE⟩ := gd_e hE
        refine y_iald C hW k_r_4 g_5 dX15_findsRoom_66 ?_
        obtain ⟨o_6, eo_6, hE⟩ := cl_e hE
        have m1 := moX15_compare eo_6
        have m2 := moX15_findsRoom_70 mk_42 hE
        refine x_kI (o := o_6) (z_runV (As := [.int (hI h r_4 v_3.toNatClampNeg)]) (rest := []) C (ct_X15_compare l X F k_x0 eo_6) cw_X15_714 hW hZ k_x0 (by decide) rfl rfl rfl hl.1 (Nat.le_of_ble_eq_true rfl) rfl dX15_findsRoom_67 ⟨Nat.le_of_ble_eq_true rfl, Nat.le_of_ble_eq_true rfl⟩ (rm_ok0 hkl m1 m2)) hZ (fun _ _ hW km hZ => ?_)
        replace hkl := hkl.tr km.l
        refine x_wc km ?_
        replace k_x0 := km.at k_x0 (by decide)
        exact bX15_findsRoom_70 C hk_42 mk_42 k_x0 hkl hW hZ _ (lv_sub hl [1, 2, 3, 4, 0] rfl) hE
set_option maxRecDepth 20000 in
theorem bX15_findsRoom_32 {p : Program} {l : Launch} {e : Env} {s : State} {m : MethodId} {args : Array Value} {below : List Frame} {meth : Method} {c : Code} {X : Ec} {h0 : Hp} {o : Int32 × Hp} {F : Nat} (C : Cx X p s m args meth c RX15 cX15_findsRoom 7 (some .boolean) "findsRoom") {h : Hp} {x0 : Nat} {x1 : Int32} {H : Heap} {locs : List Loc} (k_x0 : hK h x0 = 15) (hkl : Kl h0 h) (hW : Wx X h H) (hZ : va_S (aA (eB X)) s.heap H locs) (ls : Array Slot) (hl : lv_has ls 7 [(0, .ref x0), (1, .int x1)]) (hE : sX15_findsRoom_32 F h x0 x1 = some o) : W p l e (rmA 17 347 h0 o.2) s m args below meth c H locs (hS h - hS h0) (hL h - hL h0) (MQ below (QIA X h0 o.1 o.2) args s (hS o.2 - hS h0) (hL o.2 - hL h0) (aA (eB X))) (F0 m 32 ls []) := by
  refine lv_iconst (v := (0 : Int32)) C.1 C.2.1 dX15_findsRoom_32 (by decide) ?_
  refine lv_istore_n (lv' := [(2, .int (0 : Int32)), (0, .ref x0), (1, .int x1)]) C.1 C.2.1 dX15_findsRoom_33 rfl hl (by decide) rfl (fun ls hl => ?_)
  refine lv_aload_n C.1 C.2.1 dX15_findsRoom_34 rfl (lv_at hl 1 rfl) ?_
  refine gf_X15_390 C hW k_x0 dX15_findsRoom_35 ?_
  obtain ⟨v_1, ev_1, hE⟩ := nm_e2 hE
  refine x_nmI ev_1 ?_
  refine lv_istore_n (lv' := [(3, .int v_1), (2, .int (0 : Int32)), (0, .ref x0), (1, .int x1)]) C.1 C.2.1 dX15_findsRoom_38 rfl hl (by decide) rfl (fun ls hl => ?_)
  refine lv_iconst (v := (0 : Int32)) C.1 C.2.1 dX15_findsRoom_39 (by decide) ?_
  refine lv_istore (lv' := [(4, .int (0 : Int32)), (3, .int v_1), (2, .int (0 : Int32)), (0, .ref x0), (1, .int x1)]) C.1 C.2.1 dX15_findsRoom_40 hl (by decide) rfl (fun ls hl => ?_)
  exact bX15_findsRoom_42 C F k_x0 hkl hW hZ _ (lv_sub hl [3, 4, 2, 1, 0] rfl) hE
set_option maxRecDepth 20000 in
theorem bX15_findsRoom_19 {p : Program} {l : Launch} {e : Env} {s : State} {m : MethodId} {args : Array Value} {below : List Frame} {meth : Method} {c : Code} {X : Ec} {h0 : Hp} {o : Int32 × Hp} {F : Nat} (C : Cx X p s m args meth c RX15 cX15_findsRoom 7 (some .boolean) "findsRoom") {h : Hp} {x0 : Nat} {x1 : Int32} {H : Heap} {locs : List Loc} (k_x0 : hK h x0 = 15) (hkl : Kl h0 h) (hW : Wx X h H) (hZ : va_S (aA (eB X)) s.heap H locs) (ls : Array Slot) (hl : lv_has ls 7 [(0, .ref x0), (1, .int x1)]) (hE : sX15_findsRoom_19 F h x0 x1 = some o) : W p l e (rmA 17 347 h0 o.2) s m args below meth c H locs (hS h - hS h0) (hL h - hL h0) (MQ below (QIA X h0 o.1 o.2) args s (hS o.2 - hS h0) (hL o.2 - hL h0) (aA (eB X))) (F0 m 19 ls []) := by
  refine lv_aload_n C.1 C.2.1 dX15_findsRoom_19 rfl (lv_at hl 0 rfl) ?_
  refine lv_iconst (v := (0 : Int32)) C.1 C.2.1 dX15_findsRoom_20 (by decide) ?_
  obtain ⟨h_1, eh_1, hE⟩ := nm_e2 hE
  refine pf_X15_11 C hW hZ k_x0 eh_1 dX15_findsRoom_21 (fun _ _ hW km hZ => ?_)
  replace hkl := hkl.tr km.l
  refine x_wc km ?_
  replace k_x0 := km.at k_x0 (by decide)
  refine lv_aload_n C.1 C.2.1 dX15_findsRoom_24 rfl (lv_at hl 0 rfl) ?_
  refine lv_aload_n C.1 C.2.1 dX15_findsRoom_25 rfl (lv_at hl 0 rfl) ?_
  obtain ⟨r_2, er_2, hE⟩ := cl_e hE
  refine gf_X15_330 C hW k_x0 er_2 dX15_findsRoom_26 (fun k_r_2 => ?_)
  obtain ⟨o_3, eo_3, hE⟩ := cl_e hE
  have m1 := moX15_writeAll eo_3
  have m2 := moX15_findsRoom_32 hE
  refine x_kV (o := o_3) (z_runV (As := [.ref r_2]) (rest := []) C (ct_X15_writeAll l X F k_x0 k_r_2 eo_3) cw_X15_542 hW hZ k_x0 (by decide) rfl rfl rfl hl.1 (Nat.le_of_ble_eq_true rfl) rfl dX15_findsRoom_29 ⟨Nat.le_of_ble_eq_true rfl, Nat.le_of_ble_eq_true rfl⟩ (rm_ok0 hkl m1 m2)) hZ (fun _ _ hW km hZ => ?_)
  replace hkl := hkl.tr km.l
  refine x_wc km ?_
  replace k_x0 := km.at k_x0 (by decide)
  exact bX15_findsRoom_32 C k_x0 hkl hW hZ _ (lv_sub hl [0, 1] rfl) hE
set_option maxRecDepth 20000 in
theorem ct_X15_findsRoom (l : Launch) (X : Ec) (F : Nat) {h : Hp} {x0 : Nat} {o : Int32 × Hp} (k_x0 : hK h x0 = 15) (hE : sX15_findsRoom F h x0 = some o) : MetIA l yX15_findsRoom cX15_findsRoom 7 (some .boolean) 17 347 X [.ref x0] h o := by
  refine x_metA (oh := o.2) (by decide) (Nat.le_of_ble_eq_true rfl) ?_
  intro p e s m below meth c ls C hl hW hZ
  have hl : lv_has ls 7 [(0, .ref x0)] := hl
  have hkl : Kl h h := Kl.rf h
  refine lv_aload_n C.1 C.2.1 dX15_findsRoom_0 rfl (lv_at hl 0 rfl) ?_
  refine gf_X15_11 C hW k_x0 dX15_findsRoom_1 ?_
  obtain ⟨v_1, ev_1, hE⟩ := nm_e2 hE
  refine x_nmI ev_1 ?_
  refine lv_istore_n (lv' := [(1, .int v_1), (0, .ref x0)]) C.1 C.2.1 dX15_findsRoom_4 rfl hl (by decide) rfl (fun ls hl => ?_)
  refine lv_aload_n C.1 C.2.1 dX15_findsRoom_5 rfl (lv_at hl 1 rfl) ?_
  obtain ⟨r_2, er_2, hE⟩ := cl_e hE
  refine gf_X15_14 C hW k_x0 er_2 dX15_findsRoom_6 (fun k_r_2 => ?_)
  refine lv_iconst (v := (0 : Int32)) C.1 C.2.1 dX15_findsRoom_9 (by decide) ?_
  refine lv_aload_n C.1 C.2.1 dX15_findsRoom_10 rfl (lv_at hl 1 rfl) ?_
  obtain ⟨r_3, er_3, hE⟩ := cl_e hE
  refine gf_X15_327 C hW k_x0 er_3 dX15_findsRoom_11 (fun k_r_3 => ?_)
  refine lv_iconst (v := (0 : Int32)) C.1 C.2.1 dX15_findsRoom_14 (by decide) ?_
  refine lv_iload_n C.1 C.2.1 dX15_findsRoom_15 rfl (lv_at hl 0 rfl) ?_
  obtain ⟨g_4, hE⟩ := gd_e hE
  obtain ⟨g_5, hE⟩ := gd_e hE
  obtain ⟨g_6, hE⟩ := gd_e hE
  obtain ⟨g_7, hE⟩ := gd_e hE
  obtain ⟨g_8, hE⟩ := gd_e hE
  obtain ⟨g_9, hE⟩ := gd_e hE
  obtain ⟨h_10, eh_10, hE⟩ := nm_e2 hE
  refine y_cpyI (ty := .byte) C hW hZ hl.1 m_2659 m_1235 m_1234 m_23 k_r_2 k_r_3 (Or.inl ⟨rfl, rfl⟩) g_4 g_5 g_6 g_7 g_8 g_9 (Nat.le_of_ble_eq_true rfl) (Nat.le_of_ble_eq_true rfl) eh_10 dX15_findsRoom_16 (fun _ _ hW km hZ => ?_)
  replace hkl := hkl.tr km.l
  refine x_wc km ?_
  replace k_x0 := km.at k_x0 (by decide)
  exact bX15_findsRoom_19 C k_x0 hkl hW hZ _ (lv_sub hl [1, 0] rfl) hE
