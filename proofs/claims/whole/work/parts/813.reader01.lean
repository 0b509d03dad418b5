theorem dX2_oneLetter_0 : decode cX2_oneLetter 0 = .ok (.aload_n 0, 1) := by decide +kernel
theorem dX2_oneLetter_1 : decode cX2_oneLetter 1 = .ok (.getfield 38, 3) := by decide +kernel
theorem dX2_oneLetter_4 : decode cX2_oneLetter 4 = .ok (.iconst 1, 1) := by decide +kernel
theorem dX2_oneLetter_5 : decode cX2_oneLetter 5 = .ok (.if_icmp .ne 30, 3) := by decide +kernel
theorem dX2_oneLetter_8 : decode cX2_oneLetter 8 = .ok (.aload_n 0, 1) := by decide +kernel
theorem dX2_oneLetter_9 : decode cX2_oneLetter 9 = .ok (.getfield 24, 3) := by decide +kernel
theorem dX2_oneLetter_12 : decode cX2_oneLetter 12 = .ok (.aload_n 0, 1) := by decide +kernel
theorem dX2_oneLetter_13 : decode cX2_oneLetter 13 = .ok (.getfield 61, 3) := by decide +kernel
theorem dX2_oneLetter_16 : decode cX2_oneLetter 16 = .ok (.isub, 1) := by decide +kernel
theorem dX2_oneLetter_17 : decode cX2_oneLetter 17 = .ok (.iconst 1, 1) := by decide +kernel
theorem dX2_oneLetter_18 : decode cX2_oneLetter 18 = .ok (.if_icmp .ne 17, 3) := by decide +kernel
theorem dX2_oneLetter_21 : decode cX2_oneLetter 21 = .ok (.aload_n 0, 1) := by decide +kernel
theorem dX2_oneLetter_22 : decode cX2_oneLetter 22 = .ok (.getfield 9, 3) := by decide +kernel
theorem dX2_oneLetter_25 : decode cX2_oneLetter 25 = .ok (.aload_n 0, 1) := by decide +kernel
theorem dX2_oneLetter_26 : decode cX2_oneLetter 26 = .ok (.getfield 61, 3) := by decide +kernel
theorem dX2_oneLetter_29 : decode cX2_oneLetter 29 = .ok (.invokevirtual 69, 3) := by decide +kernel
theorem dX2_oneLetter_32 : decode cX2_oneLetter 32 = .ok (.goto 4, 3) := by decide +kernel
theorem dX2_oneLetter_35 : decode cX2_oneLetter 35 = .ok (.iconst (-1), 1) := by decide +kernel
theorem dX2_oneLetter_36 : decode cX2_oneLetter 36 = .ok (.ireturn, 1) := by decide +kernel
set_option maxRecDepth 20000 in
theorem moX2_oneLetter_36 {o : Int32 × Hp} {h : Hp} {t0 : Int32} (hE : sX2_oneLetter_36 h  t0 = some o) : Le h o.2 := by
  exact le_some2 hE
set_option maxRecDepth 20000 in
theorem moX2_oneLetter_35 {o : Int32 × Hp} {h : Hp} (hE : sX2_oneLetter_35 h  = some o) : Le h o.2 := by
  exact moX2_oneLetter_36 hE
set_option maxRecDepth 20000 in
theorem moX2_oneLetter {o : Int32 × Hp} {h : Hp} {x0 : Nat} (hE : sX2_oneLetter h x0 = some o) : Le h o.2 := by
  rcases br_e hE with ⟨_, hE⟩ | ⟨_, hE⟩
  · rcases br_e hE with ⟨_, hE⟩ | ⟨_, hE⟩
    · obtain ⟨r_3, er_3, hE⟩ := cl_e hE
      obtain ⟨o_4, eo_4, hE⟩ := cl_e hE
      refine (moX9_byteAt eo_4).tr ?_
      exact moX2_oneLetter_36 hE
    · exact moX2_oneLetter_35 hE
  · exact moX2_oneLetter_35 hE
set_option maxRecDepth 20000 in
theorem bX2_oneLetter_36 {p : Program} {l : Launch} {e : Env} {s : State} {m : MethodId} {args : Array Value} {below : List Frame} {meth : Method} {c : Code} {X : Ec} {h0 : Hp} {o : Int32 × Hp} (C : Cx X p s m args meth c RX2 cX2_oneLetter 1 (some .int) "oneLetter") {h : Hp} {t0 : Int32} {H : Heap} {locs : List Loc} (hkm : Km h0 h) (hW : Wx X h H) (hZ : va_S (aA (eB X)) s.heap H locs) (ls : Array Slot) (hl : lv_has ls 1 []) (hE : sX2_oneLetter_36 h  t0 = some o) : W p l e (rm 1 21) s m args below meth c H locs 0 0 (MQ below (QI X h0 o.1 o.2) args s 0 0 (aA (eB X))) (F0 m 36 ls [.int t0]) := by
  exact x_iret C rfl rfl hW hZ hkm hE dX2_oneLetter_36
set_option maxRecDepth 20000 in
theorem bX2_oneLetter_35 {p : Program} {l : Launch} {e : Env} {s : State} {m : MethodId} {args : Array Value} {below : List Frame} {meth : Method} {c : Code} {X : Ec} {h0 : Hp} {o : Int32 × Hp} (C : Cx X p s m args meth c RX2 cX2_oneLetter 1 (some .int) "oneLetter") {h : Hp} {H : Heap} {locs : List Loc} (hkm : Km h0 h) (hW : Wx X h H) (hZ : va_S (aA (eB X)) s.heap H locs) (ls : Array Slot) (hl : lv_has ls 1 []) (hE : sX2_oneLetter_35 h  = some o) : W p l e (rm 1 21) s m args below meth c H locs 0 0 (MQ below (QI X h0 o.1 o.2) args s 0 0 (aA (eB X))) (F0 m 35 ls []) := by
  refine lv_iconst (v := (-1 : Int32)) C.1 C.2.1 dX2_oneLetter_35 (by decide) ?_
  exact bX2_oneLetter_36 C hkm hW hZ _ (lv_sub hl [] rfl) hE
set_option maxRecDepth 20000 in
theorem ct_X2_oneLetter (l : Launch) (X : Ec) {h : Hp} {x0 : Nat} {o : Int32 × Hp} (k_x0 : hK h x0 = 2) (hE : sX2_oneLetter h x0 = some o) : MetI l yX2_oneLetter cX2_oneLetter 1 (some .int) 1 21 X [.ref x0] h o := by
  refine x_met (by decide) (Nat.le_of_ble_eq_true rfl) ?_
  intro p e s m below meth c ls C hl hW hZ
  have hl : lv_has ls 1 [(0, .ref x0)] := hl
  have hkm : Km h h := Km.rf h
  refine lv_aload_n C.1 C.2.1 dX2_oneLetter_0 rfl (lv_at hl 0 rfl) ?_
  refine gf_X2_38 C hW k_x0 dX2_oneLetter_1 ?_
  refine lv_iconst (v := (1 : Int32)) C.1 C.2.1 dX2_oneLetter_4 (by decide) ?_
  refine lv_icmp_ne (tgt := 35) C.1 C.2.1 dX2_oneLetter_5 (by decide) (fun c_1 => ?_) (fun c_1 => ?_)
  · have hE := br_n hE c_1
    exact bX2_oneLetter_35 C hkm hW hZ _ (lv_sub hl [] rfl) hE
  · have hE := br_p hE c_1
    refine lv_aload_n C.1 C.2.1 dX2_oneLetter_8 rfl (lv_at hl 0 rfl) ?_
    refine gf_X2_24 C hW k_x0 dX2_oneLetter_9 ?_
    refine lv_aload_n C.1 C.2.1 dX2_oneLetter_12 rfl (lv_at hl 0 rfl) ?_
    refine gf_X2_61 C hW k_x0 dX2_oneLetter_13 ?_
    refine lv_isub C.1 C.2.1 dX2_oneLetter_16 ?_
    refine lv_iconst (v := (1 : Int32)) C.1 C.2.1 dX2_oneLetter_17 (by decide) ?_
    refine lv_icmp_ne (tgt := 35) C.1 C.2.1 dX2_oneLetter_18 (by decide) (fun c_2 => ?_) (fun c_2 => ?_)
    · have hE := br_n hE c_2
      exact bX2_oneLetter_35 C hkm hW hZ _ (lv_sub hl [] rfl) hE
    · have hE := br_p hE c_2
      refine lv_aload_n C.1 C.2.1 dX2_oneLetter_21 rfl (lv_at hl 0 rfl) ?_
      obtain ⟨r_3, er_3, hE⟩ := cl_e hE
      refine gf_X2_9 C hW k_x0 er_3 dX2_oneLetter_22 (fun k_r_3 => ?_)
      refine lv_aload_n C.1 C.2.1 dX2_oneLetter_25 rfl (lv_at hl 0 rfl) ?_
      refine gf_X2_61 C hW k_x0 dX2_oneLetter_26 ?_
      obtain ⟨o_4, eo_4, hE⟩ := cl_e hE
      refine x_kI (o := o_4) (z_runV (As := [.int (hI h x0 2)]) (rest := []) C (ct_X9_byteAt l X k_r_3 eo_4) cw_X2_69 hW hZ k_r_3 (by decide) rfl rfl rfl hl.1 (Nat.le_of_ble_eq_true rfl) rfl dX2_oneLetter_29 ⟨Nat.le_of_ble_eq_true rfl, Nat.le_of_ble_eq_true rfl⟩ ⟨Nat.le_refl _, Nat.le_refl _⟩) hZ (fun _ _ hW km hZ => ?_)
      replace hkm := hkm.tr km
      replace k_x0 := km.at k_x0 (by decide)
      refine lv_goto (tgt := 36) C.1 C.2.1 dX2_oneLetter_32 (by decide) ?_
      exact bX2_oneLetter_36 C hkm hW hZ _ (lv_sub hl [] rfl) hE
theorem dX2_stepFlag_0 : decode cX2_stepFlag 0 = .ok (.aload_n 0, 1) := by decide +kernel
theorem dX2_stepFlag_1 : decode cX2_stepFlag 1 = .ok (.ldc 198, 2) := by decide +kernel
theorem dX2_stepFlag_3 : decode cX2_stepFlag 3 = .ok (.invokevirtual 43, 3) := by decide +kernel
theorem dX2_stepFlag_6 : decode cX2_stepFlag 6 = .ok (.ifCond .eq 5, 3) := by decide +kernel
theorem dX2_stepFlag_9 : decode cX2_stepFlag 9 = .ok (.iconst 1, 1) := by decide +kernel
theorem dX2_stepFlag_10 : decode cX2_stepFlag 10 = .ok (.ireturn, 1) := by decide +kernel
theorem dX2_stepFlag_11 : decode cX2_stepFlag 11 = .ok (.aload_n 0, 1) := by decide +kernel
theorem dX2_stepFlag_12 : decode cX2_stepFlag 12 = .ok (.ldc 200, 2) := by decide +kernel
theorem dX2_stepFlag_14 : decode cX2_stepFlag 14 = .ok (.invokevirtual 43, 3) := by decide +kernel
theorem dX2_stepFlag_17 : decode cX2_stepFlag 17 = .ok (.ifCond .eq 5, 3) := by decide +kernel
theorem dX2_stepFlag_20 : decode cX2_stepFlag 20 = .ok (.iconst 2, 1) := by decide +kernel
theorem dX2_stepFlag_21 : decode cX2_stepFlag 21 = .ok (.ireturn, 1) := by decide +kernel
theorem dX2_stepFlag_22 : decode cX2_stepFlag 22 = .ok (.aload_n 0, 1) := by decide +kernel
theorem dX2_stepFlag_23 : decode cX2_stepFlag 23 = .ok (.ldc 202, 2) := by decide +kernel
theorem dX2_stepFlag_25 : decode cX2_stepFlag 25 = .ok (.invokevirtual 43, 3) := by decide +kernel
theorem dX2_stepFlag_28 : decode cX2_stepFlag 28 = .ok (.ifCond .eq 5, 3) := by decide +kernel
theorem dX2_stepFlag_31 : decode cX2_stepFlag 31 = .ok (.iconst 4, 1) := by decide +kernel
theorem dX2_stepFlag_32 : decode cX2_stepFlag 32 = .ok (.ireturn, 1) := by decide +kernel
theorem dX2_stepFlag_33 : decode cX2_stepFlag 33 = .ok (.aload_n 0, 1) := by decide +kernel
theorem dX2_stepFlag_34 : decode cX2_stepFlag 34 = .ok (.ldc 204, 2) := by decide +kernel
theorem dX2_stepFlag_36 : decode cX2_stepFlag 36 = .ok (.invokevirtual 43, 3) := by decide +kernel
theorem dX2_stepFlag_39 : decode cX2_stepFlag 39 = .ok (.ifCond .eq 6, 3) := by decide +kernel
theorem dX2_stepFlag_42 : decode cX2_stepFlag 42 = .ok (.bipush 8, 2) := by decide +kernel
theorem dX2_stepFlag_44 : decode cX2_stepFlag 44 = .ok (.ireturn, 1) := by decide +kernel
theorem dX2_stepFlag_45 : decode cX2_stepFlag 45 = .ok (.aload_n 0, 1) := by decide +kernel
theorem dX2_stepFlag_46 : decode cX2_stepFlag 46 = .ok (.ldc 206, 2) := by decide +kernel
theorem dX2_stepFlag_48 : decode cX2_stepFlag 48 = .ok (.invokevirtual 43, 3) := by decide +kernel
theorem dX2_stepFlag_51 : decode cX2_stepFlag 51 = .ok (.ifCond .eq 6, 3) := by decide +kernel
theorem dX2_stepFlag_54 : decode cX2_stepFlag 54 = .ok (.bipush 16, 2) := by decide +kernel
theorem dX2_stepFlag_56 : decode cX2_stepFlag 56 = .ok (.ireturn, 1) := by decide +kernel
theorem dX2_stepFlag_57 : decode cX2_stepFlag 57 = .ok (.aload_n 0, 1) := by decide +kernel
theorem dX2_stepFlag_58 : decode cX2_stepFlag 58 = .ok (.ldc 208, 2) := by decide +kernel
theorem dX2_stepFlag_60 : decode cX2_stepFlag 60 = .ok (.invokevirtual 43, 3) := by decide +kernel
theorem dX2_stepFlag_63 : decode cX2_stepFlag 63 = .ok (.ifCond .eq 8, 3) := by decide +kernel
theorem dX2_stepFlag_66 : decode cX2_stepFlag 66 = .ok (.bipush 32, 2) := by decide +kernel
theorem dX2_stepFlag_68 : decode cX2_stepFlag 68 = .ok (.goto 4, 3) := by decide +kernel
theorem dX2_stepFlag_71 : decode cX2_stepFlag 71 = .ok (.iconst 0, 1) := by decide +kernel
theorem dX2_stepFlag_72 : decode cX2_stepFlag 72 = .ok (.ireturn, 1) := by decide +kernel
set_option maxRecDepth 20000 in
theorem moX2_stepFlag_72 {o : Int32 × Hp} {F : Nat} {h : Hp} {t0 : Int32} (hE : sX2_stepFlag_72 F h  t0 = some o) : Le h o.2 := by
  exact le_some2 hE
set_option maxRecDepth 20000 in
theorem moX2_stepFlag {o : Int32 × Hp} {F : Nat} {h : Hp} {x0 : Nat} (hE : sX2_stepFlag F h x0 = some o) : Le h o.2 := by
  obtain ⟨o_1, eo_1, hE⟩ := cl_e hE
  refine (moX2_isWord eo_1).tr ?_
  rcases br_e hE with ⟨_, hE⟩ | ⟨_, hE⟩
  · obtain ⟨o_3, eo_3, hE⟩ := cl_e hE
    refine (moX2_isWord eo_3).tr ?_
    rcases br_e hE with ⟨_, hE⟩ | ⟨_, hE⟩
    · obtain ⟨o_5, eo_5, hE⟩ := cl_e hE
      refine (moX2_isWord eo_5).tr ?_
      rcases br_e hE with ⟨_, hE⟩ | ⟨_, hE⟩
      · obtain ⟨o_7, eo_7, hE⟩ := cl_e hE
        refine (moX2_isWord eo_7).tr ?_
        rcases br_e hE with ⟨_, hE⟩ | ⟨_, hE⟩
        · obtain ⟨o_9, eo_9, hE⟩ := cl_e hE
          refine (moX2_isWord eo_9).tr ?_
          rcases br_e hE with ⟨_, hE⟩ | ⟨_, hE⟩
          · obtain ⟨o_11, eo_11, hE⟩ := cl_e hE
            refine (moX2_isWord eo_11).tr ?_
            rcases br_e hE with ⟨_, hE⟩ | ⟨_, hE⟩
            · exact moX2_stepFlag_72 hE
            · exact moX2_stepFlag_72 hE
          · exact le_some2 hE
        · exact le_some2 hE
      · exact le_some2 hE
    · exact le_some2 hE
  · exact le_some2 hE
set_option maxRecDepth 20000 in
theorem bX2_stepFlag_72 {p : Program} {l : Launch} {e : Env} {s : State} {m : MethodId} {args : Array Value} {below : List Frame} {meth : Method} {c : Code} {X : Ec} {h0 : Hp} {o : Int32 × Hp} {F : Nat} (C : Cx X p s m args meth c RX2 cX2_stepFlag 1 (some .int) "stepFlag") {h : Hp} {t0 : Int32} {H : Heap} {locs : List Loc} (hkm : Km h0 h) (hW : Wx X h H) (hZ : va_S (aA (eB X)) s.heap H locs) (ls : Array Slot) (hl : lv_has ls 1 []) (hE : sX2_stepFlag_72 F h  t0 = some o) : W p l e (rm 5 107) s m args below meth c H locs 0 0 (MQ below (QI X h0 o.1 o.2) args s 0 0 (aA (eB X))) (F0 m 72 ls [.int t0]) := by
  exact x_iret C rfl rfl hW hZ hkm hE dX2_stepFlag_72
set_option maxRecDepth 20000 in
theorem ct_X2_stepFlag (l : Launch) (X : Ec) (F : Nat) {h : Hp} {x0 : Nat} {o : Int32 × Hp} (k_x0 : hK h x0 = 2) (hE : sX2_stepFlag F h x0 = some o) : MetI l yX2_stepFlag cX2_stepFlag 1 (some .int) 5 107 X [.ref x0] h o := by
  refine x_met (by decide) (Nat.le_of_ble_eq_true rfl) ?_
  intro p e s m below meth c ls C hl hW hZ
  have hl : lv_has ls 1 [(0, .ref x0)] := hl
  have hkm : Km h h := Km.rf h
  refine lv_aload_n C.1 C.2.1 dX2_stepFlag_0 rfl (lv_at hl 0 rfl) ?_
  refine va_ldcS C.1 C.2.1 C.2.2.2.1 (C.2.2.2.2.2.2.2.2.1 5 (by decide)).2 dX2_stepFlag_1 ?_
  obtain ⟨o_1, eo_1, hE⟩ := cl_e hE
  refine x_kI (o := o_1) (z_runV (As := [.ref (X.2.2.2.1 5)]) (rest := []) C (ct_X2_isWord l X F k_x0 (by decide) eo_1) cw_X2_43 hW hZ k_x0 (by decide) rfl rfl rfl hl.1 (Nat.le_of_ble_eq_true rfl) rfl dX2_stepFlag_3 ⟨Nat.le_of_ble_eq_true rfl, Nat.le_of_ble_eq_true rfl⟩ ⟨Nat.le_refl _, Nat.le_refl _⟩) hZ (fun _ _ hW km hZ => ?_)
  replace hkm := hkm.tr km
  replace k_x0 := km.at k_x0 (by decide)
  refine lv_if_eq (tgt := 11) C.1 C.2.1 dX2_stepFlag_6 (by decide) (fun c_2 => ?_) (fun c_2 => ?_)
  · have hE := br_p hE c_2
    refine lv_aload_n C.1 C.2.1 dX2_stepFlag_11 rfl (lv_at hl 0 rfl) ?_
    refine va_ldcS C.1 C.2.1 C.2.2.2.1 (C.2.2.2.2.2.2.2.2.1 6 (by decide)).2 dX2_stepFlag_12 ?_
    obtain ⟨o_3, eo_3, hE⟩ := cl_e hE
    refine x_kI (o := o_3) (z_runV (As := [.ref (X.2.2.2.1 6)]) (rest := []) C (ct_X2_isWord l X F k_x0 (by decide) eo_3) cw_X2_43 hW hZ k_x0 (by decide) rfl rfl rfl hl.1 (Nat.le_of_ble_eq_true rfl) rfl dX2_stepFlag_14 ⟨Nat.le_of_ble_eq_true rfl, Nat.le_of_ble_eq_true rfl⟩ ⟨Nat.le_refl _, Nat.le_refl _⟩) hZ (fun _ _ hW km hZ => ?_)
    replace hkm := hkm.tr km
    replace k_x0 := km.at k_x0 (by decide)
    refine lv_if_eq (tgt := 22) C.1 C.2.1 dX2_stepFlag_17 (by decide) (fun c_4 => ?_) (fun c_4 => ?_)
    · have hE := br_p hE c_4
      refine lv_aload_n C.1 C.2.1 dX2_stepFlag_22 rfl (lv_at hl 0 rfl) ?_
      refine va_ldcS C.1 C.2.1 C.2.2.2.1 (C.2.2.2.2.2.2.2.2.1 7 (by decide)).2 dX2_stepFlag_23 ?_
      obtain ⟨o_5, eo_5, hE⟩ := cl_e hE
      refine x_kI (o := o_5) (z_runV (As := [.ref (X.2.2.2.1 7)]) (rest := []) C (ct_X2_isWord l X F k_x0 (by decide) eo_5) cw_X2_43 hW hZ k_x0 (by decide) rfl rfl rfl hl.1 (Nat.le_of_ble_eq_true rfl) rfl dX2_stepFlag_25 ⟨Nat.le_of_ble_eq_true rfl, Nat.le_of_ble_eq_true rfl⟩ ⟨Nat.le_refl _, Nat.le_refl _⟩) hZ (fun _ _ hW km hZ => ?_)
      replace hkm := hkm.tr km
      replace k_x0 := km.at k_x0 (by decide)
      refine lv_if_eq (tgt := 33) C.1 C.2.1 dX2_stepFlag_28 (by decide) (fun c_6 => ?_) (fun c_6 => ?_)
      · have hE := br_p hE c_6
        refine lv_aload_n C.1 C.2.1 dX2_stepFlag_33 rfl (lv_at hl 0 rfl) ?_
        refine va_ldcS C.1 C.2.1 C.2.2.2.1 (C.2.2.2.2.2.2.2.2.1 8 (by decide)).2 dX2_stepFlag_34 ?_
        obtain ⟨o_7, eo_7, hE⟩ := cl_e hE
        refine x_kI (o := o_7) (z_runV (As := [.ref (X.2.2.2.1 8)]) (rest := []) C (ct_X2_isWord l X F k_x0 (by decide) eo_7) cw_X2_43 hW hZ k_x0 (by decide) rfl rfl rfl hl.1 (Nat.le_of_ble_eq_true rfl) rfl dX2_stepFlag_36 ⟨Nat.le_of_ble_eq_true rfl, Nat.le_of_ble_eq_true rfl⟩ ⟨Nat.le_refl _, Nat.le_refl _⟩) hZ (fun _ _ hW km hZ => ?_)
        replace hkm := hkm.tr km
        replace k_x0 := km.at k_x0 (by decide)
        refine lv_if_eq (tgt := 45) C.1 C.2.1 dX2_stepFlag_39 (by decide) (fun c_8 => ?_) (fun c_8 => ?_)
        · have hE := br_p hE c_8
          refine lv_aload_n C.1 C.2.1 dX2_stepFlag_45 rfl (lv_at hl 0 rfl) ?_
          refine va_ldcS C.1 C.2.1 C.2.2.2.1 (C.2.2.2.2.2.2.2.2.1 9 (by decide)).2 dX2_stepFlag_46 ?_
          obtain ⟨o_9, eo_9, hE⟩ := cl_e hE
          refine x_kI (o := o_9) (z_runV (As := [.ref (X.2.2.2.1 9)]) (rest := []) C (ct_X2_isWord l X F k_x0 (by decide) eo_9) cw_X2_43 hW hZ k_x0 (by decide) rfl rfl rfl hl.1 (Nat.le_of_ble_eq_true rfl) rfl dX2_stepFlag_48 ⟨Nat.le_of_ble_eq_true rfl, Nat.le_of_ble_eq_true rfl⟩ ⟨Nat.le_refl _, Nat.le_refl _⟩) hZ (fun _ _ hW km hZ => ?_)
          replace hkm := hkm.tr km
          replace k_x0 := km.at k_x0 (by decide)
          refine lv_if_eq (tgt := 57) C.1 C.2.1 dX2_stepFlag_51 (by decide) (fun c_10 => ?_) (fun c_10 => ?_)
          · have hE := br_p hE c_10
            refine lv_aload_n C.1 C.2.1 dX2_stepFlag_57 rfl (lv_at hl 0 rfl) ?_
            refine va_ldcS C.1 C.2.1 C.2.2.2.1 (C.2.2.2.2.2.2.2.2.1 10 (by decide)).2 dX2_stepFlag_58 ?_
            obtain ⟨o_11, eo_11, hE⟩ := cl_e hE
            refine x_kI (o := o_11) (z_runV (As := [.ref (X.2.2.2.1 10)]) (rest := []) C (ct_X2_isWord l X F k_x0 (by decide) eo_11) cw_X2_43 hW hZ k_x0 (by decide) rfl rfl rfl hl.1 (Nat.le_of_ble_eq_true rfl) rfl dX2_stepFlag_60 ⟨Nat.le_of_ble_eq_true rfl, Nat.le_of_ble_eq_true rfl⟩ ⟨Nat.le_refl _, Nat.le_refl _⟩) hZ (fun _ _ hW km hZ => ?_)
            replace hkm := hkm.tr km
            replace k_x0 := km.at k_x0 (by decide)
            refine lv_if_eq (tgt := 71) C.1 C.2.1 dX2_stepFlag_63 (by decide) (fun c_12 => ?_) (fun c_12 => ?_)
            · have hE := br_p hE c_12
              refine lv_iconst (v := (0 : Int32)) C.1 C.2.1 dX2_stepFlag_71 (by decide) ?_
              exact bX2_stepFlag_72 C hkm hW hZ _ (lv_sub hl [] rfl) hE
            · have hE := br_n hE c_12
              refine lv_bipush (v := (32 : Int32)) C.1 C.2.1 dX2_stepFlag_66 (by decide) ?_
              refine lv_goto (tgt := 72) C.1 C.2.1 dX2_stepFlag_68 (by decide) ?_
              exact bX2_stepFlag_72 C hkm hW hZ _ (lv_sub hl [] rfl) hE
          · have hE := br_n hE c_10
            refine lv_bipush (v := (16 : Int32)) C.1 C.2.1 dX2_stepFlag_54 (by decide) ?_
            exact x_iret C rfl rfl hW hZ hkm hE dX2_stepFlag_56
        · have hE := br_n hE c_8
          refine lv_bipush (v := (8 : Int32)) C.1 C.2.1 dX2_stepFlag_42 (by decide) ?_
          exact x_iret C rfl rfl hW hZ hkm hE dX2_stepFlag_44
      · have hE := br_n hE c_6
        refine lv_iconst (v := (4 : Int32)) C.1 C.2.1 dX2_stepFlag_31 (by decide) ?_
        exact x_iret C rfl rfl hW hZ hkm hE dX2_stepFlag_32
    · have hE := br_n hE c_4
      refine lv_iconst (v := (2 : Int32)) C.1 C.2.1 dX2_stepFlag_20 (by decide) ?_
      exact x_iret C rfl rfl hW hZ hkm hE dX2_stepFlag_21
  · have hE := br_n hE c_2
    refine lv_iconst (v := (1 : Int32)) C.1 C.2.1 dX2_stepFlag_9 (by decide) ?_
    exact x_iret C rfl rfl hW hZ hkm hE dX2_stepFlag_10
theorem dX2_fits_0 : decode cX2_fits 0 = .ok (.iload_n 1, 1) := by decide +kernel
theorem dX2_fits_1 : decode cX2_fits 1 = .ok (.istore_n 2, 1) := by decide +kernel
theorem dX2_fits_2 : decode cX2_fits 2 = .ok (.iload_n 1, 1) := by decide +kernel
theorem dX2_fits_3 : decode cX2_fits 3 = .ok (.iconst 1, 1) := by decide +kernel
theorem dX2_fits_4 : decode cX2_fits 4 = .ok (.if_icmp .eq 8, 3) := by decide +kernel
theorem dX2_fits_7 : decode cX2_fits 7 = .ok (.iload_n 1, 1) := by decide +kernel
theorem dX2_fits_8 : decode cX2_fits 8 = .ok (.iconst 2, 1) := by decide +kernel
theorem dX2_fits_9 : decode cX2_fits 9 = .ok (.if_icmp .ne 8, 3) := by decide +kernel
theorem dX2_fits_12 : decode cX2_fits 12 = .ok (.iconst 3, 1) := by decide +kernel
theorem dX2_fits_13 : decode cX2_fits 13 = .ok (.istore_n 2, 1) := by decide +kernel
theorem dX2_fits_14 : decode cX2_fits 14 = .ok (.goto 18, 3) := by decide +kernel
theorem dX2_fits_17 : decode cX2_fits 17 = .ok (.iload_n 1, 1) := by decide +kernel
theorem dX2_fits_18 : decode cX2_fits 18 = .ok (.bipush 8, 2) := by decide +kernel
theorem dX2_fits_20 : decode cX2_fits 20 = .ok (.if_icmp .eq 9, 3) := by decide +kernel
theorem dX2_fits_23 : decode cX2_fits 23 = .ok (.iload_n 1, 1) := by decide +kernel
theorem dX2_fits_24 : decode cX2_fits 24 = .ok (.bipush 16, 2) := by decide +kernel
theorem dX2_fits_26 : decode cX2_fits 26 = .ok (.if_icmp .ne 6, 3) := by decide +kernel
theorem dX2_fits_29 : decode cX2_fits 29 = .ok (.bipush 24, 2) := by decide +kernel
theorem dX2_fits_31 : decode cX2_fits 31 = .ok (.istore_n 2, 1) := by decide +kernel
theorem dX2_fits_32 : decode cX2_fits 32 = .ok (.iload_n 0, 1) := by decide +kernel
theorem dX2_fits_33 : decode cX2_fits 33 = .ok (.iload_n 2, 1) := by decide +kernel
theorem dX2_fits_34 : decode cX2_fits 34 = .ok (.iand, 1) := by decide +kernel
theorem dX2_fits_35 : decode cX2_fits 35 = .ok (.ifCond .ne 7, 3) := by decide +kernel
theorem dX2_fits_38 : decode cX2_fits 38 = .ok (.iconst 1, 1) := by decide +kernel
theorem dX2_fits_39 : decode cX2_fits 39 = .ok (.goto 4, 3) := by decide +kernel
theorem dX2_fits_42 : decode cX2_fits 42 = .ok (.iconst 0, 1) := by decide +kernel
theorem dX2_fits_43 : decode cX2_fits 43 = .ok (.ireturn, 1) := by decide +kernel
set_option maxRecDepth 20000 in
theorem moX2_fits_43 {o : Int32 × Hp} {h : Hp} {t0 : Int32} (hE : sX2_fits_43 h  t0 = some o) : Le h o.2 := by
  obtain ⟨g_1, hE⟩ := gd_e hE
  exact le_some2 hE
set_option maxRecDepth 20000 in
theorem moX2_fits_32 {o : Int32 × Hp} {h : Hp} {x0 : Int32} {x2 : Int32} (hE : sX2_fits_32 h x0 x2 = some o) : Le h o.2 := by
  rcases br_e hE with ⟨_, hE⟩ | ⟨_, hE⟩
  · exact moX2_fits_43 hE
  · exact moX2_fits_43 hE
set_option maxRecDepth 20000 in
theorem moX2_fits_12 {o : Int32 × Hp} {h : Hp} {x0 : Int32} (hE : sX2_fits_12 h x0 = some o) : Le h o.2 := by
  exact moX2_fits_32 hE
set_option maxRecDepth 20000 in
theorem moX2_fits_29 {o : Int32 × Hp} {h : Hp} {x0 : Int32} (hE : sX2_fits_29 h x0 = some o) : Le h o.2 := by
  exact moX2_fits_32 hE
set_option maxRecDepth 20000 in
theorem moX2_fits {o : Int32 × Hp} {h : Hp} {x0 : Int32} {x1 : Int32} (hE : sX2_fits h x0 x1 = some o) : Le h o.2 := by
  rcases br_e hE with ⟨_, hE⟩ | ⟨_, hE⟩
  · exact moX2_fits_12 hE
  · rcases br_e hE with ⟨_, hE⟩ | ⟨_, hE⟩
    · exact moX2_fits_12 hE
    · rcases br_e hE with ⟨_, hE⟩ | ⟨_, hE⟩
      · exact moX2_fits_29 hE
      · rcases br_e hE with ⟨_, hE⟩ | ⟨_, hE⟩
        · exact moX2_fits_29 hE
        · exact moX2_fits_32 hE
set_option maxRecDepth 20000 in
theorem bX2_fits_43 {p : Program} {l : Launch} {e : Env} {s : State} {m : MethodId} {args : Array Value} {below : List Frame} {meth : Method} {c : Code} {X : Ec} {h0 : Hp} {o : Int32 × Hp} (C : Cx X p s m args meth c RX2 cX2_fits 3 (some .boolean) "fits") {h : Hp} {t0 : Int32} {H : Heap} {locs : List Loc} (hkm : Km h0 h) (hW : Wx X h H) (hZ : va_S (aA (eB X)) s.heap H locs) (ls : Array Slot) (hl : lv_has ls 3 []) (hE : sX2_fits_43 h  t0 = some o) : W p l e (rm 0 0) s m args below meth c H locs 0 0 (MQ below (QI X h0 o.1 o.2) args s 0 0 (aA (eB X))) (F0 m 43 ls [.int t0]) := by
  obtain ⟨g_1, hE⟩ := gd_e hE
  exact x_iret C rfl (narB g_1) hW hZ hkm hE dX2_fits_43
set_option maxRecDepth 20000 in
theorem bX2_fits_32 {p : Program} {l : Launch} {e : Env} {s : State} {m : MethodId} {args : Array Value} {below : List Frame} {meth : Method} {c : Code} {X : Ec} {h0 : Hp} {o : Int32 × Hp} (C : Cx X p s m args meth c RX2 cX2_fits 3 (some .boolean) "fits") {h : Hp} {x0 : Int32} {x2 : Int32} {H : Heap} {locs : List Loc} (hkm : Km h0 h) (hW : Wx X h H) (hZ : va_S (aA (eB X)) s.heap H locs) (ls : Array Slot) (hl : lv_has ls 3 [(0, .int x0), (2, .int x2)]) (hE : sX2_fits_32 h x0 x2 = some o) : W p l e (rm 0 0) s m args below meth c H locs 0 0 (MQ below (QI X h0 o.1 o.2) args s 0 0 (aA (eB X))) (F0 m 32 ls []) := by
  refine lv_iload_n C.1 C.2.1 dX2_fits_32 rfl (lv_at hl 0 rfl) ?_
  refine lv_iload_n C.1 C.2.1 dX2_fits_33 rfl (lv_at hl 1 rfl) ?_
  refine lv_iand C.1 C.2.1 dX2_fits_34 ?_
  refine lv_if_ne (tgt := 42) C.1 C.2.1 dX2_fits_35 (by decide) (fun c_1 => ?_) (fun c_1 => ?_)
  · have hE := br_n hE c_1
    refine lv_iconst (v := (0 : Int32)) C.1 C.2.1 dX2_fits_42 (by decide) ?_
    exact bX2_fits_43 C hkm hW hZ _ (lv_sub hl [] rfl) hE
  · have hE := br_p hE c_1
    refine lv_iconst (v := (1 : Int32)) C.1 C.2.1 dX2_fits_38 (by decide) ?_
    refine lv_goto (tgt := 43) C.1 C.2.1 dX2_fits_39 (by decide) ?_
    exact bX2_fits_43 C hkm hW hZ _ (lv_sub hl [] rfl) hE
set_option maxRecDepth 20000 in
theorem bX2_fits_12 {p : Program} {l : Launch} {e : Env} {s : State} {m : MethodId} {args : Array Value} {below : List Frame} {meth : Method} {c : Code} {X : Ec} {h0 : Hp} {o : Int32 × Hp} (C : Cx X p s m args meth c RX2 cX2_fits 3 (some .boolean) "fits") {h : Hp} {x0 : Int32} {H : Heap} {locs : List Loc} (hkm : Km h0 h) (hW : Wx X h H) (hZ : va_S (aA (eB X)) s.heap H locs) (ls : Array Slot) (hl : lv_has ls 3 [(0, .int x0)]) (hE : sX2_fits_12 h x0 = some o) : W p l e (rm 0 0) s m args below meth c H locs 0 0 (MQ below (QI X h0 o.1 o.2) args s 0 0 (aA (eB X))) (F0 m 12 ls []) := by
  refine lv_iconst (v := (3 : Int32)) C.1 C.2.1 dX2_fits_12 (by decide) ?_
  refine lv_istore_n (lv' := [(2, .int (3 : Int32)), (0, .int x0)]) C.1 C.2.1 dX2_fits_13 rfl hl (by decide) rfl (fun ls hl => ?_)
  refine lv_goto (tgt := 32) C.1 C.2.1 dX2_fits_14 (by decide) ?_
  exact bX2_fits_32 C hkm hW hZ _ (lv_sub hl [1, 0] rfl) hE
set_option maxRecDepth 20000 in
theorem bX2_fits_29 {p : Program} {l : Launch} {e : Env} {s : State} {m : MethodId} {args : Array Value} {below : List Frame} {meth : Method} {c : Code} {X : Ec} {h0 : Hp} {o : Int32 × Hp} (C : Cx X p s m args meth c RX2 cX2_fits 3 (some .boolean) "fits") {h : Hp} {x0 : Int32} {H : Heap} {locs : List Loc} (hkm : Km h0 h) (hW : Wx X h H) (hZ : va_S (aA (eB X)) s.heap H locs) (ls : Array Slot) (hl : lv_has ls 3 [(0, .int x0)]) (hE : sX2_fits_29 h x0 = some o) : W p l e (rm 0 0) s m args below meth c H locs 0 0 (MQ below (QI X h0 o.1 o.2) args s 0 0 (aA (eB X))) (F0 m 29 ls []) := by
  refine lv_bipush (v := (24 : Int32)) C.1 C.2.1 dX2_fits_29 (by decide) ?_
  refine lv_istore_n (lv' := [(2, .int (24 : Int32)), (0, .int x0)]) C.1 C.2.1 dX2_fits_31 rfl hl (by decide) rfl (fun ls hl => ?_)
  exact bX2_fits_32 C hkm hW hZ _ (lv_sub hl [1, 0] rfl) hE
set_option maxRecDepth 20000 in
theorem ct_X2_fits (l : Launch) (X : Ec) {h : Hp} {x0 : Int32} {x1 : Int32} {o : Int32 × Hp} (hE : sX2_fits h x0 x1 = some o) : MetI l yX2_fits cX2_fits 3 (some .boolean) 0 0 X [.int x0, .int x1] h o := by
  refine x_met (by decide) (Nat.le_of_ble_eq_true rfl) ?_
  intro p e s m below meth c ls C hl hW hZ
  have hl : lv_has ls 3 [(0, .int x0), (1, .int x1)] := hl
  have hkm : Km h h := Km.rf h
  refine lv_iload_n C.1 C.2.1 dX2_fits_0 rfl (lv_at hl 1 rfl) ?_
  refine lv_istore_n (lv' := [(2, .int x1), (0, .int x0), (1, .int x1)]) C.1 C.2.1 dX2_fits_1 rfl hl (by decide) rfl (fun ls hl => ?_)
  refine lv_iload_n C.1 C.2.1 dX2_fits_2 rfl (lv_at hl 2 rfl) ?_
  refine lv_iconst (v := (1 : Int32)) C.1 C.2.1 dX2_fits_3 (by decide) ?_
  refine lv_icmp_eq (tgt := 12) C.1 C.2.1 dX2_fits_4 (by decide) (fun c_1 => ?_) (fun c_1 => ?_)
  · have hE := br_p hE c_1
    exact bX2_fits_12 C hkm hW hZ _ (lv_sub hl [1] rfl) hE
  · have hE := br_n hE c_1
    refine lv_iload_n C.1 C.2.1 dX2_fits_7 rfl (lv_at hl 2 rfl) ?_
    refine lv_iconst (v := (2 : Int32)) C.1 C.2.1 dX2_fits_8 (by decide) ?_
    refine lv_icmp_ne (tgt := 17) C.1 C.2.1 dX2_fits_9 (by decide) (fun c_2 => ?_) (fun c_2 => ?_)
    · have hE := br_n hE c_2
      refine lv_iload_n C.1 C.2.1 dX2_fits_17 rfl (lv_at hl 2 rfl) ?_
      refine lv_bipush (v := (8 : Int32)) C.1 C.2.1 dX2_fits_18 (by decide) ?_
      refine lv_icmp_eq (tgt := 29) C.1 C.2.1 dX2_fits_20 (by decide) (fun c_3 => ?_) (fun c_3 => ?_)
      · have hE := br_p hE c_3
        exact bX2_fits_29 C hkm hW hZ _ (lv_sub hl [1] rfl) hE
      · have hE := br_n hE c_3
        refine lv_iload_n C.1 C.2.1 dX2_fits_23 rfl (lv_at hl 2 rfl) ?_
        refine lv_bipush (v := (16 : Int32)) C.1 C.2.1 dX2_fits_24 (by decide) ?_
        refine lv_icmp_ne (tgt := 32) C.1 C.2.1 dX2_fits_26 (by decide) (fun c_4 => ?_) (fun c_4 => ?_)
        · have hE := br_n hE c_4
          exact bX2_fits_32 C hkm hW hZ _ (lv_sub hl [1, 0] rfl) hE
        · have hE := br_p hE c_4
          exact bX2_fits_29 C hkm hW hZ _ (lv_sub hl [1] rfl) hE
    · have hE := br_p hE c_2
      exact bX2_fits_12 C hkm hW hZ _ (lv_sub hl [1] rfl) hE
theorem dX2_takeTail_0 : decode cX2_takeTail 0 = .ok (.aload_n 0, 1) := by decide +kernel
theorem dX2_takeTail_1 : decode cX2_takeTail 1 = .ok (.aload_n 1, 1) := by decide +kernel
theorem dX2_takeTail_2 : decode cX2_takeTail 2 = .ok (.invokevirtual 43, 3) := by decide +kernel
theorem dX2_takeTail_5 : decode cX2_takeTail 5 = .ok (.ifCond .ne 6, 3) := by decide +kernel
theorem dX2_takeTail_8 : decode cX2_takeTail 8 = .ok (.iload 4, 2) := by decide +kernel
theorem dX2_takeTail_10 : decode cX2_takeTail 10 = .ok (.ireturn, 1) := by decide +kernel
theorem dX2_takeTail_11 : decode cX2_takeTail 11 = .ok (.aload_n 0, 1) := by decide +kernel
theorem dX2_takeTail_12 : decode cX2_takeTail 12 = .ok (.invokevirtual 31, 3) := by decide +kernel
theorem dX2_takeTail_15 : decode cX2_takeTail 15 = .ok (.aload_n 0, 1) := by decide +kernel
theorem dX2_takeTail_16 : decode cX2_takeTail 16 = .ok (.iload_n 2, 1) := by decide +kernel
theorem dX2_takeTail_17 : decode cX2_takeTail 17 = .ok (.iload_n 3, 1) := by decide +kernel
theorem dX2_takeTail_18 : decode cX2_takeTail 18 = .ok (.invokevirtual 104, 3) := by decide +kernel
theorem dX2_takeTail_21 : decode cX2_takeTail 21 = .ok (.ifCond .ne 5, 3) := by decide +kernel
theorem dX2_takeTail_24 : decode cX2_takeTail 24 = .ok (.iconst (-1), 1) := by decide +kernel
theorem dX2_takeTail_25 : decode cX2_takeTail 25 = .ok (.ireturn, 1) := by decide +kernel
theorem dX2_takeTail_26 : decode cX2_takeTail 26 = .ok (.aload_n 0, 1) := by decide +kernel
theorem dX2_takeTail_27 : decode cX2_takeTail 27 = .ok (.getfield 84, 3) := by decide +kernel
theorem dX2_takeTail_30 : decode cX2_takeTail 30 = .ok (.istore 5, 2) := by decide +kernel
theorem dX2_takeTail_32 : decode cX2_takeTail 32 = .ok (.aload_n 0, 1) := by decide +kernel
theorem dX2_takeTail_33 : decode cX2_takeTail 33 = .ok (.invokevirtual 31, 3) := by decide +kernel
theorem dX2_takeTail_36 : decode cX2_takeTail 36 = .ok (.iload 5, 2) := by decide +kernel
theorem dX2_takeTail_38 : decode cX2_takeTail 38 = .ok (.ireturn, 1) := by decide +kernel
set_option maxRecDepth 20000 in
theorem moX2_takeTail {o : Int32 × Hp} {F : Nat} {h : Hp} {x0 : Nat} {x1 : Nat} {x2 : Int32} {x3 : Int32} {x4 : Int32} (hE : sX2_takeTail F h x0 x1 x2 x3 x4 = some o) : Le h o.2 := by
  obtain ⟨o_1, eo_1, hE⟩ := cl_e hE
  refine (moX2_isWord eo_1).tr ?_
  rcases br_e hE with ⟨_, hE⟩ | ⟨_, hE⟩
  · exact le_some2 hE
  · obtain ⟨o_3, eo_3, hE⟩ := cl_e hE
    refine (moX2_advance eo_3).tr ?_
    obtain ⟨o_4, eo_4, hE⟩ := cl_e hE
    refine (moX2_isNumber eo_4).tr ?_
    rcases br_e hE with ⟨_, hE⟩ | ⟨_, hE⟩
    · exact le_some2 hE
    · obtain ⟨v_6, ev_6, hE⟩ := nm_e2 hE
      obtain ⟨o_7, eo_7, hE⟩ := cl_e hE
      refine (moX2_advance eo_7).tr ?_
      exact le_some2 hE
set_option maxRecDepth 20000 in
theorem ct_X2_takeTail (l : Launch) (X : Ec) (F : Nat) {h : Hp} {x0 : Nat} {x1 : Nat} {x2 : Int32} {x3 : Int32} {x4 : Int32} {o : Int32 × Hp} (k_x0 : hK h x0 = 2) (k_x1 : x1 < 52) (hE : sX2_takeTail F h x0 x1 x2 x3 x4 = some o) : MetI l yX2_takeTail cX2_takeTail 6 (some .int) 5 107 X [.ref x0, .ref (X.2.2.2.1 x1), .int x2, .int x3, .int x4] h o := by
  refine x_met (by decide) (Nat.le_of_ble_eq_true rfl) ?_
  intro p e s m below meth c ls C hl hW hZ
  have hl : lv_has ls 6 [(0, .ref x0), (1, .ref (X.2.2.2.1 x1)), (2, .int x2), (3, .int x3), (4, .int x4)] := hl
  have hkm : Km h h := Km.rf h
  refine lv_aload_n C.1 C.2.1 dX2_takeTail_0 rfl (lv_at hl 0 rfl) ?_
  refine lv_aload_n C.1 C.2.1 dX2_takeTail_1 rfl (lv_at hl 1 rfl) ?_
  obtain ⟨o_1, eo_1, hE⟩ := cl_e hE
  refine x_kI (o := o_1) (z_runV (As := [.ref (X.2.2.2.1 x1)]) (rest := []) C (ct_X2_isWord l X F k_x0 k_x1 eo_1) cw_X2_43 hW hZ k_x0 (by decide) rfl rfl rfl hl.1 (Nat.le_of_ble_eq_true rfl) rfl dX2_takeTail_2 ⟨Nat.le_of_ble_eq_true rfl, Nat.le_of_ble_eq_true rfl⟩ ⟨Nat.le_refl _, Nat.le_refl _⟩) hZ (fun _ _ hW km hZ => ?_)
  replace hkm := hkm.tr km
  replace k_x0 := km.at k_x0 (by decide)
  refine lv_if_ne (tgt := 11) C.1 C.2.1 dX2_takeTail_5 (by decide) (fun c_2 => ?_) (fun c_2 => ?_)
  · have hE := br_n hE c_2
    refine lv_aload_n C.1 C.2.1 dX2_takeTail_11 rfl (lv_at hl 0 rfl) ?_
    obtain ⟨o_3, eo_3, hE⟩ := cl_e hE
    refine x_kV (o := o_3) (z_runV (As := []) (rest := []) C (ct_X2_advance l X F k_x0 eo_3) cw_X2_31 hW hZ k_x0 (by decide) rfl rfl rfl hl.1 (Nat.le_of_ble_eq_true rfl) rfl dX2_takeTail_12 ⟨Nat.le_of_ble_eq_true rfl, Nat.le_of_ble_eq_true rfl⟩ ⟨Nat.le_refl _, Nat.le_refl _⟩) hZ (fun _ _ hW km hZ => ?_)
    replace hkm := hkm.tr km
    replace k_x0 := km.at k_x0 (by decide)
    refine lv_aload_n C.1 C.2.1 dX2_takeTail_15 rfl (lv_at hl 0 rfl) ?_
    refine lv_iload_n C.1 C.2.1 dX2_takeTail_16 rfl (lv_at hl 2 rfl) ?_
    refine lv_iload_n C.1 C.2.1 dX2_takeTail_17 rfl (lv_at hl 3 rfl) ?_
    obtain ⟨o_4, eo_4, hE⟩ := cl_e hE
    refine x_kI (o := o_4) (z_runV (As := [.int x2, .int x3]) (rest := []) C (ct_X2_isNumber l X k_x0 eo_4) cw_X2_104 hW hZ k_x0 (by decide) rfl rfl rfl hl.1 (Nat.le_of_ble_eq_true rfl) rfl dX2_takeTail_18 ⟨Nat.le_of_ble_eq_true rfl, Nat.le_of_ble_eq_true rfl⟩ ⟨Nat.le_refl _, Nat.le_refl _⟩) hZ (fun _ _ hW km hZ => ?_)
    replace hkm := hkm.tr km
    replace k_x0 := km.at k_x0 (by decide)
    refine lv_if_ne (tgt := 26) C.1 C.2.1 dX2_takeTail_21 (by decide) (fun c_5 => ?_) (fun c_5 => ?_)
    · have hE := br_n hE c_5
      refine lv_aload_n C.1 C.2.1 dX2_takeTail_26 rfl (lv_at hl 0 rfl) ?_
      refine gf_X2_84 C hW k_x0 dX2_takeTail_27 ?_
      obtain ⟨v_6, ev_6, hE⟩ := nm_e2 hE
      refine x_nmI ev_6 ?_
      refine lv_istore (lv' := [(5, .int v_6), (0, .ref x0), (1, .ref (X.2.2.2.1 x1)), (2, .int x2), (3, .int x3), (4, .int x4)]) C.1 C.2.1 dX2_takeTail_30 hl (by decide) rfl (fun ls hl => ?_)
      refine lv_aload_n C.1 C.2.1 dX2_takeTail_32 rfl (lv_at hl 1 rfl) ?_
      obtain ⟨o_7, eo_7, hE⟩ := cl_e hE
      refine x_kV (o := o_7) (z_runV (As := []) (rest := []) C (ct_X2_advance l X F k_x0 eo_7) cw_X2_31 hW hZ k_x0 (by decide) rfl rfl rfl hl.1 (Nat.le_of_ble_eq_true rfl) rfl dX2_takeTail_33 ⟨Nat.le_of_ble_eq_true rfl, Nat.le_of_ble_eq_true rfl⟩ ⟨Nat.le_refl _, Nat.le_refl _⟩) hZ (fun _ _ hW km hZ => ?_)
      replace hkm := hkm.tr km
      replace k_x0 := km.at k_x0 (by decide)
      refine lv_iload C.1 C.2.1 dX2_takeTail_36 (lv_at hl 0 rfl) ?_
      exact x_iret C rfl rfl hW hZ hkm hE dX2_takeTail_38
    · have hE := br_p hE c_5
      refine lv_iconst (v := (-1 : Int32)) C.1 C.2.1 dX2_takeTail_24 (by decide) ?_
      exact x_iret C rfl rfl hW hZ hkm hE dX2_takeTail_25
  · have hE := br_p hE c_2
    refine lv_iload C.1 C.2.1 dX2_takeTail_8 (lv_at hl 4 rfl) ?_
    exact x_iret C rfl rfl hW hZ hkm hE dX2_takeTail_10
set_option maxRecDepth 100000 in
theorem ms_10 : Cond.selects RX2 yX2_takeTail yX2_takeTail ∈ W0 := w0_in (List.mem_append_left _ (List.mem_of_getElem? (i := 10) rfl)) rfl
set_option maxRecDepth 100000 in
theorem ms_9 : Cond.selects RX2 yX2_stepFlag yX2_stepFlag ∈ W0 := w0_in (List.mem_append_left _ (List.mem_of_getElem? (i := 9) rfl)) rfl
set_option maxRecDepth 100000 in
theorem m_71 : Cond.fieldLink RX2 189 (TX1 1).1 (TX1 1).2.1 (TX1 1).2.2.1 ∈ W0 := w0_in (List.mem_append_right _ (List.mem_of_getElem? (i := 71) rfl)) rfl
set_option maxRecDepth 100000 in
theorem m_123 : Cond.fieldLink RX2 192 (TX1 15).1 (TX1 15).2.1 (TX1 15).2.2.1 ∈ W0 := w0_in (List.mem_append_right _ (List.mem_of_getElem? (i := 123) rfl)) rfl
set_option maxRecDepth 100000 in
theorem m_126 : Cond.fieldLink RX2 195 (TX1 16).1 (TX1 16).2.1 (TX1 16).2.2.1 ∈ W0 := w0_in (List.mem_append_right _ (List.mem_of_getElem? (i := 126) rfl)) rfl
set_option maxRecDepth 100000 in
theorem m_711 : Cond.methodLink RX2 175 yX2_stepFlag ∈ W0 := w0_in (List.mem_append_right _ (List.mem_of_getElem? (i := 711) rfl)) rfl
set_option maxRecDepth 100000 in
theorem m_713 : Cond.instanceMethod yX2_stepFlag ∈ W0 := w0_in (List.mem_append_right _ (List.mem_of_getElem? (i := 713) rfl)) rfl
set_option maxRecDepth 100000 in
theorem m_714 : Cond.code yX2_stepFlag cX2_stepFlag 1 (some .int) ∈ W0 := w0_in (List.mem_append_right _ (List.mem_of_getElem? (i := 714) rfl)) rfl
set_option maxRecDepth 100000 in
theorem m_721 : Cond.methodLink RX2 178 yX2_fits ∈ W0 := w0_in (List.mem_append_right _ (List.mem_of_getElem? (i := 721) rfl)) rfl
set_option maxRecDepth 100000 in
theorem m_722 : Cond.static yX2_fits ∈ W0 := w0_in (List.mem_append_right _ (List.mem_of_getElem? (i := 722) rfl)) rfl
set_option maxRecDepth 100000 in
theorem m_723 : Cond.code yX2_fits cX2_fits 3 (some .boolean) ∈ W0 := w0_in (List.mem_append_right _ (List.mem_of_getElem? (i := 723) rfl)) rfl
set_option maxRecDepth 100000 in
theorem m_725 : Cond.methodLink RX2 183 yX2_takeTail ∈ W0 := w0_in (List.mem_append_right _ (List.mem_of_getElem? (i := 725) rfl)) rfl
set_option maxRecDepth 100000 in
theorem m_727 : Cond.instanceMethod yX2_takeTail ∈ W0 := w0_in (List.mem_append_right _ (List.mem_of_getElem? (i := 727) rfl)) rfl
set_option maxRecDepth 100000 in
theorem m_728 : Cond.code yX2_takeTail cX2_takeTail 6 (some .int) ∈ W0 := w0_in (List.mem_append_right _ (List.mem_of_getElem? (i := 728) rfl)) rfl
section
variable {p : Program} {l : Launch} {e : Env} {R : Room} {s : State} {m : MethodId} {args : Array Value} {below : List Frame} {meth : Method} {c : Code} {H : Heap} {locs : List Loc} {cells slots : Nat} {Q : State → Prop}
variable {cc : ByteArray} {pc : Nat} {ls : Array Slot} {rest : List Value} {X : Ec} {h h1 : Hp} {nL : Nat} {rt : Option FieldType} {mn : String}
theorem gf_X2_192 {a r : Nat} (C : Cx X p s m args meth c RX2 cc nL rt mn) (hW : Wx X h H) (ha : hK h a = 1) (hr : hR h a 15 = some r) (hdg : decode cc pc = .ok (.getfield 192, 3)) (kk : hK h r = 17 → W p l e R s m args below meth c H locs cells slots Q (F0 m (pc + 3) ls (.ref r :: rest))) : W p l e R s m args below meth c H locs cells slots Q (F0 m pc ls (.ref a :: rest)) :=
  y_getr C hW ha i_X1 (by decide) rfl (by decide) m_123 rfl rfl hr hdg kk
theorem gf_X2_195 {a r : Nat} (C : Cx X p s m args meth c RX2 cc nL rt mn) (hW : Wx X h H) (ha : hK h a = 1) (hr : hR h a 16 = some r) (hdg : decode cc pc = .ok (.getfield 195, 3)) (kk : hK h r = 17 → W p l e R s m args below meth c H locs cells slots Q (F0 m (pc + 3) ls (.ref r :: rest))) : W p l e R s m args below meth c H locs cells slots Q (F0 m pc ls (.ref a :: rest)) :=
  y_getr C hW ha i_X1 (by decide) rfl (by decide) m_126 rfl rfl hr hdg kk
theorem gf_X2_189 {a : Nat} (C : Cx X p s m args meth c RX2 cc nL rt mn) (hW : Wx X h H) (ha : hK h a = 1) (hdg : decode cc pc = .ok (.getfield 189, 3)) (kk : W p l e R s m args below meth c H locs cells slots Q (F0 m (pc + 3) ls (.int (hI h a 1) :: rest))) : W p l e R s m args below meth c H locs cells slots Q (F0 m pc ls (.ref a :: rest)) :=
  y_geti C hW ha i_X1 (by decide) rfl (by decide) m_71 rfl hdg kk
end
theorem cw_X2_183 : cwd RX2 183 yX2_takeTail cX2_takeTail 6 (some .int) false 4 := ⟨m_728, m_725, m_5, ⟨m_727, ms_10⟩, by decide, by decide, by decide +kernel⟩
theorem cw_X2_175 : cwd RX2 175 yX2_stepFlag cX2_stepFlag 1 (some .int) false 0 := ⟨m_714, m_711, m_5, ⟨m_713, ms_9⟩, by decide, by decide, by decide +kernel⟩
theorem cw_X2_178 : cwd RX2 178 yX2_fits cX2_fits 3 (some .boolean) true 2 := ⟨m_723, m_721, m_5, m_722, by decide, by decide, by decide +kernel⟩
theorem dX2_takeStep_0 : decode cX2_takeStep 0 = .ok (.iconst 0, 1) := by decide +kernel
theorem dX2_takeStep_1 : decode cX2_takeStep 1 = .ok (.istore_n 3, 1) := by decide +kernel
theorem dX2_takeStep_2 : decode cX2_takeStep 2 = .ok (.iconst 0, 1) := by decide +kernel
theorem dX2_takeStep_3 : decode cX2_takeStep 3 = .ok (.istore 4, 2) := by decide +kernel
theorem dX2_takeStep_5 : decode cX2_takeStep 5 = .ok (.iload 4, 2) := by decide +kernel
theorem dX2_takeStep_7 : decode cX2_takeStep 7 = .ok (.bipush 6, 2) := by decide +kernel
theorem dX2_takeStep_9 : decode cX2_takeStep 9 = .ok (.if_icmp .ge 48, 3) := by decide +kernel
theorem dX2_takeStep_12 : decode cX2_takeStep 12 = .ok (.aload_n 0, 1) := by decide +kernel
theorem dX2_takeStep_13 : decode cX2_takeStep 13 = .ok (.getfield 38, 3) := by decide +kernel
theorem dX2_takeStep_16 : decode cX2_takeStep 16 = .ok (.iconst 1, 1) := by decide +kernel
theorem dX2_takeStep_17 : decode cX2_takeStep 17 = .ok (.if_icmp .ne 40, 3) := by decide +kernel
theorem dX2_takeStep_20 : decode cX2_takeStep 20 = .ok (.aload_n 0, 1) := by decide +kernel
theorem dX2_takeStep_21 : decode cX2_takeStep 21 = .ok (.invokevirtual 175, 3) := by decide +kernel
theorem dX2_takeStep_24 : decode cX2_takeStep 24 = .ok (.istore 5, 2) := by decide +kernel
theorem dX2_takeStep_26 : decode cX2_takeStep 26 = .ok (.iload 5, 2) := by decide +kernel
theorem dX2_takeStep_28 : decode cX2_takeStep 28 = .ok (.ifCond .eq 12, 3) := by decide +kernel
theorem dX2_takeStep_31 : decode cX2_takeStep 31 = .ok (.iload_n 3, 1) := by decide +kernel
theorem dX2_takeStep_32 : decode cX2_takeStep 32 = .ok (.iload 5, 2) := by decide +kernel
theorem dX2_takeStep_34 : decode cX2_takeStep 34 = .ok (.invokestatic 178, 3) := by decide +kernel
theorem dX2_takeStep_37 : decode cX2_takeStep 37 = .ok (.ifCond .ne 5, 3) := by decide +kernel
theorem dX2_takeStep_40 : decode cX2_takeStep 40 = .ok (.iconst 0, 1) := by decide +kernel
theorem dX2_takeStep_41 : decode cX2_takeStep 41 = .ok (.ireturn, 1) := by decide +kernel
theorem dX2_takeStep_42 : decode cX2_takeStep 42 = .ok (.iload_n 3, 1) := by decide +kernel
theorem dX2_takeStep_43 : decode cX2_takeStep 43 = .ok (.iload 5, 2) := by decide +kernel
theorem dX2_takeStep_45 : decode cX2_takeStep 45 = .ok (.ior, 1) := by decide +kernel
theorem dX2_takeStep_46 : decode cX2_takeStep 46 = .ok (.istore_n 3, 1) := by decide +kernel
theorem dX2_takeStep_47 : decode cX2_takeStep 47 = .ok (.aload_n 0, 1) := by decide +kernel
theorem dX2_takeStep_48 : decode cX2_takeStep 48 = .ok (.invokevirtual 31, 3) := by decide +kernel
theorem dX2_takeStep_51 : decode cX2_takeStep 51 = .ok (.iinc 4 1, 3) := by decide +kernel
theorem dX2_takeStep_54 : decode cX2_takeStep 54 = .ok (.goto (-49), 3) := by decide +kernel
theorem dX2_takeStep_57 : decode cX2_takeStep 57 = .ok (.aload_n 0, 1) := by decide +kernel
theorem dX2_takeStep_58 : decode cX2_takeStep 58 = .ok (.bipush (-7), 2) := by decide +kernel
theorem dX2_takeStep_60 : decode cX2_takeStep 60 = .ok (.bipush 7, 2) := by decide +kernel
theorem dX2_takeStep_62 : decode cX2_takeStep 62 = .ok (.invokevirtual 104, 3) := by decide +kernel
theorem dX2_takeStep_65 : decode cX2_takeStep 65 = .ok (.ifCond .ne 5, 3) := by decide +kernel
theorem dX2_takeStep_68 : decode cX2_takeStep 68 = .ok (.iconst 0, 1) := by decide +kernel
theorem dX2_takeStep_69 : decode cX2_takeStep 69 = .ok (.ireturn, 1) := by decide +kernel
theorem dX2_takeStep_70 : decode cX2_takeStep 70 = .ok (.aload_n 0, 1) := by decide +kernel
theorem dX2_takeStep_71 : decode cX2_takeStep 71 = .ok (.getfield 84, 3) := by decide +kernel
theorem dX2_takeStep_74 : decode cX2_takeStep 74 = .ok (.istore 4, 2) := by decide +kernel
theorem dX2_takeStep_76 : decode cX2_takeStep 76 = .ok (.aload_n 0, 1) := by decide +kernel
theorem dX2_takeStep_77 : decode cX2_takeStep 77 = .ok (.invokevirtual 31, 3) := by decide +kernel
theorem dX2_takeStep_80 : decode cX2_takeStep 80 = .ok (.aload_n 0, 1) := by decide +kernel
theorem dX2_takeStep_81 : decode cX2_takeStep 81 = .ok (.bipush (-7), 2) := by decide +kernel
theorem dX2_takeStep_83 : decode cX2_takeStep 83 = .ok (.bipush 7, 2) := by decide +kernel
theorem dX2_takeStep_85 : decode cX2_takeStep 85 = .ok (.invokevirtual 104, 3) := by decide +kernel
theorem dX2_takeStep_88 : decode cX2_takeStep 88 = .ok (.ifCond .eq 15, 3) := by decide +kernel
theorem dX2_takeStep_91 : decode cX2_takeStep 91 = .ok (.iload 4, 2) := by decide +kernel
theorem dX2_takeStep_93 : decode cX2_takeStep 93 = .ok (.ifCond .ne 12, 3) := by decide +kernel
theorem dX2_takeStep_96 : decode cX2_takeStep 96 = .ok (.aload_n 0, 1) := by decide +kernel
theorem dX2_takeStep_97 : decode cX2_takeStep 97 = .ok (.getfield 84, 3) := by decide +kernel
theorem dX2_takeStep_100 : decode cX2_takeStep 100 = .ok (.ifCond .ne 5, 3) := by decide +kernel
theorem dX2_takeStep_103 : decode cX2_takeStep 103 = .ok (.iconst 0, 1) := by decide +kernel
theorem dX2_takeStep_104 : decode cX2_takeStep 104 = .ok (.ireturn, 1) := by decide +kernel
theorem dX2_takeStep_105 : decode cX2_takeStep 105 = .ok (.iload_n 3, 1) := by decide +kernel
theorem dX2_takeStep_106 : decode cX2_takeStep 106 = .ok (.iload 4, 2) := by decide +kernel
theorem dX2_takeStep_108 : decode cX2_takeStep 108 = .ok (.bipush 8, 2) := by decide +kernel
theorem dX2_takeStep_110 : decode cX2_takeStep 110 = .ok (.iadd, 1) := by decide +kernel
theorem dX2_takeStep_111 : decode cX2_takeStep 111 = .ok (.bipush 6, 2) := by decide +kernel
theorem dX2_takeStep_113 : decode cX2_takeStep 113 = .ok (.ishl, 1) := by decide +kernel
theorem dX2_takeStep_114 : decode cX2_takeStep 114 = .ok (.aload_n 0, 1) := by decide +kernel
theorem dX2_takeStep_115 : decode cX2_takeStep 115 = .ok (.getfield 84, 3) := by decide +kernel
theorem dX2_takeStep_118 : decode cX2_takeStep 118 = .ok (.bipush 8, 2) := by decide +kernel
theorem dX2_takeStep_120 : decode cX2_takeStep 120 = .ok (.iadd, 1) := by decide +kernel
theorem dX2_takeStep_121 : decode cX2_takeStep 121 = .ok (.bipush 10, 2) := by decide +kernel
theorem dX2_takeStep_123 : decode cX2_takeStep 123 = .ok (.ishl, 1) := by decide +kernel
theorem dX2_takeStep_124 : decode cX2_takeStep 124 = .ok (.ior, 1) := by decide +kernel
theorem dX2_takeStep_125 : decode cX2_takeStep 125 = .ok (.ior, 1) := by decide +kernel
theorem dX2_takeStep_126 : decode cX2_takeStep 126 = .ok (.istore_n 3, 1) := by decide +kernel
theorem dX2_takeStep_127 : decode cX2_takeStep 127 = .ok (.aload_n 0, 1) := by decide +kernel
theorem dX2_takeStep_128 : decode cX2_takeStep 128 = .ok (.invokevirtual 31, 3) := by decide +kernel
theorem dX2_takeStep_131 : decode cX2_takeStep 131 = .ok (.aload_n 0, 1) := by decide +kernel
theorem dX2_takeStep_132 : decode cX2_takeStep 132 = .ok (.ldc 181, 2) := by decide +kernel
theorem dX2_takeStep_134 : decode cX2_takeStep 134 = .ok (.iconst 2, 1) := by decide +kernel
theorem dX2_takeStep_135 : decode cX2_takeStep 135 = .ok (.bipush 7, 2) := by decide +kernel
theorem dX2_takeStep_137 : decode cX2_takeStep 137 = .ok (.iconst 1, 1) := by decide +kernel
theorem dX2_takeStep_138 : decode cX2_takeStep 138 = .ok (.invokevirtual 183, 3) := by decide +kernel
theorem dX2_takeStep_141 : decode cX2_takeStep 141 = .ok (.istore 5, 2) := by decide +kernel
theorem dX2_takeStep_143 : decode cX2_takeStep 143 = .ok (.iload 5, 2) := by decide +kernel
theorem dX2_takeStep_145 : decode cX2_takeStep 145 = .ok (.iconst (-1), 1) := by decide +kernel
theorem dX2_takeStep_146 : decode cX2_takeStep 146 = .ok (.if_icmp .ne 7, 3) := by decide +kernel
theorem dX2_takeStep_149 : decode cX2_takeStep 149 = .ok (.iconst (-1), 1) := by decide +kernel
theorem dX2_takeStep_150 : decode cX2_takeStep 150 = .ok (.goto 18, 3) := by decide +kernel
theorem dX2_takeStep_153 : decode cX2_takeStep 153 = .ok (.aload_n 0, 1) := by decide +kernel
theorem dX2_takeStep_154 : decode cX2_takeStep 154 = .ok (.ldc 187, 2) := by decide +kernel
theorem dX2_takeStep_156 : decode cX2_takeStep 156 = .ok (.iconst 1, 1) := by decide +kernel
theorem dX2_takeStep_157 : decode cX2_takeStep 157 = .ok (.aload_n 0, 1) := by decide +kernel
theorem dX2_takeStep_158 : decode cX2_takeStep 158 = .ok (.getfield 15, 3) := by decide +kernel
theorem dX2_takeStep_161 : decode cX2_takeStep 161 = .ok (.getfield 189, 3) := by decide +kernel
theorem dX2_takeStep_164 : decode cX2_takeStep 164 = .ok (.iconst 0, 1) := by decide +kernel
theorem dX2_takeStep_165 : decode cX2_takeStep 165 = .ok (.invokevirtual 183, 3) := by decide +kernel
theorem dX2_takeStep_168 : decode cX2_takeStep 168 = .ok (.istore 6, 2) := by decide +kernel
theorem dX2_takeStep_170 : decode cX2_takeStep 170 = .ok (.iload 5, 2) := by decide +kernel
theorem dX2_takeStep_172 : decode cX2_takeStep 172 = .ok (.iconst (-1), 1) := by decide +kernel
theorem dX2_takeStep_173 : decode cX2_takeStep 173 = .ok (.if_icmp .eq 9, 3) := by decide +kernel
theorem dX2_takeStep_176 : decode cX2_takeStep 176 = .ok (.iload 6, 2) := by decide +kernel
theorem dX2_takeStep_178 : decode cX2_takeStep 178 = .ok (.iconst (-1), 1) := by decide +kernel
theorem dX2_takeStep_179 : decode cX2_takeStep 179 = .ok (.if_icmp .ne 5, 3) := by decide +kernel
theorem dX2_takeStep_182 : decode cX2_takeStep 182 = .ok (.iconst 0, 1) := by decide +kernel
theorem dX2_takeStep_183 : decode cX2_takeStep 183 = .ok (.ireturn, 1) := by decide +kernel
theorem dX2_takeStep_184 : decode cX2_takeStep 184 = .ok (.aload_n 0, 1) := by decide +kernel
theorem dX2_takeStep_185 : decode cX2_takeStep 185 = .ok (.getfield 15, 3) := by decide +kernel
theorem dX2_takeStep_188 : decode cX2_takeStep 188 = .ok (.getfield 192, 3) := by decide +kernel
theorem dX2_takeStep_191 : decode cX2_takeStep 191 = .ok (.iload_n 1, 1) := by decide +kernel
theorem dX2_takeStep_192 : decode cX2_takeStep 192 = .ok (.bipush 8, 2) := by decide +kernel
theorem dX2_takeStep_194 : decode cX2_takeStep 194 = .ok (.imul, 1) := by decide +kernel
theorem dX2_takeStep_195 : decode cX2_takeStep 195 = .ok (.iload_n 2, 1) := by decide +kernel
theorem dX2_takeStep_196 : decode cX2_takeStep 196 = .ok (.iadd, 1) := by decide +kernel
theorem dX2_takeStep_197 : decode cX2_takeStep 197 = .ok (.iload_n 3, 1) := by decide +kernel
theorem dX2_takeStep_198 : decode cX2_takeStep 198 = .ok (.iload 5, 2) := by decide +kernel
theorem dX2_takeStep_200 : decode cX2_takeStep 200 = .ok (.bipush 14, 2) := by decide +kernel
theorem dX2_takeStep_202 : decode cX2_takeStep 202 = .ok (.ishl, 1) := by decide +kernel
theorem dX2_takeStep_203 : decode cX2_takeStep 203 = .ok (.ior, 1) := by decide +kernel
theorem dX2_takeStep_204 : decode cX2_takeStep 204 = .ok (.iload 6, 2) := by decide +kernel
theorem dX2_takeStep_206 : decode cX2_takeStep 206 = .ok (.bipush 17, 2) := by decide +kernel
theorem dX2_takeStep_208 : decode cX2_takeStep 208 = .ok (.ishl, 1) := by decide +kernel
theorem dX2_takeStep_209 : decode cX2_takeStep 209 = .ok (.ior, 1) := by decide +kernel
theorem dX2_takeStep_210 : decode cX2_takeStep 210 = .ok (.iastore, 1) := by decide +kernel
theorem dX2_takeStep_211 : decode cX2_takeStep 211 = .ok (.aload_n 0, 1) := by decide +kernel
theorem dX2_takeStep_212 : decode cX2_takeStep 212 = .ok (.getfield 15, 3) := by decide +kernel
theorem dX2_takeStep_215 : decode cX2_takeStep 215 = .ok (.getfield 195, 3) := by decide +kernel
theorem dX2_takeStep_218 : decode cX2_takeStep 218 = .ok (.iload_n 1, 1) := by decide +kernel
theorem dX2_takeStep_219 : decode cX2_takeStep 219 = .ok (.iload_n 2, 1) := by decide +kernel
theorem dX2_takeStep_220 : decode cX2_takeStep 220 = .ok (.iconst 1, 1) := by decide +kernel
theorem dX2_takeStep_221 : decode cX2_takeStep 221 = .ok (.iadd, 1) := by decide +kernel
theorem dX2_takeStep_222 : decode cX2_takeStep 222 = .ok (.iastore, 1) := by decide +kernel
theorem dX2_takeStep_223 : decode cX2_takeStep 223 = .ok (.iconst 1, 1) := by decide +kernel
theorem dX2_takeStep_224 : decode cX2_takeStep 224 = .ok (.ireturn, 1) := by decide +kernel
set_option maxRecDepth 20000 in
theorem moX2_takeStep_103 {o : Int32 × Hp} {F : Nat} {h : Hp} (hE : sX2_takeStep_103 F h  = some o) : Le h o.2 := by
  exact le_some2 hE
set_option maxRecDepth 20000 in
theorem moX2_takeStep_182 {o : Int32 × Hp} {F : Nat} {h : Hp} (hE : sX2_takeStep_182 F h  = some o) : Le h o.2 := by
  exact le_some2 hE
set_option maxRecDepth 20000 in
theorem moX2_takeStep_168 {o : Int32 × Hp} {F : Nat} {h : Hp} {x0 : Nat} {x1 : Int32} {x2 : Int32} {x3 : Int32} {x5 : Int32} {t0 : Int32} (hE : sX2_takeStep_168 F h x0 x1 x2 x3 x5 t0 = some o) : Le h o.2 := by
  rcases br_e hE with ⟨_, hE⟩ | ⟨_, hE⟩
  · exact moX2_takeStep_182 hE
  · rcases br_e hE with ⟨_, hE⟩ | ⟨_, hE⟩
    · exact moX2_takeStep_182 hE
    · obtain ⟨r_3, er_3, hE⟩ := cl_e hE
      obtain ⟨r_4, er_4, hE⟩ := cl_e hE
      obtain ⟨g_5, hE⟩ := gd_e hE
      obtain ⟨h_6, eh_6, hE⟩ := nm_e2 hE
      refine (le_I eh_6).tr ?_
      obtain ⟨r_7, er_7, hE⟩ := cl_e hE
      obtain ⟨r_8, er_8, hE⟩ := cl_e hE
      obtain ⟨g_9, hE⟩ := gd_e hE
      obtain ⟨h_10, eh_10, hE⟩ := nm_e2 hE
      refine (le_I eh_10).tr ?_
      exact le_some2 hE
set_option maxRecDepth 20000 in
theorem moX2_takeStep_105 {o : Int32 × Hp} {F : Nat} {h : Hp} {x0 : Nat} {x1 : Int32} {x2 : Int32} {x3 : Int32} {x4 : Int32} (hE : sX2_takeStep_105 F h x0 x1 x2 x3 x4 = some o) : Le h o.2 := by
  obtain ⟨v_1, ev_1, hE⟩ := nm_e2 hE
  obtain ⟨o_2, eo_2, hE⟩ := cl_e hE
  refine (moX2_advance eo_2).tr ?_
  obtain ⟨o_3, eo_3, hE⟩ := cl_e hE
  refine (moX2_takeTail eo_3).tr ?_
  rcases br_e hE with ⟨_, hE⟩ | ⟨_, hE⟩
  · exact moX2_takeStep_168 hE
  · obtain ⟨r_5, er_5, hE⟩ := cl_e hE
    obtain ⟨o_6, eo_6, hE⟩ := cl_e hE
    refine (moX2_takeTail eo_6).tr ?_
    exact moX2_takeStep_168 hE
set_option maxRecDepth 20000 in
theorem moX2_takeStep_57 {o : Int32 × Hp} {F : Nat} {h : Hp} {x0 : Nat} {x1 : Int32} {x2 : Int32} {x3 : Int32} (hE : sX2_takeStep_57 F h x0 x1 x2 x3 = some o) : Le h o.2 := by
  obtain ⟨o_1, eo_1, hE⟩ := cl_e hE
  refine (moX2_isNumber eo_1).tr ?_
  rcases br_e hE with ⟨_, hE⟩ | ⟨_, hE⟩
  · exact le_some2 hE
  · obtain ⟨v_3, ev_3, hE⟩ := nm_e2 hE
    obtain ⟨o_4, eo_4, hE⟩ := cl_e hE
    refine (moX2_advance eo_4).tr ?_
    obtain ⟨o_5, eo_5, hE⟩ := cl_e hE
    refine (moX2_isNumber eo_5).tr ?_
    rcases br_e hE with ⟨_, hE⟩ | ⟨_, hE⟩
    · exact moX2_takeStep_103 hE
    · rcases br_e hE with ⟨_, hE⟩ | ⟨_, hE⟩
      · rcases br_e hE with ⟨_, hE⟩ | ⟨_, hE⟩
        · exact moX2_takeStep_103 hE
        · exact moX2_takeStep_105 hE
      · exact moX2_takeStep_105 hE
set_option maxRecDepth 20000 in
theorem moX2_takeStep_40 {o : Int32 × Hp} {F : Nat} {h : Hp} (hE : sX2_takeStep_40 F h  = some o) : Le h o.2 := by
  exact le_some2 hE
set_option maxRecDepth 20000 in
theorem moX2_takeStep_5 {o : Int32 × Hp} {F : Nat} : ∀ (f : Nat) {h : Hp} {x0 : Nat} {x1 : Int32} {x2 : Int32} {x3 : Int32} {x4 : Int32}, sX2_takeStep_5 F f h x0 x1 x2 x3 x4 = some o → Le h o.2 := by
  intro f
  induction f with
  | zero =>
    intro h x0 x1 x2 x3 x4 hE
    rw [sX2_takeStep_5] at hE
    cases hE
  | succ f ih =>
    intro h x0 x1 x2 x3 x4 hE
    rw [sX2_takeStep_5] at hE
    have mk_5 : ∀ (h : Hp) (x0 : Nat) (x1 : Int32) (x2 : Int32) (x3 : Int32) (x4 : Int32), sX2_takeStep_5 F f h x0 x1 x2 x3 x4 = some o → Le h o.2 := fun h x0 x1 x2 x3 x4 hE => ih hE
    rcases br_e hE with ⟨_, hE⟩ | ⟨_, hE⟩
    · exact moX2_takeStep_57 hE
    · rcases br_e hE with ⟨_, hE⟩ | ⟨_, hE⟩
      · obtain ⟨o_3, eo_3, hE⟩ := cl_e hE
        refine (moX2_stepFlag eo_3).tr ?_
        rcases br_e hE with ⟨_, hE⟩ | ⟨_, hE⟩
        · exact moX2_takeStep_40 hE
        · obtain ⟨o_5, eo_5, hE⟩ := cl_e hE
          refine (moX2_fits eo_5).tr ?_
          rcases br_e hE with ⟨_, hE⟩ | ⟨_, hE⟩
          · exact moX2_takeStep_40 hE
          · obtain ⟨v_7, ev_7, hE⟩ := nm_e2 hE
            obtain ⟨o_8, eo_8, hE⟩ := cl_e hE
            refine (moX2_advance eo_8).tr ?_
            obtain ⟨v_9, ev_9, hE⟩ := nm_e2 hE
            exact mk_5 _ _ _ _ _ _ hE
      · exact moX2_takeStep_57 hE
set_option maxRecDepth 20000 in
theorem moX2_takeStep {o : Int32 × Hp} {F : Nat} {h : Hp} {x0 : Nat} {x1 : Int32} {x2 : Int32} (hE : sX2_takeStep F h x0 x1 x2 = some o) : Le h o.2 := by
  exact moX2_takeStep_5 _ hE
set_option maxRecDepth 20000 in
theorem bX2_takeStep_103 {p : Program} {l : Launch} {e : Env} {s : State} {m : MethodId} {args : Array Value} {below : List Frame} {meth : Method} {c : Code} {X : Ec} {h0 : Hp} {o : Int32 × Hp} {F : Nat} (C : Cx X p s m args meth c RX2 cX2_takeStep 7 (some .boolean) "takeStep") {h : Hp} {H : Heap} {locs : List Loc} (hkm : Km h0 h) (hW : Wx X h H) (hZ : va_S (aA (eB X)) s.heap H locs) (ls : Array Slot) (hl : lv_has ls 7 []) (hE : sX2_takeStep_103 F h  = some o) : W p l e (rm 6 132) s m args below meth c H locs 0 0 (MQ below (QI X h0 o.1 o.2) args s 0 0 (aA (eB X))) (F0 m 103 ls []) := by
  refine lv_iconst (v := (0 : Int32)) C.1 C.2.1 dX2_takeStep_103 (by decide) ?_
  exact x_iret C rfl (by decide) hW hZ hkm hE dX2_takeStep_104
set_option maxRecDepth 20000 in
theorem bX2_takeStep_182 {p : Program} {l : Launch} {e : Env} {s : State} {m : MethodId} {args : Array Value} {below : List Frame} {meth : Method} {c : Code} {X : Ec} {h0 : Hp} {o : Int32 × Hp} {F : Nat} (C : Cx X p s m args meth c RX2 cX2_takeStep 7 (some .boolean) "takeStep") {h : Hp} {H : Heap} {locs : List Loc} (hkm : Km h0 h) (hW : Wx X h H) (hZ : va_S (aA (eB X)) s.heap H locs) (ls : Array Slot) (hl : lv_has ls 7 []) (hE : sX2_takeStep_182 F h  = some o) : W p l e (rm 6 132) s m args below meth c H locs 0 0 (MQ below (QI X h0 o.1 o.2) args s 0 0 (aA (eB X))) (F0 m 182 ls []) := by
  refine lv_iconst (v := (0 : Int32)) C.1 C.2.1 dX2_takeStep_182 (by decide) ?_
  exact x_iret C rfl (by decide) hW hZ hkm hE dX2_takeStep_183
set_option maxRecDepth 20000 in
theorem bX2_takeStep_168 {p : Program} {l : Launch} {e : Env} {s : State} {m : MethodId} {args : Array Value} {below : List Frame} {meth : Method} {c : Code} {X : Ec} {h0 : Hp} {o : Int32 × Hp} {F : Nat} (C : Cx X p s m args meth c RX2 cX2_takeStep 7 (some .boolean) "takeStep") {h : Hp} {x0 : Nat} {x1 : Int32} {x2 : Int32} {x3 : Int32} {x5 : Int32} {t0 : Int32} {H : Heap} {locs : List Loc} (k_x0 : hK h x0 = 2) (hkm : Km h0 h) (hW : Wx X h H) (hZ : va_S (aA (eB X)) s.heap H locs) (ls : Array Slot) (hl : lv_has ls 7 [(0, .ref x0), (1, .int x1), (2, .int x2), (3, .int x3), (5, .int x5)]) (hE : sX2_takeStep_168 F h x0 x1 x2 x3 x5 t0 = some o) : W p l e (rm 6 132) s m args below meth c H locs 0 0 (MQ below (QI X h0 o.1 o.2) args s 0 0 (aA (eB X))) (F0 m 168 ls [.int t0]) := by
  refine lv_istore (lv' := [(6, .int t0), (0, .ref x0), (1, .int x1), (2, .int x2), (3, .int x3), (5, .int x5)]) C.1 C.2.1 dX2_takeStep_168 hl (by decide) rfl (fun ls hl => ?_)
  refine lv_iload C.1 C.2.1 dX2_takeStep_170 (lv_at hl 5 rfl) ?_
  refine lv_iconst (v := (-1 : Int32)) C.1 C.2.1 dX2_takeStep_172 (by decide) ?_
  refine lv_icmp_eq (tgt := 182) C.1 C.2.1 dX2_takeStep_173 (by decide) (fun c_1 => ?_) (fun c_1 => ?_)
  · have hE := br_p hE c_1
    exact bX2_takeStep_182 C hkm hW hZ _ (lv_sub hl [] rfl) hE
  · have hE := br_n hE c_1
    refine lv_iload C.1 C.2.1 dX2_takeStep_176 (lv_at hl 0 rfl) ?_
    refine lv_iconst (v := (-1 : Int32)) C.1 C.2.1 dX2_takeStep_178 (by decide) ?_
    refine lv_icmp_ne (tgt := 184) C.1 C.2.1 dX2_takeStep_179 (by decide) (fun c_2 => ?_) (fun c_2 => ?_)
    · have hE := br_n hE c_2
      refine lv_aload_n C.1 C.2.1 dX2_takeStep_184 rfl (lv_at hl 1 rfl) ?_
      obtain ⟨r_3, er_3, hE⟩ := cl_e hE
      refine gf_X2_15 C hW k_x0 er_3 dX2_takeStep_185 (fun k_r_3 => ?_)
      obtain ⟨r_4, er_4, hE⟩ := cl_e hE
      refine gf_X2_192 C hW k_r_3 er_4 dX2_takeStep_188 (fun k_r_4 => ?_)
      refine lv_iload_n C.1 C.2.1 dX2_takeStep_191 rfl (lv_at hl 2 rfl) ?_
      refine lv_bipush (v := (8 : Int32)) C.1 C.2.1 dX2_takeStep_192 (by decide) ?_
      refine lv_imul C.1 C.2.1 dX2_takeStep_194 ?_
      refine lv_iload_n C.1 C.2.1 dX2_takeStep_195 rfl (lv_at hl 3 rfl) ?_
      refine lv_iadd C.1 C.2.1 dX2_takeStep_196 ?_
      refine lv_iload_n C.1 C.2.1 dX2_takeStep_197 rfl (lv_at hl 4 rfl) ?_
      refine lv_iload C.1 C.2.1 dX2_takeStep_198 (lv_at hl 5 rfl) ?_
      refine lv_bipush (v := (14 : Int32)) C.1 C.2.1 dX2_takeStep_200 (by decide) ?_
      refine lv_ishl C.1 C.2.1 dX2_takeStep_202 ?_
      refine lv_ior C.1 C.2.1 dX2_takeStep_203 ?_
      refine lv_iload C.1 C.2.1 dX2_takeStep_204 (lv_at hl 0 rfl) ?_
      refine lv_bipush (v := (17 : Int32)) C.1 C.2.1 dX2_takeStep_206 (by decide) ?_
      refine lv_ishl C.1 C.2.1 dX2_takeStep_208 ?_
      refine lv_ior C.1 C.2.1 dX2_takeStep_209 ?_
      obtain ⟨g_5, hE⟩ := gd_e hE
      obtain ⟨h_6, eh_6, hE⟩ := nm_e2 hE
      refine y_iast C hW hZ k_r_4 g_5 eh_6 dX2_takeStep_210 (fun _ _ hW km hZ => ?_)
      replace hkm := hkm.tr km
      replace k_x0 := km.at k_x0 (by decide)
      refine lv_aload_n C.1 C.2.1 dX2_takeStep_211 rfl (lv_at hl 1 rfl) ?_
      obtain ⟨r_7, er_7, hE⟩ := cl_e hE
      refine gf_X2_15 C hW k_x0 er_7 dX2_takeStep_212 (fun k_r_7 => ?_)
      obtain ⟨r_8, er_8, hE⟩ := cl_e hE
      refine gf_X2_195 C hW k_r_7 er_8 dX2_takeStep_215 (fun k_r_8 => ?_)
      refine lv_iload_n C.1 C.2.1 dX2_takeStep_218 rfl (lv_at hl 2 rfl) ?_
      refine lv_iload_n C.1 C.2.1 dX2_takeStep_219 rfl (lv_at hl 3 rfl) ?_
      refine lv_iconst (v := (1 : Int32)) C.1 C.2.1 dX2_takeStep_220 (by decide) ?_
      refine lv_iadd C.1 C.2.1 dX2_takeStep_221 ?_
      obtain ⟨g_9, hE⟩ := gd_e hE
      obtain ⟨h_10, eh_10, hE⟩ := nm_e2 hE
      refine y_iast C hW hZ k_r_8 g_9 eh_10 dX2_takeStep_222 (fun _ _ hW km hZ => ?_)
      replace hkm := hkm.tr km
      replace k_x0 := km.at k_x0 (by decide)
      refine lv_iconst (v := (1 : Int32)) C.1 C.2.1 dX2_takeStep_223 (by decide) ?_
      exact x_iret C rfl (by decide) hW hZ hkm hE dX2_takeStep_224
    · have hE := br_p hE c_2
      exact bX2_takeStep_182 C hkm hW hZ _ (lv_sub hl [] rfl) hE
set_option maxRecDepth 20000 in
theorem bX2_takeStep_105 {p : Program} {l : Launch} {e : Env} {s : State} {m : MethodId} {args : Array Value} {below : List Frame} {meth : Method} {c : Code} {X : Ec} {h0 : Hp} {o : Int32 × Hp} {F : Nat} (C : Cx X p s m args meth c RX2 cX2_takeStep 7 (some .boolean) "takeStep") {h : Hp} {x0 : Nat} {x1 : Int32} {x2 : Int32} {x3 : Int32} {x4 : Int32} {H : Heap} {locs : List Loc} (k_x0 : hK h x0 = 2) (hkm : Km h0 h) (hW : Wx X h H) (hZ : va_S (aA (eB X)) s.heap H locs) (ls : Array Slot) (hl : lv_has ls 7 [(0, .ref x0), (1, .int x1), (2, .int x2), (3, .int x3), (4, .int x4)]) (hE : sX2_takeStep_105 F h x0 x1 x2 x3 x4 = some o) : W p l e (rm 6 132) s m args below meth c H locs 0 0 (MQ below (QI X h0 o.1 o.2) args s 0 0 (aA (eB X))) (F0 m 105 ls []) := by
  refine lv_iload_n C.1 C.2.1 dX2_takeStep_105 rfl (lv_at hl 3 rfl) ?_
  refine lv_iload C.1 C.2.1 dX2_takeStep_106 (lv_at hl 4 rfl) ?_
  refine lv_bipush (v := (8 : Int32)) C.1 C.2.1 dX2_takeStep_108 (by decide) ?_
  refine lv_iadd C.1 C.2.1 dX2_takeStep_110 ?_
  refine lv_bipush (v := (6 : Int32)) C.1 C.2.1 dX2_takeStep_111 (by decide) ?_
  refine lv_ishl C.1 C.2.1 dX2_takeStep_113 ?_
  refine lv_aload_n C.1 C.2.1 dX2_takeStep_114 rfl (lv_at hl 0 rfl) ?_
  refine gf_X2_84 C hW k_x0 dX2_takeStep_115 ?_
  refine lv_bipush (v := (8 : Int32)) C.1 C.2.1 dX2_takeStep_118 (by decide) ?_
  refine lv_iadd C.1 C.2.1 dX2_takeStep_120 ?_
  refine lv_bipush (v := (10 : Int32)) C.1 C.2.1 dX2_takeStep_121 (by decide) ?_
  refine lv_ishl C.1 C.2.1 dX2_takeStep_123 ?_
  refine lv_ior C.1 C.2.1 dX2_takeStep_124 ?_
  refine lv_ior C.1 C.2.1 dX2_takeStep_125 ?_
  obtain ⟨v_1, ev_1, hE⟩ := nm_e2 hE
  refine x_nmI ev_1 ?_
  refine lv_istore_n (lv' := [(3, .int v_1), (0, .ref x0), (1, .int x1), (2, .int x2), (4, .int x4)]) C.1 C.2.1 dX2_takeStep_126 rfl hl (by decide) rfl (fun ls hl => ?_)
  refine lv_aload_n C.1 C.2.1 dX2_takeStep_127 rfl (lv_at hl 1 rfl) ?_
  obtain ⟨o_2, eo_2, hE⟩ := cl_e hE
  refine x_kV (o := o_2) (z_runV (As := []) (rest := []) C (ct_X2_advance l X F k_x0 eo_2) cw_X2_31 hW hZ k_x0 (by decide) rfl rfl rfl hl.1 (Nat.le_of_ble_eq_true rfl) rfl dX2_takeStep_128 ⟨Nat.le_of_ble_eq_true rfl, Nat.le_of_ble_eq_true rfl⟩ ⟨Nat.le_refl _, Nat.le_refl _⟩) hZ (fun _ _ hW km hZ => ?_)
  replace hkm := hkm.tr km
  replace k_x0 := km.at k_x0 (by decide)
  refine lv_aload_n C.1 C.2.1 dX2_takeStep_131 rfl (lv_at hl 1 rfl) ?_
  refine va_ldcS C.1 C.2.1 C.2.2.2.1 (C.2.2.2.2.2.2.2.2.1 11 (by decide)).2 dX2_takeStep_132 ?_
  refine lv_iconst (v := (2 : Int32)) C.1 C.2.1 dX2_takeStep_134 (by decide) ?_
  refine lv_bipush (v := (7 : Int32)) C.1 C.2.1 dX2_takeStep_135 (by decide) ?_
  refine lv_iconst (v := (1 : Int32)) C.1 C.2.1 dX2_takeStep_137 (by decide) ?_
  obtain ⟨o_3, eo_3, hE⟩ := cl_e hE
  refine x_kI (o := o_3) (z_runV (As := [.ref (X.2.2.2.1 11), .int (2 : Int32), .int (7 : Int32), .int (1 : Int32)]) (rest := []) C (ct_X2_takeTail l X F k_x0 (by decide) eo_3) cw_X2_183 hW hZ k_x0 (by decide) rfl rfl rfl hl.1 (Nat.le_of_ble_eq_true rfl) rfl dX2_takeStep_138 ⟨Nat.le_of_ble_eq_true rfl, Nat.le_of_ble_eq_true rfl⟩ ⟨Nat.le_refl _, Nat.le_refl _⟩) hZ (fun _ _ hW km hZ => ?_)
  replace hkm := hkm.tr km
  replace k_x0 := km.at k_x0 (by decide)
  refine lv_istore (lv' := [(5, .int o_3.1), (3, .int v_1), (0, .ref x0), (1, .int x1), (2, .int x2), (4, .int x4)]) C.1 C.2.1 dX2_takeStep_141 hl (by decide) rfl (fun ls hl => ?_)
  refine lv_iload C.1 C.2.1 dX2_takeStep_143 (lv_at hl 0 rfl) ?_
  refine lv_iconst (v := (-1 : Int32)) C.1 C.2.1 dX2_takeStep_145 (by decide) ?_
  refine lv_icmp_ne (tgt := 153) C.1 C.2.1 dX2_takeStep_146 (by decide) (fun c_4 => ?_) (fun c_4 => ?_)
  · have hE := br_n hE c_4
    refine lv_aload_n C.1 C.2.1 dX2_takeStep_153 rfl (lv_at hl 2 rfl) ?_
    refine va_ldcS C.1 C.2.1 C.2.2.2.1 (C.2.2.2.2.2.2.2.2.1 12 (by decide)).2 dX2_takeStep_154 ?_
    refine lv_iconst (v := (1 : Int32)) C.1 C.2.1 dX2_takeStep_156 (by decide) ?_
    refine lv_aload_n C.1 C.2.1 dX2_takeStep_157 rfl (lv_at hl 2 rfl) ?_
    obtain ⟨r_5, er_5, hE⟩ := cl_e hE
    refine gf_X2_15 C hW k_x0 er_5 dX2_takeStep_158 (fun k_r_5 => ?_)
    refine gf_X2_189 C hW k_r_5 dX2_takeStep_161 ?_
    refine lv_iconst (v := (0 : Int32)) C.1 C.2.1 dX2_takeStep_164 (by decide) ?_
    obtain ⟨o_6, eo_6, hE⟩ := cl_e hE
    refine x_kI (o := o_6) (z_runV (As := [.ref (X.2.2.2.1 12), .int (1 : Int32), .int (hI o_3.2 r_5 1), .int (0 : Int32)]) (rest := []) C (ct_X2_takeTail l X F k_x0 (by decide) eo_6) cw_X2_183 hW hZ k_x0 (by decide) rfl rfl rfl hl.1 (Nat.le_of_ble_eq_true rfl) rfl dX2_takeStep_165 ⟨Nat.le_of_ble_eq_true rfl, Nat.le_of_ble_eq_true rfl⟩ ⟨Nat.le_refl _, Nat.le_refl _⟩) hZ (fun _ _ hW km hZ => ?_)
    replace hkm := hkm.tr km
    replace k_x0 := km.at k_x0 (by decide)
    exact bX2_takeStep_168 C k_x0 hkm hW hZ _ (lv_sub hl [2, 3, 4, 1, 0] rfl) hE
  · have hE := br_p hE c_4
    refine lv_iconst (v := (-1 : Int32)) C.1 C.2.1 dX2_takeStep_149 (by decide) ?_
    refine lv_goto (tgt := 168) C.1 C.2.1 dX2_takeStep_150 (by decide) ?_
    exact bX2_takeStep_168 C k_x0 hkm hW hZ _ (lv_sub hl [2, 3, 4, 1, 0] rfl) hE
set_option maxRecDepth 20000 in
theorem bX2_takeStep_57 {p : Program} {l : Launch} {e : Env} {s : State} {m : MethodId} {args : Array Value} {below : List Frame} {meth : Method} {c : Code} {X : Ec} {h0 : Hp} {o : Int32 × Hp} {F : Nat} (C : Cx X p s m args meth c RX2 cX2_takeStep 7 (some .boolean) "takeStep") {h : Hp} {x0 : Nat} {x1 : Int32} {x2 : Int32} {x3 : Int32} {H : Heap} {locs : List Loc} (k_x0 : hK h x0 = 2) (hkm : Km h0 h) (hW : Wx X h H) (hZ : va_S (aA (eB X)) s.heap H locs) (ls : Array Slot) (hl : lv_has ls 7 [(0, .ref x0), (1, .int x1), (2, .int x2), (3, .int x3)]) (hE : sX2_takeStep_57 F h x0 x1 x2 x3 = some o) : W p l e (rm 6 132) s m args below meth c H locs 0 0 (MQ below (QI X h0 o.1 o.2) args s 0 0 (aA (eB X))) (F0 m 57 ls []) := by
  refine lv_aload_n C.1 C.2.1 dX2_takeStep_57 rfl (lv_at hl 0 rfl) ?_
  refine lv_bipush (v := (-7 : Int32)) C.1 C.2.1 dX2_takeStep_58 (by decide) ?_
  refine lv_bipush (v := (7 : Int32)) C.1 C.2.1 dX2_takeStep_60 (by decide) ?_
  obtain ⟨o_1, eo_1, hE⟩ := cl_e hE
  refine x_kI (o := o_1) (z_runV (As := [.int (-7 : Int32), .int (7 : Int32)]) (rest := []) C (ct_X2_isNumber l X k_x0 eo_1) cw_X2_104 hW hZ k_x0 (by decide) rfl rfl rfl hl.1 (Nat.le_of_ble_eq_true rfl) rfl dX2_takeStep_62 ⟨Nat.le_of_ble_eq_true rfl, Nat.le_of_ble_eq_true rfl⟩ ⟨Nat.le_refl _, Nat.le_refl _⟩) hZ (fun _ _ hW km hZ => ?_)
  replace hkm := hkm.tr km
  replace k_x0 := km.at k_x0 (by decide)
  refine lv_if_ne (tgt := 70) C.1 C.2.1 dX2_takeStep_65 (by decide) (fun c_2 => ?_) (fun c_2 => ?_)
  · have hE := br_n hE c_2
    refine lv_aload_n C.1 C.2.1 dX2_takeStep_70 rfl (lv_at hl 0 rfl) ?_
    refine gf_X2_84 C hW k_x0 dX2_takeStep_71 ?_
    obtain ⟨v_3, ev_3, hE⟩ := nm_e2 hE
    refine x_nmI ev_3 ?_
    refine lv_istore (lv' := [(4, .int v_3), (0, .ref x0), (1, .int x1), (2, .int x2), (3, .int x3)]) C.1 C.2.1 dX2_takeStep_74 hl (by decide) rfl (fun ls hl => ?_)
    refine lv_aload_n C.1 C.2.1 dX2_takeStep_76 rfl (lv_at hl 1 rfl) ?_
    obtain ⟨o_4, eo_4, hE⟩ := cl_e hE
    refine x_kV (o := o_4) (z_runV (As := []) (rest := []) C (ct_X2_advance l X F k_x0 eo_4) cw_X2_31 hW hZ k_x0 (by decide) rfl rfl rfl hl.1 (Nat.le_of_ble_eq_true rfl) rfl dX2_takeStep_77 ⟨Nat.le_of_ble_eq_true rfl, Nat.le_of_ble_eq_true rfl⟩ ⟨Nat.le_refl _, Nat.le_refl _⟩) hZ (fun _ _ hW km hZ => ?_)
    replace hkm := hkm.tr km
    replace k_x0 := km.at k_x0 (by decide)
    refine lv_aload_n C.1 C.2.1 dX2_takeStep_80 rfl (lv_at hl 1 rfl) ?_
    refine lv_bipush (v := (-7 : Int32)) C.1 C.2.1 dX2_takeStep_81 (by decide) ?_
    refine lv_bipush (v := (7 : Int32)) C.1 C.2.1 dX2_takeStep_83 (by decide) ?_
    obtain ⟨o_5, eo_5, hE⟩ := cl_e hE
    refine x_kI (o := o_5) (z_runV (As := [.int (-7 : Int32), .int (7 : Int32)]) (rest := []) C (ct_X2_isNumber l X k_x0 eo_5) cw_X2_104 hW hZ k_x0 (by decide) rfl rfl rfl hl.1 (Nat.le_of_ble_eq_true rfl) rfl dX2_takeStep_85 ⟨Nat.le_of_ble_eq_true rfl, Nat.le_of_ble_eq_true rfl⟩ ⟨Nat.le_refl _, Nat.le_refl _⟩) hZ (fun _ _ hW km hZ => ?_)
    replace hkm := hkm.tr km
    replace k_x0 := km.at k_x0 (by decide)
    refine lv_if_eq (tgt := 103) C.1 C.2.1 dX2_takeStep_88 (by decide) (fun c_6 => ?_) (fun c_6 => ?_)
    · have hE := br_p hE c_6
      exact bX2_takeStep_103 C hkm hW hZ _ (lv_sub hl [] rfl) hE
    · have hE := br_n hE c_6
      refine lv_iload C.1 C.2.1 dX2_takeStep_91 (lv_at hl 0 rfl) ?_
      refine lv_if_ne (tgt := 105) C.1 C.2.1 dX2_takeStep_93 (by decide) (fun c_7 => ?_) (fun c_7 => ?_)
      · have hE := br_n hE c_7
        exact bX2_takeStep_105 C k_x0 hkm hW hZ _ (lv_sub hl [1, 2, 3, 4, 0] rfl) hE
      · have hE := br_p hE c_7
        refine lv_aload_n C.1 C.2.1 dX2_takeStep_96 rfl (lv_at hl 1 rfl) ?_
        refine gf_X2_84 C hW k_x0 dX2_takeStep_97 ?_
        refine lv_if_ne (tgt := 105) C.1 C.2.1 dX2_takeStep_100 (by decide) (fun c_8 => ?_) (fun c_8 => ?_)
        · have hE := br_n hE c_8
          exact bX2_takeStep_105 C k_x0 hkm hW hZ _ (lv_sub hl [1, 2, 3, 4, 0] rfl) hE
        · have hE := br_p hE c_8
          exact bX2_takeStep_103 C hkm hW hZ _ (lv_sub hl [] rfl) hE
  · have hE := br_p hE c_2
    refine lv_iconst (v := (0 : Int32)) C.1 C.2.1 dX2_takeStep_68 (by decide) ?_
    exact x_iret C rfl (by decide) hW hZ hkm hE dX2_takeStep_69
set_option maxRecDepth 20000 in
theorem bX2_takeStep_40 {p : Program} {l : Launch} {e : Env} {s : State} {m : MethodId} {args : Array Value} {below : List Frame} {meth : Method} {c : Code} {X : Ec} {h0 : Hp} {o : Int32 × Hp} {F : Nat} (C : Cx X p s m args meth c RX2 cX2_takeStep 7 (some .boolean) "takeStep") {h : Hp} {H : Heap} {locs : List Loc} (hkm : Km h0 h) (hW : Wx X h H) (hZ : va_S (aA (eB X)) s.heap H locs) (ls : Array Slot) (hl : lv_has ls 7 []) (hE : sX2_takeStep_40 F h  = some o) : W p l e (rm 6 132) s m args below meth c H locs 0 0 (MQ below (QI X h0 o.1 o.2) args s 0 0 (aA (eB X))) (F0 m 40 ls []) := by
  refine lv_iconst (v := (0 : Int32)) C.1 C.2.1 dX2_takeStep_40 (by decide) ?_
  exact x_iret C rfl (by decide) hW hZ hkm hE dX2_takeStep_41
set_option maxRecDepth 20000 in
theorem bX2_takeStep_5 {p : Program} {l : Launch} {e : Env} {s : State} {m : MethodId} {args : Array Value} {below : List Frame} {meth : Method} {c : Code} {X : Ec} {h0 : Hp} {o : Int32 × Hp} {F : Nat} (C : Cx X p s m args meth c RX2 cX2_takeStep 7 (some .boolean) "takeStep") : ∀ (f : Nat) {h : Hp} {x0 : Nat} {x1 : Int32} {x2 : Int32} {x3 : Int32} {x4 : Int32} {H : Heap} {locs : List Loc} (k_x0 : hK h x0 = 2), Km h0 h → Wx X h H → va_S (aA (eB X)) s.heap H locs → ∀ (ls : Array Slot), lv_has ls 7 [(0, .ref x0), (1, .int x1), (2, .int x2), (3, .int x3), (4, .int x4)] → sX2_takeStep_5 F f h x0 x1 x2 x3 x4 = some o → W p l e (rm 6 132) s m args below meth c H locs 0 0 (MQ below (QI X h0 o.1 o.2) args s 0 0 (aA (eB X))) (F0 m 5 ls []) := by
  intro f
  induction f with
  | zero =>
    intro h x0 x1 x2 x3 x4 H locs k_x0 hkm hW hZ ls hl hE
    rw [sX2_takeStep_5] at hE
    cases hE
  | succ f ih =>
    intro h x0 x1 x2 x3 x4 H locs k_x0 hkm hW hZ ls hl hE
    rw [sX2_takeStep_5] at hE
    have hk_5 : ∀ (h : Hp) (x0 : Nat) (x1 : Int32) (x2 : Int32) (x3 : Int32) (x4 : Int32) (H : Heap) (locs : List Loc), hK h x0 = 2 → Km h0 h → Wx X h H → va_S (aA (eB X)) s.heap H locs → ∀ (ls : Array Slot), lv_has ls 7 [(0, .ref x0), (1, .int x1), (2, .int x2), (3, .int x3), (4, .int x4)] → sX2_takeStep_5 F f h x0 x1 x2 x3 x4 = some o → W p l e (rm 6 132) s m args below meth c H locs 0 0 (MQ below (QI X h0 o.1 o.2) args s 0 0 (aA (eB X))) (F0 m 5 ls []) := fun h x0 x1 x2 x3 x4 H locs k_x0 a b c ls hl hE => ih k_x0 a b c ls hl hE
    refine lv_iload C.1 C.2.1 dX2_takeStep_5 (lv_at hl 4 rfl) ?_
    refine lv_bipush (v := (6 : Int32)) C.1 C.2.1 dX2_takeStep_7 (by decide) ?_
    refine lv_icmp_ge (tgt := 57) C.1 C.2.1 dX2_takeStep_9 (by decide) (fun c_1 => ?_) (fun c_1 => ?_)
    · have hE := br_p hE c_1
      exact bX2_takeStep_57 C k_x0 hkm hW hZ _ (lv_sub hl [0, 1, 2, 3] rfl) hE
    · have hE := br_n hE c_1
      refine lv_aload_n C.1 C.2.1 dX2_takeStep_12 rfl (lv_at hl 0 rfl) ?_
      refine gf_X2_38 C hW k_x0 dX2_takeStep_13 ?_
      refine lv_iconst (v := (1 : Int32)) C.1 C.2.1 dX2_takeStep_16 (by decide) ?_
      refine lv_icmp_ne (tgt := 57) C.1 C.2.1 dX2_takeStep_17 (by decide) (fun c_2 => ?_) (fun c_2 => ?_)
      · have hE := br_n hE c_2
        exact bX2_takeStep_57 C k_x0 hkm hW hZ _ (lv_sub hl [0, 1, 2, 3] rfl) hE
      · have hE := br_p hE c_2
        refine lv_aload_n C.1 C.2.1 dX2_takeStep_20 rfl (lv_at hl 0 rfl) ?_
        obtain ⟨o_3, eo_3, hE⟩ := cl_e hE
        refine x_kI (o := o_3) (z_runV (As := []) (rest := []) C (ct_X2_stepFlag l X F k_x0 eo_3) cw_X2_175 hW hZ k_x0 (by decide) rfl rfl rfl hl.1 (Nat.le_of_ble_eq_true rfl) rfl dX2_takeStep_21 ⟨Nat.le_of_ble_eq_true rfl, Nat.le_of_ble_eq_true rfl⟩ ⟨Nat.le_refl _, Nat.le_refl _⟩) hZ (fun _ _ hW km hZ => ?_)
        replace hkm := hkm.tr km
        replace k_x0 := km.at k_x0 (by decide)
        refine lv_istore (lv' := [(5, .int o_3.1), (0, .ref x0), (1, .int x1), (2, .int x2), (3, .int x3), (4, .int x4)]) C.1 C.2.1 dX2_takeStep_24 hl (by decide) rfl (fun ls hl => ?_)
        refine lv_iload C.1 C.2.1 dX2_takeStep_26 (lv_at hl 0 rfl) ?_
        refine lv_if_eq (tgt := 40) C.1 C.2.1 dX2_takeStep_28 (by decide) (fun c_4 => ?_) (fun c_4 => ?_)
        · have hE := br_p hE c_4
          exact bX2_takeStep_40 C hkm hW hZ _ (lv_sub hl [] rfl) hE
        · have hE := br_n hE c_4
          refine lv_iload_n C.1 C.2.1 dX2_takeStep_31 rfl (lv_at hl 4 rfl) ?_
          refine lv_iload C.1 C.2.1 dX2_takeStep_32 (lv_at hl 0 rfl) ?_
          obtain ⟨o_5, eo_5, hE⟩ := cl_e hE
          refine x_kI (o := o_5) (z_runS (As := [.int x3, .int o_3.1]) (rest := []) C (ct_X2_fits l X eo_5) cw_X2_178 hW hZ rfl hl.1 (Nat.le_of_ble_eq_true rfl) rfl dX2_takeStep_34 ⟨Nat.le_of_ble_eq_true rfl, Nat.le_of_ble_eq_true rfl⟩ ⟨Nat.le_refl _, Nat.le_refl _⟩) hZ (fun _ _ hW km hZ => ?_)
          replace hkm := hkm.tr km
          replace k_x0 := km.at k_x0 (by decide)
          refine lv_if_ne (tgt := 42) C.1 C.2.1 dX2_takeStep_37 (by decide) (fun c_6 => ?_) (fun c_6 => ?_)
          · have hE := br_n hE c_6
            refine lv_iload_n C.1 C.2.1 dX2_takeStep_42 rfl (lv_at hl 4 rfl) ?_
            refine lv_iload C.1 C.2.1 dX2_takeStep_43 (lv_at hl 0 rfl) ?_
            refine lv_ior C.1 C.2.1 dX2_takeStep_45 ?_
            obtain ⟨v_7, ev_7, hE⟩ := nm_e2 hE
            refine x_nmI ev_7 ?_
            refine lv_istore_n (lv' := [(3, .int v_7), (5, .int o_3.1), (0, .ref x0), (1, .int x1), (2, .int x2), (4, .int x4)]) C.1 C.2.1 dX2_takeStep_46 rfl hl (by decide) rfl (fun ls hl => ?_)
            refine lv_aload_n C.1 C.2.1 dX2_takeStep_47 rfl (lv_at hl 2 rfl) ?_
            obtain ⟨o_8, eo_8, hE⟩ := cl_e hE
            refine x_kV (o := o_8) (z_runV (As := []) (rest := []) C (ct_X2_advance l X F k_x0 eo_8) cw_X2_31 hW hZ k_x0 (by decide) rfl rfl rfl hl.1 (Nat.le_of_ble_eq_true rfl) rfl dX2_takeStep_48 ⟨Nat.le_of_ble_eq_true rfl, Nat.le_of_ble_eq_true rfl⟩ ⟨Nat.le_refl _, Nat.le_refl _⟩) hZ (fun _ _ hW km hZ => ?_)
            replace hkm := hkm.tr km
            replace k_x0 := km.at k_x0 (by decide)
            obtain ⟨v_9, ev_9, hE⟩ := nm_e2 hE
            refine lv_iinc (v := v_9) (lv' := [(4, .int v_9), (3, .int v_7), (5, .int o_3.1), (0, .ref x0), (1, .int x1), (2, .int x2)]) C.1 C.2.1 dX2_takeStep_51 hl (k := 5) rfl (by rw [ev_9]; rfl) (by decide) rfl (fun ls hl => ?_)
            refine lv_goto (tgt := 5) C.1 C.2.1 dX2_takeStep_54 (by decide) ?_
            exact hk_5 _ _ _ _ _ _ _ _ k_x0 hkm hW hZ _ (lv_sub hl [3, 4, 5, 1, 0] rfl) hE
          · have hE := br_p hE c_6
            exact bX2_takeStep_40 C hkm hW hZ _ (lv_sub hl [] rfl) hE
set_option maxRecDepth 20000 in
theorem ct_X2_takeStep (l : Launch) (X : Ec) (F : Nat) {h : Hp} {x0 : Nat} {x1 : Int32} {x2 : Int32} {o : Int32 × Hp} (k_x0 : hK h x0 = 2) (hE : sX2_takeStep F h x0 x1 x2 = some o) : MetI l yX2_takeStep cX2_takeStep 7 (some .boolean) 6 132 X [.ref x0, .int x1, .int x2] h o := by
  refine x_met (by decide) (Nat.le_of_ble_eq_true rfl) ?_
  intro p e s m below meth c ls C hl hW hZ
  have hl : lv_has ls 7 [(0, .ref x0), (1, .int x1), (2, .int x2)] := hl
  have hkm : Km h h := Km.rf h
  refine lv_iconst (v := (0 : Int32)) C.1 C.2.1 dX2_takeStep_0 (by decide) ?_
  refine lv_istore_n (lv' := [(3, .int (0 : Int32)), (0, .ref x0), (1, .int x1), (2, .int x2)]) C.1 C.2.1 dX2_takeStep_1 rfl hl (by decide) rfl (fun ls hl => ?_)
  refine lv_iconst (v := (0 : Int32)) C.1 C.2.1 dX2_takeStep_2 (by decide) ?_
  refine lv_istore (lv' := [(4, .int (0 : Int32)), (3, .int (0 : Int32)), (0, .ref x0), (1, .int x1), (2, .int x2)]) C.1 C.2.1 dX2_takeStep_3 hl (by decide) rfl (fun ls hl => ?_)
  exact bX2_takeStep_5 C F k_x0 hkm hW hZ _ (lv_sub hl [2, 3, 4, 1, 0] rfl) hE
set_option maxRecDepth 100000 in
theorem ms_8 : Cond.selects RX2 yX2_takeStep yX2_takeStep ∈ W0 := w0_in (List.mem_append_left _ (List.mem_of_getElem? (i := 8) rfl)) rfl
set_option maxRecDepth 100000 in
theorem ms_7 : Cond.selects RX2 yX2_oneLetter yX2_oneLetter ∈ W0 := w0_in (List.mem_append_left _ (List.mem_of_getElem? (i := 7) rfl)) rfl
set_option maxRecDepth 100000 in
theorem m_83 : Cond.fieldLink RX2 165 (TX1 3).1 (TX1 3).2.1 (TX1 3).2.2.1 ∈ W0 := w0_in (List.mem_append_right _ (List.mem_of_getElem? (i := 83) rfl)) rfl
set_option maxRecDepth 100000 in
theorem m_120 : Cond.fieldLink RX2 168 (TX1 14).1 (TX1 14).2.1 (TX1 14).2.2.1 ∈ W0 := w0_in (List.mem_append_right _ (List.mem_of_getElem? (i := 120) rfl)) rfl
set_option maxRecDepth 100000 in
theorem m_699 : Cond.methodLink RX2 96 yX2_oneLetter ∈ W0 := w0_in (List.mem_append_right _ (List.mem_of_getElem? (i := 699) rfl)) rfl
set_option maxRecDepth 100000 in
theorem m_701 : Cond.instanceMethod yX2_oneLetter ∈ W0 := w0_in (List.mem_append_right _ (List.mem_of_getElem? (i := 701) rfl)) rfl
set_option maxRecDepth 100000 in
theorem m_702 : Cond.code yX2_oneLetter cX2_oneLetter 1 (some .int) ∈ W0 := w0_in (List.mem_append_right _ (List.mem_of_getElem? (i := 702) rfl)) rfl
set_option maxRecDepth 100000 in
theorem m_703 : Cond.methodLink RX2 99 yX1_manOf ∈ W0 := w0_in (List.mem_append_right _ (List.mem_of_getElem? (i := 703) rfl)) rfl
set_option maxRecDepth 100000 in
theorem m_707 : Cond.methodLink RX2 172 yX2_takeStep ∈ W0 := w0_in (List.mem_append_right _ (List.mem_of_getElem? (i := 707) rfl)) rfl
set_option maxRecDepth 100000 in
theorem m_709 : Cond.instanceMethod yX2_takeStep ∈ W0 := w0_in (List.mem_append_right _ (List.mem_of_getElem? (i := 709) rfl)) rfl
set_option maxRecDepth 100000 in
theorem m_710 : Cond.code yX2_takeStep cX2_takeStep 7 (some .boolean) ∈ W0 := w0_in (List.mem_append_right _ (List.mem_of_getElem? (i := 710) rfl)) rfl
section
variable {p : Program} {l : Launch} {e : Env} {R : Room} {s : State} {m : MethodId} {args : Array Value} {below : List Frame} {meth : Method} {c : Code} {H : Heap} {locs : List Loc} {cells slots : Nat} {Q : State → Prop}
variable {cc : ByteArray} {pc : Nat} {ls : Array Slot} {rest : List Value} {X : Ec} {h h1 : Hp} {nL : Nat} {rt : Option FieldType} {mn : String}
theorem gf_X2_165 {a : Nat} (C : Cx X p s m args meth c RX2 cc nL rt mn) (hW : Wx X h H) (ha : hK h a = 1) (hdg : decode cc pc = .ok (.getfield 165, 3)) (kk : W p l e R s m args below meth c H locs cells slots Q (F0 m (pc + 3) ls (.int (hI h a 3) :: rest))) : W p l e R s m args below meth c H locs cells slots Q (F0 m pc ls (.ref a :: rest)) :=
  y_geti C hW ha i_X1 (by decide) rfl (by decide) m_83 rfl hdg kk
theorem gf_X2_168 {a r : Nat} (C : Cx X p s m args meth c RX2 cc nL rt mn) (hW : Wx X h H) (ha : hK h a = 1) (hr : hR h a 14 = some r) (hdg : decode cc pc = .ok (.getfield 168, 3)) (kk : hK h r = 17 → W p l e R s m args below meth c H locs cells slots Q (F0 m (pc + 3) ls (.ref r :: rest))) : W p l e R s m args below meth c H locs cells slots Q (F0 m pc ls (.ref a :: rest)) :=
  y_getr C hW ha i_X1 (by decide) rfl (by decide) m_120 rfl rfl hr hdg kk
theorem pf_X2_165 {a : Nat} {v : Int32} (C : Cx X p s m args meth c RX2 cc nL rt mn) (hW : Wx X h H) (hZ : va_S (aA (eB X)) s.heap H locs) (ha : hK h a = 1) (eh : h1 = wI h a 3 v) (hdg : decode cc pc = .ok (.putfield 165, 3)) (kk : ∀ (H1 : Heap) (locs1 : List Loc), Wx X h1 H1 → Km h h1 → va_S (aA (eB X)) s.heap H1 locs1 → W p l e R s m args below meth c H1 locs1 cells slots Q (F0 m (pc + 3) ls rest)) : W p l e R s m args below meth c H locs cells slots Q (F0 m pc ls (.int v :: .ref a :: rest)) :=
  y_puti (ty := .int) C hW hZ ha i_X1 tyX1 tyX1_ok nmX1 (by decide) rfl rfl (by decide) m_83 rfl (by decide +kernel) rfl rfl rfl eh hdg kk
end
theorem cw_X2_172 : cwd RX2 172 yX2_takeStep cX2_takeStep 7 (some .boolean) false 2 := ⟨m_710, m_707, m_5, ⟨m_709, ms_8⟩, by decide, by decide, by decide +kernel⟩
theorem cw_X2_96 : cwd RX2 96 yX2_oneLetter cX2_oneLetter 1 (some .int) false 0 := ⟨m_702, m_699, m_5, ⟨m_701, ms_7⟩, by decide, by decide, by decide +kernel⟩
theorem cw_X2_99 : cwd RX2 99 yX1_manOf cX1_manOf 3 (some .int) false 1 := ⟨m_706, m_703, m_4, ⟨m_704, m_705⟩, by decide, by decide, by decide +kernel⟩
theorem dX2_takeMan_0 : decode cX2_takeMan 0 = .ok (.aload_n 0, 1) := by decide +kernel
theorem dX2_takeMan_1 : decode cX2_takeMan 1 = .ok (.invokevirtual 31, 3) := by decide +kernel
theorem dX2_takeMan_4 : decode cX2_takeMan 4 = .ok (.aload_n 0, 1) := by decide +kernel
theorem dX2_takeMan_5 : decode cX2_takeMan 5 = .ok (.invokevirtual 96, 3) := by decide +kernel
theorem dX2_takeMan_8 : decode cX2_takeMan 8 = .ok (.istore_n 1, 1) := by decide +kernel
theorem dX2_takeMan_9 : decode cX2_takeMan 9 = .ok (.iload_n 1, 1) := by decide +kernel
theorem dX2_takeMan_10 : decode cX2_takeMan 10 = .ok (.iconst (-1), 1) := by decide +kernel
theorem dX2_takeMan_11 : decode cX2_takeMan 11 = .ok (.if_icmp .eq 27, 3) := by decide +kernel
theorem dX2_takeMan_14 : decode cX2_takeMan 14 = .ok (.aload_n 0, 1) := by decide +kernel
theorem dX2_takeMan_15 : decode cX2_takeMan 15 = .ok (.getfield 15, 3) := by decide +kernel
theorem dX2_takeMan_18 : decode cX2_takeMan 18 = .ok (.iload_n 1, 1) := by decide +kernel
theorem dX2_takeMan_19 : decode cX2_takeMan 19 = .ok (.invokevirtual 99, 3) := by decide +kernel
theorem dX2_takeMan_22 : decode cX2_takeMan 22 = .ok (.iconst (-1), 1) := by decide +kernel
theorem dX2_takeMan_23 : decode cX2_takeMan 23 = .ok (.if_icmp .ne 15, 3) := by decide +kernel
theorem dX2_takeMan_26 : decode cX2_takeMan 26 = .ok (.aload_n 0, 1) := by decide +kernel
theorem dX2_takeMan_27 : decode cX2_takeMan 27 = .ok (.getfield 15, 3) := by decide +kernel
theorem dX2_takeMan_30 : decode cX2_takeMan 30 = .ok (.getfield 165, 3) := by decide +kernel
theorem dX2_takeMan_33 : decode cX2_takeMan 33 = .ok (.bipush 12, 2) := by decide +kernel
theorem dX2_takeMan_35 : decode cX2_takeMan 35 = .ok (.if_icmp .lt 5, 3) := by decide +kernel
theorem dX2_takeMan_38 : decode cX2_takeMan 38 = .ok (.iconst 0, 1) := by decide +kernel
theorem dX2_takeMan_39 : decode cX2_takeMan 39 = .ok (.ireturn, 1) := by decide +kernel
theorem dX2_takeMan_40 : decode cX2_takeMan 40 = .ok (.aload_n 0, 1) := by decide +kernel
theorem dX2_takeMan_41 : decode cX2_takeMan 41 = .ok (.invokevirtual 31, 3) := by decide +kernel
theorem dX2_takeMan_44 : decode cX2_takeMan 44 = .ok (.aload_n 0, 1) := by decide +kernel
theorem dX2_takeMan_45 : decode cX2_takeMan 45 = .ok (.getfield 15, 3) := by decide +kernel
theorem dX2_takeMan_48 : decode cX2_takeMan 48 = .ok (.getfield 165, 3) := by decide +kernel
theorem dX2_takeMan_51 : decode cX2_takeMan 51 = .ok (.istore_n 2, 1) := by decide +kernel
theorem dX2_takeMan_52 : decode cX2_takeMan 52 = .ok (.aload_n 0, 1) := by decide +kernel
theorem dX2_takeMan_53 : decode cX2_takeMan 53 = .ok (.getfield 15, 3) := by decide +kernel
theorem dX2_takeMan_56 : decode cX2_takeMan 56 = .ok (.getfield 168, 3) := by decide +kernel
theorem dX2_takeMan_59 : decode cX2_takeMan 59 = .ok (.iload_n 2, 1) := by decide +kernel
theorem dX2_takeMan_60 : decode cX2_takeMan 60 = .ok (.iload_n 1, 1) := by decide +kernel
theorem dX2_takeMan_61 : decode cX2_takeMan 61 = .ok (.iastore, 1) := by decide +kernel
theorem dX2_takeMan_62 : decode cX2_takeMan 62 = .ok (.aload_n 0, 1) := by decide +kernel
theorem dX2_takeMan_63 : decode cX2_takeMan 63 = .ok (.getfield 15, 3) := by decide +kernel
theorem dX2_takeMan_66 : decode cX2_takeMan 66 = .ok (.dup, 1) := by decide +kernel
theorem dX2_takeMan_67 : decode cX2_takeMan 67 = .ok (.getfield 165, 3) := by decide +kernel
theorem dX2_takeMan_70 : decode cX2_takeMan 70 = .ok (.iconst 1, 1) := by decide +kernel
theorem dX2_takeMan_71 : decode cX2_takeMan 71 = .ok (.iadd, 1) := by decide +kernel
theorem dX2_takeMan_72 : decode cX2_takeMan 72 = .ok (.putfield 165, 3) := by decide +kernel
theorem dX2_takeMan_75 : decode cX2_takeMan 75 = .ok (.iconst 0, 1) := by decide +kernel
theorem dX2_takeMan_76 : decode cX2_takeMan 76 = .ok (.istore_n 3, 1) := by decide +kernel
theorem dX2_takeMan_77 : decode cX2_takeMan 77 = .ok (.iload_n 3, 1) := by decide +kernel
theorem dX2_takeMan_78 : decode cX2_takeMan 78 = .ok (.bipush 8, 2) := by decide +kernel
theorem dX2_takeMan_80 : decode cX2_takeMan 80 = .ok (.if_icmp .ge 40, 3) := by decide +kernel
theorem dX2_takeMan_83 : decode cX2_takeMan 83 = .ok (.aload_n 0, 1) := by decide +kernel
theorem dX2_takeMan_84 : decode cX2_takeMan 84 = .ok (.iload_n 2, 1) := by decide +kernel
theorem dX2_takeMan_85 : decode cX2_takeMan 85 = .ok (.iload_n 3, 1) := by decide +kernel
theorem dX2_takeMan_86 : decode cX2_takeMan 86 = .ok (.invokevirtual 172, 3) := by decide +kernel
theorem dX2_takeMan_89 : decode cX2_takeMan 89 = .ok (.ifCond .ne 5, 3) := by decide +kernel
theorem dX2_takeMan_92 : decode cX2_takeMan 92 = .ok (.iconst 0, 1) := by decide +kernel
theorem dX2_takeMan_93 : decode cX2_takeMan 93 = .ok (.ireturn, 1) := by decide +kernel
theorem dX2_takeMan_94 : decode cX2_takeMan 94 = .ok (.aload_n 0, 1) := by decide +kernel
theorem dX2_takeMan_95 : decode cX2_takeMan 95 = .ok (.getfield 38, 3) := by decide +kernel
theorem dX2_takeMan_98 : decode cX2_takeMan 98 = .ok (.iconst 4, 1) := by decide +kernel
theorem dX2_takeMan_99 : decode cX2_takeMan 99 = .ok (.if_icmp .ne 9, 3) := by decide +kernel
theorem dX2_takeMan_102 : decode cX2_takeMan 102 = .ok (.iload_n 3, 1) := by decide +kernel
theorem dX2_takeMan_103 : decode cX2_takeMan 103 = .ok (.bipush 7, 2) := by decide +kernel
theorem dX2_takeMan_105 : decode cX2_takeMan 105 = .ok (.if_icmp .ne 5, 3) := by decide +kernel
theorem dX2_takeMan_108 : decode cX2_takeMan 108 = .ok (.iconst 1, 1) := by decide +kernel
theorem dX2_takeMan_109 : decode cX2_takeMan 109 = .ok (.ireturn, 1) := by decide +kernel
theorem dX2_takeMan_110 : decode cX2_takeMan 110 = .ok (.aload_n 0, 1) := by decide +kernel
theorem dX2_takeMan_111 : decode cX2_takeMan 111 = .ok (.invokevirtual 31, 3) := by decide +kernel
theorem dX2_takeMan_114 : decode cX2_takeMan 114 = .ok (.iinc 3 1, 3) := by decide +kernel
theorem dX2_takeMan_117 : decode cX2_takeMan 117 = .ok (.goto (-40), 3) := by decide +kernel
theorem dX2_takeMan_120 : decode cX2_takeMan 120 = .ok (.iconst 1, 1) := by decide +kernel
theorem dX2_takeMan_121 : decode cX2_takeMan 121 = .ok (.ireturn, 1) := by decide +kernel
set_option maxRecDepth 20000 in
theorem moX2_takeMan_38 {o : Int32 × Hp} {F : Nat} {h : Hp} (hE : sX2_takeMan_38 F h  = some o) : Le h o.2 := by
  exact le_some2 hE
set_option maxRecDepth 20000 in
theorem moX2_takeMan_108 {o : Int32 × Hp} {F : Nat} {h : Hp} (hE : sX2_takeMan_108 F h  = some o) : Le h o.2 := by
  exact le_some2 hE
set_option maxRecDepth 20000 in
theorem moX2_takeMan_77 {o : Int32 × Hp} {F : Nat} : ∀ (f : Nat) {h : Hp} {x0 : Nat} {x2 : Int32} {x3 : Int32}, sX2_takeMan_77 F f h x0 x2 x3 = some o → Le h o.2 := by
  intro f
  induction f with
  | zero =>
    intro h x0 x2 x3 hE
    rw [sX2_takeMan_77] at hE
    cases hE
  | succ f ih =>
    intro h x0 x2 x3 hE
    rw [sX2_takeMan_77] at hE
    have mk_77 : ∀ (h : Hp) (x0 : Nat) (x2 : Int32) (x3 : Int32), sX2_takeMan_77 F f h x0 x2 x3 = some o → Le h o.2 := fun h x0 x2 x3 hE => ih hE
    rcases br_e hE with ⟨_, hE⟩ | ⟨_, hE⟩
    · exact le_some2 hE
    · obtain ⟨o_2, eo_2, hE⟩ := cl_e hE
      refine (moX2_takeStep eo_2).tr ?_
      rcases br_e hE with ⟨_, hE⟩ | ⟨_, hE⟩
      · exact le_some2 hE
      · rcases br_e hE with ⟨_, hE⟩ | ⟨_, hE⟩
        · rcases br_e hE with ⟨_, hE⟩ | ⟨_, hE⟩
          · exact moX2_takeMan_108 hE
          · obtain ⟨o_6, eo_6, hE⟩ := cl_e hE
            refine (moX2_advance eo_6).tr ?_
            obtain ⟨v_7, ev_7, hE⟩ := nm_e2 hE
            exact mk_77 _ _ _ _ hE
        · exact moX2_takeMan_108 hE
set_option maxRecDepth 20000 in
theorem moX2_takeMan {o : Int32 × Hp} {F : Nat} {h : Hp} {x0 : Nat} (hE : sX2_takeMan F h x0 = some o) : Le h o.2 := by
  obtain ⟨o_1, eo_1, hE⟩ := cl_e hE
  refine (moX2_advance eo_1).tr ?_
  obtain ⟨o_2, eo_2, hE⟩ := cl_e hE
  refine (moX2_oneLetter eo_2).tr ?_
  rcases br_e hE with ⟨_, hE⟩ | ⟨_, hE⟩
  · exact moX2_takeMan_38 hE
  · obtain ⟨r_4, er_4, hE⟩ := cl_e hE
    obtain ⟨o_5, eo_5, hE⟩ := cl_e hE
    refine (moX1_manOf eo_5).tr ?_
    rcases br_e hE with ⟨_, hE⟩ | ⟨_, hE⟩
    · obtain ⟨r_7, er_7, hE⟩ := cl_e hE
      rcases br_e hE with ⟨_, hE⟩ | ⟨_, hE⟩
      · obtain ⟨o_9, eo_9, hE⟩ := cl_e hE
        refine (moX2_advance eo_9).tr ?_
        obtain ⟨r_10, er_10, hE⟩ := cl_e hE
        obtain ⟨v_11, ev_11, hE⟩ := nm_e2 hE
        obtain ⟨r_12, er_12, hE⟩ := cl_e hE
        obtain ⟨r_13, er_13, hE⟩ := cl_e hE
        obtain ⟨g_14, hE⟩ := gd_e hE
        obtain ⟨h_15, eh_15, hE⟩ := nm_e2 hE
        refine (le_I eh_15).tr ?_
        obtain ⟨r_16, er_16, hE⟩ := cl_e hE
        obtain ⟨h_17, eh_17, hE⟩ := nm_e2 hE
        refine (le_I eh_17).tr ?_
        exact moX2_takeMan_77 _ hE
      · exact moX2_takeMan_38 hE
    · exact moX2_takeMan_38 hE
set_option maxRecDepth 20000 in
theorem bX2_takeMan_38 {p : Program} {l : Launch} {e : Env} {s : State} {m : MethodId} {args : Array Value} {below : List Frame} {meth : Method} {c : Code} {X : Ec} {h0 : Hp} {o : Int32 × Hp} {F : Nat} (C : Cx X p s m args meth c RX2 cX2_takeMan 4 (some .boolean) "takeMan") {h : Hp} {H : Heap} {locs : List Loc} (hkm : Km h0 h) (hW : Wx X h H) (hZ : va_S (aA (eB X)) s.heap H locs) (ls : Array Slot) (hl : lv_has ls 4 []) (hE : sX2_takeMan_38 F h  = some o) : W p l e (rm 7 158) s m args below meth c H locs 0 0 (MQ below (QI X h0 o.1 o.2) args s 0 0 (aA (eB X))) (F0 m 38 ls []) := by
  refine lv_iconst (v := (0 : Int32)) C.1 C.2.1 dX2_takeMan_38 (by decide) ?_
  exact x_iret C rfl (by decide) hW hZ hkm hE dX2_takeMan_39
set_option maxRecDepth 20000 in
theorem bX2_takeMan_108 {p : Program} {l : Launch} {e : Env} {s : State} {m : MethodId} {args : Array Value} {below : List Frame} {meth : Method} {c : Code} {X : Ec} {h0 : Hp} {o : Int32 × Hp} {F : Nat} (C : Cx X p s m args meth c RX2 cX2_takeMan 4 (some .boolean) "takeMan") {h : Hp} {H : Heap} {locs : List Loc} (hkm : Km h0 h) (hW : Wx X h H) (hZ : va_S (aA (eB X)) s.heap H locs) (ls : Array Slot) (hl : lv_has ls 4 []) (hE : sX2_takeMan_108 F h  = some o) : W p l e (rm 7 158) s m args below meth c H locs 0 0 (MQ below (QI X h0 o.1 o.2) args s 0 0 (aA (eB X))) (F0 m 108 ls []) := by
  refine lv_iconst (v := (1 : Int32)) C.1 C.2.1 dX2_takeMan_108 (by decide) ?_
  exact x_iret C rfl (by decide) hW hZ hkm hE dX2_takeMan_109
set_option maxRecDepth 20000 in
theorem bX2_takeMan_77 {p : Program} {l : Launch} {e : Env} {s : State} {m : MethodId} {args : Array Value} {below : List Frame} {meth : Method} {c : Code} {X : Ec} {h0 : Hp} {o : Int32 × Hp} {F : Nat} (C : Cx X p s m args meth c RX2 cX2_takeMan 4 (some .boolean) "takeMan") : ∀ (f : Nat) {h : Hp} {x0 : Nat} {x2 : Int32} {x3 : Int32} {H : Heap} {locs : List Loc} (k_x0 : hK h x0 = 2), Km h0 h → Wx X h H → va_S (aA (eB X)) s.heap H locs → ∀ (ls : Array Slot), lv_has ls 4 [(0, .ref x0), (2, .int x2), (3, .int x3)] → sX2_takeMan_77 F f h x0 x2 x3 = some o → W p l e (rm 7 158) s m args below meth c H locs 0 0 (MQ below (QI X h0 o.1 o.2) args s 0 0 (aA (eB X))) (F0 m 77 ls []) := by
  intro f
  induction f with
  | zero =>
    intro h x0 x2 x3 H locs k_x0 hkm hW hZ ls hl hE
    rw [sX2_takeMan_77] at hE
    cases hE
  | succ f ih =>
    intro h x0 x2 x3 H locs k_x0 hkm hW hZ ls hl hE
    rw [sX2_takeMan_77] at hE
    have hk_77 : ∀ (h : Hp) (x0 : Nat) (x2 : Int32) (x3 : Int32) (H : Heap) (locs : List Loc), hK h x0 = 2 → Km h0 h → Wx X h H → va_S (aA (eB X)) s.heap H locs → ∀ (ls : Array Slot), lv_has ls 4 [(0, .ref x0), (2, .int x2), (3, .int x3)] → sX2_takeMan_77 F f h x0 x2 x3 = some o → W p l e (rm 7 158) s m args below meth c H locs 0 0 (MQ below (QI X h0 o.1 o.2) args s 0 0 (aA (eB X))) (F0 m 77 ls []) := fun h x0 x2 x3 H locs k_x0 a b c ls hl hE => ih k_x0 a b c ls hl hE
    refine lv_iload_n C.1 C.2.1 dX2_takeMan_77 rfl (lv_at hl 2 rfl) ?_
    refine lv_bipush (v := (8 : Int32)) C.1 C.2.1 dX2_takeMan_78 (by decide) ?_
    refine lv_icmp_ge (tgt := 120) C.1 C.2.1 dX2_takeMan_80 (by decide) (fun c_1 => ?_) (fun c_1 => ?_)
    · have hE := br_p hE c_1
      refine lv_iconst (v := (1 : Int32)) C.1 C.2.1 dX2_takeMan_120 (by decide) ?_
      exact x_iret C rfl (by decide) hW hZ hkm hE dX2_takeMan_121
    · have hE := br_n hE c_1
      refine lv_aload_n C.1 C.2.1 dX2_takeMan_83 rfl (lv_at hl 0 rfl) ?_
      refine lv_iload_n C.1 C.2.1 dX2_takeMan_84 rfl (lv_at hl 1 rfl) ?_
      refine lv_iload_n C.1 C.2.1 dX2_takeMan_85 rfl (lv_at hl 2 rfl) ?_
      obtain ⟨o_2, eo_2, hE⟩ := cl_e hE
      refine x_kI (o := o_2) (z_runV (As := [.int x2, .int x3]) (rest := []) C (ct_X2_takeStep l X F k_x0 eo_2) cw_X2_172 hW hZ k_x0 (by decide) rfl rfl rfl hl.1 (Nat.le_of_ble_eq_true rfl) rfl dX2_takeMan_86 ⟨Nat.le_of_ble_eq_true rfl, Nat.le_of_ble_eq_true rfl⟩ ⟨Nat.le_refl _, Nat.le_refl _⟩) hZ (fun _ _ hW km hZ => ?_)
      replace hkm := hkm.tr km
      replace k_x0 := km.at k_x0 (by decide)
      refine lv_if_ne (tgt := 94) C.1 C.2.1 dX2_takeMan_89 (by decide) (fun c_3 => ?_) (fun c_3 => ?_)
      · have hE := br_n hE c_3
        refine lv_aload_n C.1 C.2.1 dX2_takeMan_94 rfl (lv_at hl 0 rfl) ?_
        refine gf_X2_38 C hW k_x0 dX2_takeMan_95 ?_
        refine lv_iconst (v := (4 : Int32)) C.1 C.2.1 dX2_takeMan_98 (by decide) ?_
        refine lv_icmp_ne (tgt := 108) C.1 C.2.1 dX2_takeMan_99 (by decide) (fun c_4 => ?_) (fun c_4 => ?_)
        · have hE := br_n hE c_4
          exact bX2_takeMan_108 C hkm hW hZ _ (lv_sub hl [] rfl) hE
        · have hE := br_p hE c_4
          refine lv_iload_n C.1 C.2.1 dX2_takeMan_102 rfl (lv_at hl 2 rfl) ?_
          refine lv_bipush (v := (7 : Int32)) C.1 C.2.1 dX2_takeMan_103 (by decide) ?_
          refine lv_icmp_ne (tgt := 110) C.1 C.2.1 dX2_takeMan_105 (by decide) (fun c_5 => ?_) (fun c_5 => ?_)
          · have hE := br_n hE c_5
            refine lv_aload_n C.1 C.2.1 dX2_takeMan_110 rfl (lv_at hl 0 rfl) ?_
            obtain ⟨o_6, eo_6, hE⟩ := cl_e hE
            refine x_kV (o := o_6) (z_runV (As := []) (rest := []) C (ct_X2_advance l X F k_x0 eo_6) cw_X2_31 hW hZ k_x0 (by decide) rfl rfl rfl hl.1 (Nat.le_of_ble_eq_true rfl) rfl dX2_takeMan_111 ⟨Nat.le_of_ble_eq_true rfl, Nat.le_of_ble_eq_true rfl⟩ ⟨Nat.le_refl _, Nat.le_refl _⟩) hZ (fun _ _ hW km hZ => ?_)
            replace hkm := hkm.tr km
            replace k_x0 := km.at k_x0 (by decide)
            obtain ⟨v_7, ev_7, hE⟩ := nm_e2 hE
            refine lv_iinc (v := v_7) (lv' := [(3, .int v_7), (0, .ref x0), (2, .int x2)]) C.1 C.2.1 dX2_takeMan_114 hl (k := 2) rfl (by rw [ev_7]; rfl) (by decide) rfl (fun ls hl => ?_)
            refine lv_goto (tgt := 77) C.1 C.2.1 dX2_takeMan_117 (by decide) ?_
            exact hk_77 _ _ _ _ _ _ k_x0 hkm hW hZ _ (lv_sub hl [1, 2, 0] rfl) hE
          · have hE := br_p hE c_5
            exact bX2_takeMan_108 C hkm hW hZ _ (lv_sub hl [] rfl) hE
      · have hE := br_p hE c_3
        refine lv_iconst (v := (0 : Int32)) C.1 C.2.1 dX2_takeMan_92 (by decide) ?_
        exact x_iret C rfl (by decide) hW hZ hkm hE dX2_takeMan_93
set_option maxRecDepth 20000 in
theorem ct_X2_takeMan (l : Launch) (X : Ec) (F : Nat) {h : Hp} {x0 : Nat} {o : Int32 × Hp} (k_x0 : hK h x0 = 2) (hE : sX2_takeMan F h x0 = some o) : MetI l yX2_takeMan cX2_takeMan 4 (some .boolean) 7 158 X [.ref x0] h o := by
  refine x_met (by decide) (Nat.le_of_ble_eq_true rfl) ?_
  intro p e s m below meth c ls C hl hW hZ
  have hl : lv_has ls 4 [(0, .ref x0)] := hl
  have hkm : Km h h := Km.rf h
  refine lv_aload_n C.1 C.2.1 dX2_takeMan_0 rfl (lv_at hl 0 rfl) ?_
  obtain ⟨o_1, eo_1, hE⟩ := cl_e hE
  refine x_kV (o := o_1) (z_runV (As := []) (rest := []) C (ct_X2_advance l X F k_x0 eo_1) cw_X2_31 hW hZ k_x0 (by decide) rfl rfl rfl hl.1 (Nat.le_of_ble_eq_true rfl) rfl dX2_takeMan_1 ⟨Nat.le_of_ble_eq_true rfl, Nat.le_of_ble_eq_true rfl⟩ ⟨Nat.le_refl _, Nat.le_refl _⟩) hZ (fun _ _ hW km hZ => ?_)
  replace hkm := hkm.tr km
  replace k_x0 := km.at k_x0 (by decide)
  refine lv_aload_n C.1 C.2.1 dX2_takeMan_4 rfl (lv_at hl 0 rfl) ?_
  obtain ⟨o_2, eo_2, hE⟩ := cl_e hE
  refine x_kI (o := o_2) (z_runV (As := []) (rest := []) C (ct_X2_oneLetter l X k_x0 eo_2) cw_X2_96 hW hZ k_x0 (by decide) rfl rfl rfl hl.1 (Nat.le_of_ble_eq_true rfl) rfl dX2_takeMan_5 ⟨Nat.le_of_ble_eq_true rfl, Nat.le_of_ble_eq_true rfl⟩ ⟨Nat.le_refl _, Nat.le_refl _⟩) hZ (fun _ _ hW km hZ => ?_)
  replace hkm := hkm.tr km
  replace k_x0 := km.at k_x0 (by decide)
  refine lv_istore_n (lv' := [(1, .int o_2.1), (0, .ref x0)]) C.1 C.2.1 dX2_takeMan_8 rfl hl (by decide) rfl (fun ls hl => ?_)
  refine lv_iload_n C.1 C.2.1 dX2_takeMan_9 rfl (lv_at hl 0 rfl) ?_
  refine lv_iconst (v := (-1 : Int32)) C.1 C.2.1 dX2_takeMan_10 (by decide) ?_
  refine lv_icmp_eq (tgt := 38) C.1 C.2.1 dX2_takeMan_11 (by decide) (fun c_3 => ?_) (fun c_3 => ?_)
  · have hE := br_p hE c_3
    exact bX2_takeMan_38 C hkm hW hZ _ (lv_sub hl [] rfl) hE
  · have hE := br_n hE c_3
    refine lv_aload_n C.1 C.2.1 dX2_takeMan_14 rfl (lv_at hl 1 rfl) ?_
    obtain ⟨r_4, er_4, hE⟩ := cl_e hE
    refine gf_X2_15 C hW k_x0 er_4 dX2_takeMan_15 (fun k_r_4 => ?_)
    refine lv_iload_n C.1 C.2.1 dX2_takeMan_18 rfl (lv_at hl 0 rfl) ?_
    obtain ⟨o_5, eo_5, hE⟩ := cl_e hE
    refine x_kI (o := o_5) (z_runV (As := [.int o_2.1]) (rest := []) C (ct_X1_manOf l X F k_r_4 eo_5) cw_X2_99 hW hZ k_r_4 (by decide) rfl rfl rfl hl.1 (Nat.le_of_ble_eq_true rfl) rfl dX2_takeMan_19 ⟨Nat.le_of_ble_eq_true rfl, Nat.le_of_ble_eq_true rfl⟩ ⟨Nat.le_refl _, Nat.le_refl _⟩) hZ (fun _ _ hW km hZ => ?_)
    replace hkm := hkm.tr km
    replace k_x0 := km.at k_x0 (by decide)
    refine lv_iconst (v := (-1 : Int32)) C.1 C.2.1 dX2_takeMan_22 (by decide) ?_
    refine lv_icmp_ne (tgt := 38) C.1 C.2.1 dX2_takeMan_23 (by decide) (fun c_6 => ?_) (fun c_6 => ?_)
    · have hE := br_n hE c_6
      exact bX2_takeMan_38 C hkm hW hZ _ (lv_sub hl [] rfl) hE
    · have hE := br_p hE c_6
      refine lv_aload_n C.1 C.2.1 dX2_takeMan_26 rfl (lv_at hl 1 rfl) ?_
      obtain ⟨r_7, er_7, hE⟩ := cl_e hE
      refine gf_X2_15 C hW k_x0 er_7 dX2_takeMan_27 (fun k_r_7 => ?_)
      refine gf_X2_165 C hW k_r_7 dX2_takeMan_30 ?_
      refine lv_bipush (v := (12 : Int32)) C.1 C.2.1 dX2_takeMan_33 (by decide) ?_
      refine lv_icmp_lt (tgt := 40) C.1 C.2.1 dX2_takeMan_35 (by decide) (fun c_8 => ?_) (fun c_8 => ?_)
      · have hE := br_p hE c_8
        refine lv_aload_n C.1 C.2.1 dX2_takeMan_40 rfl (lv_at hl 1 rfl) ?_
        obtain ⟨o_9, eo_9, hE⟩ := cl_e hE
        refine x_kV (o := o_9) (z_runV (As := []) (rest := []) C (ct_X2_advance l X F k_x0 eo_9) cw_X2_31 hW hZ k_x0 (by decide) rfl rfl rfl hl.1 (Nat.le_of_ble_eq_true rfl) rfl dX2_takeMan_41 ⟨Nat.le_of_ble_eq_true rfl, Nat.le_of_ble_eq_true rfl⟩ ⟨Nat.le_refl _, Nat.le_refl _⟩) hZ (fun _ _ hW km hZ => ?_)
        replace hkm := hkm.tr km
        replace k_x0 := km.at k_x0 (by decide)
        refine lv_aload_n C.1 C.2.1 dX2_takeMan_44 rfl (lv_at hl 1 rfl) ?_
        obtain ⟨r_10, er_10, hE⟩ := cl_e hE
        refine gf_X2_15 C hW k_x0 er_10 dX2_takeMan_45 (fun k_r_10 => ?_)
        refine gf_X2_165 C hW k_r_10 dX2_takeMan_48 ?_
        obtain ⟨v_11, ev_11, hE⟩ := nm_e2 hE
        refine x_nmI ev_11 ?_
        refine lv_istore_n (lv' := [(2, .int v_11), (1, .int o_2.1), (0, .ref x0)]) C.1 C.2.1 dX2_takeMan_51 rfl hl (by decide) rfl (fun ls hl => ?_)
        refine lv_aload_n C.1 C.2.1 dX2_takeMan_52 rfl (lv_at hl 2 rfl) ?_
        obtain ⟨r_12, er_12, hE⟩ := cl_e hE
        refine gf_X2_15 C hW k_x0 er_12 dX2_takeMan_53 (fun k_r_12 => ?_)
        obtain ⟨r_13, er_13, hE⟩ := cl_e hE
        refine gf_X2_168 C hW k_r_12 er_13 dX2_takeMan_56 (fun k_r_13 => ?_)
        refine lv_iload_n C.1 C.2.1 dX2_takeMan_59 rfl (lv_at hl 0 rfl) ?_
        refine lv_iload_n C.1 C.2.1 dX2_takeMan_60 rfl (lv_at hl 1 rfl) ?_
        obtain ⟨g_14, hE⟩ := gd_e hE
        obtain ⟨h_15, eh_15, hE⟩ := nm_e2 hE
        refine y_iast C hW hZ k_r_13 g_14 eh_15 dX2_takeMan_61 (fun _ _ hW km hZ => ?_)
        replace hkm := hkm.tr km
        replace k_x0 := km.at k_x0 (by decide)
        refine lv_aload_n C.1 C.2.1 dX2_takeMan_62 rfl (lv_at hl 2 rfl) ?_
        obtain ⟨r_16, er_16, hE⟩ := cl_e hE
        refine gf_X2_15 C hW k_x0 er_16 dX2_takeMan_63 (fun k_r_16 => ?_)
        refine lv_dup C.1 C.2.1 dX2_takeMan_66 rfl ?_
        refine gf_X2_165 C hW k_r_16 dX2_takeMan_67 ?_
        refine lv_iconst (v := (1 : Int32)) C.1 C.2.1 dX2_takeMan_70 (by decide) ?_
        refine lv_iadd C.1 C.2.1 dX2_takeMan_71 ?_
        obtain ⟨h_17, eh_17, hE⟩ := nm_e2 hE
        refine pf_X2_165 C hW hZ k_r_16 eh_17 dX2_takeMan_72 (fun _ _ hW km hZ => ?_)
        replace hkm := hkm.tr km
        replace k_x0 := km.at k_x0 (by decide)
        refine lv_iconst (v := (0 : Int32)) C.1 C.2.1 dX2_takeMan_75 (by decide) ?_
        refine lv_istore_n (lv' := [(3, .int (0 : Int32)), (2, .int v_11), (1, .int o_2.1), (0, .ref x0)]) C.1 C.2.1 dX2_takeMan_76 rfl hl (by decide) rfl (fun ls hl => ?_)
        exact bX2_takeMan_77 C F k_x0 hkm hW hZ _ (lv_sub hl [3, 1, 0] rfl) hE
      · have hE := br_n hE c_8
        exact bX2_takeMan_38 C hkm hW hZ _ (lv_sub hl [] rfl) hE
theorem dX2_toldMan_0 : decode cX2_toldMan 0 = .ok (.aload_n 0, 1) := by decide +kernel
theorem dX2_toldMan_1 : decode cX2_toldMan 1 = .ok (.invokevirtual 96, 3) := by decide +kernel
theorem dX2_toldMan_4 : decode cX2_toldMan 4 = .ok (.istore_n 1, 1) := by decide +kernel
theorem dX2_toldMan_5 : decode cX2_toldMan 5 = .ok (.iload_n 1, 1) := by decide +kernel
theorem dX2_toldMan_6 : decode cX2_toldMan 6 = .ok (.iconst (-1), 1) := by decide +kernel
theorem dX2_toldMan_7 : decode cX2_toldMan 7 = .ok (.if_icmp .ne 7, 3) := by decide +kernel
theorem dX2_toldMan_10 : decode cX2_toldMan 10 = .ok (.iconst (-1), 1) := by decide +kernel
theorem dX2_toldMan_11 : decode cX2_toldMan 11 = .ok (.goto 11, 3) := by decide +kernel
theorem dX2_toldMan_14 : decode cX2_toldMan 14 = .ok (.aload_n 0, 1) := by decide +kernel
theorem dX2_toldMan_15 : decode cX2_toldMan 15 = .ok (.getfield 15, 3) := by decide +kernel
theorem dX2_toldMan_18 : decode cX2_toldMan 18 = .ok (.iload_n 1, 1) := by decide +kernel
theorem dX2_toldMan_19 : decode cX2_toldMan 19 = .ok (.invokevirtual 99, 3) := by decide +kernel
theorem dX2_toldMan_22 : decode cX2_toldMan 22 = .ok (.ireturn, 1) := by decide +kernel
set_option maxRecDepth 20000 in
theorem moX2_toldMan_22 {o : Int32 × Hp} {F : Nat} {h : Hp} {t0 : Int32} (hE : sX2_toldMan_22 F h  t0 = some o) : Le h o.2 := by
  exact le_some2 hE
set_option maxRecDepth 20000 in
theorem moX2_toldMan {o : Int32 × Hp} {F : Nat} {h : Hp} {x0 : Nat} (hE : sX2_toldMan F h x0 = some o) : Le h o.2 := by
  obtain ⟨o_1, eo_1, hE⟩ := cl_e hE
  refine (moX2_oneLetter eo_1).tr ?_
  rcases br_e hE with ⟨_, hE⟩ | ⟨_, hE⟩
  · exact moX2_toldMan_22 hE
  · obtain ⟨r_3, er_3, hE⟩ := cl_e hE
    obtain ⟨o_4, eo_4, hE⟩ := cl_e hE
    refine (moX1_manOf eo_4).tr ?_
    exact moX2_toldMan_22 hE
set_option maxRecDepth 20000 in
theorem bX2_toldMan_22 {p : Program} {l : Launch} {e : Env} {s : State} {m : MethodId} {args : Array Value} {below : List Frame} {meth : Method} {c : Code} {X : Ec} {h0 : Hp} {o : Int32 × Hp} {F : Nat} (C : Cx X p s m args meth c RX2 cX2_toldMan 2 (some .int) "toldMan") {h : Hp} {t0 : Int32} {H : Heap} {locs : List Loc} (hkm : Km h0 h) (hW : Wx X h H) (hZ : va_S (aA (eB X)) s.heap H locs) (ls : Array Slot) (hl : lv_has ls 2 []) (hE : sX2_toldMan_22 F h  t0 = some o) : W p l e (rm 2 41) s m args below meth c H locs 0 0 (MQ below (QI X h0 o.1 o.2) args s 0 0 (aA (eB X))) (F0 m 22 ls [.int t0]) := by
  exact x_iret C rfl rfl hW hZ hkm hE dX2_toldMan_22
set_option maxRecDepth 20000 in
theorem ct_X2_toldMan (l : Launch) (X : Ec) (F : Nat) {h : Hp} {x0 : Nat} {o : Int32 × Hp} (k_x0 : hK h x0 = 2) (hE : sX2_toldMan F h x0 = some o) : MetI l yX2_toldMan cX2_toldMan 2 (some .int) 2 41 X [.ref x0] h o := by
  refine x_met (by decide) (Nat.le_of_ble_eq_true rfl) ?_
  intro p e s m below meth c ls C hl hW hZ
  have hl : lv_has ls 2 [(0, .ref x0)] := hl
  have hkm : Km h h := Km.rf h
  refine lv_aload_n C.1 C.2.1 dX2_toldMan_0 rfl (lv_at hl 0 rfl) ?_
  obtain ⟨o_1, eo_1, hE⟩ := cl_e hE
  refine x_kI (o := o_1) (z_runV (As := []) (rest := []) C (ct_X2_oneLetter l X k_x0 eo_1) cw_X2_96 hW hZ k_x0 (by decide) rfl rfl rfl hl.1 (Nat.le_of_ble_eq_true rfl) rfl dX2_toldMan_1 ⟨Nat.le_of_ble_eq_true rfl, Nat.le_of_ble_eq_true rfl⟩ ⟨Nat.le_refl _, Nat.le_refl _⟩) hZ (fun _ _ hW km hZ => ?_)
  replace hkm := hkm.tr km
  replace k_x0 := km.at k_x0 (by decide)
  refine lv_istore_n (lv' := [(1, .int o_1.1), (0, .ref x0)]) C.1 C.2.1 dX2_toldMan_4 rfl hl (by decide) rfl (fun ls hl => ?_)
  refine lv_iload_n C.1 C.2.1 dX2_toldMan_5 rfl (lv_at hl 0 rfl) ?_
  refine lv_iconst (v := (-1 : Int32)) C.1 C.2.1 dX2_toldMan_6 (by decide) ?_
  refine lv_icmp_ne (tgt := 14) C.1 C.2.1 dX2_toldMan_7 (by decide) (fun c_2 => ?_) (fun c_2 => ?_)
  · have hE := br_n hE c_2
    refine lv_aload_n C.1 C.2.1 dX2_toldMan_14 rfl (lv_at hl 1 rfl) ?_
    obtain ⟨r_3, er_3, hE⟩ := cl_e hE
    refine gf_X2_15 C hW k_x0 er_3 dX2_toldMan_15 (fun k_r_3 => ?_)
    refine lv_iload_n C.1 C.2.1 dX2_toldMan_18 rfl (lv_at hl 0 rfl) ?_
    obtain ⟨o_4, eo_4, hE⟩ := cl_e hE
    refine x_kI (o := o_4) (z_runV (As := [.int o_1.1]) (rest := []) C (ct_X1_manOf l X F k_r_3 eo_4) cw_X2_99 hW hZ k_r_3 (by decide) rfl rfl rfl hl.1 (Nat.le_of_ble_eq_true rfl) rfl dX2_toldMan_19 ⟨Nat.le_of_ble_eq_true rfl, Nat.le_of_ble_eq_true rfl⟩ ⟨Nat.le_refl _, Nat.le_refl _⟩) hZ (fun _ _ hW km hZ => ?_)
    replace hkm := hkm.tr km
    replace k_x0 := km.at k_x0 (by decide)
    exact bX2_toldMan_22 C hkm hW hZ _ (lv_sub hl [] rfl) hE
  · have hE := br_p hE c_2
    refine lv_iconst (v := (-1 : Int32)) C.1 C.2.1 dX2_toldMan_10 (by decide) ?_
    refine lv_goto (tgt := 22) C.1 C.2.1 dX2_toldMan_11 (by decide) ?_
    exact bX2_toldMan_22 C hkm hW hZ _ (lv_sub hl [] rfl) hE
set_option maxRecDepth 100000 in
theorem ms_12 : Cond.selects RX2 yX2_toldMan yX2_toldMan ∈ W0 := w0_in (List.mem_append_left _ (List.mem_of_getElem? (i := 12) rfl)) rfl
set_option maxRecDepth 100000 in
theorem m_91 : Cond.fieldLink RX2 115 (TX1 4).1 (TX1 4).2.1 (TX1 4).2.2.1 ∈ W0 := w0_in (List.mem_append_right _ (List.mem_of_getElem? (i := 91) rfl)) rfl
set_option maxRecDepth 100000 in
theorem m_96 : Cond.fieldLink RX2 226 (TX1 5).1 (TX1 5).2.1 (TX1 5).2.2.1 ∈ W0 := w0_in (List.mem_append_right _ (List.mem_of_getElem? (i := 96) rfl)) rfl
set_option maxRecDepth 100000 in
theorem m_115 : Cond.fieldLink RX2 216 (TX1 12).1 (TX1 12).2.1 (TX1 12).2.2.1 ∈ W0 := w0_in (List.mem_append_right _ (List.mem_of_getElem? (i := 115) rfl)) rfl
set_option maxRecDepth 100000 in
theorem m_130 : Cond.fieldLink RX2 221 (TX1 17).1 (TX1 17).2.1 (TX1 17).2.2.1 ∈ W0 := w0_in (List.mem_append_right _ (List.mem_of_getElem? (i := 130) rfl)) rfl
set_option maxRecDepth 100000 in
theorem m_134 : Cond.fieldLink RX2 223 (TX1 18).1 (TX1 18).2.1 (TX1 18).2.2.1 ∈ W0 := w0_in (List.mem_append_right _ (List.mem_of_getElem? (i := 134) rfl)) rfl
set_option maxRecDepth 100000 in
theorem m_735 : Cond.methodLink RX2 210 yX2_toldMan ∈ W0 := w0_in (List.mem_append_right _ (List.mem_of_getElem? (i := 735) rfl)) rfl
set_option maxRecDepth 100000 in
theorem m_737 : Cond.instanceMethod yX2_toldMan ∈ W0 := w0_in (List.mem_append_right _ (List.mem_of_getElem? (i := 737) rfl)) rfl
set_option maxRecDepth 100000 in
theorem m_738 : Cond.code yX2_toldMan cX2_toldMan 2 (some .int) ∈ W0 := w0_in (List.mem_append_right _ (List.mem_of_getElem? (i := 738) rfl)) rfl
set_option maxRecDepth 100000 in
theorem m_739 : Cond.methodLink RX2 213 yX1_becomesOthers ∈ W0 := w0_in (List.mem_append_right _ (List.mem_of_getElem? (i := 739) rfl)) rfl
set_option maxRecDepth 100000 in
theorem m_740 : Cond.instanceMethod yX1_becomesOthers ∈ W0 := w0_in (List.mem_append_right _ (List.mem_of_getElem? (i := 740) rfl)) rfl
set_option maxRecDepth 100000 in
theorem m_741 : Cond.selects RX1 yX1_becomesOthers yX1_becomesOthers ∈ W0 := w0_in (List.mem_append_right _ (List.mem_of_getElem? (i := 741) rfl)) rfl
set_option maxRecDepth 100000 in
theorem m_742 : Cond.code yX1_becomesOthers cX1_becomesOthers 2 (some .boolean) ∈ W0 := w0_in (List.mem_append_right _ (List.mem_of_getElem? (i := 742) rfl)) rfl
section
variable {p : Program} {l : Launch} {e : Env} {R : Room} {s : State} {m : MethodId} {args : Array Value} {below : List Frame} {meth : Method} {c : Code} {H : Heap} {locs : List Loc} {cells slots : Nat} {Q : State → Prop}
variable {cc : ByteArray} {pc : Nat} {ls : Array Slot} {rest : List Value} {X : Ec} {h h1 : Hp} {nL : Nat} {rt : Option FieldType} {mn : String}
theorem pf_X2_226 {a : Nat} {v : Int32} (C : Cx X p s m args meth c RX2 cc nL rt mn) (hW : Wx X h H) (hZ : va_S (aA (eB X)) s.heap H locs) (ha : hK h a = 1) (eh : h1 = wI h a 5 v) (hdg : decode cc pc = .ok (.putfield 226, 3)) (kk : ∀ (H1 : Heap) (locs1 : List Loc), Wx X h1 H1 → Km h h1 → va_S (aA (eB X)) s.heap H1 locs1 → W p l e R s m args below meth c H1 locs1 cells slots Q (F0 m (pc + 3) ls rest)) : W p l e R s m args below meth c H locs cells slots Q (F0 m pc ls (.int v :: .ref a :: rest)) :=
  y_puti (ty := .int) C hW hZ ha i_X1 tyX1 tyX1_ok nmX1 (by decide) rfl rfl (by decide) m_96 rfl (by decide +kernel) rfl rfl rfl eh hdg kk
theorem gf_X2_216 {a : Nat} (C : Cx X p s m args meth c RX2 cc nL rt mn) (hW : Wx X h H) (ha : hK h a = 1) (hdg : decode cc pc = .ok (.getfield 216, 3)) (kk : W p l e R s m args below meth c H locs cells slots Q (F0 m (pc + 3) ls (.int (hI h a 12) :: rest))) : W p l e R s m args below meth c H locs cells slots Q (F0 m pc ls (.ref a :: rest)) :=
  y_geti C hW ha i_X1 (by decide) rfl (by decide) m_115 rfl hdg kk
theorem pf_X2_216 {a : Nat} {v : Int32} (C : Cx X p s m args meth c RX2 cc nL rt mn) (hW : Wx X h H) (hZ : va_S (aA (eB X)) s.heap H locs) (ha : hK h a = 1) (eh : h1 = wI h a 12 v) (hdg : decode cc pc = .ok (.putfield 216, 3)) (kk : ∀ (H1 : Heap) (locs1 : List Loc), Wx X h1 H1 → Km h h1 → va_S (aA (eB X)) s.heap H1 locs1 → W p l e R s m args below meth c H1 locs1 cells slots Q (F0 m (pc + 3) ls rest)) : W p l e R s m args below meth c H locs cells slots Q (F0 m pc ls (.int v :: .ref a :: rest)) :=
  y_puti (ty := .int) C hW hZ ha i_X1 tyX1 tyX1_ok nmX1 (by decide) rfl rfl (by decide) m_115 rfl (by decide +kernel) rfl rfl rfl eh hdg kk
theorem gf_X2_226 {a : Nat} (C : Cx X p s m args meth c RX2 cc nL rt mn) (hW : Wx X h H) (ha : hK h a = 1) (hdg : decode cc pc = .ok (.getfield 226, 3)) (kk : W p l e R s m args below meth c H locs cells slots Q (F0 m (pc + 3) ls (.int (hI h a 5) :: rest))) : W p l e R s m args below meth c H locs cells slots Q (F0 m pc ls (.ref a :: rest)) :=
  y_geti C hW ha i_X1 (by decide) rfl (by decide) m_96 rfl hdg kk
theorem gf_X2_115 {a : Nat} (C : Cx X p s m args meth c RX2 cc nL rt mn) (hW : Wx X h H) (ha : hK h a = 1) (hdg : decode cc pc = .ok (.getfield 115, 3)) (kk : W p l e R s m args below meth c H locs cells slots Q (F0 m (pc + 3) ls (.int (hI h a 4) :: rest))) : W p l e R s m args below meth c H locs cells slots Q (F0 m pc ls (.ref a :: rest)) :=
  y_geti C hW ha i_X1 (by decide) rfl (by decide) m_91 rfl hdg kk
theorem gf_X2_221 {a r : Nat} (C : Cx X p s m args meth c RX2 cc nL rt mn) (hW : Wx X h H) (ha : hK h a = 1) (hr : hR h a 17 = some r) (hdg : decode cc pc = .ok (.getfield 221, 3)) (kk : hK h r = 17 → W p l e R s m args below meth c H locs cells slots Q (F0 m (pc + 3) ls (.ref r :: rest))) : W p l e R s m args below meth c H locs cells slots Q (F0 m pc ls (.ref a :: rest)) :=
  y_getr C hW ha i_X1 (by decide) rfl (by decide) m_130 rfl rfl hr hdg kk
theorem gf_X2_223 {a r : Nat} (C : Cx X p s m args meth c RX2 cc nL rt mn) (hW : Wx X h H) (ha : hK h a = 1) (hr : hR h a 18 = some r) (hdg : decode cc pc = .ok (.getfield 223, 3)) (kk : hK h r = 17 → W p l e R s m args below meth c H locs cells slots Q (F0 m (pc + 3) ls (.ref r :: rest))) : W p l e R s m args below meth c H locs cells slots Q (F0 m pc ls (.ref a :: rest)) :=
  y_getr C hW ha i_X1 (by decide) rfl (by decide) m_134 rfl rfl hr hdg kk
end
theorem cw_X2_210 : cwd RX2 210 yX2_toldMan cX2_toldMan 2 (some .int) false 0 := ⟨m_738, m_735, m_5, ⟨m_737, ms_12⟩, by decide, by decide, by decide +kernel⟩
theorem cw_X2_213 : cwd RX2 213 yX1_becomesOthers cX1_becomesOthers 2 (some .boolean) false 1 := ⟨m_742, m_739, m_4, ⟨m_740, m_741⟩, by decide, by decide, by decide +kernel⟩
theorem dX2_takeBecomes_0 : decode cX2_takeBecomes 0 = .ok (.aload_n 0, 1) := by decide +kernel
theorem dX2_takeBecomes_1 : decode cX2_takeBecomes 1 = .ok (.invokevirtual 31, 3) := by decide +kernel
theorem dX2_takeBecomes_4 : decode cX2_takeBecomes 4 = .ok (.aload_n 0, 1) := by decide +kernel
theorem dX2_takeBecomes_5 : decode cX2_takeBecomes 5 = .ok (.invokevirtual 210, 3) := by decide +kernel
theorem dX2_takeBecomes_8 : decode cX2_takeBecomes 8 = .ok (.istore_n 1, 1) := by decide +kernel
theorem dX2_takeBecomes_9 : decode cX2_takeBecomes 9 = .ok (.iload_n 1, 1) := by decide +kernel
theorem dX2_takeBecomes_10 : decode cX2_takeBecomes 10 = .ok (.iconst (-1), 1) := by decide +kernel
theorem dX2_takeBecomes_11 : decode cX2_takeBecomes 11 = .ok (.if_icmp .eq 39, 3) := by decide +kernel
theorem dX2_takeBecomes_14 : decode cX2_takeBecomes 14 = .ok (.iload_n 1, 1) := by decide +kernel
theorem dX2_takeBecomes_15 : decode cX2_takeBecomes 15 = .ok (.aload_n 0, 1) := by decide +kernel
theorem dX2_takeBecomes_16 : decode cX2_takeBecomes 16 = .ok (.getfield 15, 3) := by decide +kernel
theorem dX2_takeBecomes_19 : decode cX2_takeBecomes 19 = .ok (.getfield 115, 3) := by decide +kernel
theorem dX2_takeBecomes_22 : decode cX2_takeBecomes 22 = .ok (.if_icmp .eq 28, 3) := by decide +kernel
theorem dX2_takeBecomes_25 : decode cX2_takeBecomes 25 = .ok (.aload_n 0, 1) := by decide +kernel
theorem dX2_takeBecomes_26 : decode cX2_takeBecomes 26 = .ok (.getfield 15, 3) := by decide +kernel
theorem dX2_takeBecomes_29 : decode cX2_takeBecomes 29 = .ok (.iload_n 1, 1) := by decide +kernel
theorem dX2_takeBecomes_30 : decode cX2_takeBecomes 30 = .ok (.invokevirtual 213, 3) := by decide +kernel
theorem dX2_takeBecomes_33 : decode cX2_takeBecomes 33 = .ok (.ifCond .ne 17, 3) := by decide +kernel
theorem dX2_takeBecomes_36 : decode cX2_takeBecomes 36 = .ok (.aload_n 0, 1) := by decide +kernel
theorem dX2_takeBecomes_37 : decode cX2_takeBecomes 37 = .ok (.getfield 15, 3) := by decide +kernel
theorem dX2_takeBecomes_40 : decode cX2_takeBecomes 40 = .ok (.getfield 216, 3) := by decide +kernel
theorem dX2_takeBecomes_43 : decode cX2_takeBecomes 43 = .ok (.iload_n 1, 1) := by decide +kernel
theorem dX2_takeBecomes_44 : decode cX2_takeBecomes 44 = .ok (.ishr, 1) := by decide +kernel
theorem dX2_takeBecomes_45 : decode cX2_takeBecomes 45 = .ok (.iconst 1, 1) := by decide +kernel
theorem dX2_takeBecomes_46 : decode cX2_takeBecomes 46 = .ok (.iand, 1) := by decide +kernel
theorem dX2_takeBecomes_47 : decode cX2_takeBecomes 47 = .ok (.ifCond .eq 5, 3) := by decide +kernel
theorem dX2_takeBecomes_50 : decode cX2_takeBecomes 50 = .ok (.iconst 0, 1) := by decide +kernel
theorem dX2_takeBecomes_51 : decode cX2_takeBecomes 51 = .ok (.ireturn, 1) := by decide +kernel
theorem dX2_takeBecomes_52 : decode cX2_takeBecomes 52 = .ok (.aload_n 0, 1) := by decide +kernel
theorem dX2_takeBecomes_53 : decode cX2_takeBecomes 53 = .ok (.invokevirtual 31, 3) := by decide +kernel
theorem dX2_takeBecomes_56 : decode cX2_takeBecomes 56 = .ok (.iconst 0, 1) := by decide +kernel
theorem dX2_takeBecomes_57 : decode cX2_takeBecomes 57 = .ok (.istore_n 2, 1) := by decide +kernel
theorem dX2_takeBecomes_58 : decode cX2_takeBecomes 58 = .ok (.iconst 0, 1) := by decide +kernel
theorem dX2_takeBecomes_59 : decode cX2_takeBecomes 59 = .ok (.istore_n 3, 1) := by decide +kernel
theorem dX2_takeBecomes_60 : decode cX2_takeBecomes 60 = .ok (.iload_n 3, 1) := by decide +kernel
theorem dX2_takeBecomes_61 : decode cX2_takeBecomes 61 = .ok (.bipush 6, 2) := by decide +kernel
theorem dX2_takeBecomes_63 : decode cX2_takeBecomes 63 = .ok (.if_icmp .ge 115, 3) := by decide +kernel
theorem dX2_takeBecomes_66 : decode cX2_takeBecomes 66 = .ok (.iload_n 3, 1) := by decide +kernel
theorem dX2_takeBecomes_67 : decode cX2_takeBecomes 67 = .ok (.ifCond .eq 11, 3) := by decide +kernel
theorem dX2_takeBecomes_70 : decode cX2_takeBecomes 70 = .ok (.aload_n 0, 1) := by decide +kernel
theorem dX2_takeBecomes_71 : decode cX2_takeBecomes 71 = .ok (.getfield 38, 3) := by decide +kernel
theorem dX2_takeBecomes_74 : decode cX2_takeBecomes 74 = .ok (.iconst 1, 1) := by decide +kernel
theorem dX2_takeBecomes_75 : decode cX2_takeBecomes 75 = .ok (.if_icmp .ne 103, 3) := by decide +kernel
theorem dX2_takeBecomes_78 : decode cX2_takeBecomes 78 = .ok (.aload_n 0, 1) := by decide +kernel
theorem dX2_takeBecomes_79 : decode cX2_takeBecomes 79 = .ok (.invokevirtual 210, 3) := by decide +kernel
theorem dX2_takeBecomes_82 : decode cX2_takeBecomes 82 = .ok (.istore 4, 2) := by decide +kernel
theorem dX2_takeBecomes_84 : decode cX2_takeBecomes 84 = .ok (.iload 4, 2) := by decide +kernel
theorem dX2_takeBecomes_86 : decode cX2_takeBecomes 86 = .ok (.iconst (-1), 1) := by decide +kernel
theorem dX2_takeBecomes_87 : decode cX2_takeBecomes 87 = .ok (.if_icmp .eq 21, 3) := by decide +kernel
theorem dX2_takeBecomes_90 : decode cX2_takeBecomes 90 = .ok (.iload 4, 2) := by decide +kernel
theorem dX2_takeBecomes_92 : decode cX2_takeBecomes 92 = .ok (.iload_n 1, 1) := by decide +kernel
theorem dX2_takeBecomes_93 : decode cX2_takeBecomes 93 = .ok (.if_icmp .eq 15, 3) := by decide +kernel
theorem dX2_takeBecomes_96 : decode cX2_takeBecomes 96 = .ok (.iload 4, 2) := by decide +kernel
theorem dX2_takeBecomes_98 : decode cX2_takeBecomes 98 = .ok (.aload_n 0, 1) := by decide +kernel
theorem dX2_takeBecomes_99 : decode cX2_takeBecomes 99 = .ok (.getfield 15, 3) := by decide +kernel
theorem dX2_takeBecomes_102 : decode cX2_takeBecomes 102 = .ok (.getfield 115, 3) := by decide +kernel
theorem dX2_takeBecomes_105 : decode cX2_takeBecomes 105 = .ok (.if_icmp .ne 5, 3) := by decide +kernel
theorem dX2_takeBecomes_108 : decode cX2_takeBecomes 108 = .ok (.iconst 0, 1) := by decide +kernel
theorem dX2_takeBecomes_109 : decode cX2_takeBecomes 109 = .ok (.ireturn, 1) := by decide +kernel
theorem dX2_takeBecomes_110 : decode cX2_takeBecomes 110 = .ok (.aload_n 0, 1) := by decide +kernel
theorem dX2_takeBecomes_111 : decode cX2_takeBecomes 111 = .ok (.getfield 15, 3) := by decide +kernel
theorem dX2_takeBecomes_114 : decode cX2_takeBecomes 114 = .ok (.iload 4, 2) := by decide +kernel
theorem dX2_takeBecomes_116 : decode cX2_takeBecomes 116 = .ok (.invokevirtual 213, 3) := by decide +kernel
theorem dX2_takeBecomes_119 : decode cX2_takeBecomes 119 = .ok (.ifCond .ne 12, 3) := by decide +kernel
theorem dX2_takeBecomes_122 : decode cX2_takeBecomes 122 = .ok (.iload_n 2, 1) := by decide +kernel
theorem dX2_takeBecomes_123 : decode cX2_takeBecomes 123 = .ok (.iload 4, 2) := by decide +kernel
theorem dX2_takeBecomes_125 : decode cX2_takeBecomes 125 = .ok (.ishr, 1) := by decide +kernel
theorem dX2_takeBecomes_126 : decode cX2_takeBecomes 126 = .ok (.iconst 1, 1) := by decide +kernel
theorem dX2_takeBecomes_127 : decode cX2_takeBecomes 127 = .ok (.iand, 1) := by decide +kernel
theorem dX2_takeBecomes_128 : decode cX2_takeBecomes 128 = .ok (.ifCond .eq 5, 3) := by decide +kernel
theorem dX2_takeBecomes_131 : decode cX2_takeBecomes 131 = .ok (.iconst 0, 1) := by decide +kernel
theorem dX2_takeBecomes_132 : decode cX2_takeBecomes 132 = .ok (.ireturn, 1) := by decide +kernel
theorem dX2_takeBecomes_133 : decode cX2_takeBecomes 133 = .ok (.iload_n 2, 1) := by decide +kernel
theorem dX2_takeBecomes_134 : decode cX2_takeBecomes 134 = .ok (.iconst 1, 1) := by decide +kernel
theorem dX2_takeBecomes_135 : decode cX2_takeBecomes 135 = .ok (.iload 4, 2) := by decide +kernel
theorem dX2_takeBecomes_137 : decode cX2_takeBecomes 137 = .ok (.ishl, 1) := by decide +kernel
theorem dX2_takeBecomes_138 : decode cX2_takeBecomes 138 = .ok (.ior, 1) := by decide +kernel
theorem dX2_takeBecomes_139 : decode cX2_takeBecomes 139 = .ok (.istore_n 2, 1) := by decide +kernel
theorem dX2_takeBecomes_140 : decode cX2_takeBecomes 140 = .ok (.aload_n 0, 1) := by decide +kernel
theorem dX2_takeBecomes_141 : decode cX2_takeBecomes 141 = .ok (.getfield 15, 3) := by decide +kernel
theorem dX2_takeBecomes_144 : decode cX2_takeBecomes 144 = .ok (.getfield 221, 3) := by decide +kernel
theorem dX2_takeBecomes_147 : decode cX2_takeBecomes 147 = .ok (.iload_n 1, 1) := by decide +kernel
theorem dX2_takeBecomes_148 : decode cX2_takeBecomes 148 = .ok (.bipush 6, 2) := by decide +kernel
theorem dX2_takeBecomes_150 : decode cX2_takeBecomes 150 = .ok (.imul, 1) := by decide +kernel
theorem dX2_takeBecomes_151 : decode cX2_takeBecomes 151 = .ok (.iload_n 3, 1) := by decide +kernel
theorem dX2_takeBecomes_152 : decode cX2_takeBecomes 152 = .ok (.iadd, 1) := by decide +kernel
theorem dX2_takeBecomes_153 : decode cX2_takeBecomes 153 = .ok (.iload 4, 2) := by decide +kernel
theorem dX2_takeBecomes_155 : decode cX2_takeBecomes 155 = .ok (.iastore, 1) := by decide +kernel
theorem dX2_takeBecomes_156 : decode cX2_takeBecomes 156 = .ok (.aload_n 0, 1) := by decide +kernel
theorem dX2_takeBecomes_157 : decode cX2_takeBecomes 157 = .ok (.getfield 15, 3) := by decide +kernel
theorem dX2_takeBecomes_160 : decode cX2_takeBecomes 160 = .ok (.getfield 223, 3) := by decide +kernel
theorem dX2_takeBecomes_163 : decode cX2_takeBecomes 163 = .ok (.iload_n 1, 1) := by decide +kernel
theorem dX2_takeBecomes_164 : decode cX2_takeBecomes 164 = .ok (.iload_n 3, 1) := by decide +kernel
theorem dX2_takeBecomes_165 : decode cX2_takeBecomes 165 = .ok (.iconst 1, 1) := by decide +kernel
theorem dX2_takeBecomes_166 : decode cX2_takeBecomes 166 = .ok (.iadd, 1) := by decide +kernel
theorem dX2_takeBecomes_167 : decode cX2_takeBecomes 167 = .ok (.iastore, 1) := by decide +kernel
theorem dX2_takeBecomes_168 : decode cX2_takeBecomes 168 = .ok (.aload_n 0, 1) := by decide +kernel
theorem dX2_takeBecomes_169 : decode cX2_takeBecomes 169 = .ok (.invokevirtual 31, 3) := by decide +kernel
theorem dX2_takeBecomes_172 : decode cX2_takeBecomes 172 = .ok (.iinc 3 1, 3) := by decide +kernel
theorem dX2_takeBecomes_175 : decode cX2_takeBecomes 175 = .ok (.goto (-115), 3) := by decide +kernel
theorem dX2_takeBecomes_178 : decode cX2_takeBecomes 178 = .ok (.aload_n 0, 1) := by decide +kernel
theorem dX2_takeBecomes_179 : decode cX2_takeBecomes 179 = .ok (.getfield 15, 3) := by decide +kernel
theorem dX2_takeBecomes_182 : decode cX2_takeBecomes 182 = .ok (.dup, 1) := by decide +kernel
theorem dX2_takeBecomes_183 : decode cX2_takeBecomes 183 = .ok (.getfield 216, 3) := by decide +kernel
theorem dX2_takeBecomes_186 : decode cX2_takeBecomes 186 = .ok (.iload_n 2, 1) := by decide +kernel
theorem dX2_takeBecomes_187 : decode cX2_takeBecomes 187 = .ok (.ior, 1) := by decide +kernel
theorem dX2_takeBecomes_188 : decode cX2_takeBecomes 188 = .ok (.putfield 216, 3) := by decide +kernel
theorem dX2_takeBecomes_191 : decode cX2_takeBecomes 191 = .ok (.aload_n 0, 1) := by decide +kernel
theorem dX2_takeBecomes_192 : decode cX2_takeBecomes 192 = .ok (.getfield 15, 3) := by decide +kernel
theorem dX2_takeBecomes_195 : decode cX2_takeBecomes 195 = .ok (.aload_n 0, 1) := by decide +kernel
theorem dX2_takeBecomes_196 : decode cX2_takeBecomes 196 = .ok (.getfield 15, 3) := by decide +kernel
theorem dX2_takeBecomes_199 : decode cX2_takeBecomes 199 = .ok (.getfield 226, 3) := by decide +kernel
theorem dX2_takeBecomes_202 : decode cX2_takeBecomes 202 = .ok (.iconst (-1), 1) := by decide +kernel
theorem dX2_takeBecomes_203 : decode cX2_takeBecomes 203 = .ok (.if_icmp .ne 7, 3) := by decide +kernel
theorem dX2_takeBecomes_206 : decode cX2_takeBecomes 206 = .ok (.iload_n 1, 1) := by decide +kernel
theorem dX2_takeBecomes_207 : decode cX2_takeBecomes 207 = .ok (.goto 10, 3) := by decide +kernel
theorem dX2_takeBecomes_210 : decode cX2_takeBecomes 210 = .ok (.aload_n 0, 1) := by decide +kernel
theorem dX2_takeBecomes_211 : decode cX2_takeBecomes 211 = .ok (.getfield 15, 3) := by decide +kernel
theorem dX2_takeBecomes_214 : decode cX2_takeBecomes 214 = .ok (.getfield 226, 3) := by decide +kernel
theorem dX2_takeBecomes_217 : decode cX2_takeBecomes 217 = .ok (.putfield 226, 3) := by decide +kernel
theorem dX2_takeBecomes_220 : decode cX2_takeBecomes 220 = .ok (.iconst 1, 1) := by decide +kernel
theorem dX2_takeBecomes_221 : decode cX2_takeBecomes 221 = .ok (.ireturn, 1) := by decide +kernel
set_option maxRecDepth 20000 in
theorem moX2_takeBecomes_50 {o : Int32 × Hp} {F : Nat} {h : Hp} (hE : sX2_takeBecomes_50 F h  = some o) : Le h o.2 := by
  exact le_some2 hE
set_option maxRecDepth 20000 in
theorem moX2_takeBecomes_217 {o : Int32 × Hp} {F : Nat} {h : Hp} {t0 : Int32} {t1 : Nat} (hE : sX2_takeBecomes_217 F h  t0 t1 = some o) : Le h o.2 := by
  obtain ⟨h_1, eh_1, hE⟩ := nm_e2 hE
  refine (le_I eh_1).tr ?_
  exact le_some2 hE
set_option maxRecDepth 20000 in
theorem moX2_takeBecomes_178 {o : Int32 × Hp} {F : Nat} {h : Hp} {x0 : Nat} {x1 : Int32} {x2 : Int32} (hE : sX2_takeBecomes_178 F h x0 x1 x2 = some o) : Le h o.2 := by
  obtain ⟨r_1, er_1, hE⟩ := cl_e hE
  obtain ⟨h_2, eh_2, hE⟩ := nm_e2 hE
  refine (le_I eh_2).tr ?_
  obtain ⟨r_3, er_3, hE⟩ := cl_e hE
  obtain ⟨r_4, er_4, hE⟩ := cl_e hE
  rcases br_e hE with ⟨_, hE⟩ | ⟨_, hE⟩
  · exact moX2_takeBecomes_217 hE
  · obtain ⟨r_6, er_6, hE⟩ := cl_e hE
    exact moX2_takeBecomes_217 hE
set_option maxRecDepth 20000 in
theorem moX2_takeBecomes_108 {o : Int32 × Hp} {F : Nat} {h : Hp} (hE : sX2_takeBecomes_108 F h  = some o) : Le h o.2 := by
  exact le_some2 hE
set_option maxRecDepth 20000 in
theorem moX2_takeBecomes_131 {o : Int32 × Hp} {F : Nat} {h : Hp} (hE : sX2_takeBecomes_131 F h  = some o) : Le h o.2 := by
  exact le_some2 hE
set_option maxRecDepth 20000 in
theorem moX2_takeBecomes_78 {o : Int32 × Hp} {k_60 : Hp → Nat → Int32 → Int32 → Int32 → Option (Int32 × Hp)} {F : Nat} (mk_60 : ∀ (h : Hp) (x0 : Nat) (x1 : Int32) (x2 : Int32) (x3 : Int32), k_60 h x0 x1 x2 x3 = some o → Le h o.2) {h : Hp} {x0 : Nat} {x1 : Int32} {x2 : Int32} {x3 : Int32} (hE : sX2_takeBecomes_78 F k_60 h x0 x1 x2 x3 = some o) : Le h o.2 := by
  obtain ⟨o_1, eo_1, hE⟩ := cl_e hE
  refine (moX2_toldMan eo_1).tr ?_
  rcases br_e hE with ⟨_, hE⟩ | ⟨_, hE⟩
  · exact moX2_takeBecomes_108 hE
  · rcases br_e hE with ⟨_, hE⟩ | ⟨_, hE⟩
    · exact moX2_takeBecomes_108 hE
    · obtain ⟨r_4, er_4, hE⟩ := cl_e hE
      rcases br_e hE with ⟨_, hE⟩ | ⟨_, hE⟩
      · exact moX2_takeBecomes_108 hE
      · obtain ⟨r_6, er_6, hE⟩ := cl_e hE
        obtain ⟨o_7, eo_7, hE⟩ := cl_e hE
        refine (moX1_becomesOthers eo_7).tr ?_
        rcases br_e hE with ⟨_, hE⟩ | ⟨_, hE⟩
        · rcases br_e hE with ⟨_, hE⟩ | ⟨_, hE⟩
          · obtain ⟨v_10, ev_10, hE⟩ := nm_e2 hE
            obtain ⟨r_11, er_11, hE⟩ := cl_e hE
            obtain ⟨r_12, er_12, hE⟩ := cl_e hE
            obtain ⟨g_13, hE⟩ := gd_e hE
            obtain ⟨h_14, eh_14, hE⟩ := nm_e2 hE
            refine (le_I eh_14).tr ?_
            obtain ⟨r_15, er_15, hE⟩ := cl_e hE
            obtain ⟨r_16, er_16, hE⟩ := cl_e hE
            obtain ⟨g_17, hE⟩ := gd_e hE
            obtain ⟨h_18, eh_18, hE⟩ := nm_e2 hE
            refine (le_I eh_18).tr ?_
            obtain ⟨o_19, eo_19, hE⟩ := cl_e hE
            refine (moX2_advance eo_19).tr ?_
            obtain ⟨v_20, ev_20, hE⟩ := nm_e2 hE
            exact mk_60 _ _ _ _ _ hE
          · exact moX2_takeBecomes_131 hE
        · exact moX2_takeBecomes_131 hE
set_option maxRecDepth 20000 in
theorem moX2_takeBecomes_60 {o : Int32 × Hp} {F : Nat} : ∀ (f : Nat) {h : Hp} {x0 : Nat} {x1 : Int32} {x2 : Int32} {x3 : Int32}, sX2_takeBecomes_60 F f h x0 x1 x2 x3 = some o → Le h o.2 := by
  intro f
  induction f with
  | zero =>
    intro h x0 x1 x2 x3 hE
    rw [sX2_takeBecomes_60] at hE
    cases hE
  | succ f ih =>
    intro h x0 x1 x2 x3 hE
    rw [sX2_takeBecomes_60] at hE
    have mk_60 : ∀ (h : Hp) (x0 : Nat) (x1 : Int32) (x2 : Int32) (x3 : Int32), sX2_takeBecomes_60 F f h x0 x1 x2 x3 = some o → Le h o.2 := fun h x0 x1 x2 x3 hE => ih hE
    rcases br_e hE with ⟨_, hE⟩ | ⟨_, hE⟩
    · exact moX2_takeBecomes_178 hE
    · rcases br_e hE with ⟨_, hE⟩ | ⟨_, hE⟩
      · exact moX2_takeBecomes_78 mk_60 hE
      · rcases br_e hE with ⟨_, hE⟩ | ⟨_, hE⟩
        · exact moX2_takeBecomes_78 mk_60 hE
        · exact moX2_takeBecomes_178 hE
set_option maxRecDepth 20000 in
theorem moX2_takeBecomes {o : Int32 × Hp} {F : Nat} {h : Hp} {x0 : Nat} (hE : sX2_takeBecomes F h x0 = some o) : Le h o.2 := by
  obtain ⟨o_1, eo_1, hE⟩ := cl_e hE
  refine (moX2_advance eo_1).tr ?_
  obtain ⟨o_2, eo_2, hE⟩ := cl_e hE
  refine (moX2_toldMan eo_2).tr ?_
  rcases br_e hE with ⟨_, hE⟩ | ⟨_, hE⟩
  · exact moX2_takeBecomes_50 hE
  · obtain ⟨r_4, er_4, hE⟩ := cl_e hE
    rcases br_e hE with ⟨_, hE⟩ | ⟨_, hE⟩
    · exact moX2_takeBecomes_50 hE
    · obtain ⟨r_6, er_6, hE⟩ := cl_e hE
      obtain ⟨o_7, eo_7, hE⟩ := cl_e hE
      refine (moX1_becomesOthers eo_7).tr ?_
      rcases br_e hE with ⟨_, hE⟩ | ⟨_, hE⟩
      · obtain ⟨r_9, er_9, hE⟩ := cl_e hE
        rcases br_e hE with ⟨_, hE⟩ | ⟨_, hE⟩
        · obtain ⟨o_11, eo_11, hE⟩ := cl_e hE
          refine (moX2_advance eo_11).tr ?_
          exact moX2_takeBecomes_60 _ hE
        · exact moX2_takeBecomes_50 hE
      · exact moX2_takeBecomes_50 hE
set_option maxRecDepth 20000 in
theorem bX2_takeBecomes_50 {p : Program} {l : Launch} {e : Env} {s : State} {m : MethodId} {args : Array Value} {below : List Frame} {meth : Method} {c : Code} {X : Ec} {h0 : Hp} {o : Int32 × Hp} {F : Nat} (C : Cx X p s m args meth c RX2 cX2_takeBecomes 5 (some .boolean) "takeBecomes") {h : Hp} {H : Heap} {locs : List Loc} (hkm : Km h0 h) (hW : Wx X h H) (hZ : va_S (aA (eB X)) s.heap H locs) (ls : Array Slot) (hl : lv_has ls 5 []) (hE : sX2_takeBecomes_50 F h  = some o) : W p l e (rm 3 63) s m args below meth c H locs 0 0 (MQ below (QI X h0 o.1 o.2) args s 0 0 (aA (eB X))) (F0 m 50 ls []) := by
  refine lv_iconst (v := (0 : Int32)) C.1 C.2.1 dX2_takeBecomes_50 (by decide) ?_
  exact x_iret C rfl (by decide) hW hZ hkm hE dX2_takeBecomes_51
set_option maxRecDepth 20000 in
theorem bX2_takeBecomes_217 {p : Program} {l : Launch} {e : Env} {s : State} {m : MethodId} {args : Array Value} {below : List Frame} {meth : Method} {c : Code} {X : Ec} {h0 : Hp} {o : Int32 × Hp} {F : Nat} (C : Cx X p s m args meth c RX2 cX2_takeBecomes 5 (some .boolean) "takeBecomes") {h : Hp} {t0 : Int32} {t1 : Nat} {H : Heap} {locs : List Loc} (k_t1 : hK h t1 = 1) (hkm : Km h0 h) (hW : Wx X h H) (hZ : va_S (aA (eB X)) s.heap H locs) (ls : Array Slot) (hl : lv_has ls 5 []) (hE : sX2_takeBecomes_217 F h  t0 t1 = some o) : W p l e (rm 3 63) s m args below meth c H locs 0 0 (MQ below (QI X h0 o.1 o.2) args s 0 0 (aA (eB X))) (F0 m 217 ls [.int t0, .ref t1]) := by
  obtain ⟨h_1, eh_1, hE⟩ := nm_e2 hE
  refine pf_X2_226 C hW hZ k_t1 eh_1 dX2_takeBecomes_217 (fun _ _ hW km hZ => ?_)
  replace hkm := hkm.tr km
  refine lv_iconst (v := (1 : Int32)) C.1 C.2.1 dX2_takeBecomes_220 (by decide) ?_
  exact x_iret C rfl (by decide) hW hZ hkm hE dX2_takeBecomes_221
set_option maxRecDepth 20000 in
theorem bX2_takeBecomes_178 {p : Program} {l : Launch} {e : Env} {s : State} {m : MethodId} {args : Array Value} {below : List Frame} {meth : Method} {c : Code} {X : Ec} {h0 : Hp} {o : Int32 × Hp} {F : Nat} (C : Cx X p s m args meth c RX2 cX2_takeBecomes 5 (some .boolean) "takeBecomes") {h : Hp} {x0 : Nat} {x1 : Int32} {x2 : Int32} {H : Heap} {locs : List Loc} (k_x0 : hK h x0 = 2) (hkm : Km h0 h) (hW : Wx X h H) (hZ : va_S (aA (eB X)) s.heap H locs) (ls : Array Slot) (hl : lv_has ls 5 [(0, .ref x0), (1, .int x1), (2, .int x2)]) (hE : sX2_takeBecomes_178 F h x0 x1 x2 = some o) : W p l e (rm 3 63) s m args below meth c H locs 0 0 (MQ below (QI X h0 o.1 o.2) args s 0 0 (aA (eB X))) (F0 m 178 ls []) := by
  refine lv_aload_n C.1 C.2.1 dX2_takeBecomes_178 rfl (lv_at hl 0 rfl) ?_
  obtain ⟨r_1, er_1, hE⟩ := cl_e hE
  refine gf_X2_15 C hW k_x0 er_1 dX2_takeBecomes_179 (fun k_r_1 => ?_)
  refine lv_dup C.1 C.2.1 dX2_takeBecomes_182 rfl ?_
  refine gf_X2_216 C hW k_r_1 dX2_takeBecomes_183 ?_
  refine lv_iload_n C.1 C.2.1 dX2_takeBecomes_186 rfl (lv_at hl 2 rfl) ?_
  refine lv_ior C.1 C.2.1 dX2_takeBecomes_187 ?_
  obtain ⟨h_2, eh_2, hE⟩ := nm_e2 hE
  refine pf_X2_216 C hW hZ k_r_1 eh_2 dX2_takeBecomes_188 (fun _ _ hW km hZ => ?_)
  replace hkm := hkm.tr km
  replace k_x0 := km.at k_x0 (by decide)
  refine lv_aload_n C.1 C.2.1 dX2_takeBecomes_191 rfl (lv_at hl 0 rfl) ?_
  obtain ⟨r_3, er_3, hE⟩ := cl_e hE
  refine gf_X2_15 C hW k_x0 er_3 dX2_takeBecomes_192 (fun k_r_3 => ?_)
  refine lv_aload_n C.1 C.2.1 dX2_takeBecomes_195 rfl (lv_at hl 0 rfl) ?_
  obtain ⟨r_4, er_4, hE⟩ := cl_e hE
  refine gf_X2_15 C hW k_x0 er_4 dX2_takeBecomes_196 (fun k_r_4 => ?_)
  refine gf_X2_226 C hW k_r_4 dX2_takeBecomes_199 ?_
  refine lv_iconst (v := (-1 : Int32)) C.1 C.2.1 dX2_takeBecomes_202 (by decide) ?_
  refine lv_icmp_ne (tgt := 210) C.1 C.2.1 dX2_takeBecomes_203 (by decide) (fun c_5 => ?_) (fun c_5 => ?_)
  · have hE := br_n hE c_5
    refine lv_aload_n C.1 C.2.1 dX2_takeBecomes_210 rfl (lv_at hl 0 rfl) ?_
    obtain ⟨r_6, er_6, hE⟩ := cl_e hE
    refine gf_X2_15 C hW k_x0 er_6 dX2_takeBecomes_211 (fun k_r_6 => ?_)
    refine gf_X2_226 C hW k_r_6 dX2_takeBecomes_214 ?_
    exact bX2_takeBecomes_217 C k_r_3 hkm hW hZ _ (lv_sub hl [] rfl) hE
  · have hE := br_p hE c_5
    refine lv_iload_n C.1 C.2.1 dX2_takeBecomes_206 rfl (lv_at hl 1 rfl) ?_
    refine lv_goto (tgt := 217) C.1 C.2.1 dX2_takeBecomes_207 (by decide) ?_
    exact bX2_takeBecomes_217 C k_r_3 hkm hW hZ _ (lv_sub hl [] rfl) hE
set_option maxRecDepth 20000 in
theorem bX2_takeBecomes_108 {p : Program} {l : Launch} {e : Env} {s : State} {m : MethodId} {args : Array Value} {below : List Frame} {meth : Method} {c : Code} {X : Ec} {h0 : Hp} {o : Int32 × Hp} {F : Nat} (C : Cx X p s m args meth c RX2 cX2_takeBecomes 5 (some .boolean) "takeBecomes") {h : Hp} {H : Heap} {locs : List Loc} (hkm : Km h0 h) (hW : Wx X h H) (hZ : va_S (aA (eB X)) s.heap H locs) (ls : Array Slot) (hl : lv_has ls 5 []) (hE : sX2_takeBecomes_108 F h  = some o) : W p l e (rm 3 63) s m args below meth c H locs 0 0 (MQ below (QI X h0 o.1 o.2) args s 0 0 (aA (eB X))) (F0 m 108 ls []) := by
  refine lv_iconst (v := (0 : Int32)) C.1 C.2.1 dX2_takeBecomes_108 (by decide) ?_
  exact x_iret C rfl (by decide) hW hZ hkm hE dX2_takeBecomes_109
set_option maxRecDepth 20000 in
theorem bX2_takeBecomes_131 {p : Program} {l : Launch} {e : Env} {s : State} {m : MethodId} {args : Array Value} {below : List Frame} {meth : Method} {c : Code} {X : Ec} {h0 : Hp} {o : Int32 × Hp} {F : Nat} (C : Cx X p s m args meth c RX2 cX2_takeBecomes 5 (some .boolean) "takeBecomes") {h : Hp} {H : Heap} {locs : List Loc} (hkm : Km h0 h) (hW : Wx X h H) (hZ : va_S (aA (eB X)) s.heap H locs) (ls : Array Slot) (hl : lv_has ls 5 []) (hE : sX2_takeBecomes_131 F h  = some o) : W p l e (rm 3 63) s m args below meth c H locs 0 0 (MQ below (QI X h0 o.1 o.2) args s 0 0 (aA (eB X))) (F0 m 131 ls []) := by
  refine lv_iconst (v := (0 : Int32)) C.1 C.2.1 dX2_takeBecomes_131 (by decide) ?_
  exact x_iret C rfl (by decide) hW hZ hkm hE dX2_takeBecomes_132
set_option maxRecDepth 20000 in
theorem bX2_takeBecomes_78 {p : Program} {l : Launch} {e : Env} {s : State} {m : MethodId} {args : Array Value} {below : List Frame} {meth : Method} {c : Code} {X : Ec} {h0 : Hp} {o : Int32 × Hp} {k_60 : Hp → Nat → Int32 → Int32 → Int32 → Option (Int32 × Hp)} {F : Nat} (C : Cx X p s m args meth c RX2 cX2_takeBecomes 5 (some .boolean) "takeBecomes") (hk_60 : ∀ (h : Hp) (x0 : Nat) (x1 : Int32) (x2 : Int32) (x3 : Int32) (H : Heap) (locs : List Loc), hK h x0 = 2 → Km h0 h → Wx X h H → va_S (aA (eB X)) s.heap H locs → ∀ (ls : Array Slot), lv_has ls 5 [(0, .ref x0), (1, .int x1), (2, .int x2), (3, .int x3)] → k_60 h x0 x1 x2 x3 = some o → W p l e (rm 3 63) s m args below meth c H locs 0 0 (MQ below (QI X h0 o.1 o.2) args s 0 0 (aA (eB X))) (F0 m 60 ls [])) {h : Hp} {x0 : Nat} {x1 : Int32} {x2 : Int32} {x3 : Int32} {H : Heap} {locs : List Loc} (k_x0 : hK h x0 = 2) (hkm : Km h0 h) (hW : Wx X h H) (hZ : va_S (aA (eB X)) s.heap H locs) (ls : Array Slot) (hl : lv_has ls 5 [(0, .ref x0), (1, .int x1), (2, .int x2), (3, .int x3)]) (hE : sX2_takeBecomes_78 F k_60 h x0 x1 x2 x3 = some o) : W p l e (rm 3 63) s m args below meth c H locs 0 0 (MQ below (QI X h0 o.1 o.2) args s 0 0 (aA (eB X))) (F0 m 78 ls []) := by
  refine lv_aload_n C.1 C.2.1 dX2_takeBecomes_78 rfl (lv_at hl 0 rfl) ?_
  obtain ⟨o_1, eo_1, hE⟩ := cl_e hE
  refine x_kI (o := o_1) (z_runV (As := []) (rest := []) C (ct_X2_toldMan l X F k_x0 eo_1) cw_X2_210 hW hZ k_x0 (by decide) rfl rfl rfl hl.1 (Nat.le_of_ble_eq_true rfl) rfl dX2_takeBecomes_79 ⟨Nat.le_of_ble_eq_true rfl, Nat.le_of_ble_eq_true rfl⟩ ⟨Nat.le_refl _, Nat.le_refl _⟩) hZ (fun _ _ hW km hZ => ?_)
  replace hkm := hkm.tr km
  replace k_x0 := km.at k_x0 (by decide)
  refine lv_istore (lv' := [(4, .int o_1.1), (0, .ref x0), (1, .int x1), (2, .int x2), (3, .int x3)]) C.1 C.2.1 dX2_takeBecomes_82 hl (by decide) rfl (fun ls hl => ?_)
  refine lv_iload C.1 C.2.1 dX2_takeBecomes_84 (lv_at hl 0 rfl) ?_
  refine lv_iconst (v := (-1 : Int32)) C.1 C.2.1 dX2_takeBecomes_86 (by decide) ?_
  refine lv_icmp_eq (tgt := 108) C.1 C.2.1 dX2_takeBecomes_87 (by decide) (fun c_2 => ?_) (fun c_2 => ?_)
  · have hE := br_p hE c_2
    exact bX2_takeBecomes_108 C hkm hW hZ _ (lv_sub hl [] rfl) hE
  · have hE := br_n hE c_2
    refine lv_iload C.1 C.2.1 dX2_takeBecomes_90 (lv_at hl 0 rfl) ?_
    refine lv_iload_n C.1 C.2.1 dX2_takeBecomes_92 rfl (lv_at hl 2 rfl) ?_
    refine lv_icmp_eq (tgt := 108) C.1 C.2.1 dX2_takeBecomes_93 (by decide) (fun c_3 => ?_) (fun c_3 => ?_)
    · have hE := br_p hE c_3
      exact bX2_takeBecomes_108 C hkm hW hZ _ (lv_sub hl [] rfl) hE
    · have hE := br_n hE c_3
      refine lv_iload C.1 C.2.1 dX2_takeBecomes_96 (lv_at hl 0 rfl) ?_
      refine lv_aload_n C.1 C.2.1 dX2_takeBecomes_98 rfl (lv_at hl 1 rfl) ?_
      obtain ⟨r_4, er_4, hE⟩ := cl_e hE
      refine gf_X2_15 C hW k_x0 er_4 dX2_takeBecomes_99 (fun k_r_4 => ?_)
      refine gf_X2_115 C hW k_r_4 dX2_takeBecomes_102 ?_
      refine lv_icmp_ne (tgt := 110) C.1 C.2.1 dX2_takeBecomes_105 (by decide) (fun c_5 => ?_) (fun c_5 => ?_)
      · have hE := br_n hE c_5
        refine lv_aload_n C.1 C.2.1 dX2_takeBecomes_110 rfl (lv_at hl 1 rfl) ?_
        obtain ⟨r_6, er_6, hE⟩ := cl_e hE
        refine gf_X2_15 C hW k_x0 er_6 dX2_takeBecomes_111 (fun k_r_6 => ?_)
        refine lv_iload C.1 C.2.1 dX2_takeBecomes_114 (lv_at hl 0 rfl) ?_
        obtain ⟨o_7, eo_7, hE⟩ := cl_e hE
        refine x_kI (o := o_7) (z_runV (As := [.int o_1.1]) (rest := []) C (ct_X1_becomesOthers l X k_r_6 eo_7) cw_X2_213 hW hZ k_r_6 (by decide) rfl rfl rfl hl.1 (Nat.le_of_ble_eq_true rfl) rfl dX2_takeBecomes_116 ⟨Nat.le_of_ble_eq_true rfl, Nat.le_of_ble_eq_true rfl⟩ ⟨Nat.le_refl _, Nat.le_refl _⟩) hZ (fun _ _ hW km hZ => ?_)
        replace hkm := hkm.tr km
        replace k_x0 := km.at k_x0 (by decide)
        refine lv_if_ne (tgt := 131) C.1 C.2.1 dX2_takeBecomes_119 (by decide) (fun c_8 => ?_) (fun c_8 => ?_)
        · have hE := br_n hE c_8
          exact bX2_takeBecomes_131 C hkm hW hZ _ (lv_sub hl [] rfl) hE
        · have hE := br_p hE c_8
          refine lv_iload_n C.1 C.2.1 dX2_takeBecomes_122 rfl (lv_at hl 3 rfl) ?_
          refine lv_iload C.1 C.2.1 dX2_takeBecomes_123 (lv_at hl 0 rfl) ?_
          refine lv_ishr C.1 C.2.1 dX2_takeBecomes_125 ?_
          refine lv_iconst (v := (1 : Int32)) C.1 C.2.1 dX2_takeBecomes_126 (by decide) ?_
          refine lv_iand C.1 C.2.1 dX2_takeBecomes_127 ?_
          refine lv_if_eq (tgt := 133) C.1 C.2.1 dX2_takeBecomes_128 (by decide) (fun c_9 => ?_) (fun c_9 => ?_)
          · have hE := br_p hE c_9
            refine lv_iload_n C.1 C.2.1 dX2_takeBecomes_133 rfl (lv_at hl 3 rfl) ?_
            refine lv_iconst (v := (1 : Int32)) C.1 C.2.1 dX2_takeBecomes_134 (by decide) ?_
            refine lv_iload C.1 C.2.1 dX2_takeBecomes_135 (lv_at hl 0 rfl) ?_
            refine lv_ishl C.1 C.2.1 dX2_takeBecomes_137 ?_
            refine lv_ior C.1 C.2.1 dX2_takeBecomes_138 ?_
            obtain ⟨v_10, ev_10, hE⟩ := nm_e2 hE
            refine x_nmI ev_10 ?_
            refine lv_istore_n (lv' := [(2, .int v_10), (4, .int o_1.1), (0, .ref x0), (1, .int x1), (3, .int x3)]) C.1 C.2.1 dX2_takeBecomes_139 rfl hl (by decide) rfl (fun ls hl => ?_)
            refine lv_aload_n C.1 C.2.1 dX2_takeBecomes_140 rfl (lv_at hl 2 rfl) ?_
            obtain ⟨r_11, er_11, hE⟩ := cl_e hE
            refine gf_X2_15 C hW k_x0 er_11 dX2_takeBecomes_141 (fun k_r_11 => ?_)
            obtain ⟨r_12, er_12, hE⟩ := cl_e hE
            refine gf_X2_221 C hW k_r_11 er_12 dX2_takeBecomes_144 (fun k_r_12 => ?_)
            refine lv_iload_n C.1 C.2.1 dX2_takeBecomes_147 rfl (lv_at hl 3 rfl) ?_
            refine lv_bipush (v := (6 : Int32)) C.1 C.2.1 dX2_takeBecomes_148 (by decide) ?_
            refine lv_imul C.1 C.2.1 dX2_takeBecomes_150 ?_
            refine lv_iload_n C.1 C.2.1 dX2_takeBecomes_151 rfl (lv_at hl 4 rfl) ?_
            refine lv_iadd C.1 C.2.1 dX2_takeBecomes_152 ?_
            refine lv_iload C.1 C.2.1 dX2_takeBecomes_153 (lv_at hl 1 rfl) ?_
            obtain ⟨g_13, hE⟩ := gd_e hE
            obtain ⟨h_14, eh_14, hE⟩ := nm_e2 hE
            refine y_iast C hW hZ k_r_12 g_13 eh_14 dX2_takeBecomes_155 (fun _ _ hW km hZ => ?_)
            replace hkm := hkm.tr km
            replace k_x0 := km.at k_x0 (by decide)
            refine lv_aload_n C.1 C.2.1 dX2_takeBecomes_156 rfl (lv_at hl 2 rfl) ?_
            obtain ⟨r_15, er_15, hE⟩ := cl_e hE
            refine gf_X2_15 C hW k_x0 er_15 dX2_takeBecomes_157 (fun k_r_15 => ?_)
            obtain ⟨r_16, er_16, hE⟩ := cl_e hE
            refine gf_X2_223 C hW k_r_15 er_16 dX2_takeBecomes_160 (fun k_r_16 => ?_)
            refine lv_iload_n C.1 C.2.1 dX2_takeBecomes_163 rfl (lv_at hl 3 rfl) ?_
            refine lv_iload_n C.1 C.2.1 dX2_takeBecomes_164 rfl (lv_at hl 4 rfl) ?_
            refine lv_iconst (v := (1 : Int32)) C.1 C.2.1 dX2_takeBecomes_165 (by decide) ?_
            refine lv_iadd C.1 C.2.1 dX2_takeBecomes_166 ?_
            obtain ⟨g_17, hE⟩ := gd_e hE
            obtain ⟨h_18, eh_18, hE⟩ := nm_e2 hE
            refine y_iast C hW hZ k_r_16 g_17 eh_18 dX2_takeBecomes_167 (fun _ _ hW km hZ => ?_)
            replace hkm := hkm.tr km
            replace k_x0 := km.at k_x0 (by decide)
            refine lv_aload_n C.1 C.2.1 dX2_takeBecomes_168 rfl (lv_at hl 2 rfl) ?_
            obtain ⟨o_19, eo_19, hE⟩ := cl_e hE
            refine x_kV (o := o_19) (z_runV (As := []) (rest := []) C (ct_X2_advance l X F k_x0 eo_19) cw_X2_31 hW hZ k_x0 (by decide) rfl rfl rfl hl.1 (Nat.le_of_ble_eq_true rfl) rfl dX2_takeBecomes_169 ⟨Nat.le_of_ble_eq_true rfl, Nat.le_of_ble_eq_true rfl⟩ ⟨Nat.le_refl _, Nat.le_refl _⟩) hZ (fun _ _ hW km hZ => ?_)
            replace hkm := hkm.tr km
            replace k_x0 := km.at k_x0 (by decide)
            obtain ⟨v_20, ev_20, hE⟩ := nm_e2 hE
            refine lv_iinc (v := v_20) (lv' := [(3, .int v_20), (2, .int v_10), (4, .int o_1.1), (0, .ref x0), (1, .int x1)]) C.1 C.2.1 dX2_takeBecomes_172 hl (k := 4) rfl (by rw [ev_20]; rfl) (by decide) rfl (fun ls hl => ?_)
            refine lv_goto (tgt := 60) C.1 C.2.1 dX2_takeBecomes_175 (by decide) ?_
            exact hk_60 _ _ _ _ _ _ _ k_x0 hkm hW hZ _ (lv_sub hl [3, 4, 1, 0] rfl) hE
          · have hE := br_n hE c_9
            exact bX2_takeBecomes_131 C hkm hW hZ _ (lv_sub hl [] rfl) hE
      · have hE := br_p hE c_5
        exact bX2_takeBecomes_108 C hkm hW hZ _ (lv_sub hl [] rfl) hE
set_option maxRecDepth 20000 in
theorem bX2_takeBecomes_60 {p : Program} {l : Launch} {e : Env} {s : State} {m : MethodId} {args : Array Value} {below : List Frame} {meth : Method} {c : Code} {X : Ec} {h0 : Hp} {o : Int32 × Hp} {F : Nat} (C : Cx X p s m args meth c RX2 cX2_takeBecomes 5 (some .boolean) "takeBecomes") : ∀ (f : Nat) {h : Hp} {x0 : Nat} {x1 : Int32} {x2 : Int32} {x3 : Int32} {H : Heap} {locs : List Loc} (k_x0 : hK h x0 = 2), Km h0 h → Wx X h H → va_S (aA (eB X)) s.heap H locs → ∀ (ls : Array Slot), lv_has ls 5 [(0, .ref x0), (1, .int x1), (2, .int x2), (3, .int x3)] → sX2_takeBecomes_60 F f h x0 x1 x2 x3 = some o → W p l e (rm 3 63) s m args below meth c H locs 0 0 (MQ below (QI X h0 o.1 o.2) args s 0 0 (aA (eB X))) (F0 m 60 ls []) := by
  intro f
  induction f with
  | zero =>
    intro h x0 x1 x2 x3 H locs k_x0 hkm hW hZ ls hl hE
    rw [sX2_takeBecomes_60] at hE
    cases hE
  | succ f ih =>
    intro h x0 x1 x2 x3 H locs k_x0 hkm hW hZ ls hl hE
    rw [sX2_takeBecomes_60] at hE
    have hk_60 : ∀ (h : Hp) (x0 : Nat) (x1 : Int32) (x2 : Int32) (x3 : Int32) (H : Heap) (locs : List Loc), hK h x0 = 2 → Km h0 h → Wx X h H → va_S (aA (eB X)) s.heap H locs → ∀ (ls : Array Slot), lv_has ls 5 [(0, .ref x0), (1, .int x1), (2, .int x2), (3, .int x3)] → sX2_takeBecomes_60 F f h x0 x1 x2 x3 = some o → W p l e (rm 3 63) s m args below meth c H locs 0 0 (MQ below (QI X h0 o.1 o.2) args s 0 0 (aA (eB X))) (F0 m 60 ls []) := fun h x0 x1 x2 x3 H locs k_x0 a b c ls hl hE => ih k_x0 a b c ls hl hE
    refine lv_iload_n C.1 C.2.1 dX2_takeBecomes_60 rfl (lv_at hl 3 rfl) ?_
    refine lv_bipush (v := (6 : Int32)) C.1 C.2.1 dX2_takeBecomes_61 (by decide) ?_
    refine lv_icmp_ge (tgt := 178) C.1 C.2.1 dX2_takeBecomes_63 (by decide) (fun c_1 => ?_) (fun c_1 => ?_)
    · have hE := br_p hE c_1
      exact bX2_takeBecomes_178 C k_x0 hkm hW hZ _ (lv_sub hl [0, 1, 2] rfl) hE
    · have hE := br_n hE c_1
      refine lv_iload_n C.1 C.2.1 dX2_takeBecomes_66 rfl (lv_at hl 3 rfl) ?_
      refine lv_if_eq (tgt := 78) C.1 C.2.1 dX2_takeBecomes_67 (by decide) (fun c_2 => ?_) (fun c_2 => ?_)
      · have hE := br_p hE c_2
        exact bX2_takeBecomes_78 C hk_60 k_x0 hkm hW hZ _ (lv_sub hl [0, 1, 2, 3] rfl) hE
      · have hE := br_n hE c_2
        refine lv_aload_n C.1 C.2.1 dX2_takeBecomes_70 rfl (lv_at hl 0 rfl) ?_
        refine gf_X2_38 C hW k_x0 dX2_takeBecomes_71 ?_
        refine lv_iconst (v := (1 : Int32)) C.1 C.2.1 dX2_takeBecomes_74 (by decide) ?_
        refine lv_icmp_ne (tgt := 178) C.1 C.2.1 dX2_takeBecomes_75 (by decide) (fun c_3 => ?_) (fun c_3 => ?_)
        · have hE := br_n hE c_3
          exact bX2_takeBecomes_178 C k_x0 hkm hW hZ _ (lv_sub hl [0, 1, 2] rfl) hE
        · have hE := br_p hE c_3
          exact bX2_takeBecomes_78 C hk_60 k_x0 hkm hW hZ _ (lv_sub hl [0, 1, 2, 3] rfl) hE
set_option maxRecDepth 20000 in
theorem ct_X2_takeBecomes (l : Launch) (X : Ec) (F : Nat) {h : Hp} {x0 : Nat} {o : Int32 × Hp} (k_x0 : hK h x0 = 2) (hE : sX2_takeBecomes F h x0 = some o) : MetI l yX2_takeBecomes cX2_takeBecomes 5 (some .boolean) 3 63 X [.ref x0] h o := by
  refine x_met (by decide) (Nat.le_of_ble_eq_true rfl) ?_
  intro p e s m below meth c ls C hl hW hZ
  have hl : lv_has ls 5 [(0, .ref x0)] := hl
  have hkm : Km h h := Km.rf h
  refine lv_aload_n C.1 C.2.1 dX2_takeBecomes_0 rfl (lv_at hl 0 rfl) ?_
  obtain ⟨o_1, eo_1, hE⟩ := cl_e hE
  refine x_kV (o := o_1) (z_runV (As := []) (rest := []) C (ct_X2_advance l X F k_x0 eo_1) cw_X2_31 hW hZ k_x0 (by decide) rfl rfl rfl hl.1 (Nat.le_of_ble_eq_true rfl) rfl dX2_takeBecomes_1 ⟨Nat.le_of_ble_eq_true rfl, Nat.le_of_ble_eq_true rfl⟩ ⟨Nat.le_refl _, Nat.le_refl _⟩) hZ (fun _ _ hW km hZ => ?_)
  replace hkm := hkm.tr km
  replace k_x0 := km.at k_x0 (by decide)
  refine lv_aload_n C.1 C.2.1 dX2_takeBecomes_4 rfl (lv_at hl 0 rfl) ?_
  obtain ⟨o_2, eo_2, hE⟩ := cl_e hE
  refine x_kI (o := o_2) (z_runV (As := []) (rest := []) C (ct_X2_toldMan l X F k_x0 eo_2) cw_X2_210 hW hZ k_x0 (by decide) rfl rfl rfl hl.1 (Nat.le_of_ble_eq_true rfl) rfl dX2_takeBecomes_5 ⟨Nat.le_of_ble_eq_true rfl, Nat.le_of_ble_eq_true rfl⟩ ⟨Nat.le_refl _, Nat.le_refl _⟩) hZ (fun _ _ hW km hZ => ?_)
  replace hkm := hkm.tr km
  replace k_x0 := km.at k_x0 (by decide)
  refine lv_istore_n (lv' := [(1, .int o_2.1), (0, .ref x0)]) C.1 C.2.1 dX2_takeBecomes_8 rfl hl (by decide) rfl (fun ls hl => ?_)
  refine lv_iload_n C.1 C.2.1 dX2_takeBecomes_9 rfl (lv_at hl 0 rfl) ?_
  refine lv_iconst (v := (-1 : Int32)) C.1 C.2.1 dX2_takeBecomes_10 (by decide) ?_
  refine lv_icmp_eq (tgt := 50) C.1 C.2.1 dX2_takeBecomes_11 (by decide) (fun c_3 => ?_) (fun c_3 => ?_)
  · have hE := br_p hE c_3
    exact bX2_takeBecomes_50 C hkm hW hZ _ (lv_sub hl [] rfl) hE
  · have hE := br_n hE c_3
    refine lv_iload_n C.1 C.2.1 dX2_takeBecomes_14 rfl (lv_at hl 0 rfl) ?_
    refine lv_aload_n C.1 C.2.1 dX2_takeBecomes_15 rfl (lv_at hl 1 rfl) ?_
    obtain ⟨r_4, er_4, hE⟩ := cl_e hE
    refine gf_X2_15 C hW k_x0 er_4 dX2_takeBecomes_16 (fun k_r_4 => ?_)
    refine gf_X2_115 C hW k_r_4 dX2_takeBecomes_19 ?_
    refine lv_icmp_eq (tgt := 50) C.1 C.2.1 dX2_takeBecomes_22 (by decide) (fun c_5 => ?_) (fun c_5 => ?_)
    · have hE := br_p hE c_5
      exact bX2_takeBecomes_50 C hkm hW hZ _ (lv_sub hl [] rfl) hE
    · have hE := br_n hE c_5
      refine lv_aload_n C.1 C.2.1 dX2_takeBecomes_25 rfl (lv_at hl 1 rfl) ?_
      obtain ⟨r_6, er_6, hE⟩ := cl_e hE
      refine gf_X2_15 C hW k_x0 er_6 dX2_takeBecomes_26 (fun k_r_6 => ?_)
      refine lv_iload_n C.1 C.2.1 dX2_takeBecomes_29 rfl (lv_at hl 0 rfl) ?_
      obtain ⟨o_7, eo_7, hE⟩ := cl_e hE
      refine x_kI (o := o_7) (z_runV (As := [.int o_2.1]) (rest := []) C (ct_X1_becomesOthers l X k_r_6 eo_7) cw_X2_213 hW hZ k_r_6 (by decide) rfl rfl rfl hl.1 (Nat.le_of_ble_eq_true rfl) rfl dX2_takeBecomes_30 ⟨Nat.le_of_ble_eq_true rfl, Nat.le_of_ble_eq_true rfl⟩ ⟨Nat.le_refl _, Nat.le_refl _⟩) hZ (fun _ _ hW km hZ => ?_)
      replace hkm := hkm.tr km
      replace k_x0 := km.at k_x0 (by decide)
      refine lv_if_ne (tgt := 50) C.1 C.2.1 dX2_takeBecomes_33 (by decide) (fun c_8 => ?_) (fun c_8 => ?_)
      · have hE := br_n hE c_8
        exact bX2_takeBecomes_50 C hkm hW hZ _ (lv_sub hl [] rfl) hE
      · have hE := br_p hE c_8
        refine lv_aload_n C.1 C.2.1 dX2_takeBecomes_36 rfl (lv_at hl 1 rfl) ?_
        obtain ⟨r_9, er_9, hE⟩ := cl_e hE
        refine gf_X2_15 C hW k_x0 er_9 dX2_takeBecomes_37 (fun k_r_9 => ?_)
        refine gf_X2_216 C hW k_r_9 dX2_takeBecomes_40 ?_
        refine lv_iload_n C.1 C.2.1 dX2_takeBecomes_43 rfl (lv_at hl 0 rfl) ?_
        refine lv_ishr C.1 C.2.1 dX2_takeBecomes_44 ?_
        refine lv_iconst (v := (1 : Int32)) C.1 C.2.1 dX2_takeBecomes_45 (by decide) ?_
        refine lv_iand C.1 C.2.1 dX2_takeBecomes_46 ?_
        refine lv_if_eq (tgt := 52) C.1 C.2.1 dX2_takeBecomes_47 (by decide) (fun c_10 => ?_) (fun c_10 => ?_)
        · have hE := br_p hE c_10
          refine lv_aload_n C.1 C.2.1 dX2_takeBecomes_52 rfl (lv_at hl 1 rfl) ?_
          obtain ⟨o_11, eo_11, hE⟩ := cl_e hE
          refine x_kV (o := o_11) (z_runV (As := []) (rest := []) C (ct_X2_advance l X F k_x0 eo_11) cw_X2_31 hW hZ k_x0 (by decide) rfl rfl rfl hl.1 (Nat.le_of_ble_eq_true rfl) rfl dX2_takeBecomes_53 ⟨Nat.le_of_ble_eq_true rfl, Nat.le_of_ble_eq_true rfl⟩ ⟨Nat.le_refl _, Nat.le_refl _⟩) hZ (fun _ _ hW km hZ => ?_)
          replace hkm := hkm.tr km
          replace k_x0 := km.at k_x0 (by decide)
          refine lv_iconst (v := (0 : Int32)) C.1 C.2.1 dX2_takeBecomes_56 (by decide) ?_
          refine lv_istore_n (lv' := [(2, .int (0 : Int32)), (1, .int o_2.1), (0, .ref x0)]) C.1 C.2.1 dX2_takeBecomes_57 rfl hl (by decide) rfl (fun ls hl => ?_)
          refine lv_iconst (v := (0 : Int32)) C.1 C.2.1 dX2_takeBecomes_58 (by decide) ?_
          refine lv_istore_n (lv' := [(3, .int (0 : Int32)), (2, .int (0 : Int32)), (1, .int o_2.1), (0, .ref x0)]) C.1 C.2.1 dX2_takeBecomes_59 rfl hl (by decide) rfl (fun ls hl => ?_)
          exact bX2_takeBecomes_60 C F k_x0 hkm hW hZ _ (lv_sub hl [3, 2, 1, 0] rfl) hE
        · have hE := br_n hE c_10
          exact bX2_takeBecomes_50 C hkm hW hZ _ (lv_sub hl [] rfl) hE
