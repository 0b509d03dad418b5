theorem dX2_onceWord_0 : decode cX2_onceWord 0 = .ok (.aload_n 0, 1) := by decide +kernel
theorem dX2_onceWord_1 : decode cX2_onceWord 1 = .ok (.ldc 121, 2) := by decide +kernel
theorem dX2_onceWord_3 : decode cX2_onceWord 3 = .ok (.invokevirtual 43, 3) := by decide +kernel
theorem dX2_onceWord_6 : decode cX2_onceWord 6 = .ok (.ifCond .eq 5, 3) := by decide +kernel
theorem dX2_onceWord_9 : decode cX2_onceWord 9 = .ok (.iconst 1, 1) := by decide +kernel
theorem dX2_onceWord_10 : decode cX2_onceWord 10 = .ok (.ireturn, 1) := by decide +kernel
theorem dX2_onceWord_11 : decode cX2_onceWord 11 = .ok (.aload_n 0, 1) := by decide +kernel
theorem dX2_onceWord_12 : decode cX2_onceWord 12 = .ok (.ldc 122, 2) := by decide +kernel
theorem dX2_onceWord_14 : decode cX2_onceWord 14 = .ok (.invokevirtual 43, 3) := by decide +kernel
theorem dX2_onceWord_17 : decode cX2_onceWord 17 = .ok (.ifCond .eq 5, 3) := by decide +kernel
theorem dX2_onceWord_20 : decode cX2_onceWord 20 = .ok (.iconst 2, 1) := by decide +kernel
theorem dX2_onceWord_21 : decode cX2_onceWord 21 = .ok (.ireturn, 1) := by decide +kernel
theorem dX2_onceWord_22 : decode cX2_onceWord 22 = .ok (.aload_n 0, 1) := by decide +kernel
theorem dX2_onceWord_23 : decode cX2_onceWord 23 = .ok (.ldc 124, 2) := by decide +kernel
theorem dX2_onceWord_25 : decode cX2_onceWord 25 = .ok (.invokevirtual 43, 3) := by decide +kernel
theorem dX2_onceWord_28 : decode cX2_onceWord 28 = .ok (.ifCond .eq 5, 3) := by decide +kernel
theorem dX2_onceWord_31 : decode cX2_onceWord 31 = .ok (.iconst 4, 1) := by decide +kernel
theorem dX2_onceWord_32 : decode cX2_onceWord 32 = .ok (.ireturn, 1) := by decide +kernel
theorem dX2_onceWord_33 : decode cX2_onceWord 33 = .ok (.aload_n 0, 1) := by decide +kernel
theorem dX2_onceWord_34 : decode cX2_onceWord 34 = .ok (.ldc 126, 2) := by decide +kernel
theorem dX2_onceWord_36 : decode cX2_onceWord 36 = .ok (.invokevirtual 43, 3) := by decide +kernel
theorem dX2_onceWord_39 : decode cX2_onceWord 39 = .ok (.ifCond .eq 6, 3) := by decide +kernel
theorem dX2_onceWord_42 : decode cX2_onceWord 42 = .ok (.bipush 8, 2) := by decide +kernel
theorem dX2_onceWord_44 : decode cX2_onceWord 44 = .ok (.ireturn, 1) := by decide +kernel
theorem dX2_onceWord_45 : decode cX2_onceWord 45 = .ok (.aload_n 0, 1) := by decide +kernel
theorem dX2_onceWord_46 : decode cX2_onceWord 46 = .ok (.ldc 128, 2) := by decide +kernel
theorem dX2_onceWord_48 : decode cX2_onceWord 48 = .ok (.invokevirtual 43, 3) := by decide +kernel
theorem dX2_onceWord_51 : decode cX2_onceWord 51 = .ok (.ifCond .eq 6, 3) := by decide +kernel
theorem dX2_onceWord_54 : decode cX2_onceWord 54 = .ok (.bipush 16, 2) := by decide +kernel
theorem dX2_onceWord_56 : decode cX2_onceWord 56 = .ok (.ireturn, 1) := by decide +kernel
theorem dX2_onceWord_57 : decode cX2_onceWord 57 = .ok (.aload_n 0, 1) := by decide +kernel
theorem dX2_onceWord_58 : decode cX2_onceWord 58 = .ok (.ldc 130, 2) := by decide +kernel
theorem dX2_onceWord_60 : decode cX2_onceWord 60 = .ok (.invokevirtual 43, 3) := by decide +kernel
theorem dX2_onceWord_63 : decode cX2_onceWord 63 = .ok (.ifCond .eq 6, 3) := by decide +kernel
theorem dX2_onceWord_66 : decode cX2_onceWord 66 = .ok (.bipush 32, 2) := by decide +kernel
theorem dX2_onceWord_68 : decode cX2_onceWord 68 = .ok (.ireturn, 1) := by decide +kernel
theorem dX2_onceWord_69 : decode cX2_onceWord 69 = .ok (.aload_n 0, 1) := by decide +kernel
theorem dX2_onceWord_70 : decode cX2_onceWord 70 = .ok (.ldc 132, 2) := by decide +kernel
theorem dX2_onceWord_72 : decode cX2_onceWord 72 = .ok (.invokevirtual 43, 3) := by decide +kernel
theorem dX2_onceWord_75 : decode cX2_onceWord 75 = .ok (.ifCond .eq 6, 3) := by decide +kernel
theorem dX2_onceWord_78 : decode cX2_onceWord 78 = .ok (.bipush 64, 2) := by decide +kernel
theorem dX2_onceWord_80 : decode cX2_onceWord 80 = .ok (.ireturn, 1) := by decide +kernel
theorem dX2_onceWord_81 : decode cX2_onceWord 81 = .ok (.aload_n 0, 1) := by decide +kernel
theorem dX2_onceWord_82 : decode cX2_onceWord 82 = .ok (.ldc 134, 2) := by decide +kernel
theorem dX2_onceWord_84 : decode cX2_onceWord 84 = .ok (.invokevirtual 43, 3) := by decide +kernel
theorem dX2_onceWord_87 : decode cX2_onceWord 87 = .ok (.ifCond .eq 7, 3) := by decide +kernel
theorem dX2_onceWord_90 : decode cX2_onceWord 90 = .ok (.sipush 128, 3) := by decide +kernel
theorem dX2_onceWord_93 : decode cX2_onceWord 93 = .ok (.ireturn, 1) := by decide +kernel
theorem dX2_onceWord_94 : decode cX2_onceWord 94 = .ok (.aload_n 0, 1) := by decide +kernel
theorem dX2_onceWord_95 : decode cX2_onceWord 95 = .ok (.ldc 136, 2) := by decide +kernel
theorem dX2_onceWord_97 : decode cX2_onceWord 97 = .ok (.invokevirtual 43, 3) := by decide +kernel
theorem dX2_onceWord_100 : decode cX2_onceWord 100 = .ok (.ifCond .eq 7, 3) := by decide +kernel
theorem dX2_onceWord_103 : decode cX2_onceWord 103 = .ok (.sipush 256, 3) := by decide +kernel
theorem dX2_onceWord_106 : decode cX2_onceWord 106 = .ok (.ireturn, 1) := by decide +kernel
theorem dX2_onceWord_107 : decode cX2_onceWord 107 = .ok (.aload_n 0, 1) := by decide +kernel
theorem dX2_onceWord_108 : decode cX2_onceWord 108 = .ok (.ldc 138, 2) := by decide +kernel
theorem dX2_onceWord_110 : decode cX2_onceWord 110 = .ok (.invokevirtual 43, 3) := by decide +kernel
theorem dX2_onceWord_113 : decode cX2_onceWord 113 = .ok (.ifCond .eq 9, 3) := by decide +kernel
theorem dX2_onceWord_116 : decode cX2_onceWord 116 = .ok (.sipush 512, 3) := by decide +kernel
theorem dX2_onceWord_119 : decode cX2_onceWord 119 = .ok (.goto 4, 3) := by decide +kernel
theorem dX2_onceWord_122 : decode cX2_onceWord 122 = .ok (.iconst 0, 1) := by decide +kernel
theorem dX2_onceWord_123 : decode cX2_onceWord 123 = .ok (.ireturn, 1) := by decide +kernel
set_option maxRecDepth 20000 in
theorem moX2_onceWord_123 {o : Int32 × Hp} {F : Nat} {h : Hp} {t0 : Int32} (hE : sX2_onceWord_123 F h  t0 = some o) : Le h o.2 := by
  exact le_some2 hE
set_option maxRecDepth 20000 in
theorem moX2_onceWord {o : Int32 × Hp} {F : Nat} {h : Hp} {x0 : Nat} (hE : sX2_onceWord F h x0 = some o) : Le h o.2 := by
  obtain ⟨o_1, eo_1, hE⟩ := cl_e hE
  refine (moX2_isWord eo_1).tr ?_
  rcases br_e hE with ⟨_, hE⟩ | ⟨_, hE⟩
  · obtain ⟨o_3, eo_3, hE⟩ := cl_e hE
    refine (moX2_isWord eo_3).tr ?_
    rcases br_e hE with ⟨_, hE⟩ | ⟨_, hE⟩
    · obtain ⟨o_5, eo_5, hE⟩ := cl_e hE
      refine (moX2_isWord eo_5).tr ?_
      rcases br_e hE with ⟨_, hE⟩ | ⟨_, hE⟩
      · obtain ⟨o_7, eo_7, hE⟩ := cl_e hE
        refine (moX2_isWord eo_7).tr ?_
        rcases br_e hE with ⟨_, hE⟩ | ⟨_, hE⟩
        · obtain ⟨o_9, eo_9, hE⟩ := cl_e hE
          refine (moX2_isWord eo_9).tr ?_
          rcases br_e hE with ⟨_, hE⟩ | ⟨_, hE⟩
          · obtain ⟨o_11, eo_11, hE⟩ := cl_e hE
            refine (moX2_isWord eo_11).tr ?_
            rcases br_e hE with ⟨_, hE⟩ | ⟨_, hE⟩
            · obtain ⟨o_13, eo_13, hE⟩ := cl_e hE
              refine (moX2_isWord eo_13).tr ?_
              rcases br_e hE with ⟨_, hE⟩ | ⟨_, hE⟩
              · obtain ⟨o_15, eo_15, hE⟩ := cl_e hE
                refine (moX2_isWord eo_15).tr ?_
                rcases br_e hE with ⟨_, hE⟩ | ⟨_, hE⟩
                · obtain ⟨o_17, eo_17, hE⟩ := cl_e hE
                  refine (moX2_isWord eo_17).tr ?_
                  rcases br_e hE with ⟨_, hE⟩ | ⟨_, hE⟩
                  · obtain ⟨o_19, eo_19, hE⟩ := cl_e hE
                    refine (moX2_isWord eo_19).tr ?_
                    rcases br_e hE with ⟨_, hE⟩ | ⟨_, hE⟩
                    · exact moX2_onceWord_123 hE
                    · exact moX2_onceWord_123 hE
                  · exact le_some2 hE
                · exact le_some2 hE
              · exact le_some2 hE
            · exact le_some2 hE
          · exact le_some2 hE
        · exact le_some2 hE
      · exact le_some2 hE
    · exact le_some2 hE
  · exact le_some2 hE
set_option maxRecDepth 20000 in
theorem bX2_onceWord_123 {p : Program} {l : Launch} {e : Env} {s : State} {m : MethodId} {args : Array Value} {below : List Frame} {meth : Method} {c : Code} {X : Ec} {h0 : Hp} {o : Int32 × Hp} {F : Nat} (C : Cx X p s m args meth c RX2 cX2_onceWord 1 (some .int) "onceWord") {h : Hp} {t0 : Int32} {H : Heap} {locs : List Loc} (hkm : Km h0 h) (hW : Wx X h H) (hZ : va_S (aA (eB X)) s.heap H locs) (ls : Array Slot) (hl : lv_has ls 1 []) (hE : sX2_onceWord_123 F h  t0 = some o) : W p l e (rm 5 107) s m args below meth c H locs 0 0 (MQ below (QI X h0 o.1 o.2) args s 0 0 (aA (eB X))) (F0 m 123 ls [.int t0]) := by
  exact x_iret C rfl rfl hW hZ hkm hE dX2_onceWord_123
set_option maxRecDepth 20000 in
theorem ct_X2_onceWord (l : Launch) (X : Ec) (F : Nat) {h : Hp} {x0 : Nat} {o : Int32 × Hp} (k_x0 : hK h x0 = 2) (hE : sX2_onceWord F h x0 = some o) : MetI l yX2_onceWord cX2_onceWord 1 (some .int) 5 107 X [.ref x0] h o := by
  refine x_met (by decide) (Nat.le_of_ble_eq_true rfl) ?_
  intro p e s m below meth c ls C hl hW hZ
  have hl : lv_has ls 1 [(0, .ref x0)] := hl
  have hkm : Km h h := Km.rf h
  refine lv_aload_n C.1 C.2.1 dX2_onceWord_0 rfl (lv_at hl 0 rfl) ?_
  refine va_ldcS C.1 C.2.1 C.2.2.2.1 (C.2.2.2.2.2.2.2.2.1 14 (by decide)).2 dX2_onceWord_1 ?_
  obtain ⟨o_1, eo_1, hE⟩ := cl_e hE
  refine x_kI (o := o_1) (z_runV (As := [.ref (X.2.2.2.1 14)]) (rest := []) C (ct_X2_isWord l X F k_x0 (by decide) eo_1) cw_X2_43 hW hZ k_x0 (by decide) rfl rfl rfl hl.1 (Nat.le_of_ble_eq_true rfl) rfl dX2_onceWord_3 ⟨Nat.le_of_ble_eq_true rfl, Nat.le_of_ble_eq_true rfl⟩ ⟨Nat.le_refl _, Nat.le_refl _⟩) hZ (fun _ _ hW km hZ => ?_)
  replace hkm := hkm.tr km
  replace k_x0 := km.at k_x0 (by decide)
  refine lv_if_eq (tgt := 11) C.1 C.2.1 dX2_onceWord_6 (by decide) (fun c_2 => ?_) (fun c_2 => ?_)
  · have hE := br_p hE c_2
    refine lv_aload_n C.1 C.2.1 dX2_onceWord_11 rfl (lv_at hl 0 rfl) ?_
    refine va_ldcS C.1 C.2.1 C.2.2.2.1 (C.2.2.2.2.2.2.2.2.1 15 (by decide)).2 dX2_onceWord_12 ?_
    obtain ⟨o_3, eo_3, hE⟩ := cl_e hE
    refine x_kI (o := o_3) (z_runV (As := [.ref (X.2.2.2.1 15)]) (rest := []) C (ct_X2_isWord l X F k_x0 (by decide) eo_3) cw_X2_43 hW hZ k_x0 (by decide) rfl rfl rfl hl.1 (Nat.le_of_ble_eq_true rfl) rfl dX2_onceWord_14 ⟨Nat.le_of_ble_eq_true rfl, Nat.le_of_ble_eq_true rfl⟩ ⟨Nat.le_refl _, Nat.le_refl _⟩) hZ (fun _ _ hW km hZ => ?_)
    replace hkm := hkm.tr km
    replace k_x0 := km.at k_x0 (by decide)
    refine lv_if_eq (tgt := 22) C.1 C.2.1 dX2_onceWord_17 (by decide) (fun c_4 => ?_) (fun c_4 => ?_)
    · have hE := br_p hE c_4
      refine lv_aload_n C.1 C.2.1 dX2_onceWord_22 rfl (lv_at hl 0 rfl) ?_
      refine va_ldcS C.1 C.2.1 C.2.2.2.1 (C.2.2.2.2.2.2.2.2.1 16 (by decide)).2 dX2_onceWord_23 ?_
      obtain ⟨o_5, eo_5, hE⟩ := cl_e hE
      refine x_kI (o := o_5) (z_runV (As := [.ref (X.2.2.2.1 16)]) (rest := []) C (ct_X2_isWord l X F k_x0 (by decide) eo_5) cw_X2_43 hW hZ k_x0 (by decide) rfl rfl rfl hl.1 (Nat.le_of_ble_eq_true rfl) rfl dX2_onceWord_25 ⟨Nat.le_of_ble_eq_true rfl, Nat.le_of_ble_eq_true rfl⟩ ⟨Nat.le_refl _, Nat.le_refl _⟩) hZ (fun _ _ hW km hZ => ?_)
      replace hkm := hkm.tr km
      replace k_x0 := km.at k_x0 (by decide)
      refine lv_if_eq (tgt := 33) C.1 C.2.1 dX2_onceWord_28 (by decide) (fun c_6 => ?_) (fun c_6 => ?_)
      · have hE := br_p hE c_6
        refine lv_aload_n C.1 C.2.1 dX2_onceWord_33 rfl (lv_at hl 0 rfl) ?_
        refine va_ldcS C.1 C.2.1 C.2.2.2.1 (C.2.2.2.2.2.2.2.2.1 17 (by decide)).2 dX2_onceWord_34 ?_
        obtain ⟨o_7, eo_7, hE⟩ := cl_e hE
        refine x_kI (o := o_7) (z_runV (As := [.ref (X.2.2.2.1 17)]) (rest := []) C (ct_X2_isWord l X F k_x0 (by decide) eo_7) cw_X2_43 hW hZ k_x0 (by decide) rfl rfl rfl hl.1 (Nat.le_of_ble_eq_true rfl) rfl dX2_onceWord_36 ⟨Nat.le_of_ble_eq_true rfl, Nat.le_of_ble_eq_true rfl⟩ ⟨Nat.le_refl _, Nat.le_refl _⟩) hZ (fun _ _ hW km hZ => ?_)
        replace hkm := hkm.tr km
        replace k_x0 := km.at k_x0 (by decide)
        refine lv_if_eq (tgt := 45) C.1 C.2.1 dX2_onceWord_39 (by decide) (fun c_8 => ?_) (fun c_8 => ?_)
        · have hE := br_p hE c_8
          refine lv_aload_n C.1 C.2.1 dX2_onceWord_45 rfl (lv_at hl 0 rfl) ?_
          refine va_ldcS C.1 C.2.1 C.2.2.2.1 (C.2.2.2.2.2.2.2.2.1 18 (by decide)).2 dX2_onceWord_46 ?_
          obtain ⟨o_9, eo_9, hE⟩ := cl_e hE
          refine x_kI (o := o_9) (z_runV (As := [.ref (X.2.2.2.1 18)]) (rest := []) C (ct_X2_isWord l X F k_x0 (by decide) eo_9) cw_X2_43 hW hZ k_x0 (by decide) rfl rfl rfl hl.1 (Nat.le_of_ble_eq_true rfl) rfl dX2_onceWord_48 ⟨Nat.le_of_ble_eq_true rfl, Nat.le_of_ble_eq_true rfl⟩ ⟨Nat.le_refl _, Nat.le_refl _⟩) hZ (fun _ _ hW km hZ => ?_)
          replace hkm := hkm.tr km
          replace k_x0 := km.at k_x0 (by decide)
          refine lv_if_eq (tgt := 57) C.1 C.2.1 dX2_onceWord_51 (by decide) (fun c_10 => ?_) (fun c_10 => ?_)
          · have hE := br_p hE c_10
            refine lv_aload_n C.1 C.2.1 dX2_onceWord_57 rfl (lv_at hl 0 rfl) ?_
            refine va_ldcS C.1 C.2.1 C.2.2.2.1 (C.2.2.2.2.2.2.2.2.1 19 (by decide)).2 dX2_onceWord_58 ?_
            obtain ⟨o_11, eo_11, hE⟩ := cl_e hE
            refine x_kI (o := o_11) (z_runV (As := [.ref (X.2.2.2.1 19)]) (rest := []) C (ct_X2_isWord l X F k_x0 (by decide) eo_11) cw_X2_43 hW hZ k_x0 (by decide) rfl rfl rfl hl.1 (Nat.le_of_ble_eq_true rfl) rfl dX2_onceWord_60 ⟨Nat.le_of_ble_eq_true rfl, Nat.le_of_ble_eq_true rfl⟩ ⟨Nat.le_refl _, Nat.le_refl _⟩) hZ (fun _ _ hW km hZ => ?_)
            replace hkm := hkm.tr km
            replace k_x0 := km.at k_x0 (by decide)
            refine lv_if_eq (tgt := 69) C.1 C.2.1 dX2_onceWord_63 (by decide) (fun c_12 => ?_) (fun c_12 => ?_)
            · have hE := br_p hE c_12
              refine lv_aload_n C.1 C.2.1 dX2_onceWord_69 rfl (lv_at hl 0 rfl) ?_
              refine va_ldcS C.1 C.2.1 C.2.2.2.1 (C.2.2.2.2.2.2.2.2.1 20 (by decide)).2 dX2_onceWord_70 ?_
              obtain ⟨o_13, eo_13, hE⟩ := cl_e hE
              refine x_kI (o := o_13) (z_runV (As := [.ref (X.2.2.2.1 20)]) (rest := []) C (ct_X2_isWord l X F k_x0 (by decide) eo_13) cw_X2_43 hW hZ k_x0 (by decide) rfl rfl rfl hl.1 (Nat.le_of_ble_eq_true rfl) rfl dX2_onceWord_72 ⟨Nat.le_of_ble_eq_true rfl, Nat.le_of_ble_eq_true rfl⟩ ⟨Nat.le_refl _, Nat.le_refl _⟩) hZ (fun _ _ hW km hZ => ?_)
              replace hkm := hkm.tr km
              replace k_x0 := km.at k_x0 (by decide)
              refine lv_if_eq (tgt := 81) C.1 C.2.1 dX2_onceWord_75 (by decide) (fun c_14 => ?_) (fun c_14 => ?_)
              · have hE := br_p hE c_14
                refine lv_aload_n C.1 C.2.1 dX2_onceWord_81 rfl (lv_at hl 0 rfl) ?_
                refine va_ldcS C.1 C.2.1 C.2.2.2.1 (C.2.2.2.2.2.2.2.2.1 21 (by decide)).2 dX2_onceWord_82 ?_
                obtain ⟨o_15, eo_15, hE⟩ := cl_e hE
                refine x_kI (o := o_15) (z_runV (As := [.ref (X.2.2.2.1 21)]) (rest := []) C (ct_X2_isWord l X F k_x0 (by decide) eo_15) cw_X2_43 hW hZ k_x0 (by decide) rfl rfl rfl hl.1 (Nat.le_of_ble_eq_true rfl) rfl dX2_onceWord_84 ⟨Nat.le_of_ble_eq_true rfl, Nat.le_of_ble_eq_true rfl⟩ ⟨Nat.le_refl _, Nat.le_refl _⟩) hZ (fun _ _ hW km hZ => ?_)
                replace hkm := hkm.tr km
                replace k_x0 := km.at k_x0 (by decide)
                refine lv_if_eq (tgt := 94) C.1 C.2.1 dX2_onceWord_87 (by decide) (fun c_16 => ?_) (fun c_16 => ?_)
                · have hE := br_p hE c_16
                  refine lv_aload_n C.1 C.2.1 dX2_onceWord_94 rfl (lv_at hl 0 rfl) ?_
                  refine va_ldcS C.1 C.2.1 C.2.2.2.1 (C.2.2.2.2.2.2.2.2.1 22 (by decide)).2 dX2_onceWord_95 ?_
                  obtain ⟨o_17, eo_17, hE⟩ := cl_e hE
                  refine x_kI (o := o_17) (z_runV (As := [.ref (X.2.2.2.1 22)]) (rest := []) C (ct_X2_isWord l X F k_x0 (by decide) eo_17) cw_X2_43 hW hZ k_x0 (by decide) rfl rfl rfl hl.1 (Nat.le_of_ble_eq_true rfl) rfl dX2_onceWord_97 ⟨Nat.le_of_ble_eq_true rfl, Nat.le_of_ble_eq_true rfl⟩ ⟨Nat.le_refl _, Nat.le_refl _⟩) hZ (fun _ _ hW km hZ => ?_)
                  replace hkm := hkm.tr km
                  replace k_x0 := km.at k_x0 (by decide)
                  refine lv_if_eq (tgt := 107) C.1 C.2.1 dX2_onceWord_100 (by decide) (fun c_18 => ?_) (fun c_18 => ?_)
                  · have hE := br_p hE c_18
                    refine lv_aload_n C.1 C.2.1 dX2_onceWord_107 rfl (lv_at hl 0 rfl) ?_
                    refine va_ldcS C.1 C.2.1 C.2.2.2.1 (C.2.2.2.2.2.2.2.2.1 23 (by decide)).2 dX2_onceWord_108 ?_
                    obtain ⟨o_19, eo_19, hE⟩ := cl_e hE
                    refine x_kI (o := o_19) (z_runV (As := [.ref (X.2.2.2.1 23)]) (rest := []) C (ct_X2_isWord l X F k_x0 (by decide) eo_19) cw_X2_43 hW hZ k_x0 (by decide) rfl rfl rfl hl.1 (Nat.le_of_ble_eq_true rfl) rfl dX2_onceWord_110 ⟨Nat.le_of_ble_eq_true rfl, Nat.le_of_ble_eq_true rfl⟩ ⟨Nat.le_refl _, Nat.le_refl _⟩) hZ (fun _ _ hW km hZ => ?_)
                    replace hkm := hkm.tr km
                    replace k_x0 := km.at k_x0 (by decide)
                    refine lv_if_eq (tgt := 122) C.1 C.2.1 dX2_onceWord_113 (by decide) (fun c_20 => ?_) (fun c_20 => ?_)
                    · have hE := br_p hE c_20
                      refine lv_iconst (v := (0 : Int32)) C.1 C.2.1 dX2_onceWord_122 (by decide) ?_
                      exact bX2_onceWord_123 C hkm hW hZ _ (lv_sub hl [] rfl) hE
                    · have hE := br_n hE c_20
                      refine lv_sipush (v := (512 : Int32)) C.1 C.2.1 dX2_onceWord_116 (by decide) ?_
                      refine lv_goto (tgt := 123) C.1 C.2.1 dX2_onceWord_119 (by decide) ?_
                      exact bX2_onceWord_123 C hkm hW hZ _ (lv_sub hl [] rfl) hE
                  · have hE := br_n hE c_18
                    refine lv_sipush (v := (256 : Int32)) C.1 C.2.1 dX2_onceWord_103 (by decide) ?_
                    exact x_iret C rfl rfl hW hZ hkm hE dX2_onceWord_106
                · have hE := br_n hE c_16
                  refine lv_sipush (v := (128 : Int32)) C.1 C.2.1 dX2_onceWord_90 (by decide) ?_
                  exact x_iret C rfl rfl hW hZ hkm hE dX2_onceWord_93
              · have hE := br_n hE c_14
                refine lv_bipush (v := (64 : Int32)) C.1 C.2.1 dX2_onceWord_78 (by decide) ?_
                exact x_iret C rfl rfl hW hZ hkm hE dX2_onceWord_80
            · have hE := br_n hE c_12
              refine lv_bipush (v := (32 : Int32)) C.1 C.2.1 dX2_onceWord_66 (by decide) ?_
              exact x_iret C rfl rfl hW hZ hkm hE dX2_onceWord_68
          · have hE := br_n hE c_10
            refine lv_bipush (v := (16 : Int32)) C.1 C.2.1 dX2_onceWord_54 (by decide) ?_
            exact x_iret C rfl rfl hW hZ hkm hE dX2_onceWord_56
        · have hE := br_n hE c_8
          refine lv_bipush (v := (8 : Int32)) C.1 C.2.1 dX2_onceWord_42 (by decide) ?_
          exact x_iret C rfl rfl hW hZ hkm hE dX2_onceWord_44
      · have hE := br_n hE c_6
        refine lv_iconst (v := (4 : Int32)) C.1 C.2.1 dX2_onceWord_31 (by decide) ?_
        exact x_iret C rfl rfl hW hZ hkm hE dX2_onceWord_32
    · have hE := br_n hE c_4
      refine lv_iconst (v := (2 : Int32)) C.1 C.2.1 dX2_onceWord_20 (by decide) ?_
      exact x_iret C rfl rfl hW hZ hkm hE dX2_onceWord_21
  · have hE := br_n hE c_2
    refine lv_iconst (v := (1 : Int32)) C.1 C.2.1 dX2_onceWord_9 (by decide) ?_
    exact x_iret C rfl rfl hW hZ hkm hE dX2_onceWord_10
section
variable {p : Program} {l : Launch} {e : Env} {R : Room} {s : State} {m : MethodId} {args : Array Value} {below : List Frame} {meth : Method} {c : Code} {H : Heap} {locs : List Loc} {cells slots : Nat} {Q : State → Prop}
variable {cc : ByteArray} {pc : Nat} {ls : Array Slot} {rest : List Value} {X : Ec} {h h1 : Hp} {nL : Nat} {rt : Option FieldType} {mn : String}
theorem pf_X2_115 {a : Nat} {v : Int32} (C : Cx X p s m args meth c RX2 cc nL rt mn) (hW : Wx X h H) (hZ : va_S (aA (eB X)) s.heap H locs) (ha : hK h a = 1) (eh : h1 = wI h a 4 v) (hdg : decode cc pc = .ok (.putfield 115, 3)) (kk : ∀ (H1 : Heap) (locs1 : List Loc), Wx X h1 H1 → Km h h1 → va_S (aA (eB X)) s.heap H1 locs1 → W p l e R s m args below meth c H1 locs1 cells slots Q (F0 m (pc + 3) ls rest)) : W p l e R s m args below meth c H locs cells slots Q (F0 m pc ls (.int v :: .ref a :: rest)) :=
  y_puti (ty := .int) C hW hZ ha i_X1 tyX1 tyX1_ok nmX1 (by decide) rfl rfl (by decide) m_91 rfl (by decide +kernel) rfl rfl rfl eh hdg kk
end
theorem dX2_takeRoyal_0 : decode cX2_takeRoyal 0 = .ok (.aload_n 0, 1) := by decide +kernel
theorem dX2_takeRoyal_1 : decode cX2_takeRoyal 1 = .ok (.invokevirtual 210, 3) := by decide +kernel
theorem dX2_takeRoyal_4 : decode cX2_takeRoyal 4 = .ok (.istore_n 1, 1) := by decide +kernel
theorem dX2_takeRoyal_5 : decode cX2_takeRoyal 5 = .ok (.iload_n 1, 1) := by decide +kernel
theorem dX2_takeRoyal_6 : decode cX2_takeRoyal 6 = .ok (.iconst (-1), 1) := by decide +kernel
theorem dX2_takeRoyal_7 : decode cX2_takeRoyal 7 = .ok (.if_icmp .eq 28, 3) := by decide +kernel
theorem dX2_takeRoyal_10 : decode cX2_takeRoyal 10 = .ok (.aload_n 0, 1) := by decide +kernel
theorem dX2_takeRoyal_11 : decode cX2_takeRoyal 11 = .ok (.getfield 15, 3) := by decide +kernel
theorem dX2_takeRoyal_14 : decode cX2_takeRoyal 14 = .ok (.iload_n 1, 1) := by decide +kernel
theorem dX2_takeRoyal_15 : decode cX2_takeRoyal 15 = .ok (.invokevirtual 213, 3) := by decide +kernel
theorem dX2_takeRoyal_18 : decode cX2_takeRoyal 18 = .ok (.ifCond .ne 17, 3) := by decide +kernel
theorem dX2_takeRoyal_21 : decode cX2_takeRoyal 21 = .ok (.aload_n 0, 1) := by decide +kernel
theorem dX2_takeRoyal_22 : decode cX2_takeRoyal 22 = .ok (.getfield 15, 3) := by decide +kernel
theorem dX2_takeRoyal_25 : decode cX2_takeRoyal 25 = .ok (.getfield 216, 3) := by decide +kernel
theorem dX2_takeRoyal_28 : decode cX2_takeRoyal 28 = .ok (.iload_n 1, 1) := by decide +kernel
theorem dX2_takeRoyal_29 : decode cX2_takeRoyal 29 = .ok (.ishr, 1) := by decide +kernel
theorem dX2_takeRoyal_30 : decode cX2_takeRoyal 30 = .ok (.iconst 1, 1) := by decide +kernel
theorem dX2_takeRoyal_31 : decode cX2_takeRoyal 31 = .ok (.iand, 1) := by decide +kernel
theorem dX2_takeRoyal_32 : decode cX2_takeRoyal 32 = .ok (.ifCond .eq 5, 3) := by decide +kernel
theorem dX2_takeRoyal_35 : decode cX2_takeRoyal 35 = .ok (.iconst 0, 1) := by decide +kernel
theorem dX2_takeRoyal_36 : decode cX2_takeRoyal 36 = .ok (.ireturn, 1) := by decide +kernel
theorem dX2_takeRoyal_37 : decode cX2_takeRoyal 37 = .ok (.aload_n 0, 1) := by decide +kernel
theorem dX2_takeRoyal_38 : decode cX2_takeRoyal 38 = .ok (.getfield 15, 3) := by decide +kernel
theorem dX2_takeRoyal_41 : decode cX2_takeRoyal 41 = .ok (.iload_n 1, 1) := by decide +kernel
theorem dX2_takeRoyal_42 : decode cX2_takeRoyal 42 = .ok (.putfield 115, 3) := by decide +kernel
theorem dX2_takeRoyal_45 : decode cX2_takeRoyal 45 = .ok (.aload_n 0, 1) := by decide +kernel
theorem dX2_takeRoyal_46 : decode cX2_takeRoyal 46 = .ok (.invokevirtual 31, 3) := by decide +kernel
theorem dX2_takeRoyal_49 : decode cX2_takeRoyal 49 = .ok (.iconst 1, 1) := by decide +kernel
theorem dX2_takeRoyal_50 : decode cX2_takeRoyal 50 = .ok (.ireturn, 1) := by decide +kernel
set_option maxRecDepth 20000 in
theorem moX2_takeRoyal_35 {o : Int32 × Hp} {F : Nat} {h : Hp} (hE : sX2_takeRoyal_35 F h  = some o) : Le h o.2 := by
  exact le_some2 hE
set_option maxRecDepth 20000 in
theorem moX2_takeRoyal {o : Int32 × Hp} {F : Nat} {h : Hp} {x0 : Nat} (hE : sX2_takeRoyal F h x0 = some o) : Le h o.2 := by
  obtain ⟨o_1, eo_1, hE⟩ := cl_e hE
  refine (moX2_toldMan eo_1).tr ?_
  rcases br_e hE with ⟨_, hE⟩ | ⟨_, hE⟩
  · exact moX2_takeRoyal_35 hE
  · obtain ⟨r_3, er_3, hE⟩ := cl_e hE
    obtain ⟨o_4, eo_4, hE⟩ := cl_e hE
    refine (moX1_becomesOthers eo_4).tr ?_
    rcases br_e hE with ⟨_, hE⟩ | ⟨_, hE⟩
    · obtain ⟨r_6, er_6, hE⟩ := cl_e hE
      rcases br_e hE with ⟨_, hE⟩ | ⟨_, hE⟩
      · obtain ⟨r_8, er_8, hE⟩ := cl_e hE
        obtain ⟨h_9, eh_9, hE⟩ := nm_e2 hE
        refine (le_I eh_9).tr ?_
        obtain ⟨o_10, eo_10, hE⟩ := cl_e hE
        refine (moX2_advance eo_10).tr ?_
        exact le_some2 hE
      · exact moX2_takeRoyal_35 hE
    · exact moX2_takeRoyal_35 hE
set_option maxRecDepth 20000 in
theorem bX2_takeRoyal_35 {p : Program} {l : Launch} {e : Env} {s : State} {m : MethodId} {args : Array Value} {below : List Frame} {meth : Method} {c : Code} {X : Ec} {h0 : Hp} {o : Int32 × Hp} {F : Nat} (C : Cx X p s m args meth c RX2 cX2_takeRoyal 2 (some .boolean) "takeRoyal") {h : Hp} {H : Heap} {locs : List Loc} (hkm : Km h0 h) (hW : Wx X h H) (hZ : va_S (aA (eB X)) s.heap H locs) (ls : Array Slot) (hl : lv_has ls 2 []) (hE : sX2_takeRoyal_35 F h  = some o) : W p l e (rm 3 63) s m args below meth c H locs 0 0 (MQ below (QI X h0 o.1 o.2) args s 0 0 (aA (eB X))) (F0 m 35 ls []) := by
  refine lv_iconst (v := (0 : Int32)) C.1 C.2.1 dX2_takeRoyal_35 (by decide) ?_
  exact x_iret C rfl (by decide) hW hZ hkm hE dX2_takeRoyal_36
set_option maxRecDepth 20000 in
theorem ct_X2_takeRoyal (l : Launch) (X : Ec) (F : Nat) {h : Hp} {x0 : Nat} {o : Int32 × Hp} (k_x0 : hK h x0 = 2) (hE : sX2_takeRoyal F h x0 = some o) : MetI l yX2_takeRoyal cX2_takeRoyal 2 (some .boolean) 3 63 X [.ref x0] h o := by
  refine x_met (by decide) (Nat.le_of_ble_eq_true rfl) ?_
  intro p e s m below meth c ls C hl hW hZ
  have hl : lv_has ls 2 [(0, .ref x0)] := hl
  have hkm : Km h h := Km.rf h
  refine lv_aload_n C.1 C.2.1 dX2_takeRoyal_0 rfl (lv_at hl 0 rfl) ?_
  obtain ⟨o_1, eo_1, hE⟩ := cl_e hE
  refine x_kI (o := o_1) (z_runV (As := []) (rest := []) C (ct_X2_toldMan l X F k_x0 eo_1) cw_X2_210 hW hZ k_x0 (by decide) rfl rfl rfl hl.1 (Nat.le_of_ble_eq_true rfl) rfl dX2_takeRoyal_1 ⟨Nat.le_of_ble_eq_true rfl, Nat.le_of_ble_eq_true rfl⟩ ⟨Nat.le_refl _, Nat.le_refl _⟩) hZ (fun _ _ hW km hZ => ?_)
  replace hkm := hkm.tr km
  replace k_x0 := km.at k_x0 (by decide)
  refine lv_istore_n (lv' := [(1, .int o_1.1), (0, .ref x0)]) C.1 C.2.1 dX2_takeRoyal_4 rfl hl (by decide) rfl (fun ls hl => ?_)
  refine lv_iload_n C.1 C.2.1 dX2_takeRoyal_5 rfl (lv_at hl 0 rfl) ?_
  refine lv_iconst (v := (-1 : Int32)) C.1 C.2.1 dX2_takeRoyal_6 (by decide) ?_
  refine lv_icmp_eq (tgt := 35) C.1 C.2.1 dX2_takeRoyal_7 (by decide) (fun c_2 => ?_) (fun c_2 => ?_)
  · have hE := br_p hE c_2
    exact bX2_takeRoyal_35 C hkm hW hZ _ (lv_sub hl [] rfl) hE
  · have hE := br_n hE c_2
    refine lv_aload_n C.1 C.2.1 dX2_takeRoyal_10 rfl (lv_at hl 1 rfl) ?_
    obtain ⟨r_3, er_3, hE⟩ := cl_e hE
    refine gf_X2_15 C hW k_x0 er_3 dX2_takeRoyal_11 (fun k_r_3 => ?_)
    refine lv_iload_n C.1 C.2.1 dX2_takeRoyal_14 rfl (lv_at hl 0 rfl) ?_
    obtain ⟨o_4, eo_4, hE⟩ := cl_e hE
    refine x_kI (o := o_4) (z_runV (As := [.int o_1.1]) (rest := []) C (ct_X1_becomesOthers l X k_r_3 eo_4) cw_X2_213 hW hZ k_r_3 (by decide) rfl rfl rfl hl.1 (Nat.le_of_ble_eq_true rfl) rfl dX2_takeRoyal_15 ⟨Nat.le_of_ble_eq_true rfl, Nat.le_of_ble_eq_true rfl⟩ ⟨Nat.le_refl _, Nat.le_refl _⟩) hZ (fun _ _ hW km hZ => ?_)
    replace hkm := hkm.tr km
    replace k_x0 := km.at k_x0 (by decide)
    refine lv_if_ne (tgt := 35) C.1 C.2.1 dX2_takeRoyal_18 (by decide) (fun c_5 => ?_) (fun c_5 => ?_)
    · have hE := br_n hE c_5
      exact bX2_takeRoyal_35 C hkm hW hZ _ (lv_sub hl [] rfl) hE
    · have hE := br_p hE c_5
      refine lv_aload_n C.1 C.2.1 dX2_takeRoyal_21 rfl (lv_at hl 1 rfl) ?_
      obtain ⟨r_6, er_6, hE⟩ := cl_e hE
      refine gf_X2_15 C hW k_x0 er_6 dX2_takeRoyal_22 (fun k_r_6 => ?_)
      refine gf_X2_216 C hW k_r_6 dX2_takeRoyal_25 ?_
      refine lv_iload_n C.1 C.2.1 dX2_takeRoyal_28 rfl (lv_at hl 0 rfl) ?_
      refine lv_ishr C.1 C.2.1 dX2_takeRoyal_29 ?_
      refine lv_iconst (v := (1 : Int32)) C.1 C.2.1 dX2_takeRoyal_30 (by decide) ?_
      refine lv_iand C.1 C.2.1 dX2_takeRoyal_31 ?_
      refine lv_if_eq (tgt := 37) C.1 C.2.1 dX2_takeRoyal_32 (by decide) (fun c_7 => ?_) (fun c_7 => ?_)
      · have hE := br_p hE c_7
        refine lv_aload_n C.1 C.2.1 dX2_takeRoyal_37 rfl (lv_at hl 1 rfl) ?_
        obtain ⟨r_8, er_8, hE⟩ := cl_e hE
        refine gf_X2_15 C hW k_x0 er_8 dX2_takeRoyal_38 (fun k_r_8 => ?_)
        refine lv_iload_n C.1 C.2.1 dX2_takeRoyal_41 rfl (lv_at hl 0 rfl) ?_
        obtain ⟨h_9, eh_9, hE⟩ := nm_e2 hE
        refine pf_X2_115 C hW hZ k_r_8 eh_9 dX2_takeRoyal_42 (fun _ _ hW km hZ => ?_)
        replace hkm := hkm.tr km
        replace k_x0 := km.at k_x0 (by decide)
        refine lv_aload_n C.1 C.2.1 dX2_takeRoyal_45 rfl (lv_at hl 1 rfl) ?_
        obtain ⟨o_10, eo_10, hE⟩ := cl_e hE
        refine x_kV (o := o_10) (z_runV (As := []) (rest := []) C (ct_X2_advance l X F k_x0 eo_10) cw_X2_31 hW hZ k_x0 (by decide) rfl rfl rfl hl.1 (Nat.le_of_ble_eq_true rfl) rfl dX2_takeRoyal_46 ⟨Nat.le_of_ble_eq_true rfl, Nat.le_of_ble_eq_true rfl⟩ ⟨Nat.le_refl _, Nat.le_refl _⟩) hZ (fun _ _ hW km hZ => ?_)
        replace hkm := hkm.tr km
        replace k_x0 := km.at k_x0 (by decide)
        refine lv_iconst (v := (1 : Int32)) C.1 C.2.1 dX2_takeRoyal_49 (by decide) ?_
        exact x_iret C rfl (by decide) hW hZ hkm hE dX2_takeRoyal_50
      · have hE := br_n hE c_7
        exact bX2_takeRoyal_35 C hkm hW hZ _ (lv_sub hl [] rfl) hE
set_option maxRecDepth 100000 in
theorem m_98 : Cond.fieldLink RX2 219 (TX1 6).1 (TX1 6).2.1 (TX1 6).2.2.1 ∈ W0 := w0_in (List.mem_append_right _ (List.mem_of_getElem? (i := 98) rfl)) rfl
section
variable {p : Program} {l : Launch} {e : Env} {R : Room} {s : State} {m : MethodId} {args : Array Value} {below : List Frame} {meth : Method} {c : Code} {H : Heap} {locs : List Loc} {cells slots : Nat} {Q : State → Prop}
variable {cc : ByteArray} {pc : Nat} {ls : Array Slot} {rest : List Value} {X : Ec} {h h1 : Hp} {nL : Nat} {rt : Option FieldType} {mn : String}
theorem pf_X2_219 {a : Nat} {v : Int32} (C : Cx X p s m args meth c RX2 cc nL rt mn) (hW : Wx X h H) (hZ : va_S (aA (eB X)) s.heap H locs) (ha : hK h a = 1) (eh : h1 = wI h a 6 v) (hdg : decode cc pc = .ok (.putfield 219, 3)) (kk : ∀ (H1 : Heap) (locs1 : List Loc), Wx X h1 H1 → Km h h1 → va_S (aA (eB X)) s.heap H1 locs1 → W p l e R s m args below meth c H1 locs1 cells slots Q (F0 m (pc + 3) ls rest)) : W p l e R s m args below meth c H locs cells slots Q (F0 m pc ls (.int v :: .ref a :: rest)) :=
  y_puti (ty := .int) C hW hZ ha i_X1 tyX1 tyX1_ok nmX1 (by decide) rfl rfl (by decide) m_98 rfl (by decide +kernel) rfl rfl rfl eh hdg kk
end
theorem dX2_takeCastle_0 : decode cX2_takeCastle 0 = .ok (.aload_n 0, 1) := by decide +kernel
theorem dX2_takeCastle_1 : decode cX2_takeCastle 1 = .ok (.invokevirtual 210, 3) := by decide +kernel
theorem dX2_takeCastle_4 : decode cX2_takeCastle 4 = .ok (.istore_n 1, 1) := by decide +kernel
theorem dX2_takeCastle_5 : decode cX2_takeCastle 5 = .ok (.iload_n 1, 1) := by decide +kernel
theorem dX2_takeCastle_6 : decode cX2_takeCastle 6 = .ok (.iconst (-1), 1) := by decide +kernel
theorem dX2_takeCastle_7 : decode cX2_takeCastle 7 = .ok (.if_icmp .eq 14, 3) := by decide +kernel
theorem dX2_takeCastle_10 : decode cX2_takeCastle 10 = .ok (.iload_n 1, 1) := by decide +kernel
theorem dX2_takeCastle_11 : decode cX2_takeCastle 11 = .ok (.aload_n 0, 1) := by decide +kernel
theorem dX2_takeCastle_12 : decode cX2_takeCastle 12 = .ok (.getfield 15, 3) := by decide +kernel
theorem dX2_takeCastle_15 : decode cX2_takeCastle 15 = .ok (.getfield 115, 3) := by decide +kernel
theorem dX2_takeCastle_18 : decode cX2_takeCastle 18 = .ok (.if_icmp .ne 5, 3) := by decide +kernel
theorem dX2_takeCastle_21 : decode cX2_takeCastle 21 = .ok (.iconst 0, 1) := by decide +kernel
theorem dX2_takeCastle_22 : decode cX2_takeCastle 22 = .ok (.ireturn, 1) := by decide +kernel
theorem dX2_takeCastle_23 : decode cX2_takeCastle 23 = .ok (.aload_n 0, 1) := by decide +kernel
theorem dX2_takeCastle_24 : decode cX2_takeCastle 24 = .ok (.getfield 15, 3) := by decide +kernel
theorem dX2_takeCastle_27 : decode cX2_takeCastle 27 = .ok (.iload_n 1, 1) := by decide +kernel
theorem dX2_takeCastle_28 : decode cX2_takeCastle 28 = .ok (.putfield 219, 3) := by decide +kernel
theorem dX2_takeCastle_31 : decode cX2_takeCastle 31 = .ok (.aload_n 0, 1) := by decide +kernel
theorem dX2_takeCastle_32 : decode cX2_takeCastle 32 = .ok (.invokevirtual 31, 3) := by decide +kernel
theorem dX2_takeCastle_35 : decode cX2_takeCastle 35 = .ok (.iconst 1, 1) := by decide +kernel
theorem dX2_takeCastle_36 : decode cX2_takeCastle 36 = .ok (.ireturn, 1) := by decide +kernel
set_option maxRecDepth 20000 in
theorem moX2_takeCastle_21 {o : Int32 × Hp} {F : Nat} {h : Hp} (hE : sX2_takeCastle_21 F h  = some o) : Le h o.2 := by
  exact le_some2 hE
set_option maxRecDepth 20000 in
theorem moX2_takeCastle {o : Int32 × Hp} {F : Nat} {h : Hp} {x0 : Nat} (hE : sX2_takeCastle F h x0 = some o) : Le h o.2 := by
  obtain ⟨o_1, eo_1, hE⟩ := cl_e hE
  refine (moX2_toldMan eo_1).tr ?_
  rcases br_e hE with ⟨_, hE⟩ | ⟨_, hE⟩
  · exact moX2_takeCastle_21 hE
  · obtain ⟨r_3, er_3, hE⟩ := cl_e hE
    rcases br_e hE with ⟨_, hE⟩ | ⟨_, hE⟩
    · exact moX2_takeCastle_21 hE
    · obtain ⟨r_5, er_5, hE⟩ := cl_e hE
      obtain ⟨h_6, eh_6, hE⟩ := nm_e2 hE
      refine (le_I eh_6).tr ?_
      obtain ⟨o_7, eo_7, hE⟩ := cl_e hE
      refine (moX2_advance eo_7).tr ?_
      exact le_some2 hE
set_option maxRecDepth 20000 in
theorem bX2_takeCastle_21 {p : Program} {l : Launch} {e : Env} {s : State} {m : MethodId} {args : Array Value} {below : List Frame} {meth : Method} {c : Code} {X : Ec} {h0 : Hp} {o : Int32 × Hp} {F : Nat} (C : Cx X p s m args meth c RX2 cX2_takeCastle 2 (some .boolean) "takeCastle") {h : Hp} {H : Heap} {locs : List Loc} (hkm : Km h0 h) (hW : Wx X h H) (hZ : va_S (aA (eB X)) s.heap H locs) (ls : Array Slot) (hl : lv_has ls 2 []) (hE : sX2_takeCastle_21 F h  = some o) : W p l e (rm 3 63) s m args below meth c H locs 0 0 (MQ below (QI X h0 o.1 o.2) args s 0 0 (aA (eB X))) (F0 m 21 ls []) := by
  refine lv_iconst (v := (0 : Int32)) C.1 C.2.1 dX2_takeCastle_21 (by decide) ?_
  exact x_iret C rfl (by decide) hW hZ hkm hE dX2_takeCastle_22
set_option maxRecDepth 20000 in
theorem ct_X2_takeCastle (l : Launch) (X : Ec) (F : Nat) {h : Hp} {x0 : Nat} {o : Int32 × Hp} (k_x0 : hK h x0 = 2) (hE : sX2_takeCastle F h x0 = some o) : MetI l yX2_takeCastle cX2_takeCastle 2 (some .boolean) 3 63 X [.ref x0] h o := by
  refine x_met (by decide) (Nat.le_of_ble_eq_true rfl) ?_
  intro p e s m below meth c ls C hl hW hZ
  have hl : lv_has ls 2 [(0, .ref x0)] := hl
  have hkm : Km h h := Km.rf h
  refine lv_aload_n C.1 C.2.1 dX2_takeCastle_0 rfl (lv_at hl 0 rfl) ?_
  obtain ⟨o_1, eo_1, hE⟩ := cl_e hE
  refine x_kI (o := o_1) (z_runV (As := []) (rest := []) C (ct_X2_toldMan l X F k_x0 eo_1) cw_X2_210 hW hZ k_x0 (by decide) rfl rfl rfl hl.1 (Nat.le_of_ble_eq_true rfl) rfl dX2_takeCastle_1 ⟨Nat.le_of_ble_eq_true rfl, Nat.le_of_ble_eq_true rfl⟩ ⟨Nat.le_refl _, Nat.le_refl _⟩) hZ (fun _ _ hW km hZ => ?_)
  replace hkm := hkm.tr km
  replace k_x0 := km.at k_x0 (by decide)
  refine lv_istore_n (lv' := [(1, .int o_1.1), (0, .ref x0)]) C.1 C.2.1 dX2_takeCastle_4 rfl hl (by decide) rfl (fun ls hl => ?_)
  refine lv_iload_n C.1 C.2.1 dX2_takeCastle_5 rfl (lv_at hl 0 rfl) ?_
  refine lv_iconst (v := (-1 : Int32)) C.1 C.2.1 dX2_takeCastle_6 (by decide) ?_
  refine lv_icmp_eq (tgt := 21) C.1 C.2.1 dX2_takeCastle_7 (by decide) (fun c_2 => ?_) (fun c_2 => ?_)
  · have hE := br_p hE c_2
    exact bX2_takeCastle_21 C hkm hW hZ _ (lv_sub hl [] rfl) hE
  · have hE := br_n hE c_2
    refine lv_iload_n C.1 C.2.1 dX2_takeCastle_10 rfl (lv_at hl 0 rfl) ?_
    refine lv_aload_n C.1 C.2.1 dX2_takeCastle_11 rfl (lv_at hl 1 rfl) ?_
    obtain ⟨r_3, er_3, hE⟩ := cl_e hE
    refine gf_X2_15 C hW k_x0 er_3 dX2_takeCastle_12 (fun k_r_3 => ?_)
    refine gf_X2_115 C hW k_r_3 dX2_takeCastle_15 ?_
    refine lv_icmp_ne (tgt := 23) C.1 C.2.1 dX2_takeCastle_18 (by decide) (fun c_4 => ?_) (fun c_4 => ?_)
    · have hE := br_n hE c_4
      refine lv_aload_n C.1 C.2.1 dX2_takeCastle_23 rfl (lv_at hl 1 rfl) ?_
      obtain ⟨r_5, er_5, hE⟩ := cl_e hE
      refine gf_X2_15 C hW k_x0 er_5 dX2_takeCastle_24 (fun k_r_5 => ?_)
      refine lv_iload_n C.1 C.2.1 dX2_takeCastle_27 rfl (lv_at hl 0 rfl) ?_
      obtain ⟨h_6, eh_6, hE⟩ := nm_e2 hE
      refine pf_X2_219 C hW hZ k_r_5 eh_6 dX2_takeCastle_28 (fun _ _ hW km hZ => ?_)
      replace hkm := hkm.tr km
      replace k_x0 := km.at k_x0 (by decide)
      refine lv_aload_n C.1 C.2.1 dX2_takeCastle_31 rfl (lv_at hl 1 rfl) ?_
      obtain ⟨o_7, eo_7, hE⟩ := cl_e hE
      refine x_kV (o := o_7) (z_runV (As := []) (rest := []) C (ct_X2_advance l X F k_x0 eo_7) cw_X2_31 hW hZ k_x0 (by decide) rfl rfl rfl hl.1 (Nat.le_of_ble_eq_true rfl) rfl dX2_takeCastle_32 ⟨Nat.le_of_ble_eq_true rfl, Nat.le_of_ble_eq_true rfl⟩ ⟨Nat.le_refl _, Nat.le_refl _⟩) hZ (fun _ _ hW km hZ => ?_)
      replace hkm := hkm.tr km
      replace k_x0 := km.at k_x0 (by decide)
      refine lv_iconst (v := (1 : Int32)) C.1 C.2.1 dX2_takeCastle_35 (by decide) ?_
      exact x_iret C rfl (by decide) hW hZ hkm hE dX2_takeCastle_36
    · have hE := br_p hE c_4
      exact bX2_takeCastle_21 C hkm hW hZ _ (lv_sub hl [] rfl) hE
set_option maxRecDepth 100000 in
theorem m_110 : Cond.fieldLink RX2 146 (TX1 10).1 (TX1 10).2.1 (TX1 10).2.2.1 ∈ W0 := w0_in (List.mem_append_right _ (List.mem_of_getElem? (i := 110) rfl)) rfl
set_option maxRecDepth 100000 in
theorem m_112 : Cond.fieldLink RX2 229 (TX1 11).1 (TX1 11).2.1 (TX1 11).2.2.1 ∈ W0 := w0_in (List.mem_append_right _ (List.mem_of_getElem? (i := 112) rfl)) rfl
section
variable {p : Program} {l : Launch} {e : Env} {R : Room} {s : State} {m : MethodId} {args : Array Value} {below : List Frame} {meth : Method} {c : Code} {H : Heap} {locs : List Loc} {cells slots : Nat} {Q : State → Prop}
variable {cc : ByteArray} {pc : Nat} {ls : Array Slot} {rest : List Value} {X : Ec} {h h1 : Hp} {nL : Nat} {rt : Option FieldType} {mn : String}
theorem gf_X2_229 {a : Nat} (C : Cx X p s m args meth c RX2 cc nL rt mn) (hW : Wx X h H) (ha : hK h a = 1) (hdg : decode cc pc = .ok (.getfield 229, 3)) (kk : W p l e R s m args below meth c H locs cells slots Q (F0 m (pc + 3) ls (.int (hI h a 11) :: rest))) : W p l e R s m args below meth c H locs cells slots Q (F0 m pc ls (.ref a :: rest)) :=
  y_geti C hW ha i_X1 (by decide) rfl (by decide) m_112 rfl hdg kk
theorem pf_X2_229 {a : Nat} {v : Int32} (C : Cx X p s m args meth c RX2 cc nL rt mn) (hW : Wx X h H) (hZ : va_S (aA (eB X)) s.heap H locs) (ha : hK h a = 1) (eh : h1 = wI h a 11 v) (hdg : decode cc pc = .ok (.putfield 229, 3)) (kk : ∀ (H1 : Heap) (locs1 : List Loc), Wx X h1 H1 → Km h h1 → va_S (aA (eB X)) s.heap H1 locs1 → W p l e R s m args below meth c H1 locs1 cells slots Q (F0 m (pc + 3) ls rest)) : W p l e R s m args below meth c H locs cells slots Q (F0 m pc ls (.int v :: .ref a :: rest)) :=
  y_puti (ty := .int) C hW hZ ha i_X1 tyX1 tyX1_ok nmX1 (by decide) rfl rfl (by decide) m_112 rfl (by decide +kernel) rfl rfl rfl eh hdg kk
theorem gf_X2_146 {a : Nat} (C : Cx X p s m args meth c RX2 cc nL rt mn) (hW : Wx X h H) (ha : hK h a = 1) (hdg : decode cc pc = .ok (.getfield 146, 3)) (kk : W p l e R s m args below meth c H locs cells slots Q (F0 m (pc + 3) ls (.int (hI h a 10) :: rest))) : W p l e R s m args below meth c H locs cells slots Q (F0 m pc ls (.ref a :: rest)) :=
  y_geti C hW ha i_X1 (by decide) rfl (by decide) m_110 rfl hdg kk
theorem pf_X2_146 {a : Nat} {v : Int32} (C : Cx X p s m args meth c RX2 cc nL rt mn) (hW : Wx X h H) (hZ : va_S (aA (eB X)) s.heap H locs) (ha : hK h a = 1) (eh : h1 = wI h a 10 v) (hdg : decode cc pc = .ok (.putfield 146, 3)) (kk : ∀ (H1 : Heap) (locs1 : List Loc), Wx X h1 H1 → Km h h1 → va_S (aA (eB X)) s.heap H1 locs1 → W p l e R s m args below meth c H1 locs1 cells slots Q (F0 m (pc + 3) ls rest)) : W p l e R s m args below meth c H locs cells slots Q (F0 m pc ls (.int v :: .ref a :: rest)) :=
  y_puti (ty := .int) C hW hZ ha i_X1 tyX1 tyX1_ok nmX1 (by decide) rfl rfl (by decide) m_110 rfl (by decide +kernel) rfl rfl rfl eh hdg kk
end
theorem dX2_takeBlast_0 : decode cX2_takeBlast 0 = .ok (.aload_n 0, 1) := by decide +kernel
theorem dX2_takeBlast_1 : decode cX2_takeBlast 1 = .ok (.getfield 15, 3) := by decide +kernel
theorem dX2_takeBlast_4 : decode cX2_takeBlast 4 = .ok (.dup, 1) := by decide +kernel
theorem dX2_takeBlast_5 : decode cX2_takeBlast 5 = .ok (.getfield 146, 3) := by decide +kernel
theorem dX2_takeBlast_8 : decode cX2_takeBlast 8 = .ok (.bipush 8, 2) := by decide +kernel
theorem dX2_takeBlast_10 : decode cX2_takeBlast 10 = .ok (.ior, 1) := by decide +kernel
theorem dX2_takeBlast_11 : decode cX2_takeBlast 11 = .ok (.putfield 146, 3) := by decide +kernel
theorem dX2_takeBlast_14 : decode cX2_takeBlast 14 = .ok (.iconst 0, 1) := by decide +kernel
theorem dX2_takeBlast_15 : decode cX2_takeBlast 15 = .ok (.istore_n 1, 1) := by decide +kernel
theorem dX2_takeBlast_16 : decode cX2_takeBlast 16 = .ok (.iload_n 1, 1) := by decide +kernel
theorem dX2_takeBlast_17 : decode cX2_takeBlast 17 = .ok (.bipush 12, 2) := by decide +kernel
theorem dX2_takeBlast_19 : decode cX2_takeBlast 19 = .ok (.if_icmp .ge 62, 3) := by decide +kernel
theorem dX2_takeBlast_22 : decode cX2_takeBlast 22 = .ok (.aload_n 0, 1) := by decide +kernel
theorem dX2_takeBlast_23 : decode cX2_takeBlast 23 = .ok (.getfield 38, 3) := by decide +kernel
theorem dX2_takeBlast_26 : decode cX2_takeBlast 26 = .ok (.iconst 1, 1) := by decide +kernel
theorem dX2_takeBlast_27 : decode cX2_takeBlast 27 = .ok (.if_icmp .ne 54, 3) := by decide +kernel
theorem dX2_takeBlast_30 : decode cX2_takeBlast 30 = .ok (.aload_n 0, 1) := by decide +kernel
theorem dX2_takeBlast_31 : decode cX2_takeBlast 31 = .ok (.invokevirtual 210, 3) := by decide +kernel
theorem dX2_takeBlast_34 : decode cX2_takeBlast 34 = .ok (.istore_n 2, 1) := by decide +kernel
theorem dX2_takeBlast_35 : decode cX2_takeBlast 35 = .ok (.iload_n 2, 1) := by decide +kernel
theorem dX2_takeBlast_36 : decode cX2_takeBlast 36 = .ok (.iconst (-1), 1) := by decide +kernel
theorem dX2_takeBlast_37 : decode cX2_takeBlast 37 = .ok (.if_icmp .eq 17, 3) := by decide +kernel
theorem dX2_takeBlast_40 : decode cX2_takeBlast 40 = .ok (.aload_n 0, 1) := by decide +kernel
theorem dX2_takeBlast_41 : decode cX2_takeBlast 41 = .ok (.getfield 15, 3) := by decide +kernel
theorem dX2_takeBlast_44 : decode cX2_takeBlast 44 = .ok (.getfield 229, 3) := by decide +kernel
theorem dX2_takeBlast_47 : decode cX2_takeBlast 47 = .ok (.iload_n 2, 1) := by decide +kernel
theorem dX2_takeBlast_48 : decode cX2_takeBlast 48 = .ok (.ishr, 1) := by decide +kernel
theorem dX2_takeBlast_49 : decode cX2_takeBlast 49 = .ok (.iconst 1, 1) := by decide +kernel
theorem dX2_takeBlast_50 : decode cX2_takeBlast 50 = .ok (.iand, 1) := by decide +kernel
theorem dX2_takeBlast_51 : decode cX2_takeBlast 51 = .ok (.ifCond .eq 5, 3) := by decide +kernel
theorem dX2_takeBlast_54 : decode cX2_takeBlast 54 = .ok (.iconst 0, 1) := by decide +kernel
theorem dX2_takeBlast_55 : decode cX2_takeBlast 55 = .ok (.ireturn, 1) := by decide +kernel
theorem dX2_takeBlast_56 : decode cX2_takeBlast 56 = .ok (.aload_n 0, 1) := by decide +kernel
theorem dX2_takeBlast_57 : decode cX2_takeBlast 57 = .ok (.getfield 15, 3) := by decide +kernel
theorem dX2_takeBlast_60 : decode cX2_takeBlast 60 = .ok (.dup, 1) := by decide +kernel
theorem dX2_takeBlast_61 : decode cX2_takeBlast 61 = .ok (.getfield 229, 3) := by decide +kernel
theorem dX2_takeBlast_64 : decode cX2_takeBlast 64 = .ok (.iconst 1, 1) := by decide +kernel
theorem dX2_takeBlast_65 : decode cX2_takeBlast 65 = .ok (.iload_n 2, 1) := by decide +kernel
theorem dX2_takeBlast_66 : decode cX2_takeBlast 66 = .ok (.ishl, 1) := by decide +kernel
theorem dX2_takeBlast_67 : decode cX2_takeBlast 67 = .ok (.ior, 1) := by decide +kernel
theorem dX2_takeBlast_68 : decode cX2_takeBlast 68 = .ok (.putfield 229, 3) := by decide +kernel
theorem dX2_takeBlast_71 : decode cX2_takeBlast 71 = .ok (.aload_n 0, 1) := by decide +kernel
theorem dX2_takeBlast_72 : decode cX2_takeBlast 72 = .ok (.invokevirtual 31, 3) := by decide +kernel
theorem dX2_takeBlast_75 : decode cX2_takeBlast 75 = .ok (.iinc 1 1, 3) := by decide +kernel
theorem dX2_takeBlast_78 : decode cX2_takeBlast 78 = .ok (.goto (-62), 3) := by decide +kernel
theorem dX2_takeBlast_81 : decode cX2_takeBlast 81 = .ok (.iconst 1, 1) := by decide +kernel
theorem dX2_takeBlast_82 : decode cX2_takeBlast 82 = .ok (.ireturn, 1) := by decide +kernel
set_option maxRecDepth 20000 in
theorem moX2_takeBlast_81 {o : Int32 × Hp} {F : Nat} {h : Hp} (hE : sX2_takeBlast_81 F h  = some o) : Le h o.2 := by
  exact le_some2 hE
set_option maxRecDepth 20000 in
theorem moX2_takeBlast_54 {o : Int32 × Hp} {F : Nat} {h : Hp} (hE : sX2_takeBlast_54 F h  = some o) : Le h o.2 := by
  exact le_some2 hE
set_option maxRecDepth 20000 in
theorem moX2_takeBlast_16 {o : Int32 × Hp} {F : Nat} : ∀ (f : Nat) {h : Hp} {x0 : Nat} {x1 : Int32}, sX2_takeBlast_16 F f h x0 x1 = some o → Le h o.2 := by
  intro f
  induction f with
  | zero =>
    intro h x0 x1 hE
    rw [sX2_takeBlast_16] at hE
    cases hE
  | succ f ih =>
    intro h x0 x1 hE
    rw [sX2_takeBlast_16] at hE
    have mk_16 : ∀ (h : Hp) (x0 : Nat) (x1 : Int32), sX2_takeBlast_16 F f h x0 x1 = some o → Le h o.2 := fun h x0 x1 hE => ih hE
    rcases br_e hE with ⟨_, hE⟩ | ⟨_, hE⟩
    · exact moX2_takeBlast_81 hE
    · rcases br_e hE with ⟨_, hE⟩ | ⟨_, hE⟩
      · obtain ⟨o_3, eo_3, hE⟩ := cl_e hE
        refine (moX2_toldMan eo_3).tr ?_
        rcases br_e hE with ⟨_, hE⟩ | ⟨_, hE⟩
        · exact moX2_takeBlast_54 hE
        · obtain ⟨r_5, er_5, hE⟩ := cl_e hE
          rcases br_e hE with ⟨_, hE⟩ | ⟨_, hE⟩
          · obtain ⟨r_7, er_7, hE⟩ := cl_e hE
            obtain ⟨h_8, eh_8, hE⟩ := nm_e2 hE
            refine (le_I eh_8).tr ?_
            obtain ⟨o_9, eo_9, hE⟩ := cl_e hE
            refine (moX2_advance eo_9).tr ?_
            obtain ⟨v_10, ev_10, hE⟩ := nm_e2 hE
            exact mk_16 _ _ _ hE
          · exact moX2_takeBlast_54 hE
      · exact moX2_takeBlast_81 hE
set_option maxRecDepth 20000 in
theorem moX2_takeBlast {o : Int32 × Hp} {F : Nat} {h : Hp} {x0 : Nat} (hE : sX2_takeBlast F h x0 = some o) : Le h o.2 := by
  obtain ⟨r_1, er_1, hE⟩ := cl_e hE
  obtain ⟨h_2, eh_2, hE⟩ := nm_e2 hE
  refine (le_I eh_2).tr ?_
  exact moX2_takeBlast_16 _ hE
set_option maxRecDepth 20000 in
theorem bX2_takeBlast_81 {p : Program} {l : Launch} {e : Env} {s : State} {m : MethodId} {args : Array Value} {below : List Frame} {meth : Method} {c : Code} {X : Ec} {h0 : Hp} {o : Int32 × Hp} {F : Nat} (C : Cx X p s m args meth c RX2 cX2_takeBlast 3 (some .boolean) "takeBlast") {h : Hp} {H : Heap} {locs : List Loc} (hkm : Km h0 h) (hW : Wx X h H) (hZ : va_S (aA (eB X)) s.heap H locs) (ls : Array Slot) (hl : lv_has ls 3 []) (hE : sX2_takeBlast_81 F h  = some o) : W p l e (rm 3 63) s m args below meth c H locs 0 0 (MQ below (QI X h0 o.1 o.2) args s 0 0 (aA (eB X))) (F0 m 81 ls []) := by
  refine lv_iconst (v := (1 : Int32)) C.1 C.2.1 dX2_takeBlast_81 (by decide) ?_
  exact x_iret C rfl (by decide) hW hZ hkm hE dX2_takeBlast_82
set_option maxRecDepth 20000 in
theorem bX2_takeBlast_54 {p : Program} {l : Launch} {e : Env} {s : State} {m : MethodId} {args : Array Value} {below : List Frame} {meth : Method} {c : Code} {X : Ec} {h0 : Hp} {o : Int32 × Hp} {F : Nat} (C : Cx X p s m args meth c RX2 cX2_takeBlast 3 (some .boolean) "takeBlast") {h : Hp} {H : Heap} {locs : List Loc} (hkm : Km h0 h) (hW : Wx X h H) (hZ : va_S (aA (eB X)) s.heap H locs) (ls : Array Slot) (hl : lv_has ls 3 []) (hE : sX2_takeBlast_54 F h  = some o) : W p l e (rm 3 63) s m args below meth c H locs 0 0 (MQ below (QI X h0 o.1 o.2) args s 0 0 (aA (eB X))) (F0 m 54 ls []) := by
  refine lv_iconst (v := (0 : Int32)) C.1 C.2.1 dX2_takeBlast_54 (by decide) ?_
  exact x_iret C rfl (by decide) hW hZ hkm hE dX2_takeBlast_55
set_option maxRecDepth 20000 in
theorem bX2_takeBlast_16 {p : Program} {l : Launch} {e : Env} {s : State} {m : MethodId} {args : Array Value} {below : List Frame} {meth : Method} {c : Code} {X : Ec} {h0 : Hp} {o : Int32 × Hp} {F : Nat} (C : Cx X p s m args meth c RX2 cX2_takeBlast 3 (some .boolean) "takeBlast") : ∀ (f : Nat) {h : Hp} {x0 : Nat} {x1 : Int32} {H : Heap} {locs : List Loc} (k_x0 : hK h x0 = 2), Km h0 h → Wx X h H → va_S (aA (eB X)) s.heap H locs → ∀ (ls : Array Slot), lv_has ls 3 [(0, .ref x0), (1, .int x1)] → sX2_takeBlast_16 F f h x0 x1 = some o → W p l e (rm 3 63) s m args below meth c H locs 0 0 (MQ below (QI X h0 o.1 o.2) args s 0 0 (aA (eB X))) (F0 m 16 ls []) := by
  intro f
  induction f with
  | zero =>
    intro h x0 x1 H locs k_x0 hkm hW hZ ls hl hE
    rw [sX2_takeBlast_16] at hE
    cases hE
  | succ f ih =>
    intro h x0 x1 H locs k_x0 hkm hW hZ ls hl hE
    rw [sX2_takeBlast_16] at hE
    have hk_16 : ∀ (h : Hp) (x0 : Nat) (x1 : Int32) (H : Heap) (locs : List Loc), hK h x0 = 2 → Km h0 h → Wx X h H → va_S (aA (eB X)) s.heap H locs → ∀ (ls : Array Slot), lv_has ls 3 [(0, .ref x0), (1, .int x1)] → sX2_takeBlast_16 F f h x0 x1 = some o → W p l e (rm 3 63) s m args below meth c H locs 0 0 (MQ below (QI X h0 o.1 o.2) args s 0 0 (aA (eB X))) (F0 m 16 ls []) := fun h x0 x1 H locs k_x0 a b c ls hl hE => ih k_x0 a b c ls hl hE
    refine lv_iload_n C.1 C.2.1 dX2_takeBlast_16 rfl (lv_at hl 1 rfl) ?_
    refine lv_bipush (v := (12 : Int32)) C.1 C.2.1 dX2_takeBlast_17 (by decide) ?_
    refine lv_icmp_ge (tgt := 81) C.1 C.2.1 dX2_takeBlast_19 (by decide) (fun c_1 => ?_) (fun c_1 => ?_)
    · have hE := br_p hE c_1
      exact bX2_takeBlast_81 C hkm hW hZ _ (lv_sub hl [] rfl) hE
    · have hE := br_n hE c_1
      refine lv_aload_n C.1 C.2.1 dX2_takeBlast_22 rfl (lv_at hl 0 rfl) ?_
      refine gf_X2_38 C hW k_x0 dX2_takeBlast_23 ?_
      refine lv_iconst (v := (1 : Int32)) C.1 C.2.1 dX2_takeBlast_26 (by decide) ?_
      refine lv_icmp_ne (tgt := 81) C.1 C.2.1 dX2_takeBlast_27 (by decide) (fun c_2 => ?_) (fun c_2 => ?_)
      · have hE := br_n hE c_2
        exact bX2_takeBlast_81 C hkm hW hZ _ (lv_sub hl [] rfl) hE
      · have hE := br_p hE c_2
        refine lv_aload_n C.1 C.2.1 dX2_takeBlast_30 rfl (lv_at hl 0 rfl) ?_
        obtain ⟨o_3, eo_3, hE⟩ := cl_e hE
        refine x_kI (o := o_3) (z_runV (As := []) (rest := []) C (ct_X2_toldMan l X F k_x0 eo_3) cw_X2_210 hW hZ k_x0 (by decide) rfl rfl rfl hl.1 (Nat.le_of_ble_eq_true rfl) rfl dX2_takeBlast_31 ⟨Nat.le_of_ble_eq_true rfl, Nat.le_of_ble_eq_true rfl⟩ ⟨Nat.le_refl _, Nat.le_refl _⟩) hZ (fun _ _ hW km hZ => ?_)
        replace hkm := hkm.tr km
        replace k_x0 := km.at k_x0 (by decide)
        refine lv_istore_n (lv' := [(2, .int o_3.1), (0, .ref x0), (1, .int x1)]) C.1 C.2.1 dX2_takeBlast_34 rfl hl (by decide) rfl (fun ls hl => ?_)
        refine lv_iload_n C.1 C.2.1 dX2_takeBlast_35 rfl (lv_at hl 0 rfl) ?_
        refine lv_iconst (v := (-1 : Int32)) C.1 C.2.1 dX2_takeBlast_36 (by decide) ?_
        refine lv_icmp_eq (tgt := 54) C.1 C.2.1 dX2_takeBlast_37 (by decide) (fun c_4 => ?_) (fun c_4 => ?_)
        · have hE := br_p hE c_4
          exact bX2_takeBlast_54 C hkm hW hZ _ (lv_sub hl [] rfl) hE
        · have hE := br_n hE c_4
          refine lv_aload_n C.1 C.2.1 dX2_takeBlast_40 rfl (lv_at hl 1 rfl) ?_
          obtain ⟨r_5, er_5, hE⟩ := cl_e hE
          refine gf_X2_15 C hW k_x0 er_5 dX2_takeBlast_41 (fun k_r_5 => ?_)
          refine gf_X2_229 C hW k_r_5 dX2_takeBlast_44 ?_
          refine lv_iload_n C.1 C.2.1 dX2_takeBlast_47 rfl (lv_at hl 0 rfl) ?_
          refine lv_ishr C.1 C.2.1 dX2_takeBlast_48 ?_
          refine lv_iconst (v := (1 : Int32)) C.1 C.2.1 dX2_takeBlast_49 (by decide) ?_
          refine lv_iand C.1 C.2.1 dX2_takeBlast_50 ?_
          refine lv_if_eq (tgt := 56) C.1 C.2.1 dX2_takeBlast_51 (by decide) (fun c_6 => ?_) (fun c_6 => ?_)
          · have hE := br_p hE c_6
            refine lv_aload_n C.1 C.2.1 dX2_takeBlast_56 rfl (lv_at hl 1 rfl) ?_
            obtain ⟨r_7, er_7, hE⟩ := cl_e hE
            refine gf_X2_15 C hW k_x0 er_7 dX2_takeBlast_57 (fun k_r_7 => ?_)
            refine lv_dup C.1 C.2.1 dX2_takeBlast_60 rfl ?_
            refine gf_X2_229 C hW k_r_7 dX2_takeBlast_61 ?_
            refine lv_iconst (v := (1 : Int32)) C.1 C.2.1 dX2_takeBlast_64 (by decide) ?_
            refine lv_iload_n C.1 C.2.1 dX2_takeBlast_65 rfl (lv_at hl 0 rfl) ?_
            refine lv_ishl C.1 C.2.1 dX2_takeBlast_66 ?_
            refine lv_ior C.1 C.2.1 dX2_takeBlast_67 ?_
            obtain ⟨h_8, eh_8, hE⟩ := nm_e2 hE
            refine pf_X2_229 C hW hZ k_r_7 eh_8 dX2_takeBlast_68 (fun _ _ hW km hZ => ?_)
            replace hkm := hkm.tr km
            replace k_x0 := km.at k_x0 (by decide)
            refine lv_aload_n C.1 C.2.1 dX2_takeBlast_71 rfl (lv_at hl 1 rfl) ?_
            obtain ⟨o_9, eo_9, hE⟩ := cl_e hE
            refine x_kV (o := o_9) (z_runV (As := []) (rest := []) C (ct_X2_advance l X F k_x0 eo_9) cw_X2_31 hW hZ k_x0 (by decide) rfl rfl rfl hl.1 (Nat.le_of_ble_eq_true rfl) rfl dX2_takeBlast_72 ⟨Nat.le_of_ble_eq_true rfl, Nat.le_of_ble_eq_true rfl⟩ ⟨Nat.le_refl _, Nat.le_refl _⟩) hZ (fun _ _ hW km hZ => ?_)
            replace hkm := hkm.tr km
            replace k_x0 := km.at k_x0 (by decide)
            obtain ⟨v_10, ev_10, hE⟩ := nm_e2 hE
            refine lv_iinc (v := v_10) (lv' := [(1, .int v_10), (2, .int o_3.1), (0, .ref x0)]) C.1 C.2.1 dX2_takeBlast_75 hl (k := 2) rfl (by rw [ev_10]; rfl) (by decide) rfl (fun ls hl => ?_)
            refine lv_goto (tgt := 16) C.1 C.2.1 dX2_takeBlast_78 (by decide) ?_
            exact hk_16 _ _ _ _ _ k_x0 hkm hW hZ _ (lv_sub hl [2, 0] rfl) hE
          · have hE := br_n hE c_6
            exact bX2_takeBlast_54 C hkm hW hZ _ (lv_sub hl [] rfl) hE
set_option maxRecDepth 20000 in
theorem ct_X2_takeBlast (l : Launch) (X : Ec) (F : Nat) {h : Hp} {x0 : Nat} {o : Int32 × Hp} (k_x0 : hK h x0 = 2) (hE : sX2_takeBlast F h x0 = some o) : MetI l yX2_takeBlast cX2_takeBlast 3 (some .boolean) 3 63 X [.ref x0] h o := by
  refine x_met (by decide) (Nat.le_of_ble_eq_true rfl) ?_
  intro p e s m below meth c ls C hl hW hZ
  have hl : lv_has ls 3 [(0, .ref x0)] := hl
  have hkm : Km h h := Km.rf h
  refine lv_aload_n C.1 C.2.1 dX2_takeBlast_0 rfl (lv_at hl 0 rfl) ?_
  obtain ⟨r_1, er_1, hE⟩ := cl_e hE
  refine gf_X2_15 C hW k_x0 er_1 dX2_takeBlast_1 (fun k_r_1 => ?_)
  refine lv_dup C.1 C.2.1 dX2_takeBlast_4 rfl ?_
  refine gf_X2_146 C hW k_r_1 dX2_takeBlast_5 ?_
  refine lv_bipush (v := (8 : Int32)) C.1 C.2.1 dX2_takeBlast_8 (by decide) ?_
  refine lv_ior C.1 C.2.1 dX2_takeBlast_10 ?_
  obtain ⟨h_2, eh_2, hE⟩ := nm_e2 hE
  refine pf_X2_146 C hW hZ k_r_1 eh_2 dX2_takeBlast_11 (fun _ _ hW km hZ => ?_)
  replace hkm := hkm.tr km
  replace k_x0 := km.at k_x0 (by decide)
  refine lv_iconst (v := (0 : Int32)) C.1 C.2.1 dX2_takeBlast_14 (by decide) ?_
  refine lv_istore_n (lv' := [(1, .int (0 : Int32)), (0, .ref x0)]) C.1 C.2.1 dX2_takeBlast_15 rfl hl (by decide) rfl (fun ls hl => ?_)
  exact bX2_takeBlast_16 C F k_x0 hkm hW hZ _ (lv_sub hl [1, 0] rfl) hE
set_option maxRecDepth 100000 in
theorem m_101 : Cond.fieldLink RX2 232 (TX1 7).1 (TX1 7).2.1 (TX1 7).2.2.1 ∈ W0 := w0_in (List.mem_append_right _ (List.mem_of_getElem? (i := 101) rfl)) rfl
section
variable {p : Program} {l : Launch} {e : Env} {R : Room} {s : State} {m : MethodId} {args : Array Value} {below : List Frame} {meth : Method} {c : Code} {H : Heap} {locs : List Loc} {cells slots : Nat} {Q : State → Prop}
variable {cc : ByteArray} {pc : Nat} {ls : Array Slot} {rest : List Value} {X : Ec} {h h1 : Hp} {nL : Nat} {rt : Option FieldType} {mn : String}
theorem pf_X2_232 {a : Nat} {v : Int32} (C : Cx X p s m args meth c RX2 cc nL rt mn) (hW : Wx X h H) (hZ : va_S (aA (eB X)) s.heap H locs) (ha : hK h a = 1) (eh : h1 = wI h a 7 v) (hdg : decode cc pc = .ok (.putfield 232, 3)) (kk : ∀ (H1 : Heap) (locs1 : List Loc), Wx X h1 H1 → Km h h1 → va_S (aA (eB X)) s.heap H1 locs1 → W p l e R s m args below meth c H1 locs1 cells slots Q (F0 m (pc + 3) ls rest)) : W p l e R s m args below meth c H locs cells slots Q (F0 m pc ls (.int v :: .ref a :: rest)) :=
  y_puti (ty := .int) C hW hZ ha i_X1 tyX1 tyX1_ok nmX1 (by decide) rfl rfl (by decide) m_101 rfl (by decide +kernel) rfl rfl rfl eh hdg kk
end
theorem dX2_takeChecks_0 : decode cX2_takeChecks 0 = .ok (.aload_n 0, 1) := by decide +kernel
theorem dX2_takeChecks_1 : decode cX2_takeChecks 1 = .ok (.iconst 1, 1) := by decide +kernel
theorem dX2_takeChecks_2 : decode cX2_takeChecks 2 = .ok (.bipush 9, 2) := by decide +kernel
theorem dX2_takeChecks_4 : decode cX2_takeChecks 4 = .ok (.invokevirtual 104, 3) := by decide +kernel
theorem dX2_takeChecks_7 : decode cX2_takeChecks 7 = .ok (.ifCond .ne 5, 3) := by decide +kernel
theorem dX2_takeChecks_10 : decode cX2_takeChecks 10 = .ok (.iconst 0, 1) := by decide +kernel
theorem dX2_takeChecks_11 : decode cX2_takeChecks 11 = .ok (.ireturn, 1) := by decide +kernel
theorem dX2_takeChecks_12 : decode cX2_takeChecks 12 = .ok (.aload_n 0, 1) := by decide +kernel
theorem dX2_takeChecks_13 : decode cX2_takeChecks 13 = .ok (.getfield 15, 3) := by decide +kernel
theorem dX2_takeChecks_16 : decode cX2_takeChecks 16 = .ok (.aload_n 0, 1) := by decide +kernel
theorem dX2_takeChecks_17 : decode cX2_takeChecks 17 = .ok (.getfield 84, 3) := by decide +kernel
theorem dX2_takeChecks_20 : decode cX2_takeChecks 20 = .ok (.putfield 232, 3) := by decide +kernel
theorem dX2_takeChecks_23 : decode cX2_takeChecks 23 = .ok (.aload_n 0, 1) := by decide +kernel
theorem dX2_takeChecks_24 : decode cX2_takeChecks 24 = .ok (.invokevirtual 31, 3) := by decide +kernel
theorem dX2_takeChecks_27 : decode cX2_takeChecks 27 = .ok (.iconst 1, 1) := by decide +kernel
theorem dX2_takeChecks_28 : decode cX2_takeChecks 28 = .ok (.ireturn, 1) := by decide +kernel
set_option maxRecDepth 20000 in
theorem moX2_takeChecks {o : Int32 × Hp} {F : Nat} {h : Hp} {x0 : Nat} (hE : sX2_takeChecks F h x0 = some o) : Le h o.2 := by
  obtain ⟨o_1, eo_1, hE⟩ := cl_e hE
  refine (moX2_isNumber eo_1).tr ?_
  rcases br_e hE with ⟨_, hE⟩ | ⟨_, hE⟩
  · exact le_some2 hE
  · obtain ⟨r_3, er_3, hE⟩ := cl_e hE
    obtain ⟨h_4, eh_4, hE⟩ := nm_e2 hE
    refine (le_I eh_4).tr ?_
    obtain ⟨o_5, eo_5, hE⟩ := cl_e hE
    refine (moX2_advance eo_5).tr ?_
    exact le_some2 hE
set_option maxRecDepth 20000 in
theorem ct_X2_takeChecks (l : Launch) (X : Ec) (F : Nat) {h : Hp} {x0 : Nat} {o : Int32 × Hp} (k_x0 : hK h x0 = 2) (hE : sX2_takeChecks F h x0 = some o) : MetI l yX2_takeChecks cX2_takeChecks 1 (some .boolean) 3 63 X [.ref x0] h o := by
  refine x_met (by decide) (Nat.le_of_ble_eq_true rfl) ?_
  intro p e s m below meth c ls C hl hW hZ
  have hl : lv_has ls 1 [(0, .ref x0)] := hl
  have hkm : Km h h := Km.rf h
  refine lv_aload_n C.1 C.2.1 dX2_takeChecks_0 rfl (lv_at hl 0 rfl) ?_
  refine lv_iconst (v := (1 : Int32)) C.1 C.2.1 dX2_takeChecks_1 (by decide) ?_
  refine lv_bipush (v := (9 : Int32)) C.1 C.2.1 dX2_takeChecks_2 (by decide) ?_
  obtain ⟨o_1, eo_1, hE⟩ := cl_e hE
  refine x_kI (o := o_1) (z_runV (As := [.int (1 : Int32), .int (9 : Int32)]) (rest := []) C (ct_X2_isNumber l X k_x0 eo_1) cw_X2_104 hW hZ k_x0 (by decide) rfl rfl rfl hl.1 (Nat.le_of_ble_eq_true rfl) rfl dX2_takeChecks_4 ⟨Nat.le_of_ble_eq_true rfl, Nat.le_of_ble_eq_true rfl⟩ ⟨Nat.le_refl _, Nat.le_refl _⟩) hZ (fun _ _ hW km hZ => ?_)
  replace hkm := hkm.tr km
  replace k_x0 := km.at k_x0 (by decide)
  refine lv_if_ne (tgt := 12) C.1 C.2.1 dX2_takeChecks_7 (by decide) (fun c_2 => ?_) (fun c_2 => ?_)
  · have hE := br_n hE c_2
    refine lv_aload_n C.1 C.2.1 dX2_takeChecks_12 rfl (lv_at hl 0 rfl) ?_
    obtain ⟨r_3, er_3, hE⟩ := cl_e hE
    refine gf_X2_15 C hW k_x0 er_3 dX2_takeChecks_13 (fun k_r_3 => ?_)
    refine lv_aload_n C.1 C.2.1 dX2_takeChecks_16 rfl (lv_at hl 0 rfl) ?_
    refine gf_X2_84 C hW k_x0 dX2_takeChecks_17 ?_
    obtain ⟨h_4, eh_4, hE⟩ := nm_e2 hE
    refine pf_X2_232 C hW hZ k_r_3 eh_4 dX2_takeChecks_20 (fun _ _ hW km hZ => ?_)
    replace hkm := hkm.tr km
    replace k_x0 := km.at k_x0 (by decide)
    refine lv_aload_n C.1 C.2.1 dX2_takeChecks_23 rfl (lv_at hl 0 rfl) ?_
    obtain ⟨o_5, eo_5, hE⟩ := cl_e hE
    refine x_kV (o := o_5) (z_runV (As := []) (rest := []) C (ct_X2_advance l X F k_x0 eo_5) cw_X2_31 hW hZ k_x0 (by decide) rfl rfl rfl hl.1 (Nat.le_of_ble_eq_true rfl) rfl dX2_takeChecks_24 ⟨Nat.le_of_ble_eq_true rfl, Nat.le_of_ble_eq_true rfl⟩ ⟨Nat.le_refl _, Nat.le_refl _⟩) hZ (fun _ _ hW km hZ => ?_)
    replace hkm := hkm.tr km
    replace k_x0 := km.at k_x0 (by decide)
    refine lv_iconst (v := (1 : Int32)) C.1 C.2.1 dX2_takeChecks_27 (by decide) ?_
    exact x_iret C rfl (by decide) hW hZ hkm hE dX2_takeChecks_28
  · have hE := br_p hE c_2
    refine lv_iconst (v := (0 : Int32)) C.1 C.2.1 dX2_takeChecks_10 (by decide) ?_
    exact x_iret C rfl (by decide) hW hZ hkm hE dX2_takeChecks_11
set_option maxRecDepth 100000 in
theorem m_66 : Cond.fieldLink RX2 234 (TX1 0).1 (TX1 0).2.1 (TX1 0).2.2.1 ∈ W0 := w0_in (List.mem_append_right _ (List.mem_of_getElem? (i := 66) rfl)) rfl
set_option maxRecDepth 100000 in
theorem m_117 : Cond.fieldLink RX2 237 (TX1 13).1 (TX1 13).2.1 (TX1 13).2.2.1 ∈ W0 := w0_in (List.mem_append_right _ (List.mem_of_getElem? (i := 117) rfl)) rfl
section
variable {p : Program} {l : Launch} {e : Env} {R : Room} {s : State} {m : MethodId} {args : Array Value} {below : List Frame} {meth : Method} {c : Code} {H : Heap} {locs : List Loc} {cells slots : Nat} {Q : State → Prop}
variable {cc : ByteArray} {pc : Nat} {ls : Array Slot} {rest : List Value} {X : Ec} {h h1 : Hp} {nL : Nat} {rt : Option FieldType} {mn : String}
theorem gf_X2_234 {a : Nat} (C : Cx X p s m args meth c RX2 cc nL rt mn) (hW : Wx X h H) (ha : hK h a = 1) (hdg : decode cc pc = .ok (.getfield 234, 3)) (kk : W p l e R s m args below meth c H locs cells slots Q (F0 m (pc + 3) ls (.int (hI h a 0) :: rest))) : W p l e R s m args below meth c H locs cells slots Q (F0 m pc ls (.ref a :: rest)) :=
  y_geti C hW ha i_X1 (by decide) rfl (by decide) m_66 rfl hdg kk
theorem gf_X2_237 {a : Nat} (C : Cx X p s m args meth c RX2 cc nL rt mn) (hW : Wx X h H) (ha : hK h a = 1) (hdg : decode cc pc = .ok (.getfield 237, 3)) (kk : W p l e R s m args below meth c H locs cells slots Q (F0 m (pc + 3) ls (.long (hJ h a 13) :: rest))) : W p l e R s m args below meth c H locs cells slots Q (F0 m pc ls (.ref a :: rest)) :=
  y_getj C hW ha i_X1 (by decide) rfl (by decide) m_117 rfl hdg kk
theorem pf_X2_237 {a : Nat} {v : Int64} (C : Cx X p s m args meth c RX2 cc nL rt mn) (hW : Wx X h H) (hZ : va_S (aA (eB X)) s.heap H locs) (ha : hK h a = 1) (eh : h1 = wJ h a 13 v) (hdg : decode cc pc = .ok (.putfield 237, 3)) (kk : ∀ (H1 : Heap) (locs1 : List Loc), Wx X h1 H1 → Km h h1 → va_S (aA (eB X)) s.heap H1 locs1 → W p l e R s m args below meth c H1 locs1 cells slots Q (F0 m (pc + 3) ls rest)) : W p l e R s m args below meth c H locs cells slots Q (F0 m pc ls (.long v :: .ref a :: rest)) :=
  y_putj C hW hZ ha i_X1 tyX1 tyX1_ok nmX1 (by decide) rfl rfl (by decide) m_117 rfl (by decide +kernel) rfl eh hdg kk
end
theorem dX2_takeHill_0 : decode cX2_takeHill 0 = .ok (.iconst 0, 1) := by decide +kernel
theorem dX2_takeHill_1 : decode cX2_takeHill 1 = .ok (.istore_n 1, 1) := by decide +kernel
theorem dX2_takeHill_2 : decode cX2_takeHill 2 = .ok (.iload_n 1, 1) := by decide +kernel
theorem dX2_takeHill_3 : decode cX2_takeHill 3 = .ok (.bipush 64, 2) := by decide +kernel
theorem dX2_takeHill_5 : decode cX2_takeHill 5 = .ok (.if_icmp .gt 123, 3) := by decide +kernel
theorem dX2_takeHill_8 : decode cX2_takeHill 8 = .ok (.iload_n 1, 1) := by decide +kernel
theorem dX2_takeHill_9 : decode cX2_takeHill 9 = .ok (.ifCond .eq 11, 3) := by decide +kernel
theorem dX2_takeHill_12 : decode cX2_takeHill 12 = .ok (.aload_n 0, 1) := by decide +kernel
theorem dX2_takeHill_13 : decode cX2_takeHill 13 = .ok (.getfield 38, 3) := by decide +kernel
theorem dX2_takeHill_16 : decode cX2_takeHill 16 = .ok (.iconst 1, 1) := by decide +kernel
theorem dX2_takeHill_17 : decode cX2_takeHill 17 = .ok (.if_icmp .ne 111, 3) := by decide +kernel
theorem dX2_takeHill_20 : decode cX2_takeHill 20 = .ok (.aload_n 0, 1) := by decide +kernel
theorem dX2_takeHill_21 : decode cX2_takeHill 21 = .ok (.invokevirtual 96, 3) := by decide +kernel
theorem dX2_takeHill_24 : decode cX2_takeHill 24 = .ok (.istore_n 2, 1) := by decide +kernel
theorem dX2_takeHill_25 : decode cX2_takeHill 25 = .ok (.iload_n 2, 1) := by decide +kernel
theorem dX2_takeHill_26 : decode cX2_takeHill 26 = .ok (.iconst (-1), 1) := by decide +kernel
theorem dX2_takeHill_27 : decode cX2_takeHill 27 = .ok (.if_icmp .eq 17, 3) := by decide +kernel
theorem dX2_takeHill_30 : decode cX2_takeHill 30 = .ok (.iload_n 2, 1) := by decide +kernel
theorem dX2_takeHill_31 : decode cX2_takeHill 31 = .ok (.bipush 97, 2) := by decide +kernel
theorem dX2_takeHill_33 : decode cX2_takeHill 33 = .ok (.isub, 1) := by decide +kernel
theorem dX2_takeHill_34 : decode cX2_takeHill 34 = .ok (.aload_n 0, 1) := by decide +kernel
theorem dX2_takeHill_35 : decode cX2_takeHill 35 = .ok (.getfield 15, 3) := by decide +kernel
theorem dX2_takeHill_38 : decode cX2_takeHill 38 = .ok (.getfield 234, 3) := by decide +kernel
theorem dX2_takeHill_41 : decode cX2_takeHill 41 = .ok (.if_icmp .lt 5, 3) := by decide +kernel
theorem dX2_takeHill_44 : decode cX2_takeHill 44 = .ok (.iconst 0, 1) := by decide +kernel
theorem dX2_takeHill_45 : decode cX2_takeHill 45 = .ok (.ireturn, 1) := by decide +kernel
theorem dX2_takeHill_46 : decode cX2_takeHill 46 = .ok (.aload_n 0, 1) := by decide +kernel
theorem dX2_takeHill_47 : decode cX2_takeHill 47 = .ok (.invokevirtual 31, 3) := by decide +kernel
theorem dX2_takeHill_50 : decode cX2_takeHill 50 = .ok (.aload_n 0, 1) := by decide +kernel
theorem dX2_takeHill_51 : decode cX2_takeHill 51 = .ok (.iconst 1, 1) := by decide +kernel
theorem dX2_takeHill_52 : decode cX2_takeHill 52 = .ok (.aload_n 0, 1) := by decide +kernel
theorem dX2_takeHill_53 : decode cX2_takeHill 53 = .ok (.getfield 15, 3) := by decide +kernel
theorem dX2_takeHill_56 : decode cX2_takeHill 56 = .ok (.getfield 189, 3) := by decide +kernel
theorem dX2_takeHill_59 : decode cX2_takeHill 59 = .ok (.invokevirtual 104, 3) := by decide +kernel
theorem dX2_takeHill_62 : decode cX2_takeHill 62 = .ok (.ifCond .ne 5, 3) := by decide +kernel
theorem dX2_takeHill_65 : decode cX2_takeHill 65 = .ok (.iconst 0, 1) := by decide +kernel
theorem dX2_takeHill_66 : decode cX2_takeHill 66 = .ok (.ireturn, 1) := by decide +kernel
theorem dX2_takeHill_67 : decode cX2_takeHill 67 = .ok (.lconst 1, 1) := by decide +kernel
theorem dX2_takeHill_68 : decode cX2_takeHill 68 = .ok (.aload_n 0, 1) := by decide +kernel
theorem dX2_takeHill_69 : decode cX2_takeHill 69 = .ok (.getfield 84, 3) := by decide +kernel
theorem dX2_takeHill_72 : decode cX2_takeHill 72 = .ok (.iconst 1, 1) := by decide +kernel
theorem dX2_takeHill_73 : decode cX2_takeHill 73 = .ok (.isub, 1) := by decide +kernel
theorem dX2_takeHill_74 : decode cX2_takeHill 74 = .ok (.aload_n 0, 1) := by decide +kernel
theorem dX2_takeHill_75 : decode cX2_takeHill 75 = .ok (.getfield 15, 3) := by decide +kernel
theorem dX2_takeHill_78 : decode cX2_takeHill 78 = .ok (.getfield 234, 3) := by decide +kernel
theorem dX2_takeHill_81 : decode cX2_takeHill 81 = .ok (.imul, 1) := by decide +kernel
theorem dX2_takeHill_82 : decode cX2_takeHill 82 = .ok (.iload_n 2, 1) := by decide +kernel
theorem dX2_takeHill_83 : decode cX2_takeHill 83 = .ok (.iadd, 1) := by decide +kernel
theorem dX2_takeHill_84 : decode cX2_takeHill 84 = .ok (.bipush 97, 2) := by decide +kernel
theorem dX2_takeHill_86 : decode cX2_takeHill 86 = .ok (.isub, 1) := by decide +kernel
theorem dX2_takeHill_87 : decode cX2_takeHill 87 = .ok (.lshl, 1) := by decide +kernel
theorem dX2_takeHill_88 : decode cX2_takeHill 88 = .ok (.lstore_n 3, 1) := by decide +kernel
theorem dX2_takeHill_89 : decode cX2_takeHill 89 = .ok (.aload_n 0, 1) := by decide +kernel
theorem dX2_takeHill_90 : decode cX2_takeHill 90 = .ok (.getfield 15, 3) := by decide +kernel
theorem dX2_takeHill_93 : decode cX2_takeHill 93 = .ok (.getfield 237, 3) := by decide +kernel
theorem dX2_takeHill_96 : decode cX2_takeHill 96 = .ok (.lload_n 3, 1) := by decide +kernel
theorem dX2_takeHill_97 : decode cX2_takeHill 97 = .ok (.land, 1) := by decide +kernel
theorem dX2_takeHill_98 : decode cX2_takeHill 98 = .ok (.lconst 0, 1) := by decide +kernel
theorem dX2_takeHill_99 : decode cX2_takeHill 99 = .ok (.lcmp, 1) := by decide +kernel
theorem dX2_takeHill_100 : decode cX2_takeHill 100 = .ok (.ifCond .eq 5, 3) := by decide +kernel
theorem dX2_takeHill_103 : decode cX2_takeHill 103 = .ok (.iconst 0, 1) := by decide +kernel
theorem dX2_takeHill_104 : decode cX2_takeHill 104 = .ok (.ireturn, 1) := by decide +kernel
theorem dX2_takeHill_105 : decode cX2_takeHill 105 = .ok (.aload_n 0, 1) := by decide +kernel
theorem dX2_takeHill_106 : decode cX2_takeHill 106 = .ok (.getfield 15, 3) := by decide +kernel
theorem dX2_takeHill_109 : decode cX2_takeHill 109 = .ok (.dup, 1) := by decide +kernel
theorem dX2_takeHill_110 : decode cX2_takeHill 110 = .ok (.getfield 237, 3) := by decide +kernel
theorem dX2_takeHill_113 : decode cX2_takeHill 113 = .ok (.lload_n 3, 1) := by decide +kernel
theorem dX2_takeHill_114 : decode cX2_takeHill 114 = .ok (.lor, 1) := by decide +kernel
theorem dX2_takeHill_115 : decode cX2_takeHill 115 = .ok (.putfield 237, 3) := by decide +kernel
theorem dX2_takeHill_118 : decode cX2_takeHill 118 = .ok (.aload_n 0, 1) := by decide +kernel
theorem dX2_takeHill_119 : decode cX2_takeHill 119 = .ok (.invokevirtual 31, 3) := by decide +kernel
theorem dX2_takeHill_122 : decode cX2_takeHill 122 = .ok (.iinc 1 1, 3) := by decide +kernel
theorem dX2_takeHill_125 : decode cX2_takeHill 125 = .ok (.goto (-123), 3) := by decide +kernel
theorem dX2_takeHill_128 : decode cX2_takeHill 128 = .ok (.iconst 1, 1) := by decide +kernel
theorem dX2_takeHill_129 : decode cX2_takeHill 129 = .ok (.ireturn, 1) := by decide +kernel
set_option maxRecDepth 20000 in
theorem moX2_takeHill_128 {o : Int32 × Hp} {F : Nat} {h : Hp} (hE : sX2_takeHill_128 F h  = some o) : Le h o.2 := by
  exact le_some2 hE
set_option maxRecDepth 20000 in
theorem moX2_takeHill_44 {o : Int32 × Hp} {F : Nat} {h : Hp} (hE : sX2_takeHill_44 F h  = some o) : Le h o.2 := by
  exact le_some2 hE
set_option maxRecDepth 20000 in
theorem moX2_takeHill_20 {o : Int32 × Hp} {k_2 : Hp → Nat → Int32 → Option (Int32 × Hp)} {F : Nat} (mk_2 : ∀ (h : Hp) (x0 : Nat) (x1 : Int32), k_2 h x0 x1 = some o → Le h o.2) {h : Hp} {x0 : Nat} {x1 : Int32} (hE : sX2_takeHill_20 F k_2 h x0 x1 = some o) : Le h o.2 := by
  obtain ⟨o_1, eo_1, hE⟩ := cl_e hE
  refine (moX2_oneLetter eo_1).tr ?_
  rcases br_e hE with ⟨_, hE⟩ | ⟨_, hE⟩
  · exact moX2_takeHill_44 hE
  · obtain ⟨r_3, er_3, hE⟩ := cl_e hE
    rcases br_e hE with ⟨_, hE⟩ | ⟨_, hE⟩
    · obtain ⟨o_5, eo_5, hE⟩ := cl_e hE
      refine (moX2_advance eo_5).tr ?_
      obtain ⟨r_6, er_6, hE⟩ := cl_e hE
      obtain ⟨o_7, eo_7, hE⟩ := cl_e hE
      refine (moX2_isNumber eo_7).tr ?_
      rcases br_e hE with ⟨_, hE⟩ | ⟨_, hE⟩
      · exact le_some2 hE
      · obtain ⟨r_9, er_9, hE⟩ := cl_e hE
        obtain ⟨v_10, ev_10, hE⟩ := nm_e2 hE
        obtain ⟨r_11, er_11, hE⟩ := cl_e hE
        rcases br_e hE with ⟨_, hE⟩ | ⟨_, hE⟩
        · obtain ⟨r_13, er_13, hE⟩ := cl_e hE
          obtain ⟨h_14, eh_14, hE⟩ := nm_e2 hE
          refine (le_J eh_14).tr ?_
          obtain ⟨o_15, eo_15, hE⟩ := cl_e hE
          refine (moX2_advance eo_15).tr ?_
          obtain ⟨v_16, ev_16, hE⟩ := nm_e2 hE
          exact mk_2 _ _ _ hE
        · exact le_some2 hE
    · exact moX2_takeHill_44 hE
set_option maxRecDepth 20000 in
theorem moX2_takeHill_2 {o : Int32 × Hp} {F : Nat} : ∀ (f : Nat) {h : Hp} {x0 : Nat} {x1 : Int32}, sX2_takeHill_2 F f h x0 x1 = some o → Le h o.2 := by
  intro f
  induction f with
  | zero =>
    intro h x0 x1 hE
    rw [sX2_takeHill_2] at hE
    cases hE
  | succ f ih =>
    intro h x0 x1 hE
    rw [sX2_takeHill_2] at hE
    have mk_2 : ∀ (h : Hp) (x0 : Nat) (x1 : Int32), sX2_takeHill_2 F f h x0 x1 = some o → Le h o.2 := fun h x0 x1 hE => ih hE
    rcases br_e hE with ⟨_, hE⟩ | ⟨_, hE⟩
    · exact moX2_takeHill_128 hE
    · rcases br_e hE with ⟨_, hE⟩ | ⟨_, hE⟩
      · exact moX2_takeHill_20 mk_2 hE
      · rcases br_e hE with ⟨_, hE⟩ | ⟨_, hE⟩
        · exact moX2_takeHill_20 mk_2 hE
        · exact moX2_takeHill_128 hE
set_option maxRecDepth 20000 in
theorem moX2_takeHill {o : Int32 × Hp} {F : Nat} {h : Hp} {x0 : Nat} (hE : sX2_takeHill F h x0 = some o) : Le h o.2 := by
  exact moX2_takeHill_2 _ hE
set_option maxRecDepth 20000 in
theorem bX2_takeHill_128 {p : Program} {l : Launch} {e : Env} {s : State} {m : MethodId} {args : Array Value} {below : List Frame} {meth : Method} {c : Code} {X : Ec} {h0 : Hp} {o : Int32 × Hp} {F : Nat} (C : Cx X p s m args meth c RX2 cX2_takeHill 5 (some .boolean) "takeHill") {h : Hp} {H : Heap} {locs : List Loc} (hkm : Km h0 h) (hW : Wx X h H) (hZ : va_S (aA (eB X)) s.heap H locs) (ls : Array Slot) (hl : lv_has ls 5 []) (hE : sX2_takeHill_128 F h  = some o) : W p l e (rm 3 63) s m args below meth c H locs 0 0 (MQ below (QI X h0 o.1 o.2) args s 0 0 (aA (eB X))) (F0 m 128 ls []) := by
  refine lv_iconst (v := (1 : Int32)) C.1 C.2.1 dX2_takeHill_128 (by decide) ?_
  exact x_iret C rfl (by decide) hW hZ hkm hE dX2_takeHill_129
set_option maxRecDepth 20000 in
theorem bX2_takeHill_44 {p : Program} {l : Launch} {e : Env} {s : State} {m : MethodId} {args : Array Value} {below : List Frame} {meth : Method} {c : Code} {X : Ec} {h0 : Hp} {o : Int32 × Hp} {F : Nat} (C : Cx X p s m args meth c RX2 cX2_takeHill 5 (some .boolean) "takeHill") {h : Hp} {H : Heap} {locs : List Loc} (hkm : Km h0 h) (hW : Wx X h H) (hZ : va_S (aA (eB X)) s.heap H locs) (ls : Array Slot) (hl : lv_has ls 5 []) (hE : sX2_takeHill_44 F h  = some o) : W p l e (rm 3 63) s m args below meth c H locs 0 0 (MQ below (QI X h0 o.1 o.2) args s 0 0 (aA (eB X))) (F0 m 44 ls []) := by
  refine lv_iconst (v := (0 : Int32)) C.1 C.2.1 dX2_takeHill_44 (by decide) ?_
  exact x_iret C rfl (by decide) hW hZ hkm hE dX2_takeHill_45
set_option maxRecDepth 20000 in
theorem bX2_takeHill_20 {p : Program} {l : Launch} {e : Env} {s : State} {m : MethodId} {args : Array Value} {below : List Frame} {meth : Method} {c : Code} {X : Ec} {h0 : Hp} {o : Int32 × Hp} {k_2 : Hp → Nat → Int32 → Option (Int32 × Hp)} {F : Nat} (C : Cx X p s m args meth c RX2 cX2_takeHill 5 (some .boolean) "takeHill") (hk_2 : ∀ (h : Hp) (x0 : Nat) (x1 : Int32) (H : Heap) (locs : List Loc), hK h x0 = 2 → Km h0 h → Wx X h H → va_S (aA (eB X)) s.heap H locs → ∀ (ls : Array Slot), lv_has ls 5 [(0, .ref x0), (1, .int x1)] → k_2 h x0 x1 = some o → W p l e (rm 3 63) s m args below meth c H locs 0 0 (MQ below (QI X h0 o.1 o.2) args s 0 0 (aA (eB X))) (F0 m 2 ls [])) {h : Hp} {x0 : Nat} {x1 : Int32} {H : Heap} {locs : List Loc} (k_x0 : hK h x0 = 2) (hkm : Km h0 h) (hW : Wx X h H) (hZ : va_S (aA (eB X)) s.heap H locs) (ls : Array Slot) (hl : lv_has ls 5 [(0, .ref x0), (1, .int x1)]) (hE : sX2_takeHill_20 F k_2 h x0 x1 = some o) : W p l e (rm 3 63) s m args below meth c H locs 0 0 (MQ below (QI X h0 o.1 o.2) args s 0 0 (aA (eB X))) (F0 m 20 ls []) := by
  refine lv_aload_n C.1 C.2.1 dX2_takeHill_20 rfl (lv_at hl 0 rfl) ?_
  obtain ⟨o_1, eo_1, hE⟩ := cl_e hE
  refine x_kI (o := o_1) (z_runV (As := []) (rest := []) C (ct_X2_oneLetter l X k_x0 eo_1) cw_X2_96 hW hZ k_x0 (by decide) rfl rfl rfl hl.1 (Nat.le_of_ble_eq_true rfl) rfl dX2_takeHill_21 ⟨Nat.le_of_ble_eq_true rfl, Nat.le_of_ble_eq_true rfl⟩ ⟨Nat.le_refl _, Nat.le_refl _⟩) hZ (fun _ _ hW km hZ => ?_)
  replace hkm := hkm.tr km
  replace k_x0 := km.at k_x0 (by decide)
  refine lv_istore_n (lv' := [(2, .int o_1.1), (0, .ref x0), (1, .int x1)]) C.1 C.2.1 dX2_takeHill_24 rfl hl (by decide) rfl (fun ls hl => ?_)
  refine lv_iload_n C.1 C.2.1 dX2_takeHill_25 rfl (lv_at hl 0 rfl) ?_
  refine lv_iconst (v := (-1 : Int32)) C.1 C.2.1 dX2_takeHill_26 (by decide) ?_
  refine lv_icmp_eq (tgt := 44) C.1 C.2.1 dX2_takeHill_27 (by decide) (fun c_2 => ?_) (fun c_2 => ?_)
  · have hE := br_p hE c_2
    exact bX2_takeHill_44 C hkm hW hZ _ (lv_sub hl [] rfl) hE
  · have hE := br_n hE c_2
    refine lv_iload_n C.1 C.2.1 dX2_takeHill_30 rfl (lv_at hl 0 rfl) ?_
    refine lv_bipush (v := (97 : Int32)) C.1 C.2.1 dX2_takeHill_31 (by decide) ?_
    refine lv_isub C.1 C.2.1 dX2_takeHill_33 ?_
    refine lv_aload_n C.1 C.2.1 dX2_takeHill_34 rfl (lv_at hl 1 rfl) ?_
    obtain ⟨r_3, er_3, hE⟩ := cl_e hE
    refine gf_X2_15 C hW k_x0 er_3 dX2_takeHill_35 (fun k_r_3 => ?_)
    refine gf_X2_234 C hW k_r_3 dX2_takeHill_38 ?_
    refine lv_icmp_lt (tgt := 46) C.1 C.2.1 dX2_takeHill_41 (by decide) (fun c_4 => ?_) (fun c_4 => ?_)
    · have hE := br_p hE c_4
      refine lv_aload_n C.1 C.2.1 dX2_takeHill_46 rfl (lv_at hl 1 rfl) ?_
      obtain ⟨o_5, eo_5, hE⟩ := cl_e hE
      refine x_kV (o := o_5) (z_runV (As := []) (rest := []) C (ct_X2_advance l X F k_x0 eo_5) cw_X2_31 hW hZ k_x0 (by decide) rfl rfl rfl hl.1 (Nat.le_of_ble_eq_true rfl) rfl dX2_takeHill_47 ⟨Nat.le_of_ble_eq_true rfl, Nat.le_of_ble_eq_true rfl⟩ ⟨Nat.le_refl _, Nat.le_refl _⟩) hZ (fun _ _ hW km hZ => ?_)
      replace hkm := hkm.tr km
      replace k_x0 := km.at k_x0 (by decide)
      refine lv_aload_n C.1 C.2.1 dX2_takeHill_50 rfl (lv_at hl 1 rfl) ?_
      refine lv_iconst (v := (1 : Int32)) C.1 C.2.1 dX2_takeHill_51 (by decide) ?_
      refine lv_aload_n C.1 C.2.1 dX2_takeHill_52 rfl (lv_at hl 1 rfl) ?_
      obtain ⟨r_6, er_6, hE⟩ := cl_e hE
      refine gf_X2_15 C hW k_x0 er_6 dX2_takeHill_53 (fun k_r_6 => ?_)
      refine gf_X2_189 C hW k_r_6 dX2_takeHill_56 ?_
      obtain ⟨o_7, eo_7, hE⟩ := cl_e hE
      refine x_kI (o := o_7) (z_runV (As := [.int (1 : Int32), .int (hI o_5 r_6 1)]) (rest := []) C (ct_X2_isNumber l X k_x0 eo_7) cw_X2_104 hW hZ k_x0 (by decide) rfl rfl rfl hl.1 (Nat.le_of_ble_eq_true rfl) rfl dX2_takeHill_59 ⟨Nat.le_of_ble_eq_true rfl, Nat.le_of_ble_eq_true rfl⟩ ⟨Nat.le_refl _, Nat.le_refl _⟩) hZ (fun _ _ hW km hZ => ?_)
      replace hkm := hkm.tr km
      replace k_x0 := km.at k_x0 (by decide)
      refine lv_if_ne (tgt := 67) C.1 C.2.1 dX2_takeHill_62 (by decide) (fun c_8 => ?_) (fun c_8 => ?_)
      · have hE := br_n hE c_8
        refine lv_lconst (v := (1 : Int64)) C.1 C.2.1 dX2_takeHill_67 (by decide) ?_
        refine lv_aload_n C.1 C.2.1 dX2_takeHill_68 rfl (lv_at hl 1 rfl) ?_
        refine gf_X2_84 C hW k_x0 dX2_takeHill_69 ?_
        refine lv_iconst (v := (1 : Int32)) C.1 C.2.1 dX2_takeHill_72 (by decide) ?_
        refine lv_isub C.1 C.2.1 dX2_takeHill_73 ?_
        refine lv_aload_n C.1 C.2.1 dX2_takeHill_74 rfl (lv_at hl 1 rfl) ?_
        obtain ⟨r_9, er_9, hE⟩ := cl_e hE
        refine gf_X2_15 C hW k_x0 er_9 dX2_takeHill_75 (fun k_r_9 => ?_)
        refine gf_X2_234 C hW k_r_9 dX2_takeHill_78 ?_
        refine lv_imul C.1 C.2.1 dX2_takeHill_81 ?_
        refine lv_iload_n C.1 C.2.1 dX2_takeHill_82 rfl (lv_at hl 0 rfl) ?_
        refine lv_iadd C.1 C.2.1 dX2_takeHill_83 ?_
        refine lv_bipush (v := (97 : Int32)) C.1 C.2.1 dX2_takeHill_84 (by decide) ?_
        refine lv_isub C.1 C.2.1 dX2_takeHill_86 ?_
        refine lv_lshl C.1 C.2.1 dX2_takeHill_87 rfl ?_
        obtain ⟨v_10, ev_10, hE⟩ := nm_e2 hE
        refine x_nmJ ev_10 ?_
        refine lv_lstore_n (lv' := [(3, .long v_10), (2, .int o_1.1), (0, .ref x0), (1, .int x1)]) C.1 C.2.1 dX2_takeHill_88 rfl hl (by decide) rfl (fun ls hl => ?_)
        refine lv_aload_n C.1 C.2.1 dX2_takeHill_89 rfl (lv_at hl 2 rfl) ?_
        obtain ⟨r_11, er_11, hE⟩ := cl_e hE
        refine gf_X2_15 C hW k_x0 er_11 dX2_takeHill_90 (fun k_r_11 => ?_)
        refine gf_X2_237 C hW k_r_11 dX2_takeHill_93 ?_
        refine lv_lload_n C.1 C.2.1 dX2_takeHill_96 rfl (lv_at hl 0 rfl) ?_
        refine lv_land C.1 C.2.1 dX2_takeHill_97 ?_
        refine lv_lconst (v := (0 : Int64)) C.1 C.2.1 dX2_takeHill_98 (by decide) ?_
        refine W.lcmp C.1 C.2.1 dX2_takeHill_99 ?_
        refine lv_if_eq (tgt := 105) C.1 C.2.1 dX2_takeHill_100 (by decide) (fun c_12 => ?_) (fun c_12 => ?_)
        · have hE := br_p hE c_12
          refine lv_aload_n C.1 C.2.1 dX2_takeHill_105 rfl (lv_at hl 2 rfl) ?_
          obtain ⟨r_13, er_13, hE⟩ := cl_e hE
          refine gf_X2_15 C hW k_x0 er_13 dX2_takeHill_106 (fun k_r_13 => ?_)
          refine lv_dup C.1 C.2.1 dX2_takeHill_109 rfl ?_
          refine gf_X2_237 C hW k_r_13 dX2_takeHill_110 ?_
          refine lv_lload_n C.1 C.2.1 dX2_takeHill_113 rfl (lv_at hl 0 rfl) ?_
          refine lv_lor C.1 C.2.1 dX2_takeHill_114 ?_
          obtain ⟨h_14, eh_14, hE⟩ := nm_e2 hE
          refine pf_X2_237 C hW hZ k_r_13 eh_14 dX2_takeHill_115 (fun _ _ hW km hZ => ?_)
          replace hkm := hkm.tr km
          replace k_x0 := km.at k_x0 (by decide)
          refine lv_aload_n C.1 C.2.1 dX2_takeHill_118 rfl (lv_at hl 2 rfl) ?_
          obtain ⟨o_15, eo_15, hE⟩ := cl_e hE
          refine x_kV (o := o_15) (z_runV (As := []) (rest := []) C (ct_X2_advance l X F k_x0 eo_15) cw_X2_31 hW hZ k_x0 (by decide) rfl rfl rfl hl.1 (Nat.le_of_ble_eq_true rfl) rfl dX2_takeHill_119 ⟨Nat.le_of_ble_eq_true rfl, Nat.le_of_ble_eq_true rfl⟩ ⟨Nat.le_refl _, Nat.le_refl _⟩) hZ (fun _ _ hW km hZ => ?_)
          replace hkm := hkm.tr km
          replace k_x0 := km.at k_x0 (by decide)
          obtain ⟨v_16, ev_16, hE⟩ := nm_e2 hE
          refine lv_iinc (v := v_16) (lv' := [(1, .int v_16), (3, .long v_10), (2, .int o_1.1), (0, .ref x0)]) C.1 C.2.1 dX2_takeHill_122 hl (k := 3) rfl (by rw [ev_16]; rfl) (by decide) rfl (fun ls hl => ?_)
          refine lv_goto (tgt := 2) C.1 C.2.1 dX2_takeHill_125 (by decide) ?_
          exact hk_2 _ _ _ _ _ k_x0 hkm hW hZ _ (lv_sub hl [3, 0] rfl) hE
        · have hE := br_n hE c_12
          refine lv_iconst (v := (0 : Int32)) C.1 C.2.1 dX2_takeHill_103 (by decide) ?_
          exact x_iret C rfl (by decide) hW hZ hkm hE dX2_takeHill_104
      · have hE := br_p hE c_8
        refine lv_iconst (v := (0 : Int32)) C.1 C.2.1 dX2_takeHill_65 (by decide) ?_
        exact x_iret C rfl (by decide) hW hZ hkm hE dX2_takeHill_66
    · have hE := br_n hE c_4
      exact bX2_takeHill_44 C hkm hW hZ _ (lv_sub hl [] rfl) hE
set_option maxRecDepth 20000 in
theorem bX2_takeHill_2 {p : Program} {l : Launch} {e : Env} {s : State} {m : MethodId} {args : Array Value} {below : List Frame} {meth : Method} {c : Code} {X : Ec} {h0 : Hp} {o : Int32 × Hp} {F : Nat} (C : Cx X p s m args meth c RX2 cX2_takeHill 5 (some .boolean) "takeHill") : ∀ (f : Nat) {h : Hp} {x0 : Nat} {x1 : Int32} {H : Heap} {locs : List Loc} (k_x0 : hK h x0 = 2), Km h0 h → Wx X h H → va_S (aA (eB X)) s.heap H locs → ∀ (ls : Array Slot), lv_has ls 5 [(0, .ref x0), (1, .int x1)] → sX2_takeHill_2 F f h x0 x1 = some o → W p l e (rm 3 63) s m args below meth c H locs 0 0 (MQ below (QI X h0 o.1 o.2) args s 0 0 (aA (eB X))) (F0 m 2 ls []) := by
  intro f
  induction f with
  | zero =>
    intro h x0 x1 H locs k_x0 hkm hW hZ ls hl hE
    rw [sX2_takeHill_2] at hE
    cases hE
  | succ f ih =>
    intro h x0 x1 H locs k_x0 hkm hW hZ ls hl hE
    rw [sX2_takeHill_2] at hE
    have hk_2 : ∀ (h : Hp) (x0 : Nat) (x1 : Int32) (H : Heap) (locs : List Loc), hK h x0 = 2 → Km h0 h → Wx X h H → va_S (aA (eB X)) s.heap H locs → ∀ (ls : Array Slot), lv_has ls 5 [(0, .ref x0), (1, .int x1)] → sX2_takeHill_2 F f h x0 x1 = some o → W p l e (rm 3 63) s m args below meth c H locs 0 0 (MQ below (QI X h0 o.1 o.2) args s 0 0 (aA (eB X))) (F0 m 2 ls []) := fun h x0 x1 H locs k_x0 a b c ls hl hE => ih k_x0 a b c ls hl hE
    refine lv_iload_n C.1 C.2.1 dX2_takeHill_2 rfl (lv_at hl 1 rfl) ?_
    refine lv_bipush (v := (64 : Int32)) C.1 C.2.1 dX2_takeHill_3 (by decide) ?_
    refine lv_icmp_gt (tgt := 128) C.1 C.2.1 dX2_takeHill_5 (by decide) (fun c_1 => ?_) (fun c_1 => ?_)
    · have hE := br_p hE c_1
      exact bX2_takeHill_128 C hkm hW hZ _ (lv_sub hl [] rfl) hE
    · have hE := br_n hE c_1
      refine lv_iload_n C.1 C.2.1 dX2_takeHill_8 rfl (lv_at hl 1 rfl) ?_
      refine lv_if_eq (tgt := 20) C.1 C.2.1 dX2_takeHill_9 (by decide) (fun c_2 => ?_) (fun c_2 => ?_)
      · have hE := br_p hE c_2
        exact bX2_takeHill_20 C hk_2 k_x0 hkm hW hZ _ (lv_sub hl [0, 1] rfl) hE
      · have hE := br_n hE c_2
        refine lv_aload_n C.1 C.2.1 dX2_takeHill_12 rfl (lv_at hl 0 rfl) ?_
        refine gf_X2_38 C hW k_x0 dX2_takeHill_13 ?_
        refine lv_iconst (v := (1 : Int32)) C.1 C.2.1 dX2_takeHill_16 (by decide) ?_
        refine lv_icmp_ne (tgt := 128) C.1 C.2.1 dX2_takeHill_17 (by decide) (fun c_3 => ?_) (fun c_3 => ?_)
        · have hE := br_n hE c_3
          exact bX2_takeHill_128 C hkm hW hZ _ (lv_sub hl [] rfl) hE
        · have hE := br_p hE c_3
          exact bX2_takeHill_20 C hk_2 k_x0 hkm hW hZ _ (lv_sub hl [0, 1] rfl) hE
set_option maxRecDepth 20000 in
theorem ct_X2_takeHill (l : Launch) (X : Ec) (F : Nat) {h : Hp} {x0 : Nat} {o : Int32 × Hp} (k_x0 : hK h x0 = 2) (hE : sX2_takeHill F h x0 = some o) : MetI l yX2_takeHill cX2_takeHill 5 (some .boolean) 3 63 X [.ref x0] h o := by
  refine x_met (by decide) (Nat.le_of_ble_eq_true rfl) ?_
  intro p e s m below meth c ls C hl hW hZ
  have hl : lv_has ls 5 [(0, .ref x0)] := hl
  have hkm : Km h h := Km.rf h
  refine lv_iconst (v := (0 : Int32)) C.1 C.2.1 dX2_takeHill_0 (by decide) ?_
  refine lv_istore_n (lv' := [(1, .int (0 : Int32)), (0, .ref x0)]) C.1 C.2.1 dX2_takeHill_1 rfl hl (by decide) rfl (fun ls hl => ?_)
  exact bX2_takeHill_2 C F k_x0 hkm hW hZ _ (lv_sub hl [1, 0] rfl) hE
theorem dX2_wonOrLost_0 : decode cX2_wonOrLost 0 = .ok (.aload_n 0, 1) := by decide +kernel
theorem dX2_wonOrLost_1 : decode cX2_wonOrLost 1 = .ok (.ldc 240, 2) := by decide +kernel
theorem dX2_wonOrLost_3 : decode cX2_wonOrLost 3 = .ok (.invokevirtual 43, 3) := by decide +kernel
theorem dX2_wonOrLost_6 : decode cX2_wonOrLost 6 = .ok (.ifCond .eq 7, 3) := by decide +kernel
theorem dX2_wonOrLost_9 : decode cX2_wonOrLost 9 = .ok (.iconst 1, 1) := by decide +kernel
theorem dX2_wonOrLost_10 : decode cX2_wonOrLost 10 = .ok (.goto 17, 3) := by decide +kernel
theorem dX2_wonOrLost_13 : decode cX2_wonOrLost 13 = .ok (.aload_n 0, 1) := by decide +kernel
theorem dX2_wonOrLost_14 : decode cX2_wonOrLost 14 = .ok (.ldc 242, 2) := by decide +kernel
theorem dX2_wonOrLost_16 : decode cX2_wonOrLost 16 = .ok (.invokevirtual 43, 3) := by decide +kernel
theorem dX2_wonOrLost_19 : decode cX2_wonOrLost 19 = .ok (.ifCond .eq 7, 3) := by decide +kernel
theorem dX2_wonOrLost_22 : decode cX2_wonOrLost 22 = .ok (.iconst 2, 1) := by decide +kernel
theorem dX2_wonOrLost_23 : decode cX2_wonOrLost 23 = .ok (.goto 4, 3) := by decide +kernel
theorem dX2_wonOrLost_26 : decode cX2_wonOrLost 26 = .ok (.iconst 0, 1) := by decide +kernel
theorem dX2_wonOrLost_27 : decode cX2_wonOrLost 27 = .ok (.istore_n 1, 1) := by decide +kernel
theorem dX2_wonOrLost_28 : decode cX2_wonOrLost 28 = .ok (.iload_n 1, 1) := by decide +kernel
theorem dX2_wonOrLost_29 : decode cX2_wonOrLost 29 = .ok (.ifCond .eq 7, 3) := by decide +kernel
theorem dX2_wonOrLost_32 : decode cX2_wonOrLost 32 = .ok (.aload_n 0, 1) := by decide +kernel
theorem dX2_wonOrLost_33 : decode cX2_wonOrLost 33 = .ok (.invokevirtual 31, 3) := by decide +kernel
theorem dX2_wonOrLost_36 : decode cX2_wonOrLost 36 = .ok (.iload_n 1, 1) := by decide +kernel
theorem dX2_wonOrLost_37 : decode cX2_wonOrLost 37 = .ok (.ireturn, 1) := by decide +kernel
set_option maxRecDepth 20000 in
theorem moX2_wonOrLost_36 {o : Int32 × Hp} {F : Nat} {h : Hp} {x1 : Int32} (hE : sX2_wonOrLost_36 F h x1 = some o) : Le h o.2 := by
  exact le_some2 hE
set_option maxRecDepth 20000 in
theorem moX2_wonOrLost_27 {o : Int32 × Hp} {F : Nat} {h : Hp} {x0 : Nat} {t0 : Int32} (hE : sX2_wonOrLost_27 F h x0 t0 = some o) : Le h o.2 := by
  rcases br_e hE with ⟨_, hE⟩ | ⟨_, hE⟩
  · exact moX2_wonOrLost_36 hE
  · obtain ⟨o_2, eo_2, hE⟩ := cl_e hE
    refine (moX2_advance eo_2).tr ?_
    exact moX2_wonOrLost_36 hE
set_option maxRecDepth 20000 in
theorem moX2_wonOrLost {o : Int32 × Hp} {F : Nat} {h : Hp} {x0 : Nat} (hE : sX2_wonOrLost F h x0 = some o) : Le h o.2 := by
  obtain ⟨o_1, eo_1, hE⟩ := cl_e hE
  refine (moX2_isWord eo_1).tr ?_
  rcases br_e hE with ⟨_, hE⟩ | ⟨_, hE⟩
  · obtain ⟨o_3, eo_3, hE⟩ := cl_e hE
    refine (moX2_isWord eo_3).tr ?_
    rcases br_e hE with ⟨_, hE⟩ | ⟨_, hE⟩
    · exact moX2_wonOrLost_27 hE
    · exact moX2_wonOrLost_27 hE
  · exact moX2_wonOrLost_27 hE
set_option maxRecDepth 20000 in
theorem bX2_wonOrLost_36 {p : Program} {l : Launch} {e : Env} {s : State} {m : MethodId} {args : Array Value} {below : List Frame} {meth : Method} {c : Code} {X : Ec} {h0 : Hp} {o : Int32 × Hp} {F : Nat} (C : Cx X p s m args meth c RX2 cX2_wonOrLost 2 (some .int) "wonOrLost") {h : Hp} {x1 : Int32} {H : Heap} {locs : List Loc} (hkm : Km h0 h) (hW : Wx X h H) (hZ : va_S (aA (eB X)) s.heap H locs) (ls : Array Slot) (hl : lv_has ls 2 [(1, .int x1)]) (hE : sX2_wonOrLost_36 F h x1 = some o) : W p l e (rm 5 107) s m args below meth c H locs 0 0 (MQ below (QI X h0 o.1 o.2) args s 0 0 (aA (eB X))) (F0 m 36 ls []) := by
  refine lv_iload_n C.1 C.2.1 dX2_wonOrLost_36 rfl (lv_at hl 0 rfl) ?_
  exact x_iret C rfl rfl hW hZ hkm hE dX2_wonOrLost_37
set_option maxRecDepth 20000 in
theorem bX2_wonOrLost_27 {p : Program} {l : Launch} {e : Env} {s : State} {m : MethodId} {args : Array Value} {below : List Frame} {meth : Method} {c : Code} {X : Ec} {h0 : Hp} {o : Int32 × Hp} {F : Nat} (C : Cx X p s m args meth c RX2 cX2_wonOrLost 2 (some .int) "wonOrLost") {h : Hp} {x0 : Nat} {t0 : Int32} {H : Heap} {locs : List Loc} (k_x0 : hK h x0 = 2) (hkm : Km h0 h) (hW : Wx X h H) (hZ : va_S (aA (eB X)) s.heap H locs) (ls : Array Slot) (hl : lv_has ls 2 [(0, .ref x0)]) (hE : sX2_wonOrLost_27 F h x0 t0 = some o) : W p l e (rm 5 107) s m args below meth c H locs 0 0 (MQ below (QI X h0 o.1 o.2) args s 0 0 (aA (eB X))) (F0 m 27 ls [.int t0]) := by
  refine lv_istore_n (lv' := [(1, .int t0), (0, .ref x0)]) C.1 C.2.1 dX2_wonOrLost_27 rfl hl (by decide) rfl (fun ls hl => ?_)
  refine lv_iload_n C.1 C.2.1 dX2_wonOrLost_28 rfl (lv_at hl 0 rfl) ?_
  refine lv_if_eq (tgt := 36) C.1 C.2.1 dX2_wonOrLost_29 (by decide) (fun c_1 => ?_) (fun c_1 => ?_)
  · have hE := br_p hE c_1
    exact bX2_wonOrLost_36 C hkm hW hZ _ (lv_sub hl [0] rfl) hE
  · have hE := br_n hE c_1
    refine lv_aload_n C.1 C.2.1 dX2_wonOrLost_32 rfl (lv_at hl 1 rfl) ?_
    obtain ⟨o_2, eo_2, hE⟩ := cl_e hE
    refine x_kV (o := o_2) (z_runV (As := []) (rest := []) C (ct_X2_advance l X F k_x0 eo_2) cw_X2_31 hW hZ k_x0 (by decide) rfl rfl rfl hl.1 (Nat.le_of_ble_eq_true rfl) rfl dX2_wonOrLost_33 ⟨Nat.le_of_ble_eq_true rfl, Nat.le_of_ble_eq_true rfl⟩ ⟨Nat.le_refl _, Nat.le_refl _⟩) hZ (fun _ _ hW km hZ => ?_)
    replace hkm := hkm.tr km
    replace k_x0 := km.at k_x0 (by decide)
    exact bX2_wonOrLost_36 C hkm hW hZ _ (lv_sub hl [0] rfl) hE
set_option maxRecDepth 20000 in
theorem ct_X2_wonOrLost (l : Launch) (X : Ec) (F : Nat) {h : Hp} {x0 : Nat} {o : Int32 × Hp} (k_x0 : hK h x0 = 2) (hE : sX2_wonOrLost F h x0 = some o) : MetI l yX2_wonOrLost cX2_wonOrLost 2 (some .int) 5 107 X [.ref x0] h o := by
  refine x_met (by decide) (Nat.le_of_ble_eq_true rfl) ?_
  intro p e s m below meth c ls C hl hW hZ
  have hl : lv_has ls 2 [(0, .ref x0)] := hl
  have hkm : Km h h := Km.rf h
  refine lv_aload_n C.1 C.2.1 dX2_wonOrLost_0 rfl (lv_at hl 0 rfl) ?_
  refine va_ldcS C.1 C.2.1 C.2.2.2.1 (C.2.2.2.2.2.2.2.2.1 24 (by decide)).2 dX2_wonOrLost_1 ?_
  obtain ⟨o_1, eo_1, hE⟩ := cl_e hE
  refine x_kI (o := o_1) (z_runV (As := [.ref (X.2.2.2.1 24)]) (rest := []) C (ct_X2_isWord l X F k_x0 (by decide) eo_1) cw_X2_43 hW hZ k_x0 (by decide) rfl rfl rfl hl.1 (Nat.le_of_ble_eq_true rfl) rfl dX2_wonOrLost_3 ⟨Nat.le_of_ble_eq_true rfl, Nat.le_of_ble_eq_true rfl⟩ ⟨Nat.le_refl _, Nat.le_refl _⟩) hZ (fun _ _ hW km hZ => ?_)
  replace hkm := hkm.tr km
  replace k_x0 := km.at k_x0 (by decide)
  refine lv_if_eq (tgt := 13) C.1 C.2.1 dX2_wonOrLost_6 (by decide) (fun c_2 => ?_) (fun c_2 => ?_)
  · have hE := br_p hE c_2
    refine lv_aload_n C.1 C.2.1 dX2_wonOrLost_13 rfl (lv_at hl 0 rfl) ?_
    refine va_ldcS C.1 C.2.1 C.2.2.2.1 (C.2.2.2.2.2.2.2.2.1 25 (by decide)).2 dX2_wonOrLost_14 ?_
    obtain ⟨o_3, eo_3, hE⟩ := cl_e hE
    refine x_kI (o := o_3) (z_runV (As := [.ref (X.2.2.2.1 25)]) (rest := []) C (ct_X2_isWord l X F k_x0 (by decide) eo_3) cw_X2_43 hW hZ k_x0 (by decide) rfl rfl rfl hl.1 (Nat.le_of_ble_eq_true rfl) rfl dX2_wonOrLost_16 ⟨Nat.le_of_ble_eq_true rfl, Nat.le_of_ble_eq_true rfl⟩ ⟨Nat.le_refl _, Nat.le_refl _⟩) hZ (fun _ _ hW km hZ => ?_)
    replace hkm := hkm.tr km
    replace k_x0 := km.at k_x0 (by decide)
    refine lv_if_eq (tgt := 26) C.1 C.2.1 dX2_wonOrLost_19 (by decide) (fun c_4 => ?_) (fun c_4 => ?_)
    · have hE := br_p hE c_4
      refine lv_iconst (v := (0 : Int32)) C.1 C.2.1 dX2_wonOrLost_26 (by decide) ?_
      exact bX2_wonOrLost_27 C k_x0 hkm hW hZ _ (lv_sub hl [0] rfl) hE
    · have hE := br_n hE c_4
      refine lv_iconst (v := (2 : Int32)) C.1 C.2.1 dX2_wonOrLost_22 (by decide) ?_
      refine lv_goto (tgt := 27) C.1 C.2.1 dX2_wonOrLost_23 (by decide) ?_
      exact bX2_wonOrLost_27 C k_x0 hkm hW hZ _ (lv_sub hl [0] rfl) hE
  · have hE := br_n hE c_2
    refine lv_iconst (v := (1 : Int32)) C.1 C.2.1 dX2_wonOrLost_9 (by decide) ?_
    refine lv_goto (tgt := 27) C.1 C.2.1 dX2_wonOrLost_10 (by decide) ?_
    exact bX2_wonOrLost_27 C k_x0 hkm hW hZ _ (lv_sub hl [0] rfl) hE
set_option maxRecDepth 100000 in
theorem ms_21 : Cond.selects RX2 yX2_wonOrLost yX2_wonOrLost ∈ W0 := w0_in (List.mem_append_left _ (List.mem_of_getElem? (i := 21) rfl)) rfl
set_option maxRecDepth 100000 in
theorem ms_20 : Cond.selects RX2 yX2_takeHill yX2_takeHill ∈ W0 := w0_in (List.mem_append_left _ (List.mem_of_getElem? (i := 20) rfl)) rfl
set_option maxRecDepth 100000 in
theorem ms_19 : Cond.selects RX2 yX2_takeChecks yX2_takeChecks ∈ W0 := w0_in (List.mem_append_left _ (List.mem_of_getElem? (i := 19) rfl)) rfl
set_option maxRecDepth 100000 in
theorem ms_18 : Cond.selects RX2 yX2_takeBlast yX2_takeBlast ∈ W0 := w0_in (List.mem_append_left _ (List.mem_of_getElem? (i := 18) rfl)) rfl
set_option maxRecDepth 100000 in
theorem ms_17 : Cond.selects RX2 yX2_takeCastle yX2_takeCastle ∈ W0 := w0_in (List.mem_append_left _ (List.mem_of_getElem? (i := 17) rfl)) rfl
set_option maxRecDepth 100000 in
theorem ms_16 : Cond.selects RX2 yX2_takeRoyal yX2_takeRoyal ∈ W0 := w0_in (List.mem_append_left _ (List.mem_of_getElem? (i := 16) rfl)) rfl
set_option maxRecDepth 100000 in
theorem m_104 : Cond.fieldLink RX2 161 (TX1 8).1 (TX1 8).2.1 (TX1 8).2.2.1 ∈ W0 := w0_in (List.mem_append_right _ (List.mem_of_getElem? (i := 104) rfl)) rfl
set_option maxRecDepth 100000 in
theorem m_107 : Cond.fieldLink RX2 163 (TX1 9).1 (TX1 9).2.1 (TX1 9).2.2.1 ∈ W0 := w0_in (List.mem_append_right _ (List.mem_of_getElem? (i := 107) rfl)) rfl
set_option maxRecDepth 100000 in
theorem m_765 : Cond.methodLink RX2 140 yX2_takeRoyal ∈ W0 := w0_in (List.mem_append_right _ (List.mem_of_getElem? (i := 765) rfl)) rfl
set_option maxRecDepth 100000 in
theorem m_767 : Cond.instanceMethod yX2_takeRoyal ∈ W0 := w0_in (List.mem_append_right _ (List.mem_of_getElem? (i := 767) rfl)) rfl
set_option maxRecDepth 100000 in
theorem m_768 : Cond.code yX2_takeRoyal cX2_takeRoyal 2 (some .boolean) ∈ W0 := w0_in (List.mem_append_right _ (List.mem_of_getElem? (i := 768) rfl)) rfl
set_option maxRecDepth 100000 in
theorem m_769 : Cond.methodLink RX2 143 yX2_takeCastle ∈ W0 := w0_in (List.mem_append_right _ (List.mem_of_getElem? (i := 769) rfl)) rfl
set_option maxRecDepth 100000 in
theorem m_771 : Cond.instanceMethod yX2_takeCastle ∈ W0 := w0_in (List.mem_append_right _ (List.mem_of_getElem? (i := 771) rfl)) rfl
set_option maxRecDepth 100000 in
theorem m_772 : Cond.code yX2_takeCastle cX2_takeCastle 2 (some .boolean) ∈ W0 := w0_in (List.mem_append_right _ (List.mem_of_getElem? (i := 772) rfl)) rfl
set_option maxRecDepth 100000 in
theorem m_773 : Cond.methodLink RX2 149 yX2_takeBlast ∈ W0 := w0_in (List.mem_append_right _ (List.mem_of_getElem? (i := 773) rfl)) rfl
set_option maxRecDepth 100000 in
theorem m_775 : Cond.instanceMethod yX2_takeBlast ∈ W0 := w0_in (List.mem_append_right _ (List.mem_of_getElem? (i := 775) rfl)) rfl
set_option maxRecDepth 100000 in
theorem m_776 : Cond.code yX2_takeBlast cX2_takeBlast 3 (some .boolean) ∈ W0 := w0_in (List.mem_append_right _ (List.mem_of_getElem? (i := 776) rfl)) rfl
set_option maxRecDepth 100000 in
theorem m_777 : Cond.methodLink RX2 152 yX2_takeChecks ∈ W0 := w0_in (List.mem_append_right _ (List.mem_of_getElem? (i := 777) rfl)) rfl
set_option maxRecDepth 100000 in
theorem m_779 : Cond.instanceMethod yX2_takeChecks ∈ W0 := w0_in (List.mem_append_right _ (List.mem_of_getElem? (i := 779) rfl)) rfl
set_option maxRecDepth 100000 in
theorem m_780 : Cond.code yX2_takeChecks cX2_takeChecks 1 (some .boolean) ∈ W0 := w0_in (List.mem_append_right _ (List.mem_of_getElem? (i := 780) rfl)) rfl
set_option maxRecDepth 100000 in
theorem m_781 : Cond.methodLink RX2 155 yX2_takeHill ∈ W0 := w0_in (List.mem_append_right _ (List.mem_of_getElem? (i := 781) rfl)) rfl
set_option maxRecDepth 100000 in
theorem m_783 : Cond.instanceMethod yX2_takeHill ∈ W0 := w0_in (List.mem_append_right _ (List.mem_of_getElem? (i := 783) rfl)) rfl
set_option maxRecDepth 100000 in
theorem m_784 : Cond.code yX2_takeHill cX2_takeHill 5 (some .boolean) ∈ W0 := w0_in (List.mem_append_right _ (List.mem_of_getElem? (i := 784) rfl)) rfl
set_option maxRecDepth 100000 in
theorem m_785 : Cond.methodLink RX2 158 yX2_wonOrLost ∈ W0 := w0_in (List.mem_append_right _ (List.mem_of_getElem? (i := 785) rfl)) rfl
set_option maxRecDepth 100000 in
theorem m_787 : Cond.instanceMethod yX2_wonOrLost ∈ W0 := w0_in (List.mem_append_right _ (List.mem_of_getElem? (i := 787) rfl)) rfl
set_option maxRecDepth 100000 in
theorem m_788 : Cond.code yX2_wonOrLost cX2_wonOrLost 2 (some .int) ∈ W0 := w0_in (List.mem_append_right _ (List.mem_of_getElem? (i := 788) rfl)) rfl
section
variable {p : Program} {l : Launch} {e : Env} {R : Room} {s : State} {m : MethodId} {args : Array Value} {below : List Frame} {meth : Method} {c : Code} {H : Heap} {locs : List Loc} {cells slots : Nat} {Q : State → Prop}
variable {cc : ByteArray} {pc : Nat} {ls : Array Slot} {rest : List Value} {X : Ec} {h h1 : Hp} {nL : Nat} {rt : Option FieldType} {mn : String}
theorem pf_X2_161 {a : Nat} {v : Int32} (C : Cx X p s m args meth c RX2 cc nL rt mn) (hW : Wx X h H) (hZ : va_S (aA (eB X)) s.heap H locs) (ha : hK h a = 1) (eh : h1 = wI h a 8 v) (hdg : decode cc pc = .ok (.putfield 161, 3)) (kk : ∀ (H1 : Heap) (locs1 : List Loc), Wx X h1 H1 → Km h h1 → va_S (aA (eB X)) s.heap H1 locs1 → W p l e R s m args below meth c H1 locs1 cells slots Q (F0 m (pc + 3) ls rest)) : W p l e R s m args below meth c H locs cells slots Q (F0 m pc ls (.int v :: .ref a :: rest)) :=
  y_puti (ty := .int) C hW hZ ha i_X1 tyX1 tyX1_ok nmX1 (by decide) rfl rfl (by decide) m_104 rfl (by decide +kernel) rfl rfl rfl eh hdg kk
theorem gf_X2_161 {a : Nat} (C : Cx X p s m args meth c RX2 cc nL rt mn) (hW : Wx X h H) (ha : hK h a = 1) (hdg : decode cc pc = .ok (.getfield 161, 3)) (kk : W p l e R s m args below meth c H locs cells slots Q (F0 m (pc + 3) ls (.int (hI h a 8) :: rest))) : W p l e R s m args below meth c H locs cells slots Q (F0 m pc ls (.ref a :: rest)) :=
  y_geti C hW ha i_X1 (by decide) rfl (by decide) m_104 rfl hdg kk
theorem pf_X2_163 {a : Nat} {v : Int32} (C : Cx X p s m args meth c RX2 cc nL rt mn) (hW : Wx X h H) (hZ : va_S (aA (eB X)) s.heap H locs) (ha : hK h a = 1) (eh : h1 = wI h a 9 v) (hdg : decode cc pc = .ok (.putfield 163, 3)) (kk : ∀ (H1 : Heap) (locs1 : List Loc), Wx X h1 H1 → Km h h1 → va_S (aA (eB X)) s.heap H1 locs1 → W p l e R s m args below meth c H1 locs1 cells slots Q (F0 m (pc + 3) ls rest)) : W p l e R s m args below meth c H locs cells slots Q (F0 m pc ls (.int v :: .ref a :: rest)) :=
  y_puti (ty := .int) C hW hZ ha i_X1 tyX1 tyX1_ok nmX1 (by decide) rfl rfl (by decide) m_107 rfl (by decide +kernel) rfl rfl rfl eh hdg kk
theorem gf_X2_163 {a : Nat} (C : Cx X p s m args meth c RX2 cc nL rt mn) (hW : Wx X h H) (ha : hK h a = 1) (hdg : decode cc pc = .ok (.getfield 163, 3)) (kk : W p l e R s m args below meth c H locs cells slots Q (F0 m (pc + 3) ls (.int (hI h a 9) :: rest))) : W p l e R s m args below meth c H locs cells slots Q (F0 m pc ls (.ref a :: rest)) :=
  y_geti C hW ha i_X1 (by decide) rfl (by decide) m_107 rfl hdg kk
end
theorem cw_X2_140 : cwd RX2 140 yX2_takeRoyal cX2_takeRoyal 2 (some .boolean) false 0 := ⟨m_768, m_765, m_5, ⟨m_767, ms_16⟩, by decide, by decide, by decide +kernel⟩
theorem cw_X2_143 : cwd RX2 143 yX2_takeCastle cX2_takeCastle 2 (some .boolean) false 0 := ⟨m_772, m_769, m_5, ⟨m_771, ms_17⟩, by decide, by decide, by decide +kernel⟩
theorem cw_X2_149 : cwd RX2 149 yX2_takeBlast cX2_takeBlast 3 (some .boolean) false 0 := ⟨m_776, m_773, m_5, ⟨m_775, ms_18⟩, by decide, by decide, by decide +kernel⟩
theorem cw_X2_152 : cwd RX2 152 yX2_takeChecks cX2_takeChecks 1 (some .boolean) false 0 := ⟨m_780, m_777, m_5, ⟨m_779, ms_19⟩, by decide, by decide, by decide +kernel⟩
theorem cw_X2_155 : cwd RX2 155 yX2_takeHill cX2_takeHill 5 (some .boolean) false 0 := ⟨m_784, m_781, m_5, ⟨m_783, ms_20⟩, by decide, by decide, by decide +kernel⟩
theorem cw_X2_158 : cwd RX2 158 yX2_wonOrLost cX2_wonOrLost 2 (some .int) false 0 := ⟨m_788, m_785, m_5, ⟨m_787, ms_21⟩, by decide, by decide, by decide +kernel⟩
theorem dX2_takeOnce_0 : decode cX2_takeOnce 0 = .ok (.iload_n 1, 1) := by decide +kernel
theorem dX2_takeOnce_1 : decode cX2_takeOnce 1 = .ok (.lookupswitch 180 #[(1, 83), (2, 88), (4, 93), (8, 108), (16, 123), (32, 138), (64, 143), (128, 148), (256, 153)], 83) := by decide +kernel
theorem dX2_takeOnce_84 : decode cX2_takeOnce 84 = .ok (.aload_n 0, 1) := by decide +kernel
theorem dX2_takeOnce_85 : decode cX2_takeOnce 85 = .ok (.invokevirtual 140, 3) := by decide +kernel
theorem dX2_takeOnce_88 : decode cX2_takeOnce 88 = .ok (.ireturn, 1) := by decide +kernel
theorem dX2_takeOnce_89 : decode cX2_takeOnce 89 = .ok (.aload_n 0, 1) := by decide +kernel
theorem dX2_takeOnce_90 : decode cX2_takeOnce 90 = .ok (.invokevirtual 143, 3) := by decide +kernel
theorem dX2_takeOnce_93 : decode cX2_takeOnce 93 = .ok (.ireturn, 1) := by decide +kernel
theorem dX2_takeOnce_94 : decode cX2_takeOnce 94 = .ok (.aload_n 0, 1) := by decide +kernel
theorem dX2_takeOnce_95 : decode cX2_takeOnce 95 = .ok (.getfield 15, 3) := by decide +kernel
theorem dX2_takeOnce_98 : decode cX2_takeOnce 98 = .ok (.dup, 1) := by decide +kernel
theorem dX2_takeOnce_99 : decode cX2_takeOnce 99 = .ok (.getfield 146, 3) := by decide +kernel
theorem dX2_takeOnce_102 : decode cX2_takeOnce 102 = .ok (.iconst 1, 1) := by decide +kernel
theorem dX2_takeOnce_103 : decode cX2_takeOnce 103 = .ok (.ior, 1) := by decide +kernel
theorem dX2_takeOnce_104 : decode cX2_takeOnce 104 = .ok (.putfield 146, 3) := by decide +kernel
theorem dX2_takeOnce_107 : decode cX2_takeOnce 107 = .ok (.iconst 1, 1) := by decide +kernel
theorem dX2_takeOnce_108 : decode cX2_takeOnce 108 = .ok (.ireturn, 1) := by decide +kernel
theorem dX2_takeOnce_109 : decode cX2_takeOnce 109 = .ok (.aload_n 0, 1) := by decide +kernel
theorem dX2_takeOnce_110 : decode cX2_takeOnce 110 = .ok (.getfield 15, 3) := by decide +kernel
theorem dX2_takeOnce_113 : decode cX2_takeOnce 113 = .ok (.dup, 1) := by decide +kernel
theorem dX2_takeOnce_114 : decode cX2_takeOnce 114 = .ok (.getfield 146, 3) := by decide +kernel
theorem dX2_takeOnce_117 : decode cX2_takeOnce 117 = .ok (.iconst 2, 1) := by decide +kernel
theorem dX2_takeOnce_118 : decode cX2_takeOnce 118 = .ok (.ior, 1) := by decide +kernel
theorem dX2_takeOnce_119 : decode cX2_takeOnce 119 = .ok (.putfield 146, 3) := by decide +kernel
theorem dX2_takeOnce_122 : decode cX2_takeOnce 122 = .ok (.iconst 1, 1) := by decide +kernel
theorem dX2_takeOnce_123 : decode cX2_takeOnce 123 = .ok (.ireturn, 1) := by decide +kernel
theorem dX2_takeOnce_124 : decode cX2_takeOnce 124 = .ok (.aload_n 0, 1) := by decide +kernel
theorem dX2_takeOnce_125 : decode cX2_takeOnce 125 = .ok (.getfield 15, 3) := by decide +kernel
theorem dX2_takeOnce_128 : decode cX2_takeOnce 128 = .ok (.dup, 1) := by decide +kernel
theorem dX2_takeOnce_129 : decode cX2_takeOnce 129 = .ok (.getfield 146, 3) := by decide +kernel
theorem dX2_takeOnce_132 : decode cX2_takeOnce 132 = .ok (.iconst 4, 1) := by decide +kernel
theorem dX2_takeOnce_133 : decode cX2_takeOnce 133 = .ok (.ior, 1) := by decide +kernel
theorem dX2_takeOnce_134 : decode cX2_takeOnce 134 = .ok (.putfield 146, 3) := by decide +kernel
theorem dX2_takeOnce_137 : decode cX2_takeOnce 137 = .ok (.iconst 1, 1) := by decide +kernel
theorem dX2_takeOnce_138 : decode cX2_takeOnce 138 = .ok (.ireturn, 1) := by decide +kernel
theorem dX2_takeOnce_139 : decode cX2_takeOnce 139 = .ok (.aload_n 0, 1) := by decide +kernel
theorem dX2_takeOnce_140 : decode cX2_takeOnce 140 = .ok (.invokevirtual 149, 3) := by decide +kernel
theorem dX2_takeOnce_143 : decode cX2_takeOnce 143 = .ok (.ireturn, 1) := by decide +kernel
theorem dX2_takeOnce_144 : decode cX2_takeOnce 144 = .ok (.aload_n 0, 1) := by decide +kernel
theorem dX2_takeOnce_145 : decode cX2_takeOnce 145 = .ok (.invokevirtual 152, 3) := by decide +kernel
theorem dX2_takeOnce_148 : decode cX2_takeOnce 148 = .ok (.ireturn, 1) := by decide +kernel
theorem dX2_takeOnce_149 : decode cX2_takeOnce 149 = .ok (.aload_n 0, 1) := by decide +kernel
theorem dX2_takeOnce_150 : decode cX2_takeOnce 150 = .ok (.invokevirtual 155, 3) := by decide +kernel
theorem dX2_takeOnce_153 : decode cX2_takeOnce 153 = .ok (.ireturn, 1) := by decide +kernel
theorem dX2_takeOnce_154 : decode cX2_takeOnce 154 = .ok (.aload_n 0, 1) := by decide +kernel
theorem dX2_takeOnce_155 : decode cX2_takeOnce 155 = .ok (.getfield 15, 3) := by decide +kernel
theorem dX2_takeOnce_158 : decode cX2_takeOnce 158 = .ok (.aload_n 0, 1) := by decide +kernel
theorem dX2_takeOnce_159 : decode cX2_takeOnce 159 = .ok (.invokevirtual 158, 3) := by decide +kernel
theorem dX2_takeOnce_162 : decode cX2_takeOnce 162 = .ok (.putfield 161, 3) := by decide +kernel
theorem dX2_takeOnce_165 : decode cX2_takeOnce 165 = .ok (.aload_n 0, 1) := by decide +kernel
theorem dX2_takeOnce_166 : decode cX2_takeOnce 166 = .ok (.getfield 15, 3) := by decide +kernel
theorem dX2_takeOnce_169 : decode cX2_takeOnce 169 = .ok (.getfield 161, 3) := by decide +kernel
theorem dX2_takeOnce_172 : decode cX2_takeOnce 172 = .ok (.ifCond .eq 7, 3) := by decide +kernel
theorem dX2_takeOnce_175 : decode cX2_takeOnce 175 = .ok (.iconst 1, 1) := by decide +kernel
theorem dX2_takeOnce_176 : decode cX2_takeOnce 176 = .ok (.goto 4, 3) := by decide +kernel
theorem dX2_takeOnce_179 : decode cX2_takeOnce 179 = .ok (.iconst 0, 1) := by decide +kernel
theorem dX2_takeOnce_180 : decode cX2_takeOnce 180 = .ok (.ireturn, 1) := by decide +kernel
theorem dX2_takeOnce_181 : decode cX2_takeOnce 181 = .ok (.aload_n 0, 1) := by decide +kernel
theorem dX2_takeOnce_182 : decode cX2_takeOnce 182 = .ok (.getfield 15, 3) := by decide +kernel
theorem dX2_takeOnce_185 : decode cX2_takeOnce 185 = .ok (.aload_n 0, 1) := by decide +kernel
theorem dX2_takeOnce_186 : decode cX2_takeOnce 186 = .ok (.invokevirtual 158, 3) := by decide +kernel
theorem dX2_takeOnce_189 : decode cX2_takeOnce 189 = .ok (.putfield 163, 3) := by decide +kernel
theorem dX2_takeOnce_192 : decode cX2_takeOnce 192 = .ok (.aload_n 0, 1) := by decide +kernel
theorem dX2_takeOnce_193 : decode cX2_takeOnce 193 = .ok (.getfield 15, 3) := by decide +kernel
theorem dX2_takeOnce_196 : decode cX2_takeOnce 196 = .ok (.getfield 163, 3) := by decide +kernel
theorem dX2_takeOnce_199 : decode cX2_takeOnce 199 = .ok (.ifCond .eq 7, 3) := by decide +kernel
theorem dX2_takeOnce_202 : decode cX2_takeOnce 202 = .ok (.iconst 1, 1) := by decide +kernel
theorem dX2_takeOnce_203 : decode cX2_takeOnce 203 = .ok (.goto 4, 3) := by decide +kernel
theorem dX2_takeOnce_206 : decode cX2_takeOnce 206 = .ok (.iconst 0, 1) := by decide +kernel
theorem dX2_takeOnce_207 : decode cX2_takeOnce 207 = .ok (.ireturn, 1) := by decide +kernel
set_option maxRecDepth 20000 in
theorem moX2_takeOnce_207 {o : Int32 × Hp} {F : Nat} {h : Hp} {t0 : Int32} (hE : sX2_takeOnce_207 F h  t0 = some o) : Le h o.2 := by
  obtain ⟨g_1, hE⟩ := gd_e hE
  exact le_some2 hE
set_option maxRecDepth 20000 in
theorem moX2_takeOnce_180 {o : Int32 × Hp} {F : Nat} {h : Hp} {t0 : Int32} (hE : sX2_takeOnce_180 F h  t0 = some o) : Le h o.2 := by
  obtain ⟨g_1, hE⟩ := gd_e hE
  exact le_some2 hE
set_option maxRecDepth 20000 in
theorem moX2_takeOnce {o : Int32 × Hp} {F : Nat} {h : Hp} {x0 : Nat} {x1 : Int32} (hE : sX2_takeOnce F h x0 x1 = some o) : Le h o.2 := by
  rcases br_e hE with ⟨_, hE⟩ | ⟨_, hE⟩
  · obtain ⟨o_1, eo_1, hE⟩ := cl_e hE
    refine (moX2_takeRoyal eo_1).tr ?_
    obtain ⟨g_2, hE⟩ := gd_e hE
    exact le_some2 hE
  rcases br_e hE with ⟨_, hE⟩ | ⟨_, hE⟩
  · obtain ⟨o_4, eo_4, hE⟩ := cl_e hE
    refine (moX2_takeCastle eo_4).tr ?_
    obtain ⟨g_5, hE⟩ := gd_e hE
    exact le_some2 hE
  rcases br_e hE with ⟨_, hE⟩ | ⟨_, hE⟩
  · obtain ⟨r_7, er_7, hE⟩ := cl_e hE
    obtain ⟨h_8, eh_8, hE⟩ := nm_e2 hE
    refine (le_I eh_8).tr ?_
    exact le_some2 hE
  rcases br_e hE with ⟨_, hE⟩ | ⟨_, hE⟩
  · obtain ⟨r_10, er_10, hE⟩ := cl_e hE
    obtain ⟨h_11, eh_11, hE⟩ := nm_e2 hE
    refine (le_I eh_11).tr ?_
    exact le_some2 hE
  rcases br_e hE with ⟨_, hE⟩ | ⟨_, hE⟩
  · obtain ⟨r_13, er_13, hE⟩ := cl_e hE
    obtain ⟨h_14, eh_14, hE⟩ := nm_e2 hE
    refine (le_I eh_14).tr ?_
    exact le_some2 hE
  rcases br_e hE with ⟨_, hE⟩ | ⟨_, hE⟩
  · obtain ⟨o_16, eo_16, hE⟩ := cl_e hE
    refine (moX2_takeBlast eo_16).tr ?_
    obtain ⟨g_17, hE⟩ := gd_e hE
    exact le_some2 hE
  rcases br_e hE with ⟨_, hE⟩ | ⟨_, hE⟩
  · obtain ⟨o_19, eo_19, hE⟩ := cl_e hE
    refine (moX2_takeChecks eo_19).tr ?_
    obtain ⟨g_20, hE⟩ := gd_e hE
    exact le_some2 hE
  rcases br_e hE with ⟨_, hE⟩ | ⟨_, hE⟩
  · obtain ⟨o_22, eo_22, hE⟩ := cl_e hE
    refine (moX2_takeHill eo_22).tr ?_
    obtain ⟨g_23, hE⟩ := gd_e hE
    exact le_some2 hE
  rcases br_e hE with ⟨_, hE⟩ | ⟨_, hE⟩
  · obtain ⟨r_25, er_25, hE⟩ := cl_e hE
    obtain ⟨o_26, eo_26, hE⟩ := cl_e hE
    refine (moX2_wonOrLost eo_26).tr ?_
    obtain ⟨h_27, eh_27, hE⟩ := nm_e2 hE
    refine (le_I eh_27).tr ?_
    obtain ⟨r_28, er_28, hE⟩ := cl_e hE
    rcases br_e hE with ⟨_, hE⟩ | ⟨_, hE⟩
    · exact moX2_takeOnce_180 hE
    · exact moX2_takeOnce_180 hE
  obtain ⟨r_31, er_31, hE⟩ := cl_e hE
  obtain ⟨o_32, eo_32, hE⟩ := cl_e hE
  refine (moX2_wonOrLost eo_32).tr ?_
  obtain ⟨h_33, eh_33, hE⟩ := nm_e2 hE
  refine (le_I eh_33).tr ?_
  obtain ⟨r_34, er_34, hE⟩ := cl_e hE
  rcases br_e hE with ⟨_, hE⟩ | ⟨_, hE⟩
  · exact moX2_takeOnce_207 hE
  · exact moX2_takeOnce_207 hE
set_option maxRecDepth 20000 in
theorem bX2_takeOnce_207 {p : Program} {l : Launch} {e : Env} {s : State} {m : MethodId} {args : Array Value} {below : List Frame} {meth : Method} {c : Code} {X : Ec} {h0 : Hp} {o : Int32 × Hp} {F : Nat} (C : Cx X p s m args meth c RX2 cX2_takeOnce 2 (some .boolean) "takeOnce") {h : Hp} {t0 : Int32} {H : Heap} {locs : List Loc} (hkm : Km h0 h) (hW : Wx X h H) (hZ : va_S (aA (eB X)) s.heap H locs) (ls : Array Slot) (hl : lv_has ls 2 []) (hE : sX2_takeOnce_207 F h  t0 = some o) : W p l e (rm 6 128) s m args below meth c H locs 0 0 (MQ below (QI X h0 o.1 o.2) args s 0 0 (aA (eB X))) (F0 m 207 ls [.int t0]) := by
  obtain ⟨g_1, hE⟩ := gd_e hE
  exact x_iret C rfl (narB g_1) hW hZ hkm hE dX2_takeOnce_207
set_option maxRecDepth 20000 in
theorem bX2_takeOnce_180 {p : Program} {l : Launch} {e : Env} {s : State} {m : MethodId} {args : Array Value} {below : List Frame} {meth : Method} {c : Code} {X : Ec} {h0 : Hp} {o : Int32 × Hp} {F : Nat} (C : Cx X p s m args meth c RX2 cX2_takeOnce 2 (some .boolean) "takeOnce") {h : Hp} {t0 : Int32} {H : Heap} {locs : List Loc} (hkm : Km h0 h) (hW : Wx X h H) (hZ : va_S (aA (eB X)) s.heap H locs) (ls : Array Slot) (hl : lv_has ls 2 []) (hE : sX2_takeOnce_180 F h  t0 = some o) : W p l e (rm 6 128) s m args below meth c H locs 0 0 (MQ below (QI X h0 o.1 o.2) args s 0 0 (aA (eB X))) (F0 m 180 ls [.int t0]) := by
  obtain ⟨g_1, hE⟩ := gd_e hE
  exact x_iret C rfl (narB g_1) hW hZ hkm hE dX2_takeOnce_180
set_option maxRecDepth 20000 in
theorem ct_X2_takeOnce (l : Launch) (X : Ec) (F : Nat) {h : Hp} {x0 : Nat} {x1 : Int32} {o : Int32 × Hp} (k_x0 : hK h x0 = 2) (hE : sX2_takeOnce F h x0 x1 = some o) : MetI l yX2_takeOnce cX2_takeOnce 2 (some .boolean) 6 128 X [.ref x0, .int x1] h o := by
  refine x_met (by decide) (Nat.le_of_ble_eq_true rfl) ?_
  intro p e s m below meth c ls C hl hW hZ
  have hl : lv_has ls 2 [(0, .ref x0), (1, .int x1)] := hl
  have hkm : Km h h := Km.rf h
  refine lv_iload_n C.1 C.2.1 dX2_takeOnce_0 rfl (lv_at hl 1 rfl) ?_
  by_cases c_3 : x1 = (1 : Int32)
  · have hE := br_p hE c_3
    refine lv_lookup (off := 83) (tgt := 84) C.1 C.2.1 dX2_takeOnce_1 (by decide) (by rw [c_3]; decide) (by decide) ?_
    refine lv_aload_n C.1 C.2.1 dX2_takeOnce_84 rfl (lv_at hl 0 rfl) ?_
    obtain ⟨o_1, eo_1, hE⟩ := cl_e hE
    refine x_kI (o := o_1) (z_runV (As := []) (rest := []) C (ct_X2_takeRoyal l X F k_x0 eo_1) cw_X2_140 hW hZ k_x0 (by decide) rfl rfl rfl hl.1 (Nat.le_of_ble_eq_true rfl) rfl dX2_takeOnce_85 ⟨Nat.le_of_ble_eq_true rfl, Nat.le_of_ble_eq_true rfl⟩ ⟨Nat.le_refl _, Nat.le_refl _⟩) hZ (fun _ _ hW km hZ => ?_)
    replace hkm := hkm.tr km
    replace k_x0 := km.at k_x0 (by decide)
    obtain ⟨g_2, hE⟩ := gd_e hE
    exact x_iret C rfl (narB g_2) hW hZ hkm hE dX2_takeOnce_88
  have hE := br_n hE c_3
  by_cases c_6 : x1 = (2 : Int32)
  · have hE := br_p hE c_6
    refine lv_lookup (off := 88) (tgt := 89) C.1 C.2.1 dX2_takeOnce_1 (by decide) (by rw [c_6]; decide) (by decide) ?_
    refine lv_aload_n C.1 C.2.1 dX2_takeOnce_89 rfl (lv_at hl 0 rfl) ?_
    obtain ⟨o_4, eo_4, hE⟩ := cl_e hE
    refine x_kI (o := o_4) (z_runV (As := []) (rest := []) C (ct_X2_takeCastle l X F k_x0 eo_4) cw_X2_143 hW hZ k_x0 (by decide) rfl rfl rfl hl.1 (Nat.le_of_ble_eq_true rfl) rfl dX2_takeOnce_90 ⟨Nat.le_of_ble_eq_true rfl, Nat.le_of_ble_eq_true rfl⟩ ⟨Nat.le_refl _, Nat.le_refl _⟩) hZ (fun _ _ hW km hZ => ?_)
    replace hkm := hkm.tr km
    replace k_x0 := km.at k_x0 (by decide)
    obtain ⟨g_5, hE⟩ := gd_e hE
    exact x_iret C rfl (narB g_5) hW hZ hkm hE dX2_takeOnce_93
  have hE := br_n hE c_6
  by_cases c_9 : x1 = (4 : Int32)
  · have hE := br_p hE c_9
    refine lv_lookup (off := 93) (tgt := 94) C.1 C.2.1 dX2_takeOnce_1 (by decide) (by rw [c_9]; decide) (by decide) ?_
    refine lv_aload_n C.1 C.2.1 dX2_takeOnce_94 rfl (lv_at hl 0 rfl) ?_
    obtain ⟨r_7, er_7, hE⟩ := cl_e hE
    refine gf_X2_15 C hW k_x0 er_7 dX2_takeOnce_95 (fun k_r_7 => ?_)
    refine lv_dup C.1 C.2.1 dX2_takeOnce_98 rfl ?_
    refine gf_X2_146 C hW k_r_7 dX2_takeOnce_99 ?_
    refine lv_iconst (v := (1 : Int32)) C.1 C.2.1 dX2_takeOnce_102 (by decide) ?_
    refine lv_ior C.1 C.2.1 dX2_takeOnce_103 ?_
    obtain ⟨h_8, eh_8, hE⟩ := nm_e2 hE
    refine pf_X2_146 C hW hZ k_r_7 eh_8 dX2_takeOnce_104 (fun _ _ hW km hZ => ?_)
    replace hkm := hkm.tr km
    replace k_x0 := km.at k_x0 (by decide)
    refine lv_iconst (v := (1 : Int32)) C.1 C.2.1 dX2_takeOnce_107 (by decide) ?_
    exact x_iret C rfl (by decide) hW hZ hkm hE dX2_takeOnce_108
  have hE := br_n hE c_9
  by_cases c_12 : x1 = (8 : Int32)
  · have hE := br_p hE c_12
    refine lv_lookup (off := 108) (tgt := 109) C.1 C.2.1 dX2_takeOnce_1 (by decide) (by rw [c_12]; decide) (by decide) ?_
    refine lv_aload_n C.1 C.2.1 dX2_takeOnce_109 rfl (lv_at hl 0 rfl) ?_
    obtain ⟨r_10, er_10, hE⟩ := cl_e hE
    refine gf_X2_15 C hW k_x0 er_10 dX2_takeOnce_110 (fun k_r_10 => ?_)
    refine lv_dup C.1 C.2.1 dX2_takeOnce_113 rfl ?_
    refine gf_X2_146 C hW k_r_10 dX2_takeOnce_114 ?_
    refine lv_iconst (v := (2 : Int32)) C.1 C.2.1 dX2_takeOnce_117 (by decide) ?_
    refine lv_ior C.1 C.2.1 dX2_takeOnce_118 ?_
    obtain ⟨h_11, eh_11, hE⟩ := nm_e2 hE
    refine pf_X2_146 C hW hZ k_r_10 eh_11 dX2_takeOnce_119 (fun _ _ hW km hZ => ?_)
    replace hkm := hkm.tr km
    replace k_x0 := km.at k_x0 (by decide)
    refine lv_iconst (v := (1 : Int32)) C.1 C.2.1 dX2_takeOnce_122 (by decide) ?_
    exact x_iret C rfl (by decide) hW hZ hkm hE dX2_takeOnce_123
  have hE := br_n hE c_12
  by_cases c_15 : x1 = (16 : Int32)
  · have hE := br_p hE c_15
    refine lv_lookup (off := 123) (tgt := 124) C.1 C.2.1 dX2_takeOnce_1 (by decide) (by rw [c_15]; decide) (by decide) ?_
    refine lv_aload_n C.1 C.2.1 dX2_takeOnce_124 rfl (lv_at hl 0 rfl) ?_
    obtain ⟨r_13, er_13, hE⟩ := cl_e hE
    refine gf_X2_15 C hW k_x0 er_13 dX2_takeOnce_125 (fun k_r_13 => ?_)
    refine lv_dup C.1 C.2.1 dX2_takeOnce_128 rfl ?_
    refine gf_X2_146 C hW k_r_13 dX2_takeOnce_129 ?_
    refine lv_iconst (v := (4 : Int32)) C.1 C.2.1 dX2_takeOnce_132 (by decide) ?_
    refine lv_ior C.1 C.2.1 dX2_takeOnce_133 ?_
    obtain ⟨h_14, eh_14, hE⟩ := nm_e2 hE
    refine pf_X2_146 C hW hZ k_r_13 eh_14 dX2_takeOnce_134 (fun _ _ hW km hZ => ?_)
    replace hkm := hkm.tr km
    replace k_x0 := km.at k_x0 (by decide)
    refine lv_iconst (v := (1 : Int32)) C.1 C.2.1 dX2_takeOnce_137 (by decide) ?_
    exact x_iret C rfl (by decide) hW hZ hkm hE dX2_takeOnce_138
  have hE := br_n hE c_15
  by_cases c_18 : x1 = (32 : Int32)
  · have hE := br_p hE c_18
    refine lv_lookup (off := 138) (tgt := 139) C.1 C.2.1 dX2_takeOnce_1 (by decide) (by rw [c_18]; decide) (by decide) ?_
    refine lv_aload_n C.1 C.2.1 dX2_takeOnce_139 rfl (lv_at hl 0 rfl) ?_
    obtain ⟨o_16, eo_16, hE⟩ := cl_e hE
    refine x_kI (o := o_16) (z_runV (As := []) (rest := []) C (ct_X2_takeBlast l X F k_x0 eo_16) cw_X2_149 hW hZ k_x0 (by decide) rfl rfl rfl hl.1 (Nat.le_of_ble_eq_true rfl) rfl dX2_takeOnce_140 ⟨Nat.le_of_ble_eq_true rfl, Nat.le_of_ble_eq_true rfl⟩ ⟨Nat.le_refl _, Nat.le_refl _⟩) hZ (fun _ _ hW km hZ => ?_)
    replace hkm := hkm.tr km
    replace k_x0 := km.at k_x0 (by decide)
    obtain ⟨g_17, hE⟩ := gd_e hE
    exact x_iret C rfl (narB g_17) hW hZ hkm hE dX2_takeOnce_143
  have hE := br_n hE c_18
  by_cases c_21 : x1 = (64 : Int32)
  · have hE := br_p hE c_21
    refine lv_lookup (off := 143) (tgt := 144) C.1 C.2.1 dX2_takeOnce_1 (by decide) (by rw [c_21]; decide) (by decide) ?_
    refine lv_aload_n C.1 C.2.1 dX2_takeOnce_144 rfl (lv_at hl 0 rfl) ?_
    obtain ⟨o_19, eo_19, hE⟩ := cl_e hE
    refine x_kI (o := o_19) (z_runV (As := []) (rest := []) C (ct_X2_takeChecks l X F k_x0 eo_19) cw_X2_152 hW hZ k_x0 (by decide) rfl rfl rfl hl.1 (Nat.le_of_ble_eq_true rfl) rfl dX2_takeOnce_145 ⟨Nat.le_of_ble_eq_true rfl, Nat.le_of_ble_eq_true rfl⟩ ⟨Nat.le_refl _, Nat.le_refl _⟩) hZ (fun _ _ hW km hZ => ?_)
    replace hkm := hkm.tr km
    replace k_x0 := km.at k_x0 (by decide)
    obtain ⟨g_20, hE⟩ := gd_e hE
    exact x_iret C rfl (narB g_20) hW hZ hkm hE dX2_takeOnce_148
  have hE := br_n hE c_21
  by_cases c_24 : x1 = (128 : Int32)
  · have hE := br_p hE c_24
    refine lv_lookup (off := 148) (tgt := 149) C.1 C.2.1 dX2_takeOnce_1 (by decide) (by rw [c_24]; decide) (by decide) ?_
    refine lv_aload_n C.1 C.2.1 dX2_takeOnce_149 rfl (lv_at hl 0 rfl) ?_
    obtain ⟨o_22, eo_22, hE⟩ := cl_e hE
    refine x_kI (o := o_22) (z_runV (As := []) (rest := []) C (ct_X2_takeHill l X F k_x0 eo_22) cw_X2_155 hW hZ k_x0 (by decide) rfl rfl rfl hl.1 (Nat.le_of_ble_eq_true rfl) rfl dX2_takeOnce_150 ⟨Nat.le_of_ble_eq_true rfl, Nat.le_of_ble_eq_true rfl⟩ ⟨Nat.le_refl _, Nat.le_refl _⟩) hZ (fun _ _ hW km hZ => ?_)
    replace hkm := hkm.tr km
    replace k_x0 := km.at k_x0 (by decide)
    obtain ⟨g_23, hE⟩ := gd_e hE
    exact x_iret C rfl (narB g_23) hW hZ hkm hE dX2_takeOnce_153
  have hE := br_n hE c_24
  by_cases c_30 : x1 = (256 : Int32)
  · have hE := br_p hE c_30
    refine lv_lookup (off := 153) (tgt := 154) C.1 C.2.1 dX2_takeOnce_1 (by decide) (by rw [c_30]; decide) (by decide) ?_
    refine lv_aload_n C.1 C.2.1 dX2_takeOnce_154 rfl (lv_at hl 0 rfl) ?_
    obtain ⟨r_25, er_25, hE⟩ := cl_e hE
    refine gf_X2_15 C hW k_x0 er_25 dX2_takeOnce_155 (fun k_r_25 => ?_)
    refine lv_aload_n C.1 C.2.1 dX2_takeOnce_158 rfl (lv_at hl 0 rfl) ?_
    obtain ⟨o_26, eo_26, hE⟩ := cl_e hE
    refine x_kI (o := o_26) (z_runV (As := []) (rest := [.ref r_25]) C (ct_X2_wonOrLost l X F k_x0 eo_26) cw_X2_158 hW hZ k_x0 (by decide) rfl rfl rfl hl.1 (Nat.le_of_ble_eq_true rfl) rfl dX2_takeOnce_159 ⟨Nat.le_of_ble_eq_true rfl, Nat.le_of_ble_eq_true rfl⟩ ⟨Nat.le_refl _, Nat.le_refl _⟩) hZ (fun _ _ hW km hZ => ?_)
    replace hkm := hkm.tr km
    replace k_x0 := km.at k_x0 (by decide)
    replace k_r_25 := km.at k_r_25 (by decide)
    obtain ⟨h_27, eh_27, hE⟩ := nm_e2 hE
    refine pf_X2_161 C hW hZ k_r_25 eh_27 dX2_takeOnce_162 (fun _ _ hW km hZ => ?_)
    replace hkm := hkm.tr km
    replace k_x0 := km.at k_x0 (by decide)
    refine lv_aload_n C.1 C.2.1 dX2_takeOnce_165 rfl (lv_at hl 0 rfl) ?_
    obtain ⟨r_28, er_28, hE⟩ := cl_e hE
    refine gf_X2_15 C hW k_x0 er_28 dX2_takeOnce_166 (fun k_r_28 => ?_)
    refine gf_X2_161 C hW k_r_28 dX2_takeOnce_169 ?_
    refine lv_if_eq (tgt := 179) C.1 C.2.1 dX2_takeOnce_172 (by decide) (fun c_29 => ?_) (fun c_29 => ?_)
    · have hE := br_p hE c_29
      refine lv_iconst (v := (0 : Int32)) C.1 C.2.1 dX2_takeOnce_179 (by decide) ?_
      exact bX2_takeOnce_180 C hkm hW hZ _ (lv_sub hl [] rfl) hE
    · have hE := br_n hE c_29
      refine lv_iconst (v := (1 : Int32)) C.1 C.2.1 dX2_takeOnce_175 (by decide) ?_
      refine lv_goto (tgt := 180) C.1 C.2.1 dX2_takeOnce_176 (by decide) ?_
      exact bX2_takeOnce_180 C hkm hW hZ _ (lv_sub hl [] rfl) hE
  have hE := br_n hE c_30
  refine lv_lookup (off := 180) (tgt := 181) C.1 C.2.1 dX2_takeOnce_1 (by decide) ((lv_osw c_3 (by decide)).trans ((lv_osw c_6 (by decide)).trans ((lv_osw c_9 (by decide)).trans ((lv_osw c_12 (by decide)).trans ((lv_osw c_15 (by decide)).trans ((lv_osw c_18 (by decide)).trans ((lv_osw c_21 (by decide)).trans ((lv_osw c_24 (by decide)).trans ((lv_osw c_30 (by decide)).trans rfl))))))))) (by decide) ?_
  refine lv_aload_n C.1 C.2.1 dX2_takeOnce_181 rfl (lv_at hl 0 rfl) ?_
  obtain ⟨r_31, er_31, hE⟩ := cl_e hE
  refine gf_X2_15 C hW k_x0 er_31 dX2_takeOnce_182 (fun k_r_31 => ?_)
  refine lv_aload_n C.1 C.2.1 dX2_takeOnce_185 rfl (lv_at hl 0 rfl) ?_
  obtain ⟨o_32, eo_32, hE⟩ := cl_e hE
  refine x_kI (o := o_32) (z_runV (As := []) (rest := [.ref r_31]) C (ct_X2_wonOrLost l X F k_x0 eo_32) cw_X2_158 hW hZ k_x0 (by decide) rfl rfl rfl hl.1 (Nat.le_of_ble_eq_true rfl) rfl dX2_takeOnce_186 ⟨Nat.le_of_ble_eq_true rfl, Nat.le_of_ble_eq_true rfl⟩ ⟨Nat.le_refl _, Nat.le_refl _⟩) hZ (fun _ _ hW km hZ => ?_)
  replace hkm := hkm.tr km
  replace k_x0 := km.at k_x0 (by decide)
  replace k_r_31 := km.at k_r_31 (by decide)
  obtain ⟨h_33, eh_33, hE⟩ := nm_e2 hE
  refine pf_X2_163 C hW hZ k_r_31 eh_33 dX2_takeOnce_189 (fun _ _ hW km hZ => ?_)
  replace hkm := hkm.tr km
  replace k_x0 := km.at k_x0 (by decide)
  refine lv_aload_n C.1 C.2.1 dX2_takeOnce_192 rfl (lv_at hl 0 rfl) ?_
  obtain ⟨r_34, er_34, hE⟩ := cl_e hE
  refine gf_X2_15 C hW k_x0 er_34 dX2_takeOnce_193 (fun k_r_34 => ?_)
  refine gf_X2_163 C hW k_r_34 dX2_takeOnce_196 ?_
  refine lv_if_eq (tgt := 206) C.1 C.2.1 dX2_takeOnce_199 (by decide) (fun c_35 => ?_) (fun c_35 => ?_)
  · have hE := br_p hE c_35
    refine lv_iconst (v := (0 : Int32)) C.1 C.2.1 dX2_takeOnce_206 (by decide) ?_
    exact bX2_takeOnce_207 C hkm hW hZ _ (lv_sub hl [] rfl) hE
  · have hE := br_n hE c_35
    refine lv_iconst (v := (1 : Int32)) C.1 C.2.1 dX2_takeOnce_202 (by decide) ?_
    refine lv_goto (tgt := 207) C.1 C.2.1 dX2_takeOnce_203 (by decide) ?_
    exact bX2_takeOnce_207 C hkm hW hZ _ (lv_sub hl [] rfl) hE
