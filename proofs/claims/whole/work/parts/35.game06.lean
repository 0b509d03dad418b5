set_option maxRecDepth 100000 in
theorem m_1760 : Cond.methodLink RX11 386 yX4_set ∈ W0 := w0_in (List.mem_append_right _ (List.mem_of_getElem? (i := 1760) rfl)) rfl
set_option maxRecDepth 100000 in
theorem m_1761 : Cond.methodLink RX11 390 yX4_keep ∈ W0 := w0_in (List.mem_append_right _ (List.mem_of_getElem? (i := 1761) rfl)) rfl
set_option maxRecDepth 100000 in
theorem m_1762 : Cond.instanceMethod yX4_keep ∈ W0 := w0_in (List.mem_append_right _ (List.mem_of_getElem? (i := 1762) rfl)) rfl
set_option maxRecDepth 100000 in
theorem m_1763 : Cond.selects RX4 yX4_keep yX4_keep ∈ W0 := w0_in (List.mem_append_right _ (List.mem_of_getElem? (i := 1763) rfl)) rfl
set_option maxRecDepth 100000 in
theorem m_1764 : Cond.code yX4_keep cX4_keep 3 none ∈ W0 := w0_in (List.mem_append_right _ (List.mem_of_getElem? (i := 1764) rfl)) rfl
theorem cw_X11_386 : cwd RX11 386 yX4_set cX4_set 5 none false 4 := ⟨m_1353, m_1760, m_14, ⟨m_1351, m_1352⟩, by decide, by decide, by decide +kernel⟩
theorem cw_X11_390 : cwd RX11 390 yX4_keep cX4_keep 3 none false 1 := ⟨m_1764, m_1761, m_14, ⟨m_1762, m_1763⟩, by decide, by decide, by decide +kernel⟩
theorem dX11_problem_0 : decode cX11_problem 0 = .ok (.iload_n 2, 1) := by decide +kernel
theorem dX11_problem_1 : decode cX11_problem 1 = .ok (.ifCond .lt 29, 3) := by decide +kernel
theorem dX11_problem_4 : decode cX11_problem 4 = .ok (.iload_n 2, 1) := by decide +kernel
theorem dX11_problem_5 : decode cX11_problem 5 = .ok (.iconst 3, 1) := by decide +kernel
theorem dX11_problem_6 : decode cX11_problem 6 = .ok (.if_icmp .gt 24, 3) := by decide +kernel
theorem dX11_problem_9 : decode cX11_problem 9 = .ok (.iload_n 3, 1) := by decide +kernel
theorem dX11_problem_10 : decode cX11_problem 10 = .ok (.ifCond .lt 20, 3) := by decide +kernel
theorem dX11_problem_13 : decode cX11_problem 13 = .ok (.iload_n 3, 1) := by decide +kernel
theorem dX11_problem_14 : decode cX11_problem 14 = .ok (.iconst 2, 1) := by decide +kernel
theorem dX11_problem_15 : decode cX11_problem 15 = .ok (.if_icmp .gt 15, 3) := by decide +kernel
theorem dX11_problem_18 : decode cX11_problem 18 = .ok (.iload 4, 2) := by decide +kernel
theorem dX11_problem_20 : decode cX11_problem 20 = .ok (.iconst 1, 1) := by decide +kernel
theorem dX11_problem_21 : decode cX11_problem 21 = .ok (.if_icmp .lt 9, 3) := by decide +kernel
theorem dX11_problem_24 : decode cX11_problem 24 = .ok (.iload 4, 2) := by decide +kernel
theorem dX11_problem_26 : decode cX11_problem 26 = .ok (.iconst 4, 1) := by decide +kernel
theorem dX11_problem_27 : decode cX11_problem 27 = .ok (.if_icmp .le 6, 3) := by decide +kernel
theorem dX11_problem_30 : decode cX11_problem 30 = .ok (.bipush (-101), 2) := by decide +kernel
theorem dX11_problem_32 : decode cX11_problem 32 = .ok (.ireturn, 1) := by decide +kernel
theorem dX11_problem_33 : decode cX11_problem 33 = .ok (.aload_n 0, 1) := by decide +kernel
theorem dX11_problem_34 : decode cX11_problem 34 = .ok (.iload_n 1, 1) := by decide +kernel
theorem dX11_problem_35 : decode cX11_problem 35 = .ok (.invokevirtual 193, 3) := by decide +kernel
theorem dX11_problem_38 : decode cX11_problem 38 = .ok (.ifCond .ne 6, 3) := by decide +kernel
theorem dX11_problem_41 : decode cX11_problem 41 = .ok (.bipush (-102), 2) := by decide +kernel
theorem dX11_problem_43 : decode cX11_problem 43 = .ok (.ireturn, 1) := by decide +kernel
theorem dX11_problem_44 : decode cX11_problem 44 = .ok (.aload_n 0, 1) := by decide +kernel
theorem dX11_problem_45 : decode cX11_problem 45 = .ok (.getfield 50, 3) := by decide +kernel
theorem dX11_problem_48 : decode cX11_problem 48 = .ok (.aload_n 0, 1) := by decide +kernel
theorem dX11_problem_49 : decode cX11_problem 49 = .ok (.getfield 103, 3) := by decide +kernel
theorem dX11_problem_52 : decode cX11_problem 52 = .ok (.iload_n 1, 1) := by decide +kernel
theorem dX11_problem_53 : decode cX11_problem 53 = .ok (.aaload, 1) := by decide +kernel
theorem dX11_problem_54 : decode cX11_problem 54 = .ok (.invokevirtual 293, 3) := by decide +kernel
theorem dX11_problem_57 : decode cX11_problem 57 = .ok (.ifCond .eq 6, 3) := by decide +kernel
theorem dX11_problem_60 : decode cX11_problem 60 = .ok (.bipush (-103), 2) := by decide +kernel
theorem dX11_problem_62 : decode cX11_problem 62 = .ok (.ireturn, 1) := by decide +kernel
theorem dX11_problem_63 : decode cX11_problem 63 = .ok (.aload_n 0, 1) := by decide +kernel
theorem dX11_problem_64 : decode cX11_problem 64 = .ok (.getfield 93, 3) := by decide +kernel
theorem dX11_problem_67 : decode cX11_problem 67 = .ok (.aload_n 0, 1) := by decide +kernel
theorem dX11_problem_68 : decode cX11_problem 68 = .ok (.getfield 103, 3) := by decide +kernel
theorem dX11_problem_71 : decode cX11_problem 71 = .ok (.iload_n 1, 1) := by decide +kernel
theorem dX11_problem_72 : decode cX11_problem 72 = .ok (.aaload, 1) := by decide +kernel
theorem dX11_problem_73 : decode cX11_problem 73 = .ok (.iload_n 2, 1) := by decide +kernel
theorem dX11_problem_74 : decode cX11_problem 74 = .ok (.iload_n 3, 1) := by decide +kernel
theorem dX11_problem_75 : decode cX11_problem 75 = .ok (.iload 4, 2) := by decide +kernel
theorem dX11_problem_77 : decode cX11_problem 77 = .ok (.invokevirtual 386, 3) := by decide +kernel
theorem dX11_problem_80 : decode cX11_problem 80 = .ok (.aload_n 0, 1) := by decide +kernel
theorem dX11_problem_81 : decode cX11_problem 81 = .ok (.getfield 93, 3) := by decide +kernel
theorem dX11_problem_84 : decode cX11_problem 84 = .ok (.iconst 0, 1) := by decide +kernel
theorem dX11_problem_85 : decode cX11_problem 85 = .ok (.invokevirtual 286, 3) := by decide +kernel
theorem dX11_problem_88 : decode cX11_problem 88 = .ok (.istore 5, 2) := by decide +kernel
theorem dX11_problem_90 : decode cX11_problem 90 = .ok (.aload_n 0, 1) := by decide +kernel
theorem dX11_problem_91 : decode cX11_problem 91 = .ok (.getfield 93, 3) := by decide +kernel
theorem dX11_problem_94 : decode cX11_problem 94 = .ok (.getfield 289, 3) := by decide +kernel
theorem dX11_problem_97 : decode cX11_problem 97 = .ok (.ifCond .eq 6, 3) := by decide +kernel
theorem dX11_problem_100 : decode cX11_problem 100 = .ok (.bipush (-104), 2) := by decide +kernel
theorem dX11_problem_102 : decode cX11_problem 102 = .ok (.ireturn, 1) := by decide +kernel
theorem dX11_problem_103 : decode cX11_problem 103 = .ok (.aload_n 0, 1) := by decide +kernel
theorem dX11_problem_104 : decode cX11_problem 104 = .ok (.getfield 93, 3) := by decide +kernel
theorem dX11_problem_107 : decode cX11_problem 107 = .ok (.iload_n 1, 1) := by decide +kernel
theorem dX11_problem_108 : decode cX11_problem 108 = .ok (.invokevirtual 390, 3) := by decide +kernel
theorem dX11_problem_111 : decode cX11_problem 111 = .ok (.iload 5, 2) := by decide +kernel
theorem dX11_problem_113 : decode cX11_problem 113 = .ok (.ireturn, 1) := by decide +kernel
def sX11_problem_30 (F : Nat) (h : Hp) : Option (Int32 × Hp) := some ((-101 : Int32), h)
def sX11_problem (F : Nat) (h : Hp) (x0 : Nat) (x1 : Int32) (x2 : Int32) (x3 : Int32) (x4 : Int32) : Option (Int32 × Hp) := br (x2 < 0) (sX11_problem_30 F h ) (br ((3 : Int32) < x2) (sX11_problem_30 F h ) (br (x3 < 0) (sX11_problem_30 F h ) (br ((2 : Int32) < x3) (sX11_problem_30 F h ) (br (x4 < (1 : Int32)) (sX11_problem_30 F h ) (br (x4 ≤ (4 : Int32)) (cl (sX11_isPlace h x0 x1) fun o_7 => br (o_7.1 = 0) (some ((-102 : Int32), o_7.2)) (cl (hR o_7.2 x0 6) fun r_9 => cl (hR o_7.2 x0 13) fun r_10 => gd (inB x1 (hN o_7.2 r_10)) <| cl (hR o_7.2 r_10 x1.toNatClampNeg) fun r_12 => cl (sX5_endOf F o_7.2 r_9 r_12) fun o_13 => br (o_13.1 = 0) (cl (hR o_13.2 x0 11) fun r_15 => cl (hR o_13.2 x0 13) fun r_16 => gd (inB x1 (hN o_13.2 r_16)) <| cl (hR o_13.2 r_16 x1.toNatClampNeg) fun r_18 => cl (sX4_set F o_13.2 r_15 r_18 x2 x3 x4) fun o_19 => cl (hR o_19 x0 11) fun r_20 => cl (sX4_tree F o_19 r_20 (0 : Int32)) fun o_21 => cl (hR o_21.2 x0 11) fun r_22 => br ((hI o_21.2 r_22 9) = 0) (cl (hR o_21.2 x0 11) fun r_24 => cl (sX4_keep F o_21.2 r_24 x1) fun o_25 => some (o_21.1, o_25)) (some ((-104 : Int32), o_21.2))) (some ((-103 : Int32), o_13.2)))) (sX11_problem_30 F h ))))))
set_option maxRecDepth 20000 in
theorem moX11_problem_30 {o : Int32 × Hp} {F : Nat} {h : Hp} (hE : sX11_problem_30 F h  = some o) : Le h o.2 := by
  exact le_some2 hE
set_option maxRecDepth 20000 in
theorem moX11_problem {o : Int32 × Hp} {F : Nat} {h : Hp} {x0 : Nat} {x1 : Int32} {x2 : Int32} {x3 : Int32} {x4 : Int32} (hE : sX11_problem F h x0 x1 x2 x3 x4 = some o) : Le h o.2 := by
  rcases br_e hE with ⟨_, hE⟩ | ⟨_, hE⟩
  · exact moX11_problem_30 hE
  · rcases br_e hE with ⟨_, hE⟩ | ⟨_, hE⟩
    · exact moX11_problem_30 hE
    · rcases br_e hE with ⟨_, hE⟩ | ⟨_, hE⟩
      · exact moX11_problem_30 hE
      · rcases br_e hE with ⟨_, hE⟩ | ⟨_, hE⟩
        · exact moX11_problem_30 hE
        · rcases br_e hE with ⟨_, hE⟩ | ⟨_, hE⟩
          · exact moX11_problem_30 hE
          · rcases br_e hE with ⟨_, hE⟩ | ⟨_, hE⟩
            · obtain ⟨o_7, eo_7, hE⟩ := cl_e hE
              refine (moX11_isPlace eo_7).tr ?_
              rcases br_e hE with ⟨_, hE⟩ | ⟨_, hE⟩
              · exact le_some2 hE
              · obtain ⟨r_9, er_9, hE⟩ := cl_e hE
                obtain ⟨r_10, er_10, hE⟩ := cl_e hE
                obtain ⟨g_11, hE⟩ := gd_e hE
                obtain ⟨r_12, er_12, hE⟩ := cl_e hE
                obtain ⟨o_13, eo_13, hE⟩ := cl_e hE
                refine (moX5_endOf eo_13).tr ?_
                rcases br_e hE with ⟨_, hE⟩ | ⟨_, hE⟩
                · obtain ⟨r_15, er_15, hE⟩ := cl_e hE
                  obtain ⟨r_16, er_16, hE⟩ := cl_e hE
                  obtain ⟨g_17, hE⟩ := gd_e hE
                  obtain ⟨r_18, er_18, hE⟩ := cl_e hE
                  obtain ⟨o_19, eo_19, hE⟩ := cl_e hE
                  refine (moX4_set eo_19).tr ?_
                  obtain ⟨r_20, er_20, hE⟩ := cl_e hE
                  obtain ⟨o_21, eo_21, hE⟩ := cl_e hE
                  refine (moX4_tree eo_21).tr ?_
                  obtain ⟨r_22, er_22, hE⟩ := cl_e hE
                  rcases br_e hE with ⟨_, hE⟩ | ⟨_, hE⟩
                  · obtain ⟨r_24, er_24, hE⟩ := cl_e hE
                    obtain ⟨o_25, eo_25, hE⟩ := cl_e hE
                    refine (moX4_keep eo_25).tr ?_
                    exact le_some2 hE
                  · exact le_some2 hE
                · exact le_some2 hE
            · exact moX11_problem_30 hE
set_option maxRecDepth 20000 in
theorem bX11_problem_30 {p : Program} {l : Launch} {e : Env} {s : State} {m : MethodId} {args : Array Value} {below : List Frame} {meth : Method} {c : Code} {X : Ec} {h0 : Hp} {o : Int32 × Hp} {F : Nat} (C : Cx X p s m args meth c RX11 cX11_problem 6 (some .int) "problem") {h : Hp} {H : Heap} {locs : List Loc} (hkm : Km h0 h) (hW : Wx X h H) (hZ : va_S (aA (eB X)) s.heap H locs) (ls : Array Slot) (hl : lv_has ls 6 []) (hE : sX11_problem_30 F h  = some o) : W p l e (rm 47 1268) s m args below meth c H locs 0 0 (MQ below (QI X h0 o.1 o.2) args s 0 0 (aA (eB X))) (F0 m 30 ls []) := by
  refine lv_bipush (v := (-101 : Int32)) C.1 C.2.1 dX11_problem_30 (by decide) ?_
  exact x_iret C rfl rfl hW hZ hkm hE dX11_problem_32
set_option maxRecDepth 20000 in
theorem ct_X11_problem (l : Launch) (X : Ec) (F : Nat) {h : Hp} {x0 : Nat} {x1 : Int32} {x2 : Int32} {x3 : Int32} {x4 : Int32} {o : Int32 × Hp} (k_x0 : hK h x0 = 11) (hE : sX11_problem F h x0 x1 x2 x3 x4 = some o) : MetI l yX11_problem cX11_problem 6 (some .int) 47 1268 X [.ref x0, .int x1, .int x2, .int x3, .int x4] h o := by
  refine x_met (by decide) (Nat.le_of_ble_eq_true rfl) ?_
  intro p e s m below meth c ls C hl hW hZ
  have hl : lv_has ls 6 [(0, .ref x0), (1, .int x1), (2, .int x2), (3, .int x3), (4, .int x4)] := hl
  have hkm : Km h h := Km.rf h
  refine lv_iload_n C.1 C.2.1 dX11_problem_0 rfl (lv_at hl 2 rfl) ?_
  refine lv_if_lt (tgt := 30) C.1 C.2.1 dX11_problem_1 (by decide) (fun c_1 => ?_) (fun c_1 => ?_)
  · have hE := br_p hE c_1
    exact bX11_problem_30 C hkm hW hZ _ (lv_sub hl [] rfl) hE
  · have hE := br_n hE c_1
    refine lv_iload_n C.1 C.2.1 dX11_problem_4 rfl (lv_at hl 2 rfl) ?_
    refine lv_iconst (v := (3 : Int32)) C.1 C.2.1 dX11_problem_5 (by decide) ?_
    refine lv_icmp_gt (tgt := 30) C.1 C.2.1 dX11_problem_6 (by decide) (fun c_2 => ?_) (fun c_2 => ?_)
    · have hE := br_p hE c_2
      exact bX11_problem_30 C hkm hW hZ _ (lv_sub hl [] rfl) hE
    · have hE := br_n hE c_2
      refine lv_iload_n C.1 C.2.1 dX11_problem_9 rfl (lv_at hl 3 rfl) ?_
      refine lv_if_lt (tgt := 30) C.1 C.2.1 dX11_problem_10 (by decide) (fun c_3 => ?_) (fun c_3 => ?_)
      · have hE := br_p hE c_3
        exact bX11_problem_30 C hkm hW hZ _ (lv_sub hl [] rfl) hE
      · have hE := br_n hE c_3
        refine lv_iload_n C.1 C.2.1 dX11_problem_13 rfl (lv_at hl 3 rfl) ?_
        refine lv_iconst (v := (2 : Int32)) C.1 C.2.1 dX11_problem_14 (by decide) ?_
        refine lv_icmp_gt (tgt := 30) C.1 C.2.1 dX11_problem_15 (by decide) (fun c_4 => ?_) (fun c_4 => ?_)
        · have hE := br_p hE c_4
          exact bX11_problem_30 C hkm hW hZ _ (lv_sub hl [] rfl) hE
        · have hE := br_n hE c_4
          refine lv_iload C.1 C.2.1 dX11_problem_18 (lv_at hl 4 rfl) ?_
          refine lv_iconst (v := (1 : Int32)) C.1 C.2.1 dX11_problem_20 (by decide) ?_
          refine lv_icmp_lt (tgt := 30) C.1 C.2.1 dX11_problem_21 (by decide) (fun c_5 => ?_) (fun c_5 => ?_)
          · have hE := br_p hE c_5
            exact bX11_problem_30 C hkm hW hZ _ (lv_sub hl [] rfl) hE
          · have hE := br_n hE c_5
            refine lv_iload C.1 C.2.1 dX11_problem_24 (lv_at hl 4 rfl) ?_
            refine lv_iconst (v := (4 : Int32)) C.1 C.2.1 dX11_problem_26 (by decide) ?_
            refine lv_icmp_le (tgt := 33) C.1 C.2.1 dX11_problem_27 (by decide) (fun c_6 => ?_) (fun c_6 => ?_)
            · have hE := br_p hE c_6
              refine lv_aload_n C.1 C.2.1 dX11_problem_33 rfl (lv_at hl 0 rfl) ?_
              refine lv_iload_n C.1 C.2.1 dX11_problem_34 rfl (lv_at hl 1 rfl) ?_
              obtain ⟨o_7, eo_7, hE⟩ := cl_e hE
              refine x_kI (o := o_7) (z_runV (As := [.int x1]) (rest := []) C (ct_X11_isPlace l X k_x0 eo_7) cw_X11_193 hW hZ k_x0 (by decide) rfl rfl rfl hl.1 (Nat.le_of_ble_eq_true rfl) rfl dX11_problem_35 ⟨Nat.le_of_ble_eq_true rfl, Nat.le_of_ble_eq_true rfl⟩ ⟨Nat.le_refl _, Nat.le_refl _⟩) hZ (fun _ _ hW km hZ => ?_)
              replace hkm := hkm.tr km
              replace k_x0 := km.at k_x0 (by decide)
              refine lv_if_ne (tgt := 44) C.1 C.2.1 dX11_problem_38 (by decide) (fun c_8 => ?_) (fun c_8 => ?_)
              · have hE := br_n hE c_8
                refine lv_aload_n C.1 C.2.1 dX11_problem_44 rfl (lv_at hl 0 rfl) ?_
                obtain ⟨r_9, er_9, hE⟩ := cl_e hE
                refine gf_X11_50 C hW k_x0 er_9 dX11_problem_45 (fun k_r_9 => ?_)
                refine lv_aload_n C.1 C.2.1 dX11_problem_48 rfl (lv_at hl 0 rfl) ?_
                obtain ⟨r_10, er_10, hE⟩ := cl_e hE
                refine gf_X11_103 C hW k_x0 er_10 dX11_problem_49 (fun k_r_10 => ?_)
                refine lv_iload_n C.1 C.2.1 dX11_problem_52 rfl (lv_at hl 1 rfl) ?_
                obtain ⟨g_11, hE⟩ := gd_e hE
                obtain ⟨r_12, er_12, hE⟩ := cl_e hE
                refine y_aald (t0 := 4) C hW k_r_10 (by decide) (by decide) rfl rfl rfl (fun _ => rfl) g_11 er_12 dX11_problem_53 (fun k_r_12 => ?_)
                obtain ⟨o_13, eo_13, hE⟩ := cl_e hE
                refine x_kI (o := o_13) (z_runV (As := [.ref r_12]) (rest := []) C (ct_X5_endOf l X F k_r_9 k_r_12 eo_13) cw_X11_293 hW hZ k_r_9 (by decide) rfl rfl rfl hl.1 (Nat.le_of_ble_eq_true rfl) rfl dX11_problem_54 ⟨Nat.le_of_ble_eq_true rfl, Nat.le_of_ble_eq_true rfl⟩ ⟨Nat.le_refl _, Nat.le_refl _⟩) hZ (fun _ _ hW km hZ => ?_)
                replace hkm := hkm.tr km
                replace k_x0 := km.at k_x0 (by decide)
                refine lv_if_eq (tgt := 63) C.1 C.2.1 dX11_problem_57 (by decide) (fun c_14 => ?_) (fun c_14 => ?_)
                · have hE := br_p hE c_14
                  refine lv_aload_n C.1 C.2.1 dX11_problem_63 rfl (lv_at hl 0 rfl) ?_
                  obtain ⟨r_15, er_15, hE⟩ := cl_e hE
                  refine gf_X11_93 C hW k_x0 er_15 dX11_problem_64 (fun k_r_15 => ?_)
                  refine lv_aload_n C.1 C.2.1 dX11_problem_67 rfl (lv_at hl 0 rfl) ?_
                  obtain ⟨r_16, er_16, hE⟩ := cl_e hE
                  refine gf_X11_103 C hW k_x0 er_16 dX11_problem_68 (fun k_r_16 => ?_)
                  refine lv_iload_n C.1 C.2.1 dX11_problem_71 rfl (lv_at hl 1 rfl) ?_
                  obtain ⟨g_17, hE⟩ := gd_e hE
                  obtain ⟨r_18, er_18, hE⟩ := cl_e hE
                  refine y_aald (t0 := 4) C hW k_r_16 (by decide) (by decide) rfl rfl rfl (fun _ => rfl) g_17 er_18 dX11_problem_72 (fun k_r_18 => ?_)
                  refine lv_iload_n C.1 C.2.1 dX11_problem_73 rfl (lv_at hl 2 rfl) ?_
                  refine lv_iload_n C.1 C.2.1 dX11_problem_74 rfl (lv_at hl 3 rfl) ?_
                  refine lv_iload C.1 C.2.1 dX11_problem_75 (lv_at hl 4 rfl) ?_
                  obtain ⟨o_19, eo_19, hE⟩ := cl_e hE
                  refine x_kV (o := o_19) (z_runV (As := [.ref r_18, .int x2, .int x3, .int x4]) (rest := []) C (ct_X4_set l X F k_r_15 k_r_18 eo_19) cw_X11_386 hW hZ k_r_15 (by decide) rfl rfl rfl hl.1 (Nat.le_of_ble_eq_true rfl) rfl dX11_problem_77 ⟨Nat.le_of_ble_eq_true rfl, Nat.le_of_ble_eq_true rfl⟩ ⟨Nat.le_refl _, Nat.le_refl _⟩) hZ (fun _ _ hW km hZ => ?_)
                  replace hkm := hkm.tr km
                  replace k_x0 := km.at k_x0 (by decide)
                  refine lv_aload_n C.1 C.2.1 dX11_problem_80 rfl (lv_at hl 0 rfl) ?_
                  obtain ⟨r_20, er_20, hE⟩ := cl_e hE
                  refine gf_X11_93 C hW k_x0 er_20 dX11_problem_81 (fun k_r_20 => ?_)
                  refine lv_iconst (v := (0 : Int32)) C.1 C.2.1 dX11_problem_84 (by decide) ?_
                  obtain ⟨o_21, eo_21, hE⟩ := cl_e hE
                  refine x_kI (o := o_21) (z_runVN (As := [.int (0 : Int32)]) (rest := []) C (ct_X4_tree l X F k_r_20 eo_21) cn_X11_286 hW hZ k_r_20 (by decide) rfl rfl rfl hl.1 (Nat.le_of_ble_eq_true rfl) rfl dX11_problem_85 ⟨Nat.le_of_ble_eq_true rfl, Nat.le_of_ble_eq_true rfl⟩ ⟨Nat.le_refl _, Nat.le_refl _⟩) hZ (fun _ _ hW km hZ => ?_)
                  replace hkm := hkm.tr km
                  replace k_x0 := km.at k_x0 (by decide)
                  refine lv_istore (lv' := [(5, .int o_21.1), (0, .ref x0), (1, .int x1), (2, .int x2), (3, .int x3), (4, .int x4)]) C.1 C.2.1 dX11_problem_88 hl (by decide) rfl (fun ls hl => ?_)
                  refine lv_aload_n C.1 C.2.1 dX11_problem_90 rfl (lv_at hl 1 rfl) ?_
                  obtain ⟨r_22, er_22, hE⟩ := cl_e hE
                  refine gf_X11_93 C hW k_x0 er_22 dX11_problem_91 (fun k_r_22 => ?_)
                  refine gf_X11_289 C hW k_r_22 dX11_problem_94 ?_
                  refine lv_if_eq (tgt := 103) C.1 C.2.1 dX11_problem_97 (by decide) (fun c_23 => ?_) (fun c_23 => ?_)
                  · have hE := br_p hE c_23
                    refine lv_aload_n C.1 C.2.1 dX11_problem_103 rfl (lv_at hl 1 rfl) ?_
                    obtain ⟨r_24, er_24, hE⟩ := cl_e hE
                    refine gf_X11_93 C hW k_x0 er_24 dX11_problem_104 (fun k_r_24 => ?_)
                    refine lv_iload_n C.1 C.2.1 dX11_problem_107 rfl (lv_at hl 2 rfl) ?_
                    obtain ⟨o_25, eo_25, hE⟩ := cl_e hE
                    refine x_kV (o := o_25) (z_runV (As := [.int x1]) (rest := []) C (ct_X4_keep l X F k_r_24 eo_25) cw_X11_390 hW hZ k_r_24 (by decide) rfl rfl rfl hl.1 (Nat.le_of_ble_eq_true rfl) rfl dX11_problem_108 ⟨Nat.le_of_ble_eq_true rfl, Nat.le_of_ble_eq_true rfl⟩ ⟨Nat.le_refl _, Nat.le_refl _⟩) hZ (fun _ _ hW km hZ => ?_)
                    replace hkm := hkm.tr km
                    replace k_x0 := km.at k_x0 (by decide)
                    refine lv_iload C.1 C.2.1 dX11_problem_111 (lv_at hl 0 rfl) ?_
                    exact x_iret C rfl rfl hW hZ hkm hE dX11_problem_113
                  · have hE := br_n hE c_23
                    refine lv_bipush (v := (-104 : Int32)) C.1 C.2.1 dX11_problem_100 (by decide) ?_
                    exact x_iret C rfl rfl hW hZ hkm hE dX11_problem_102
                · have hE := br_n hE c_14
                  refine lv_bipush (v := (-103 : Int32)) C.1 C.2.1 dX11_problem_60 (by decide) ?_
                  exact x_iret C rfl rfl hW hZ hkm hE dX11_problem_62
              · have hE := br_p hE c_8
                refine lv_bipush (v := (-102 : Int32)) C.1 C.2.1 dX11_problem_41 (by decide) ?_
                exact x_iret C rfl rfl hW hZ hkm hE dX11_problem_43
            · have hE := br_n hE c_6
              exact bX11_problem_30 C hkm hW hZ _ (lv_sub hl [] rfl) hE
set_option maxRecDepth 100000 in
theorem m_1770 : Cond.methodLink RX11 393 yX4_keyAt ∈ W0 := w0_in (List.mem_append_right _ (List.mem_of_getElem? (i := 1770) rfl)) rfl
set_option maxRecDepth 100000 in
theorem m_1771 : Cond.instanceMethod yX4_keyAt ∈ W0 := w0_in (List.mem_append_right _ (List.mem_of_getElem? (i := 1771) rfl)) rfl
set_option maxRecDepth 100000 in
theorem m_1772 : Cond.selects RX4 yX4_keyAt yX4_keyAt ∈ W0 := w0_in (List.mem_append_right _ (List.mem_of_getElem? (i := 1772) rfl)) rfl
set_option maxRecDepth 100000 in
theorem m_1773 : Cond.code yX4_keyAt cX4_keyAt 2 (some .int) ∈ W0 := w0_in (List.mem_append_right _ (List.mem_of_getElem? (i := 1773) rfl)) rfl
theorem cw_X11_393 : cwd RX11 393 yX4_keyAt cX4_keyAt 2 (some .int) false 1 := ⟨m_1773, m_1770, m_14, ⟨m_1771, m_1772⟩, by decide, by decide, by decide +kernel⟩
theorem dX11_key_0 : decode cX11_key 0 = .ok (.aload_n 0, 1) := by decide +kernel
theorem dX11_key_1 : decode cX11_key 1 = .ok (.getfield 93, 3) := by decide +kernel
theorem dX11_key_4 : decode cX11_key 4 = .ok (.iload_n 1, 1) := by decide +kernel
theorem dX11_key_5 : decode cX11_key 5 = .ok (.invokevirtual 393, 3) := by decide +kernel
theorem dX11_key_8 : decode cX11_key 8 = .ok (.ireturn, 1) := by decide +kernel
def sX11_key (h : Hp) (x0 : Nat) (x1 : Int32) : Option (Int32 × Hp) := cl (hR h x0 11) fun r_1 => cl (sX4_keyAt h r_1 x1) fun o_2 => some (o_2.1, o_2.2)
set_option maxRecDepth 20000 in
theorem moX11_key {o : Int32 × Hp} {h : Hp} {x0 : Nat} {x1 : Int32} (hE : sX11_key h x0 x1 = some o) : Le h o.2 := by
  obtain ⟨r_1, er_1, hE⟩ := cl_e hE
  obtain ⟨o_2, eo_2, hE⟩ := cl_e hE
  refine (moX4_keyAt eo_2).tr ?_
  exact le_some2 hE
set_option maxRecDepth 20000 in
theorem ct_X11_key (l : Launch) (X : Ec) {h : Hp} {x0 : Nat} {x1 : Int32} {o : Int32 × Hp} (k_x0 : hK h x0 = 11) (hE : sX11_key h x0 x1 = some o) : MetI l yX11_key cX11_key 2 (some .int) 1 21 X [.ref x0, .int x1] h o := by
  refine x_met (by decide) (Nat.le_of_ble_eq_true rfl) ?_
  intro p e s m below meth c ls C hl hW hZ
  have hl : lv_has ls 2 [(0, .ref x0), (1, .int x1)] := hl
  have hkm : Km h h := Km.rf h
  refine lv_aload_n C.1 C.2.1 dX11_key_0 rfl (lv_at hl 0 rfl) ?_
  obtain ⟨r_1, er_1, hE⟩ := cl_e hE
  refine gf_X11_93 C hW k_x0 er_1 dX11_key_1 (fun k_r_1 => ?_)
  refine lv_iload_n C.1 C.2.1 dX11_key_4 rfl (lv_at hl 1 rfl) ?_
  obtain ⟨o_2, eo_2, hE⟩ := cl_e hE
  refine x_kI (o := o_2) (z_runV (As := [.int x1]) (rest := []) C (ct_X4_keyAt l X k_r_1 eo_2) cw_X11_393 hW hZ k_r_1 (by decide) rfl rfl rfl hl.1 (Nat.le_of_ble_eq_true rfl) rfl dX11_key_5 ⟨Nat.le_of_ble_eq_true rfl, Nat.le_of_ble_eq_true rfl⟩ ⟨Nat.le_refl _, Nat.le_refl _⟩) hZ (fun _ _ hW km hZ => ?_)
  replace hkm := hkm.tr km
  replace k_x0 := km.at k_x0 (by decide)
  exact x_iret C rfl rfl hW hZ hkm hE dX11_key_8
set_option maxRecDepth 100000 in
theorem m_1778 : Cond.methodLink RX11 396 yX4_refutesOf ∈ W0 := w0_in (List.mem_append_right _ (List.mem_of_getElem? (i := 1778) rfl)) rfl
set_option maxRecDepth 100000 in
theorem m_1779 : Cond.instanceMethod yX4_refutesOf ∈ W0 := w0_in (List.mem_append_right _ (List.mem_of_getElem? (i := 1779) rfl)) rfl
set_option maxRecDepth 100000 in
theorem m_1780 : Cond.selects RX4 yX4_refutesOf yX4_refutesOf ∈ W0 := w0_in (List.mem_append_right _ (List.mem_of_getElem? (i := 1780) rfl)) rfl
set_option maxRecDepth 100000 in
theorem m_1781 : Cond.code yX4_refutesOf cX4_refutesOf 2 (some .int) ∈ W0 := w0_in (List.mem_append_right _ (List.mem_of_getElem? (i := 1781) rfl)) rfl
theorem cw_X11_396 : cwd RX11 396 yX4_refutesOf cX4_refutesOf 2 (some .int) false 1 := ⟨m_1781, m_1778, m_14, ⟨m_1779, m_1780⟩, by decide, by decide, by decide +kernel⟩
theorem dX11_refutes_0 : decode cX11_refutes 0 = .ok (.aload_n 0, 1) := by decide +kernel
theorem dX11_refutes_1 : decode cX11_refutes 1 = .ok (.getfield 93, 3) := by decide +kernel
theorem dX11_refutes_4 : decode cX11_refutes 4 = .ok (.iload_n 1, 1) := by decide +kernel
theorem dX11_refutes_5 : decode cX11_refutes 5 = .ok (.invokevirtual 396, 3) := by decide +kernel
theorem dX11_refutes_8 : decode cX11_refutes 8 = .ok (.ireturn, 1) := by decide +kernel
def sX11_refutes (h : Hp) (x0 : Nat) (x1 : Int32) : Option (Int32 × Hp) := cl (hR h x0 11) fun r_1 => cl (sX4_refutesOf h r_1 x1) fun o_2 => some (o_2.1, o_2.2)
set_option maxRecDepth 20000 in
theorem moX11_refutes {o : Int32 × Hp} {h : Hp} {x0 : Nat} {x1 : Int32} (hE : sX11_refutes h x0 x1 = some o) : Le h o.2 := by
  obtain ⟨r_1, er_1, hE⟩ := cl_e hE
  obtain ⟨o_2, eo_2, hE⟩ := cl_e hE
  refine (moX4_refutesOf eo_2).tr ?_
  exact le_some2 hE
set_option maxRecDepth 20000 in
theorem ct_X11_refutes (l : Launch) (X : Ec) {h : Hp} {x0 : Nat} {x1 : Int32} {o : Int32 × Hp} (k_x0 : hK h x0 = 11) (hE : sX11_refutes h x0 x1 = some o) : MetI l yX11_refutes cX11_refutes 2 (some .int) 1 21 X [.ref x0, .int x1] h o := by
  refine x_met (by decide) (Nat.le_of_ble_eq_true rfl) ?_
  intro p e s m below meth c ls C hl hW hZ
  have hl : lv_has ls 2 [(0, .ref x0), (1, .int x1)] := hl
  have hkm : Km h h := Km.rf h
  refine lv_aload_n C.1 C.2.1 dX11_refutes_0 rfl (lv_at hl 0 rfl) ?_
  obtain ⟨r_1, er_1, hE⟩ := cl_e hE
  refine gf_X11_93 C hW k_x0 er_1 dX11_refutes_1 (fun k_r_1 => ?_)
  refine lv_iload_n C.1 C.2.1 dX11_refutes_4 rfl (lv_at hl 1 rfl) ?_
  obtain ⟨o_2, eo_2, hE⟩ := cl_e hE
  refine x_kI (o := o_2) (z_runV (As := [.int x1]) (rest := []) C (ct_X4_refutesOf l X k_r_1 eo_2) cw_X11_396 hW hZ k_r_1 (by decide) rfl rfl rfl hl.1 (Nat.le_of_ble_eq_true rfl) rfl dX11_refutes_5 ⟨Nat.le_of_ble_eq_true rfl, Nat.le_of_ble_eq_true rfl⟩ ⟨Nat.le_refl _, Nat.le_refl _⟩) hZ (fun _ _ hW km hZ => ?_)
  replace hkm := hkm.tr km
  replace k_x0 := km.at k_x0 (by decide)
  exact x_iret C rfl rfl hW hZ hkm hE dX11_refutes_8
