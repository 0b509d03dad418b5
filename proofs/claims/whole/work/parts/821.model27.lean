theorem dX15_hasEnded_0 : decode cX15_hasEnded 0 = .ok (.aload_n 0, 1) := by decide +kernel
theorem dX15_hasEnded_1 : decode cX15_hasEnded 1 = .ok (.aload_n 0, 1) := by decide +kernel
theorem dX15_hasEnded_2 : decode cX15_hasEnded 2 = .ok (.iload_n 1, 1) := by decide +kernel
theorem dX15_hasEnded_3 : decode cX15_hasEnded 3 = .ok (.invokevirtual 671, 3) := by decide +kernel
theorem dX15_hasEnded_6 : decode cX15_hasEnded 6 = .ok (.aload_n 0, 1) := by decide +kernel
theorem dX15_hasEnded_7 : decode cX15_hasEnded 7 = .ok (.getfield 301, 3) := by decide +kernel
theorem dX15_hasEnded_10 : decode cX15_hasEnded 10 = .ok (.iload_n 1, 1) := by decide +kernel
theorem dX15_hasEnded_11 : decode cX15_hasEnded 11 = .ok (.aaload, 1) := by decide +kernel
theorem dX15_hasEnded_12 : decode cX15_hasEnded 12 = .ok (.getfield 575, 3) := by decide +kernel
theorem dX15_hasEnded_15 : decode cX15_hasEnded 15 = .ok (.invokevirtual 683, 3) := by decide +kernel
theorem dX15_hasEnded_18 : decode cX15_hasEnded 18 = .ok (.ifCond .le 7, 3) := by decide +kernel
theorem dX15_hasEnded_21 : decode cX15_hasEnded 21 = .ok (.iconst 1, 1) := by decide +kernel
theorem dX15_hasEnded_22 : decode cX15_hasEnded 22 = .ok (.goto 4, 3) := by decide +kernel
theorem dX15_hasEnded_25 : decode cX15_hasEnded 25 = .ok (.iconst 0, 1) := by decide +kernel
theorem dX15_hasEnded_26 : decode cX15_hasEnded 26 = .ok (.ireturn, 1) := by decide +kernel
set_option maxRecDepth 20000 in
theorem moX15_hasEnded_26 {o : Int32 × Hp} {F : Nat} {h : Hp} {t0 : Int32} (hE : sX15_hasEnded_26 F h  t0 = some o) : Le h o.2 := by
  obtain ⟨g_1, hE⟩ := gd_e hE
  exact le_some2 hE
set_option maxRecDepth 20000 in
theorem moX15_hasEnded_18 {o : Int32 × Hp} {F : Nat} {h : Hp} {t0 : Int32} (hE : sX15_hasEnded_18 F h  t0 = some o) : Le h o.2 := by
  rcases br_e hE with ⟨_, hE⟩ | ⟨_, hE⟩
  · exact moX15_hasEnded_26 hE
  · exact moX15_hasEnded_26 hE
set_option maxRecDepth 20000 in
theorem moX15_hasEnded_6 {o : Int32 × Hp} {F : Nat} {h : Hp} {x0 : Nat} {x1 : Int32} {t0 : Nat} {t1 : Nat} (hE : sX15_hasEnded_6 F h x0 x1 t0 t1 = some o) : Le h o.2 := by
  obtain ⟨r_1, er_1, hE⟩ := cl_e hE
  obtain ⟨g_2, hE⟩ := gd_e hE
  obtain ⟨r_3, er_3, hE⟩ := cl_e hE
  obtain ⟨o_4, eo_4, hE⟩ := cl_e hE
  refine (moX15_endedBy eo_4).tr ?_
  exact moX15_hasEnded_18 hE
set_option maxRecDepth 20000 in
theorem moX15_hasEnded {o : Int32 × Hp} {F : Nat} {h : Hp} {x0 : Nat} {x1 : Int32} (hE : sX15_hasEnded F h x0 x1 = some o) : Le h o.2 := by
  obtain ⟨o_1, eo_1, hE⟩ := cl_e hE
  refine (moX15_deepBoard eo_1).tr ?_
  exact moX15_hasEnded_6 hE
set_option maxRecDepth 20000 in
theorem bX15_hasEnded_26 {p : Program} {l : Launch} {e : Env} {s : State} {m : MethodId} {args : Array Value} {below : List Frame} {meth : Method} {c : Code} {X : Ec} {h0 : Hp} {o : Int32 × Hp} {F : Nat} (C : Cx X p s m args meth c RX15 cX15_hasEnded 2 (some .boolean) "hasEnded") {h : Hp} {t0 : Int32} {H : Heap} {locs : List Loc} (hkl : Kl h0 h) (hW : Wx X h H) (hZ : va_S (aA (eB X)) s.heap H locs) (ls : Array Slot) (hl : lv_has ls 2 []) (hE : sX15_hasEnded_26 F h  t0 = some o) : W p l e (rmA 5 130 h0 o.2) s m args below meth c H locs (hS h - hS h0) (hL h - hL h0) (MQ below (QIA X h0 o.1 o.2) args s (hS o.2 - hS h0) (hL o.2 - hL h0) (aA (eB X))) (F0 m 26 ls [.int t0]) := by
  obtain ⟨g_1, hE⟩ := gd_e hE
  exact x_iretA C rfl (narB g_1) hW hZ hkl hE dX15_hasEnded_26
set_option maxRecDepth 20000 in
theorem bX15_hasEnded_18 {p : Program} {l : Launch} {e : Env} {s : State} {m : MethodId} {args : Array Value} {below : List Frame} {meth : Method} {c : Code} {X : Ec} {h0 : Hp} {o : Int32 × Hp} {F : Nat} (C : Cx X p s m args meth c RX15 cX15_hasEnded 2 (some .boolean) "hasEnded") {h : Hp} {t0 : Int32} {H : Heap} {locs : List Loc} (hkl : Kl h0 h) (hW : Wx X h H) (hZ : va_S (aA (eB X)) s.heap H locs) (ls : Array Slot) (hl : lv_has ls 2 []) (hE : sX15_hasEnded_18 F h  t0 = some o) : W p l e (rmA 5 130 h0 o.2) s m args below meth c H locs (hS h - hS h0) (hL h - hL h0) (MQ below (QIA X h0 o.1 o.2) args s (hS o.2 - hS h0) (hL o.2 - hL h0) (aA (eB X))) (F0 m 18 ls [.int t0]) := by
  refine lv_if_le (tgt := 25) C.1 C.2.1 dX15_hasEnded_18 (by decide) (fun c_1 => ?_) (fun c_1 => ?_)
  · have hE := br_p hE c_1
    refine lv_iconst (v := (0 : Int32)) C.1 C.2.1 dX15_hasEnded_25 (by decide) ?_
    exact bX15_hasEnded_26 C hkl hW hZ _ (lv_sub hl [] rfl) hE
  · have hE := br_n hE c_1
    refine lv_iconst (v := (1 : Int32)) C.1 C.2.1 dX15_hasEnded_21 (by decide) ?_
    refine lv_goto (tgt := 26) C.1 C.2.1 dX15_hasEnded_22 (by decide) ?_
    exact bX15_hasEnded_26 C hkl hW hZ _ (lv_sub hl [] rfl) hE
set_option maxRecDepth 20000 in
theorem bX15_hasEnded_6 {p : Program} {l : Launch} {e : Env} {s : State} {m : MethodId} {args : Array Value} {below : List Frame} {meth : Method} {c : Code} {X : Ec} {h0 : Hp} {o : Int32 × Hp} {F : Nat} (C : Cx X p s m args meth c RX15 cX15_hasEnded 2 (some .boolean) "hasEnded") {h : Hp} {x0 : Nat} {x1 : Int32} {t0 : Nat} {t1 : Nat} {H : Heap} {locs : List Loc} (k_x0 : hK h x0 = 15) (k_t0 : hK h t0 = 12) (k_t1 : hK h t1 = 15) (hkl : Kl h0 h) (hW : Wx X h H) (hZ : va_S (aA (eB X)) s.heap H locs) (ls : Array Slot) (hl : lv_has ls 2 [(0, .ref x0), (1, .int x1)]) (hE : sX15_hasEnded_6 F h x0 x1 t0 t1 = some o) : W p l e (rmA 5 130 h0 o.2) s m args below meth c H locs (hS h - hS h0) (hL h - hL h0) (MQ below (QIA X h0 o.1 o.2) args s (hS o.2 - hS h0) (hL o.2 - hL h0) (aA (eB X))) (F0 m 6 ls [.ref t0, .ref t1]) := by
  refine lv_aload_n C.1 C.2.1 dX15_hasEnded_6 rfl (lv_at hl 0 rfl) ?_
  obtain ⟨r_1, er_1, hE⟩ := cl_e hE
  refine gf_X15_301 C hW k_x0 er_1 dX15_hasEnded_7 (fun k_r_1 => ?_)
  refine lv_iload_n C.1 C.2.1 dX15_hasEnded_10 rfl (lv_at hl 1 rfl) ?_
  obtain ⟨g_2, hE⟩ := gd_e hE
  obtain ⟨r_3, er_3, hE⟩ := cl_e hE
  refine y_aald (t0 := 6) C hW k_r_1 (by decide) (by decide) rfl rfl rfl (fun _ => rfl) g_2 er_3 dX15_hasEnded_11 (fun k_r_3 => ?_)
  refine gf_X15_575 C hW k_r_3 dX15_hasEnded_12 ?_
  obtain ⟨o_4, eo_4, hE⟩ := cl_e hE
  have m1 := moX15_endedBy eo_4
  have m2 := moX15_hasEnded_18 hE
  refine x_kI (o := o_4) (z_runV (As := [.ref t0, .int (hI h r_3 0)]) (rest := []) C (ct_X15_endedBy l X F k_t1 k_t0 eo_4) cw_X15_683 hW hZ k_t1 (by decide) rfl rfl rfl hl.1 (Nat.le_of_ble_eq_true rfl) rfl dX15_hasEnded_15 ⟨Nat.le_of_ble_eq_true rfl, Nat.le_of_ble_eq_true rfl⟩ (rm_ok0 hkl m1 m2)) hZ (fun _ _ hW km hZ => ?_)
  replace hkl := hkl.tr km.l
  refine x_wc km ?_
  replace k_x0 := km.at k_x0 (by decide)
  exact bX15_hasEnded_18 C hkl hW hZ _ (lv_sub hl [] rfl) hE
set_option maxRecDepth 20000 in
theorem ct_X15_hasEnded (l : Launch) (X : Ec) (F : Nat) {h : Hp} {x0 : Nat} {x1 : Int32} {o : Int32 × Hp} (k_x0 : hK h x0 = 15) (hE : sX15_hasEnded F h x0 x1 = some o) : MetIA l yX15_hasEnded cX15_hasEnded 2 (some .boolean) 5 130 X [.ref x0, .int x1] h o := by
  refine x_metA (oh := o.2) (by decide) (Nat.le_of_ble_eq_true rfl) ?_
  intro p e s m below meth c ls C hl hW hZ
  have hl : lv_has ls 2 [(0, .ref x0), (1, .int x1)] := hl
  have hkl : Kl h h := Kl.rf h
  refine lv_aload_n C.1 C.2.1 dX15_hasEnded_0 rfl (lv_at hl 0 rfl) ?_
  refine lv_aload_n C.1 C.2.1 dX15_hasEnded_1 rfl (lv_at hl 0 rfl) ?_
  refine lv_iload_n C.1 C.2.1 dX15_hasEnded_2 rfl (lv_at hl 1 rfl) ?_
  obtain ⟨o_1, eo_1, hE⟩ := cl_e hE
  have m1 := moX15_deepBoard eo_1
  have m2 := moX15_hasEnded_6 hE
  refine x_kRA (o := o_1) hkl (z_runV (As := [.int x1]) (rest := [.ref x0]) C (ct_X15_deepBoard l X k_x0 eo_1) cw_X15_671 hW hZ k_x0 (by decide) rfl rfl rfl hl.1 (Nat.le_of_ble_eq_true rfl) rfl dX15_hasEnded_3 ⟨Nat.le_of_ble_eq_true rfl, Nat.le_of_ble_eq_true rfl⟩ (rm_ok hkl m1 m2)) hZ (fun _ _ hW km k_o_1_1 hZ => ?_)
  replace hkl := hkl.tr km
  replace k_x0 := km.at k_x0 (by decide)
  exact bX15_hasEnded_6 C k_x0 k_o_1_1 k_x0 hkl hW hZ _ (lv_sub hl [0, 1] rfl) hE
set_option maxRecDepth 100000 in
theorem ms_223 : Cond.selects RX15 yX15_isAnswered yX15_isAnswered ∈ W0 := w0_in (List.mem_append_left _ (List.mem_of_getElem? (i := 223) rfl)) rfl
set_option maxRecDepth 100000 in
theorem ms_222 : Cond.selects RX15 yX15_hasEnded yX15_hasEnded ∈ W0 := w0_in (List.mem_append_left _ (List.mem_of_getElem? (i := 222) rfl)) rfl
set_option maxRecDepth 100000 in
theorem ms_221 : Cond.selects RX15 yX15_isMove yX15_isMove ∈ W0 := w0_in (List.mem_append_left _ (List.mem_of_getElem? (i := 221) rfl)) rfl
set_option maxRecDepth 100000 in
theorem m_2861 : Cond.methodLink RX15 836 yX15_isMove ∈ W0 := w0_in (List.mem_append_right _ (List.mem_of_getElem? (i := 2861) rfl)) rfl
set_option maxRecDepth 100000 in
theorem m_2863 : Cond.instanceMethod yX15_isMove ∈ W0 := w0_in (List.mem_append_right _ (List.mem_of_getElem? (i := 2863) rfl)) rfl
set_option maxRecDepth 100000 in
theorem m_2864 : Cond.code yX15_isMove cX15_isMove 7 (some .boolean) ∈ W0 := w0_in (List.mem_append_right _ (List.mem_of_getElem? (i := 2864) rfl)) rfl
set_option maxRecDepth 100000 in
theorem m_2865 : Cond.methodLink RX15 829 yX15_hasEnded ∈ W0 := w0_in (List.mem_append_right _ (List.mem_of_getElem? (i := 2865) rfl)) rfl
set_option maxRecDepth 100000 in
theorem m_2867 : Cond.instanceMethod yX15_hasEnded ∈ W0 := w0_in (List.mem_append_right _ (List.mem_of_getElem? (i := 2867) rfl)) rfl
set_option maxRecDepth 100000 in
theorem m_2868 : Cond.code yX15_hasEnded cX15_hasEnded 2 (some .boolean) ∈ W0 := w0_in (List.mem_append_right _ (List.mem_of_getElem? (i := 2868) rfl)) rfl
set_option maxRecDepth 100000 in
theorem m_2869 : Cond.methodLink RX15 832 yX15_isAnswered ∈ W0 := w0_in (List.mem_append_right _ (List.mem_of_getElem? (i := 2869) rfl)) rfl
set_option maxRecDepth 100000 in
theorem m_2871 : Cond.instanceMethod yX15_isAnswered ∈ W0 := w0_in (List.mem_append_right _ (List.mem_of_getElem? (i := 2871) rfl)) rfl
set_option maxRecDepth 100000 in
theorem m_2872 : Cond.code yX15_isAnswered cX15_isAnswered 7 (some .boolean) ∈ W0 := w0_in (List.mem_append_right _ (List.mem_of_getElem? (i := 2872) rfl)) rfl
theorem cw_X15_836 : cwd RX15 836 yX15_isMove cX15_isMove 7 (some .boolean) false 5 := ⟨m_2864, m_2861, m_19, ⟨m_2863, ms_221⟩, by decide, by decide, by decide +kernel⟩
theorem cw_X15_829 : cwd RX15 829 yX15_hasEnded cX15_hasEnded 2 (some .boolean) false 1 := ⟨m_2868, m_2865, m_19, ⟨m_2867, ms_222⟩, by decide, by decide, by decide +kernel⟩
theorem cw_X15_832 : cwd RX15 832 yX15_isAnswered cX15_isAnswered 7 (some .boolean) false 5 := ⟨m_2872, m_2869, m_19, ⟨m_2871, ms_223⟩, by decide, by decide, by decide +kernel⟩
theorem dX15_isAnswered_0 : decode cX15_isAnswered 0 = .ok (.aload_n 0, 1) := by decide +kernel
theorem dX15_isAnswered_1 : decode cX15_isAnswered 1 = .ok (.iload_n 1, 1) := by decide +kernel
theorem dX15_isAnswered_2 : decode cX15_isAnswered 2 = .ok (.iload_n 2, 1) := by decide +kernel
theorem dX15_isAnswered_3 : decode cX15_isAnswered 3 = .ok (.invokevirtual 823, 3) := by decide +kernel
theorem dX15_isAnswered_6 : decode cX15_isAnswered 6 = .ok (.iload 4, 2) := by decide +kernel
theorem dX15_isAnswered_8 : decode cX15_isAnswered 8 = .ok (.iconst 1, 1) := by decide +kernel
theorem dX15_isAnswered_9 : decode cX15_isAnswered 9 = .ok (.if_icmp .ne 17, 3) := by decide +kernel
theorem dX15_isAnswered_12 : decode cX15_isAnswered 12 = .ok (.aload_n 0, 1) := by decide +kernel
theorem dX15_isAnswered_13 : decode cX15_isAnswered 13 = .ok (.iload_n 1, 1) := by decide +kernel
theorem dX15_isAnswered_14 : decode cX15_isAnswered 14 = .ok (.iconst 1, 1) := by decide +kernel
theorem dX15_isAnswered_15 : decode cX15_isAnswered 15 = .ok (.iadd, 1) := by decide +kernel
theorem dX15_isAnswered_16 : decode cX15_isAnswered 16 = .ok (.iload 5, 2) := by decide +kernel
theorem dX15_isAnswered_18 : decode cX15_isAnswered 18 = .ok (.invokevirtual 826, 3) := by decide +kernel
theorem dX15_isAnswered_21 : decode cX15_isAnswered 21 = .ok (.ifCond .eq 5, 3) := by decide +kernel
theorem dX15_isAnswered_24 : decode cX15_isAnswered 24 = .ok (.iconst 1, 1) := by decide +kernel
theorem dX15_isAnswered_25 : decode cX15_isAnswered 25 = .ok (.ireturn, 1) := by decide +kernel
theorem dX15_isAnswered_26 : decode cX15_isAnswered 26 = .ok (.iload_n 3, 1) := by decide +kernel
theorem dX15_isAnswered_27 : decode cX15_isAnswered 27 = .ok (.iconst 1, 1) := by decide +kernel
theorem dX15_isAnswered_28 : decode cX15_isAnswered 28 = .ok (.if_icmp .eq 13, 3) := by decide +kernel
theorem dX15_isAnswered_31 : decode cX15_isAnswered 31 = .ok (.aload_n 0, 1) := by decide +kernel
theorem dX15_isAnswered_32 : decode cX15_isAnswered 32 = .ok (.iload_n 1, 1) := by decide +kernel
theorem dX15_isAnswered_33 : decode cX15_isAnswered 33 = .ok (.iconst 1, 1) := by decide +kernel
theorem dX15_isAnswered_34 : decode cX15_isAnswered 34 = .ok (.iadd, 1) := by decide +kernel
theorem dX15_isAnswered_35 : decode cX15_isAnswered 35 = .ok (.invokevirtual 829, 3) := by decide +kernel
theorem dX15_isAnswered_38 : decode cX15_isAnswered 38 = .ok (.ifCond .eq 5, 3) := by decide +kernel
theorem dX15_isAnswered_41 : decode cX15_isAnswered 41 = .ok (.iconst 0, 1) := by decide +kernel
theorem dX15_isAnswered_42 : decode cX15_isAnswered 42 = .ok (.ireturn, 1) := by decide +kernel
theorem dX15_isAnswered_43 : decode cX15_isAnswered 43 = .ok (.iconst 0, 1) := by decide +kernel
theorem dX15_isAnswered_44 : decode cX15_isAnswered 44 = .ok (.istore 6, 2) := by decide +kernel
theorem dX15_isAnswered_46 : decode cX15_isAnswered 46 = .ok (.iload 6, 2) := by decide +kernel
theorem dX15_isAnswered_48 : decode cX15_isAnswered 48 = .ok (.aload_n 0, 1) := by decide +kernel
theorem dX15_isAnswered_49 : decode cX15_isAnswered 49 = .ok (.getfield 301, 3) := by decide +kernel
theorem dX15_isAnswered_52 : decode cX15_isAnswered 52 = .ok (.iload_n 1, 1) := by decide +kernel
theorem dX15_isAnswered_53 : decode cX15_isAnswered 53 = .ok (.iconst 1, 1) := by decide +kernel
theorem dX15_isAnswered_54 : decode cX15_isAnswered 54 = .ok (.iadd, 1) := by decide +kernel
theorem dX15_isAnswered_55 : decode cX15_isAnswered 55 = .ok (.aaload, 1) := by decide +kernel
theorem dX15_isAnswered_56 : decode cX15_isAnswered 56 = .ok (.getfield 575, 3) := by decide +kernel
theorem dX15_isAnswered_59 : decode cX15_isAnswered 59 = .ok (.if_icmp .ge 30, 3) := by decide +kernel
theorem dX15_isAnswered_62 : decode cX15_isAnswered 62 = .ok (.aload_n 0, 1) := by decide +kernel
theorem dX15_isAnswered_63 : decode cX15_isAnswered 63 = .ok (.iload_n 1, 1) := by decide +kernel
theorem dX15_isAnswered_64 : decode cX15_isAnswered 64 = .ok (.iconst 1, 1) := by decide +kernel
theorem dX15_isAnswered_65 : decode cX15_isAnswered 65 = .ok (.iadd, 1) := by decide +kernel
theorem dX15_isAnswered_66 : decode cX15_isAnswered 66 = .ok (.iload 6, 2) := by decide +kernel
theorem dX15_isAnswered_68 : decode cX15_isAnswered 68 = .ok (.iload_n 3, 1) := by decide +kernel
theorem dX15_isAnswered_69 : decode cX15_isAnswered 69 = .ok (.iconst 1, 1) := by decide +kernel
theorem dX15_isAnswered_70 : decode cX15_isAnswered 70 = .ok (.isub, 1) := by decide +kernel
theorem dX15_isAnswered_71 : decode cX15_isAnswered 71 = .ok (.iload 4, 2) := by decide +kernel
theorem dX15_isAnswered_73 : decode cX15_isAnswered 73 = .ok (.iload 5, 2) := by decide +kernel
theorem dX15_isAnswered_75 : decode cX15_isAnswered 75 = .ok (.invokevirtual 836, 3) := by decide +kernel
theorem dX15_isAnswered_78 : decode cX15_isAnswered 78 = .ok (.ifCond .eq 5, 3) := by decide +kernel
theorem dX15_isAnswered_81 : decode cX15_isAnswered 81 = .ok (.iconst 1, 1) := by decide +kernel
theorem dX15_isAnswered_82 : decode cX15_isAnswered 82 = .ok (.ireturn, 1) := by decide +kernel
theorem dX15_isAnswered_83 : decode cX15_isAnswered 83 = .ok (.iinc 6 1, 3) := by decide +kernel
theorem dX15_isAnswered_86 : decode cX15_isAnswered 86 = .ok (.goto (-40), 3) := by decide +kernel
theorem dX15_isAnswered_89 : decode cX15_isAnswered 89 = .ok (.iconst 0, 1) := by decide +kernel
theorem dX15_isAnswered_90 : decode cX15_isAnswered 90 = .ok (.ireturn, 1) := by decide +kernel
theorem dX15_isMove_0 : decode cX15_isMove 0 = .ok (.aload_n 0, 1) := by decide +kernel
theorem dX15_isMove_1 : decode cX15_isMove 1 = .ok (.iload_n 1, 1) := by decide +kernel
theorem dX15_isMove_2 : decode cX15_isMove 2 = .ok (.iload_n 2, 1) := by decide +kernel
theorem dX15_isMove_3 : decode cX15_isMove 3 = .ok (.invokevirtual 823, 3) := by decide +kernel
theorem dX15_isMove_6 : decode cX15_isMove 6 = .ok (.iload 4, 2) := by decide +kernel
theorem dX15_isMove_8 : decode cX15_isMove 8 = .ok (.ifCond .ne 17, 3) := by decide +kernel
theorem dX15_isMove_11 : decode cX15_isMove 11 = .ok (.aload_n 0, 1) := by decide +kernel
theorem dX15_isMove_12 : decode cX15_isMove 12 = .ok (.iload_n 1, 1) := by decide +kernel
theorem dX15_isMove_13 : decode cX15_isMove 13 = .ok (.iconst 1, 1) := by decide +kernel
theorem dX15_isMove_14 : decode cX15_isMove 14 = .ok (.iadd, 1) := by decide +kernel
theorem dX15_isMove_15 : decode cX15_isMove 15 = .ok (.iload 5, 2) := by decide +kernel
theorem dX15_isMove_17 : decode cX15_isMove 17 = .ok (.invokevirtual 826, 3) := by decide +kernel
theorem dX15_isMove_20 : decode cX15_isMove 20 = .ok (.ifCond .eq 5, 3) := by decide +kernel
theorem dX15_isMove_23 : decode cX15_isMove 23 = .ok (.iconst 1, 1) := by decide +kernel
theorem dX15_isMove_24 : decode cX15_isMove 24 = .ok (.ireturn, 1) := by decide +kernel
theorem dX15_isMove_25 : decode cX15_isMove 25 = .ok (.aload_n 0, 1) := by decide +kernel
theorem dX15_isMove_26 : decode cX15_isMove 26 = .ok (.iload_n 1, 1) := by decide +kernel
theorem dX15_isMove_27 : decode cX15_isMove 27 = .ok (.iconst 1, 1) := by decide +kernel
theorem dX15_isMove_28 : decode cX15_isMove 28 = .ok (.iadd, 1) := by decide +kernel
theorem dX15_isMove_29 : decode cX15_isMove 29 = .ok (.invokevirtual 829, 3) := by decide +kernel
theorem dX15_isMove_32 : decode cX15_isMove 32 = .ok (.ifCond .ne 13, 3) := by decide +kernel
theorem dX15_isMove_35 : decode cX15_isMove 35 = .ok (.iload 4, 2) := by decide +kernel
theorem dX15_isMove_37 : decode cX15_isMove 37 = .ok (.ifCond .ne 10, 3) := by decide +kernel
theorem dX15_isMove_40 : decode cX15_isMove 40 = .ok (.iload_n 3, 1) := by decide +kernel
theorem dX15_isMove_41 : decode cX15_isMove 41 = .ok (.iconst 1, 1) := by decide +kernel
theorem dX15_isMove_42 : decode cX15_isMove 42 = .ok (.if_icmp .ne 5, 3) := by decide +kernel
theorem dX15_isMove_45 : decode cX15_isMove 45 = .ok (.iconst 0, 1) := by decide +kernel
theorem dX15_isMove_46 : decode cX15_isMove 46 = .ok (.ireturn, 1) := by decide +kernel
theorem dX15_isMove_47 : decode cX15_isMove 47 = .ok (.iconst 0, 1) := by decide +kernel
theorem dX15_isMove_48 : decode cX15_isMove 48 = .ok (.istore 6, 2) := by decide +kernel
theorem dX15_isMove_50 : decode cX15_isMove 50 = .ok (.iload 6, 2) := by decide +kernel
theorem dX15_isMove_52 : decode cX15_isMove 52 = .ok (.aload_n 0, 1) := by decide +kernel
theorem dX15_isMove_53 : decode cX15_isMove 53 = .ok (.getfield 301, 3) := by decide +kernel
theorem dX15_isMove_56 : decode cX15_isMove 56 = .ok (.iload_n 1, 1) := by decide +kernel
theorem dX15_isMove_57 : decode cX15_isMove 57 = .ok (.iconst 1, 1) := by decide +kernel
theorem dX15_isMove_58 : decode cX15_isMove 58 = .ok (.iadd, 1) := by decide +kernel
theorem dX15_isMove_59 : decode cX15_isMove 59 = .ok (.aaload, 1) := by decide +kernel
theorem dX15_isMove_60 : decode cX15_isMove 60 = .ok (.getfield 575, 3) := by decide +kernel
theorem dX15_isMove_63 : decode cX15_isMove 63 = .ok (.if_icmp .ge 28, 3) := by decide +kernel
theorem dX15_isMove_66 : decode cX15_isMove 66 = .ok (.aload_n 0, 1) := by decide +kernel
theorem dX15_isMove_67 : decode cX15_isMove 67 = .ok (.iload_n 1, 1) := by decide +kernel
theorem dX15_isMove_68 : decode cX15_isMove 68 = .ok (.iconst 1, 1) := by decide +kernel
theorem dX15_isMove_69 : decode cX15_isMove 69 = .ok (.iadd, 1) := by decide +kernel
theorem dX15_isMove_70 : decode cX15_isMove 70 = .ok (.iload 6, 2) := by decide +kernel
theorem dX15_isMove_72 : decode cX15_isMove 72 = .ok (.iload_n 3, 1) := by decide +kernel
theorem dX15_isMove_73 : decode cX15_isMove 73 = .ok (.iload 4, 2) := by decide +kernel
theorem dX15_isMove_75 : decode cX15_isMove 75 = .ok (.iload 5, 2) := by decide +kernel
theorem dX15_isMove_77 : decode cX15_isMove 77 = .ok (.invokevirtual 832, 3) := by decide +kernel
theorem dX15_isMove_80 : decode cX15_isMove 80 = .ok (.ifCond .ne 5, 3) := by decide +kernel
theorem dX15_isMove_83 : decode cX15_isMove 83 = .ok (.iconst 0, 1) := by decide +kernel
theorem dX15_isMove_84 : decode cX15_isMove 84 = .ok (.ireturn, 1) := by decide +kernel
theorem dX15_isMove_85 : decode cX15_isMove 85 = .ok (.iinc 6 1, 3) := by decide +kernel
theorem dX15_isMove_88 : decode cX15_isMove 88 = .ok (.goto (-38), 3) := by decide +kernel
theorem dX15_isMove_91 : decode cX15_isMove 91 = .ok (.iconst 1, 1) := by decide +kernel
theorem dX15_isMove_92 : decode cX15_isMove 92 = .ok (.ireturn, 1) := by decide +kernel
set_option maxRecDepth 20000 in
theorem moX15_isAnswered_41 {o : Int32 × Hp} {F : Nat} {r_X15_isAnswered : Hp → Nat → Int32 → Int32 → Int32 → Int32 → Int32 → Option (Int32 × Hp)} {r_X15_isMove : Hp → Nat → Int32 → Int32 → Int32 → Int32 → Int32 → Option (Int32 × Hp)} (mr_X15_isAnswered : ∀ {h : Hp} {x0 : Nat} {x1 : Int32} {x2 : Int32} {x3 : Int32} {x4 : Int32} {x5 : Int32} {o : Int32 × Hp}, r_X15_isAnswered h x0 x1 x2 x3 x4 x5 = some o → Le h o.2) (mr_X15_isMove : ∀ {h : Hp} {x0 : Nat} {x1 : Int32} {x2 : Int32} {x3 : Int32} {x4 : Int32} {x5 : Int32} {o : Int32 × Hp}, r_X15_isMove h x0 x1 x2 x3 x4 x5 = some o → Le h o.2) {h : Hp} (hE : sX15_isAnswered_41 F r_X15_isAnswered r_X15_isMove h  = some o) : Le h o.2 := by
  exact le_some2 hE
set_option maxRecDepth 20000 in
theorem moX15_isAnswered_78 {o : Int32 × Hp} {k_46 : Hp → Nat → Int32 → Int32 → Int32 → Int32 → Int32 → Option (Int32 × Hp)} {F : Nat} {r_X15_isAnswered : Hp → Nat → Int32 → Int32 → Int32 → Int32 → Int32 → Option (Int32 × Hp)} {r_X15_isMove : Hp → Nat → Int32 → Int32 → Int32 → Int32 → Int32 → Option (Int32 × Hp)} (mr_X15_isAnswered : ∀ {h : Hp} {x0 : Nat} {x1 : Int32} {x2 : Int32} {x3 : Int32} {x4 : Int32} {x5 : Int32} {o : Int32 × Hp}, r_X15_isAnswered h x0 x1 x2 x3 x4 x5 = some o → Le h o.2) (mr_X15_isMove : ∀ {h : Hp} {x0 : Nat} {x1 : Int32} {x2 : Int32} {x3 : Int32} {x4 : Int32} {x5 : Int32} {o : Int32 × Hp}, r_X15_isMove h x0 x1 x2 x3 x4 x5 = some o → Le h o.2) (mk_46 : ∀ (h : Hp) (x0 : Nat) (x1 : Int32) (x3 : Int32) (x4 : Int32) (x5 : Int32) (x6 : Int32), k_46 h x0 x1 x3 x4 x5 x6 = some o → Le h o.2) {h : Hp} {x0 : Nat} {x1 : Int32} {x3 : Int32} {x4 : Int32} {x5 : Int32} {x6 : Int32} {t0 : Int32} (hE : sX15_isAnswered_78 F r_X15_isAnswered r_X15_isMove k_46 h x0 x1 x3 x4 x5 x6 t0 = some o) : Le h o.2 := by
  rcases br_e hE with ⟨_, hE⟩ | ⟨_, hE⟩
  · obtain ⟨v_2, ev_2, hE⟩ := nm_e2 hE
    exact mk_46 _ _ _ _ _ _ _ hE
  · exact le_some2 hE
set_option maxRecDepth 20000 in
theorem moX15_isAnswered_46 {o : Int32 × Hp} {F : Nat} {r_X15_isAnswered : Hp → Nat → Int32 → Int32 → Int32 → Int32 → Int32 → Option (Int32 × Hp)} {r_X15_isMove : Hp → Nat → Int32 → Int32 → Int32 → Int32 → Int32 → Option (Int32 × Hp)} (mr_X15_isAnswered : ∀ {h : Hp} {x0 : Nat} {x1 : Int32} {x2 : Int32} {x3 : Int32} {x4 : Int32} {x5 : Int32} {o : Int32 × Hp}, r_X15_isAnswered h x0 x1 x2 x3 x4 x5 = some o → Le h o.2) (mr_X15_isMove : ∀ {h : Hp} {x0 : Nat} {x1 : Int32} {x2 : Int32} {x3 : Int32} {x4 : Int32} {x5 : Int32} {o : Int32 × Hp}, r_X15_isMove h x0 x1 x2 x3 x4 x5 = some o → Le h o.2) : ∀ (f : Nat) {h : Hp} {x0 : Nat} {x1 : Int32} {x3 : Int32} {x4 : Int32} {x5 : Int32} {x6 : Int32}, sX15_isAnswered_46 F r_X15_isAnswered r_X15_isMove f h x0 x1 x3 x4 x5 x6 = some o → Le h o.2 := by
  intro f
  induction f with
  | zero =>
    intro h x0 x1 x3 x4 x5 x6 hE
    rw [sX15_isAnswered_46] at hE
    cases hE
  | succ f ih =>
    intro h x0 x1 x3 x4 x5 x6 hE
    rw [sX15_isAnswered_46] at hE
    have mk_46 : ∀ (h : Hp) (x0 : Nat) (x1 : Int32) (x3 : Int32) (x4 : Int32) (x5 : Int32) (x6 : Int32), sX15_isAnswered_46 F r_X15_isAnswered r_X15_isMove f h x0 x1 x3 x4 x5 x6 = some o → Le h o.2 := fun h x0 x1 x3 x4 x5 x6 hE => ih hE
    obtain ⟨r_1, er_1, hE⟩ := cl_e hE
    obtain ⟨g_2, hE⟩ := gd_e hE
    obtain ⟨r_3, er_3, hE⟩ := cl_e hE
    rcases br_e hE with ⟨_, hE⟩ | ⟨_, hE⟩
    · exact le_some2 hE
    · obtain ⟨o_5, eo_5, hE⟩ := cl_e hE
      refine (mr_X15_isMove eo_5).tr ?_
      exact moX15_isAnswered_78 mr_X15_isAnswered mr_X15_isMove mk_46 hE
set_option maxRecDepth 20000 in
theorem moX15_isAnswered_38 {o : Int32 × Hp} {F : Nat} {r_X15_isAnswered : Hp → Nat → Int32 → Int32 → Int32 → Int32 → Int32 → Option (Int32 × Hp)} {r_X15_isMove : Hp → Nat → Int32 → Int32 → Int32 → Int32 → Int32 → Option (Int32 × Hp)} (mr_X15_isAnswered : ∀ {h : Hp} {x0 : Nat} {x1 : Int32} {x2 : Int32} {x3 : Int32} {x4 : Int32} {x5 : Int32} {o : Int32 × Hp}, r_X15_isAnswered h x0 x1 x2 x3 x4 x5 = some o → Le h o.2) (mr_X15_isMove : ∀ {h : Hp} {x0 : Nat} {x1 : Int32} {x2 : Int32} {x3 : Int32} {x4 : Int32} {x5 : Int32} {o : Int32 × Hp}, r_X15_isMove h x0 x1 x2 x3 x4 x5 = some o → Le h o.2) {h : Hp} {x0 : Nat} {x1 : Int32} {x3 : Int32} {x4 : Int32} {x5 : Int32} {t0 : Int32} (hE : sX15_isAnswered_38 F r_X15_isAnswered r_X15_isMove h x0 x1 x3 x4 x5 t0 = some o) : Le h o.2 := by
  rcases br_e hE with ⟨_, hE⟩ | ⟨_, hE⟩
  · exact moX15_isAnswered_46 mr_X15_isAnswered mr_X15_isMove _ hE
  · exact moX15_isAnswered_41 mr_X15_isAnswered mr_X15_isMove hE
set_option maxRecDepth 20000 in
theorem moX15_isAnswered_26 {o : Int32 × Hp} {F : Nat} {r_X15_isAnswered : Hp → Nat → Int32 → Int32 → Int32 → Int32 → Int32 → Option (Int32 × Hp)} {r_X15_isMove : Hp → Nat → Int32 → Int32 → Int32 → Int32 → Int32 → Option (Int32 × Hp)} (mr_X15_isAnswered : ∀ {h : Hp} {x0 : Nat} {x1 : Int32} {x2 : Int32} {x3 : Int32} {x4 : Int32} {x5 : Int32} {o : Int32 × Hp}, r_X15_isAnswered h x0 x1 x2 x3 x4 x5 = some o → Le h o.2) (mr_X15_isMove : ∀ {h : Hp} {x0 : Nat} {x1 : Int32} {x2 : Int32} {x3 : Int32} {x4 : Int32} {x5 : Int32} {o : Int32 × Hp}, r_X15_isMove h x0 x1 x2 x3 x4 x5 = some o → Le h o.2) {h : Hp} {x0 : Nat} {x1 : Int32} {x3 : Int32} {x4 : Int32} {x5 : Int32} (hE : sX15_isAnswered_26 F r_X15_isAnswered r_X15_isMove h x0 x1 x3 x4 x5 = some o) : Le h o.2 := by
  rcases br_e hE with ⟨_, hE⟩ | ⟨_, hE⟩
  · exact moX15_isAnswered_41 mr_X15_isAnswered mr_X15_isMove hE
  · obtain ⟨o_2, eo_2, hE⟩ := cl_e hE
    refine (moX15_hasEnded eo_2).tr ?_
    exact moX15_isAnswered_38 mr_X15_isAnswered mr_X15_isMove hE
set_option maxRecDepth 20000 in
theorem moX15_isAnswered_21 {o : Int32 × Hp} {F : Nat} {r_X15_isAnswered : Hp → Nat → Int32 → Int32 → Int32 → Int32 → Int32 → Option (Int32 × Hp)} {r_X15_isMove : Hp → Nat → Int32 → Int32 → Int32 → Int32 → Int32 → Option (Int32 × Hp)} (mr_X15_isAnswered : ∀ {h : Hp} {x0 : Nat} {x1 : Int32} {x2 : Int32} {x3 : Int32} {x4 : Int32} {x5 : Int32} {o : Int32 × Hp}, r_X15_isAnswered h x0 x1 x2 x3 x4 x5 = some o → Le h o.2) (mr_X15_isMove : ∀ {h : Hp} {x0 : Nat} {x1 : Int32} {x2 : Int32} {x3 : Int32} {x4 : Int32} {x5 : Int32} {o : Int32 × Hp}, r_X15_isMove h x0 x1 x2 x3 x4 x5 = some o → Le h o.2) {h : Hp} {x0 : Nat} {x1 : Int32} {x3 : Int32} {x4 : Int32} {x5 : Int32} {t0 : Int32} (hE : sX15_isAnswered_21 F r_X15_isAnswered r_X15_isMove h x0 x1 x3 x4 x5 t0 = some o) : Le h o.2 := by
  rcases br_e hE with ⟨_, hE⟩ | ⟨_, hE⟩
  · exact moX15_isAnswered_26 mr_X15_isAnswered mr_X15_isMove hE
  · exact le_some2 hE
set_option maxRecDepth 20000 in
theorem moX15_isAnswered_6 {o : Int32 × Hp} {F : Nat} {r_X15_isAnswered : Hp → Nat → Int32 → Int32 → Int32 → Int32 → Int32 → Option (Int32 × Hp)} {r_X15_isMove : Hp → Nat → Int32 → Int32 → Int32 → Int32 → Int32 → Option (Int32 × Hp)} (mr_X15_isAnswered : ∀ {h : Hp} {x0 : Nat} {x1 : Int32} {x2 : Int32} {x3 : Int32} {x4 : Int32} {x5 : Int32} {o : Int32 × Hp}, r_X15_isAnswered h x0 x1 x2 x3 x4 x5 = some o → Le h o.2) (mr_X15_isMove : ∀ {h : Hp} {x0 : Nat} {x1 : Int32} {x2 : Int32} {x3 : Int32} {x4 : Int32} {x5 : Int32} {o : Int32 × Hp}, r_X15_isMove h x0 x1 x2 x3 x4 x5 = some o → Le h o.2) {h : Hp} {x0 : Nat} {x1 : Int32} {x3 : Int32} {x4 : Int32} {x5 : Int32} (hE : sX15_isAnswered_6 F r_X15_isAnswered r_X15_isMove h x0 x1 x3 x4 x5 = some o) : Le h o.2 := by
  rcases br_e hE with ⟨_, hE⟩ | ⟨_, hE⟩
  · obtain ⟨o_2, eo_2, hE⟩ := cl_e hE
    refine (moX15_isGoal eo_2).tr ?_
    exact moX15_isAnswered_21 mr_X15_isAnswered mr_X15_isMove hE
  · exact moX15_isAnswered_26 mr_X15_isAnswered mr_X15_isMove hE
set_option maxRecDepth 20000 in
theorem mooX15_isAnswered {o : Int32 × Hp} {F : Nat} {r_X15_isAnswered : Hp → Nat → Int32 → Int32 → Int32 → Int32 → Int32 → Option (Int32 × Hp)} {r_X15_isMove : Hp → Nat → Int32 → Int32 → Int32 → Int32 → Int32 → Option (Int32 × Hp)} (mr_X15_isAnswered : ∀ {h : Hp} {x0 : Nat} {x1 : Int32} {x2 : Int32} {x3 : Int32} {x4 : Int32} {x5 : Int32} {o : Int32 × Hp}, r_X15_isAnswered h x0 x1 x2 x3 x4 x5 = some o → Le h o.2) (mr_X15_isMove : ∀ {h : Hp} {x0 : Nat} {x1 : Int32} {x2 : Int32} {x3 : Int32} {x4 : Int32} {x5 : Int32} {o : Int32 × Hp}, r_X15_isMove h x0 x1 x2 x3 x4 x5 = some o → Le h o.2) {h : Hp} {x0 : Nat} {x1 : Int32} {x2 : Int32} {x3 : Int32} {x4 : Int32} {x5 : Int32} (hE : oX15_isAnswered F r_X15_isAnswered r_X15_isMove h x0 x1 x2 x3 x4 x5 = some o) : Le h o.2 := by
  obtain ⟨o_1, eo_1, hE⟩ := cl_e hE
  refine (moX15_step eo_1).tr ?_
  exact moX15_isAnswered_6 mr_X15_isAnswered mr_X15_isMove hE
set_option maxRecDepth 20000 in
theorem bX15_isAnswered_41 {p : Program} {l : Launch} {e : Env} {s : State} {m : MethodId} {args : Array Value} {below : List Frame} {meth : Method} {c : Code} {X : Ec} {h0 : Hp} {o : Int32 × Hp} {d : Nat} {r_X15_isAnswered : Hp → Nat → Int32 → Int32 → Int32 → Int32 → Int32 → Option (Int32 × Hp)} {r_X15_isMove : Hp → Nat → Int32 → Int32 → Int32 → Int32 → Int32 → Option (Int32 × Hp)} {F : Nat} (C : Cx X p s m args meth c RX15 cX15_isAnswered 7 (some .boolean) "isAnswered") (hr_X15_isAnswered : ∀ {h : Hp} {x0 : Nat} {x1 : Int32} {x2 : Int32} {x3 : Int32} {x4 : Int32} {x5 : Int32} {o : Int32 × Hp}, hK h x0 = 15 → r_X15_isAnswered h x0 x1 x2 x3 x4 x5 = some o → MetIA l yX15_isAnswered cX15_isAnswered 7 (some .boolean)  (d + 9) (d * 26 + 213) X [.ref x0, .int x1, .int x2, .int x3, .int x4, .int x5] h o) (hr_X15_isMove : ∀ {h : Hp} {x0 : Nat} {x1 : Int32} {x2 : Int32} {x3 : Int32} {x4 : Int32} {x5 : Int32} {o : Int32 × Hp}, hK h x0 = 15 → r_X15_isMove h x0 x1 x2 x3 x4 x5 = some o → MetIA l yX15_isMove cX15_isMove 7 (some .boolean)  (d + 9) (d * 26 + 213) X [.ref x0, .int x1, .int x2, .int x3, .int x4, .int x5] h o) (mr_X15_isAnswered : ∀ {h : Hp} {x0 : Nat} {x1 : Int32} {x2 : Int32} {x3 : Int32} {x4 : Int32} {x5 : Int32} {o : Int32 × Hp}, r_X15_isAnswered h x0 x1 x2 x3 x4 x5 = some o → Le h o.2) (mr_X15_isMove : ∀ {h : Hp} {x0 : Nat} {x1 : Int32} {x2 : Int32} {x3 : Int32} {x4 : Int32} {x5 : Int32} {o : Int32 × Hp}, r_X15_isMove h x0 x1 x2 x3 x4 x5 = some o → Le h o.2) {h : Hp} {H : Heap} {locs : List Loc} (hkl : Kl h0 h) (hW : Wx X h H) (hZ : va_S (aA (eB X)) s.heap H locs) (ls : Array Slot) (hl : lv_has ls 7 []) (hE : sX15_isAnswered_41 F r_X15_isAnswered r_X15_isMove h  = some o) : W p l e (rmA (d + 1 + 9) ((d + 1) * 26 + 213) h0 o.2) s m args below meth c H locs (hS h - hS h0) (hL h - hL h0) (MQ below (QIA X h0 o.1 o.2) args s (hS o.2 - hS h0) (hL o.2 - hL h0) (aA (eB X))) (F0 m 41 ls []) := by
  refine lv_iconst (v := (0 : Int32)) C.1 C.2.1 dX15_isAnswered_41 (by decide) ?_
  exact x_iretA C rfl (by decide) hW hZ hkl hE dX15_isAnswered_42
set_option maxRecDepth 20000 in
theorem bX15_isAnswered_78 {p : Program} {l : Launch} {e : Env} {s : State} {m : MethodId} {args : Array Value} {below : List Frame} {meth : Method} {c : Code} {X : Ec} {h0 : Hp} {o : Int32 × Hp} {d : Nat} {r_X15_isAnswered : Hp → Nat → Int32 → Int32 → Int32 → Int32 → Int32 → Option (Int32 × Hp)} {r_X15_isMove : Hp → Nat → Int32 → Int32 → Int32 → Int32 → Int32 → Option (Int32 × Hp)} {k_46 : Hp → Nat → Int32 → Int32 → Int32 → Int32 → Int32 → Option (Int32 × Hp)} {F : Nat} (C : Cx X p s m args meth c RX15 cX15_isAnswered 7 (some .boolean) "isAnswered") (hr_X15_isAnswered : ∀ {h : Hp} {x0 : Nat} {x1 : Int32} {x2 : Int32} {x3 : Int32} {x4 : Int32} {x5 : Int32} {o : Int32 × Hp}, hK h x0 = 15 → r_X15_isAnswered h x0 x1 x2 x3 x4 x5 = some o → MetIA l yX15_isAnswered cX15_isAnswered 7 (some .boolean)  (d + 9) (d * 26 + 213) X [.ref x0, .int x1, .int x2, .int x3, .int x4, .int x5] h o) (hr_X15_isMove : ∀ {h : Hp} {x0 : Nat} {x1 : Int32} {x2 : Int32} {x3 : Int32} {x4 : Int32} {x5 : Int32} {o : Int32 × Hp}, hK h x0 = 15 → r_X15_isMove h x0 x1 x2 x3 x4 x5 = some o → MetIA l yX15_isMove cX15_isMove 7 (some .boolean)  (d + 9) (d * 26 + 213) X [.ref x0, .int x1, .int x2, .int x3, .int x4, .int x5] h o) (mr_X15_isAnswered : ∀ {h : Hp} {x0 : Nat} {x1 : Int32} {x2 : Int32} {x3 : Int32} {x4 : Int32} {x5 : Int32} {o : Int32 × Hp}, r_X15_isAnswered h x0 x1 x2 x3 x4 x5 = some o → Le h o.2) (mr_X15_isMove : ∀ {h : Hp} {x0 : Nat} {x1 : Int32} {x2 : Int32} {x3 : Int32} {x4 : Int32} {x5 : Int32} {o : Int32 × Hp}, r_X15_isMove h x0 x1 x2 x3 x4 x5 = some o → Le h o.2) (hk_46 : ∀ (h : Hp) (x0 : Nat) (x1 : Int32) (x3 : Int32) (x4 : Int32) (x5 : Int32) (x6 : Int32) (H : Heap) (locs : List Loc), hK h x0 = 15 → Kl h0 h → Wx X h H → va_S (aA (eB X)) s.heap H locs → ∀ (ls : Array Slot), lv_has ls 7 [(0, .ref x0), (1, .int x1), (3, .int x3), (4, .int x4), (5, .int x5), (6, .int x6)] → k_46 h x0 x1 x3 x4 x5 x6 = some o → W p l e (rmA (d + 1 + 9) ((d + 1) * 26 + 213) h0 o.2) s m args below meth c H locs (hS h - hS h0) (hL h - hL h0) (MQ below (QIA X h0 o.1 o.2) args s (hS o.2 - hS h0) (hL o.2 - hL h0) (aA (eB X))) (F0 m 46 ls [])) (mk_46 : ∀ (h : Hp) (x0 : Nat) (x1 : Int32) (x3 : Int32) (x4 : Int32) (x5 : Int32) (x6 : Int32), k_46 h x0 x1 x3 x4 x5 x6 = some o → Le h o.2) {h : Hp} {x0 : Nat} {x1 : Int32} {x3 : Int32} {x4 : Int32} {x5 : Int32} {x6 : Int32} {t0 : Int32} {H : Heap} {locs : List Loc} (k_x0 : hK h x0 = 15) (hkl : Kl h0 h) (hW : Wx X h H) (hZ : va_S (aA (eB X)) s.heap H locs) (ls : Array Slot) (hl : lv_has ls 7 [(0, .ref x0), (1, .int x1), (3, .int x3), (4, .int x4), (5, .int x5), (6, .int x6)]) (hE : sX15_isAnswered_78 F r_X15_isAnswered r_X15_isMove k_46 h x0 x1 x3 x4 x5 x6 t0 = some o) : W p l e (rmA (d + 1 + 9) ((d + 1) * 26 + 213) h0 o.2) s m args below meth c H locs (hS h - hS h0) (hL h - hL h0) (MQ below (QIA X h0 o.1 o.2) args s (hS o.2 - hS h0) (hL o.2 - hL h0) (aA (eB X))) (F0 m 78 ls [.int t0]) := by
  refine lv_if_eq (tgt := 83) C.1 C.2.1 dX15_isAnswered_78 (by decide) (fun c_1 => ?_) (fun c_1 => ?_)
  · have hE := br_p hE c_1
    obtain ⟨v_2, ev_2, hE⟩ := nm_e2 hE
    refine lv_iinc (v := v_2) (lv' := [(6, .int v_2), (0, .ref x0), (1, .int x1), (3, .int x3), (4, .int x4), (5, .int x5)]) C.1 C.2.1 dX15_isAnswered_83 hl (k := 5) rfl (by rw [ev_2]; rfl) (by decide) rfl (fun ls hl => ?_)
    refine lv_goto (tgt := 46) C.1 C.2.1 dX15_isAnswered_86 (by decide) ?_
    exact hk_46 _ _ _ _ _ _ _ _ _ k_x0 hkl hW hZ _ (lv_sub hl [1, 2, 3, 4, 5, 0] rfl) hE
  · have hE := br_n hE c_1
    refine lv_iconst (v := (1 : Int32)) C.1 C.2.1 dX15_isAnswered_81 (by decide) ?_
    exact x_iretA C rfl (by decide) hW hZ hkl hE dX15_isAnswered_82
set_option maxRecDepth 20000 in
theorem bX15_isAnswered_46 {p : Program} {l : Launch} {e : Env} {s : State} {m : MethodId} {args : Array Value} {below : List Frame} {meth : Method} {c : Code} {X : Ec} {h0 : Hp} {o : Int32 × Hp} {d : Nat} {r_X15_isAnswered : Hp → Nat → Int32 → Int32 → Int32 → Int32 → Int32 → Option (Int32 × Hp)} {r_X15_isMove : Hp → Nat → Int32 → Int32 → Int32 → Int32 → Int32 → Option (Int32 × Hp)} {F : Nat} (C : Cx X p s m args meth c RX15 cX15_isAnswered 7 (some .boolean) "isAnswered") (hr_X15_isAnswered : ∀ {h : Hp} {x0 : Nat} {x1 : Int32} {x2 : Int32} {x3 : Int32} {x4 : Int32} {x5 : Int32} {o : Int32 × Hp}, hK h x0 = 15 → r_X15_isAnswered h x0 x1 x2 x3 x4 x5 = some o → MetIA l yX15_isAnswered cX15_isAnswered 7 (some .boolean)  (d + 9) (d * 26 + 213) X [.ref x0, .int x1, .int x2, .int x3, .int x4, .int x5] h o) (hr_X15_isMove : ∀ {h : Hp} {x0 : Nat} {x1 : Int32} {x2 : Int32} {x3 : Int32} {x4 : Int32} {x5 : Int32} {o : Int32 × Hp}, hK h x0 = 15 → r_X15_isMove h x0 x1 x2 x3 x4 x5 = some o → MetIA l yX15_isMove cX15_isMove 7 (some .boolean)  (d + 9) (d * 26 + 213) X [.ref x0, .int x1, .int x2, .int x3, .int x4, .int x5] h o) (mr_X15_isAnswered : ∀ {h : Hp} {x0 : Nat} {x1 : Int32} {x2 : Int32} {x3 : Int32} {x4 : Int32} {x5 : Int32} {o : Int32 × Hp}, r_X15_isAnswered h x0 x1 x2 x3 x4 x5 = some o → Le h o.2) (mr_X15_isMove : ∀ {h : Hp} {x0 : Nat} {x1 : Int32} {x2 : Int32} {x3 : Int32} {x4 : Int32} {x5 : Int32} {o : Int32 × Hp}, r_X15_isMove h x0 x1 x2 x3 x4 x5 = some o → Le h o.2) : ∀ (f : Nat) {h : Hp} {x0 : Nat} {x1 : Int32} {x3 : Int32} {x4 : Int32} {x5 : Int32} {x6 : Int32} {H : Heap} {locs : List Loc} (k_x0 : hK h x0 = 15), Kl h0 h → Wx X h H → va_S (aA (eB X)) s.heap H locs → ∀ (ls : Array Slot), lv_has ls 7 [(0, .ref x0), (1, .int x1), (3, .int x3), (4, .int x4), (5, .int x5), (6, .int x6)] → sX15_isAnswered_46 F r_X15_isAnswered r_X15_isMove f h x0 x1 x3 x4 x5 x6 = some o → W p l e (rmA (d + 1 + 9) ((d + 1) * 26 + 213) h0 o.2) s m args below meth c H locs (hS h - hS h0) (hL h - hL h0) (MQ below (QIA X h0 o.1 o.2) args s (hS o.2 - hS h0) (hL o.2 - hL h0) (aA (eB X))) (F0 m 46 ls []) := by
  intro f
  induction f with
  | zero =>
    intro h x0 x1 x3 x4 x5 x6 H locs k_x0 hkl hW hZ ls hl hE
    rw [sX15_isAnswered_46] at hE
    cases hE
  | succ f ih =>
    intro h x0 x1 x3 x4 x5 x6 H locs k_x0 hkl hW hZ ls hl hE
    rw [sX15_isAnswered_46] at hE
    have mk_46 : ∀ (h : Hp) (x0 : Nat) (x1 : Int32) (x3 : Int32) (x4 : Int32) (x5 : Int32) (x6 : Int32), sX15_isAnswered_46 F r_X15_isAnswered r_X15_isMove f h x0 x1 x3 x4 x5 x6 = some o → Le h o.2 := fun h x0 x1 x3 x4 x5 x6 hE => moX15_isAnswered_46 mr_X15_isAnswered mr_X15_isMove _ hE
    have hk_46 : ∀ (h : Hp) (x0 : Nat) (x1 : Int32) (x3 : Int32) (x4 : Int32) (x5 : Int32) (x6 : Int32) (H : Heap) (locs : List Loc), hK h x0 = 15 → Kl h0 h → Wx X h H → va_S (aA (eB X)) s.heap H locs → ∀ (ls : Array Slot), lv_has ls 7 [(0, .ref x0), (1, .int x1), (3, .int x3), (4, .int x4), (5, .int x5), (6, .int x6)] → sX15_isAnswered_46 F r_X15_isAnswered r_X15_isMove f h x0 x1 x3 x4 x5 x6 = some o → W p l e (rmA (d + 1 + 9) ((d + 1) * 26 + 213) h0 o.2) s m args below meth c H locs (hS h - hS h0) (hL h - hL h0) (MQ below (QIA X h0 o.1 o.2) args s (hS o.2 - hS h0) (hL o.2 - hL h0) (aA (eB X))) (F0 m 46 ls []) := fun h x0 x1 x3 x4 x5 x6 H locs k_x0 a b c ls hl hE => ih k_x0 a b c ls hl hE
    refine lv_iload C.1 C.2.1 dX15_isAnswered_46 (lv_at hl 5 rfl) ?_
    refine lv_aload_n C.1 C.2.1 dX15_isAnswered_48 rfl (lv_at hl 0 rfl) ?_
    obtain ⟨r_1, er_1, hE⟩ := cl_e hE
    refine gf_X15_301 C hW k_x0 er_1 dX15_isAnswered_49 (fun k_r_1 => ?_)
    refine lv_iload_n C.1 C.2.1 dX15_isAnswered_52 rfl (lv_at hl 1 rfl) ?_
    refine lv_iconst (v := (1 : Int32)) C.1 C.2.1 dX15_isAnswered_53 (by decide) ?_
    refine lv_iadd C.1 C.2.1 dX15_isAnswered_54 ?_
    obtain ⟨g_2, hE⟩ := gd_e hE
    obtain ⟨r_3, er_3, hE⟩ := cl_e hE
    refine y_aald (t0 := 6) C hW k_r_1 (by decide) (by decide) rfl rfl rfl (fun _ => rfl) g_2 er_3 dX15_isAnswered_55 (fun k_r_3 => ?_)
    refine gf_X15_575 C hW k_r_3 dX15_isAnswered_56 ?_
    refine lv_icmp_ge (tgt := 89) C.1 C.2.1 dX15_isAnswered_59 (by decide) (fun c_4 => ?_) (fun c_4 => ?_)
    · have hE := br_p hE c_4
      refine lv_iconst (v := (0 : Int32)) C.1 C.2.1 dX15_isAnswered_89 (by decide) ?_
      exact x_iretA C rfl (by decide) hW hZ hkl hE dX15_isAnswered_90
    · have hE := br_n hE c_4
      refine lv_aload_n C.1 C.2.1 dX15_isAnswered_62 rfl (lv_at hl 0 rfl) ?_
      refine lv_iload_n C.1 C.2.1 dX15_isAnswered_63 rfl (lv_at hl 1 rfl) ?_
      refine lv_iconst (v := (1 : Int32)) C.1 C.2.1 dX15_isAnswered_64 (by decide) ?_
      refine lv_iadd C.1 C.2.1 dX15_isAnswered_65 ?_
      refine lv_iload C.1 C.2.1 dX15_isAnswered_66 (lv_at hl 5 rfl) ?_
      refine lv_iload_n C.1 C.2.1 dX15_isAnswered_68 rfl (lv_at hl 2 rfl) ?_
      refine lv_iconst (v := (1 : Int32)) C.1 C.2.1 dX15_isAnswered_69 (by decide) ?_
      refine lv_isub C.1 C.2.1 dX15_isAnswered_70 ?_
      refine lv_iload C.1 C.2.1 dX15_isAnswered_71 (lv_at hl 3 rfl) ?_
      refine lv_iload C.1 C.2.1 dX15_isAnswered_73 (lv_at hl 4 rfl) ?_
      obtain ⟨o_5, eo_5, hE⟩ := cl_e hE
      have m1 := mr_X15_isMove eo_5
      have m2 := moX15_isAnswered_78 mr_X15_isAnswered mr_X15_isMove mk_46 hE
      refine x_kIA (o := o_5) hkl (z_runV (As := [.int (x1 + (1 : Int32)), .int x6, .int (x3 - (1 : Int32)), .int x4, .int x5]) (rest := []) C (hr_X15_isMove k_x0 eo_5) cw_X15_836 hW hZ k_x0 (by decide) rfl rfl rfl hl.1 (Nat.le_of_ble_eq_true rfl) rfl dX15_isAnswered_75 ⟨by dsimp only [rm, rmA]; omega, by dsimp only [rm, rmA]; omega⟩ (rm_ok hkl m1 m2)) hZ (fun _ _ hW km hZ => ?_)
      replace hkl := hkl.tr km
      replace k_x0 := km.at k_x0 (by decide)
      exact bX15_isAnswered_78 C hr_X15_isAnswered hr_X15_isMove mr_X15_isAnswered mr_X15_isMove hk_46 mk_46 k_x0 hkl hW hZ _ (lv_sub hl [0, 1, 2, 3, 4, 5] rfl) hE
set_option maxRecDepth 20000 in
theorem bX15_isAnswered_38 {p : Program} {l : Launch} {e : Env} {s : State} {m : MethodId} {args : Array Value} {below : List Frame} {meth : Method} {c : Code} {X : Ec} {h0 : Hp} {o : Int32 × Hp} {d : Nat} {r_X15_isAnswered : Hp → Nat → Int32 → Int32 → Int32 → Int32 → Int32 → Option (Int32 × Hp)} {r_X15_isMove : Hp → Nat → Int32 → Int32 → Int32 → Int32 → Int32 → Option (Int32 × Hp)} {F : Nat} (C : Cx X p s m args meth c RX15 cX15_isAnswered 7 (some .boolean) "isAnswered") (hr_X15_isAnswered : ∀ {h : Hp} {x0 : Nat} {x1 : Int32} {x2 : Int32} {x3 : Int32} {x4 : Int32} {x5 : Int32} {o : Int32 × Hp}, hK h x0 = 15 → r_X15_isAnswered h x0 x1 x2 x3 x4 x5 = some o → MetIA l yX15_isAnswered cX15_isAnswered 7 (some .boolean)  (d + 9) (d * 26 + 213) X [.ref x0, .int x1, .int x2, .int x3, .int x4, .int x5] h o) (hr_X15_isMove : ∀ {h : Hp} {x0 : Nat} {x1 : Int32} {x2 : Int32} {x3 : Int32} {x4 : Int32} {x5 : Int32} {o : Int32 × Hp}, hK h x0 = 15 → r_X15_isMove h x0 x1 x2 x3 x4 x5 = some o → MetIA l yX15_isMove cX15_isMove 7 (some .boolean)  (d + 9) (d * 26 + 213) X [.ref x0, .int x1, .int x2, .int x3, .int x4, .int x5] h o) (mr_X15_isAnswered : ∀ {h : Hp} {x0 : Nat} {x1 : Int32} {x2 : Int32} {x3 : Int32} {x4 : Int32} {x5 : Int32} {o : Int32 × Hp}, r_X15_isAnswered h x0 x1 x2 x3 x4 x5 = some o → Le h o.2) (mr_X15_isMove : ∀ {h : Hp} {x0 : Nat} {x1 : Int32} {x2 : Int32} {x3 : Int32} {x4 : Int32} {x5 : Int32} {o : Int32 × Hp}, r_X15_isMove h x0 x1 x2 x3 x4 x5 = some o → Le h o.2) {h : Hp} {x0 : Nat} {x1 : Int32} {x3 : Int32} {x4 : Int32} {x5 : Int32} {t0 : Int32} {H : Heap} {locs : List Loc} (k_x0 : hK h x0 = 15) (hkl : Kl h0 h) (hW : Wx X h H) (hZ : va_S (aA (eB X)) s.heap H locs) (ls : Array Slot) (hl : lv_has ls 7 [(0, .ref x0), (1, .int x1), (3, .int x3), (4, .int x4), (5, .int x5)]) (hE : sX15_isAnswered_38 F r_X15_isAnswered r_X15_isMove h x0 x1 x3 x4 x5 t0 = some o) : W p l e (rmA (d + 1 + 9) ((d + 1) * 26 + 213) h0 o.2) s m args below meth c H locs (hS h - hS h0) (hL h - hL h0) (MQ below (QIA X h0 o.1 o.2) args s (hS o.2 - hS h0) (hL o.2 - hL h0) (aA (eB X))) (F0 m 38 ls [.int t0]) := by
  refine lv_if_eq (tgt := 43) C.1 C.2.1 dX15_isAnswered_38 (by decide) (fun c_1 => ?_) (fun c_1 => ?_)
  · have hE := br_p hE c_1
    refine lv_iconst (v := (0 : Int32)) C.1 C.2.1 dX15_isAnswered_43 (by decide) ?_
    refine lv_istore (lv' := [(6, .int (0 : Int32)), (0, .ref x0), (1, .int x1), (3, .int x3), (4, .int x4), (5, .int x5)]) C.1 C.2.1 dX15_isAnswered_44 hl (by decide) rfl (fun ls hl => ?_)
    exact bX15_isAnswered_46 C hr_X15_isAnswered hr_X15_isMove mr_X15_isAnswered mr_X15_isMove F k_x0 hkl hW hZ _ (lv_sub hl [1, 2, 3, 4, 5, 0] rfl) hE
  · have hE := br_n hE c_1
    exact bX15_isAnswered_41 C hr_X15_isAnswered hr_X15_isMove mr_X15_isAnswered mr_X15_isMove hkl hW hZ _ (lv_sub hl [] rfl) hE
set_option maxRecDepth 20000 in
theorem bX15_isAnswered_26 {p : Program} {l : Launch} {e : Env} {s : State} {m : MethodId} {args : Array Value} {below : List Frame} {meth : Method} {c : Code} {X : Ec} {h0 : Hp} {o : Int32 × Hp} {d : Nat} {r_X15_isAnswered : Hp → Nat → Int32 → Int32 → Int32 → Int32 → Int32 → Option (Int32 × Hp)} {r_X15_isMove : Hp → Nat → Int32 → Int32 → Int32 → Int32 → Int32 → Option (Int32 × Hp)} {F : Nat} (C : Cx X p s m args meth c RX15 cX15_isAnswered 7 (some .boolean) "isAnswered") (hr_X15_isAnswered : ∀ {h : Hp} {x0 : Nat} {x1 : Int32} {x2 : Int32} {x3 : Int32} {x4 : Int32} {x5 : Int32} {o : Int32 × Hp}, hK h x0 = 15 → r_X15_isAnswered h x0 x1 x2 x3 x4 x5 = some o → MetIA l yX15_isAnswered cX15_isAnswered 7 (some .boolean)  (d + 9) (d * 26 + 213) X [.ref x0, .int x1, .int x2, .int x3, .int x4, .int x5] h o) (hr_X15_isMove : ∀ {h : Hp} {x0 : Nat} {x1 : Int32} {x2 : Int32} {x3 : Int32} {x4 : Int32} {x5 : Int32} {o : Int32 × Hp}, hK h x0 = 15 → r_X15_isMove h x0 x1 x2 x3 x4 x5 = some o → MetIA l yX15_isMove cX15_isMove 7 (some .boolean)  (d + 9) (d * 26 + 213) X [.ref x0, .int x1, .int x2, .int x3, .int x4, .int x5] h o) (mr_X15_isAnswered : ∀ {h : Hp} {x0 : Nat} {x1 : Int32} {x2 : Int32} {x3 : Int32} {x4 : Int32} {x5 : Int32} {o : Int32 × Hp}, r_X15_isAnswered h x0 x1 x2 x3 x4 x5 = some o → Le h o.2) (mr_X15_isMove : ∀ {h : Hp} {x0 : Nat} {x1 : Int32} {x2 : Int32} {x3 : Int32} {x4 : Int32} {x5 : Int32} {o : Int32 × Hp}, r_X15_isMove h x0 x1 x2 x3 x4 x5 = some o → Le h o.2) {h : Hp} {x0 : Nat} {x1 : Int32} {x3 : Int32} {x4 : Int32} {x5 : Int32} {H : Heap} {locs : List Loc} (k_x0 : hK h x0 = 15) (hkl : Kl h0 h) (hW : Wx X h H) (hZ : va_S (aA (eB X)) s.heap H locs) (ls : Array Slot) (hl : lv_has ls 7 [(0, .ref x0), (1, .int x1), (3, .int x3), (4, .int x4), (5, .int x5)]) (hE : sX15_isAnswered_26 F r_X15_isAnswered r_X15_isMove h x0 x1 x3 x4 x5 = some o) : W p l e (rmA (d + 1 + 9) ((d + 1) * 26 + 213) h0 o.2) s m args below meth c H locs (hS h - hS h0) (hL h - hL h0) (MQ below (QIA X h0 o.1 o.2) args s (hS o.2 - hS h0) (hL o.2 - hL h0) (aA (eB X))) (F0 m 26 ls []) := by
  refine lv_iload_n C.1 C.2.1 dX15_isAnswered_26 rfl (lv_at hl 2 rfl) ?_
  refine lv_iconst (v := (1 : Int32)) C.1 C.2.1 dX15_isAnswered_27 (by decide) ?_
  refine lv_icmp_eq (tgt := 41) C.1 C.2.1 dX15_isAnswered_28 (by decide) (fun c_1 => ?_) (fun c_1 => ?_)
  · have hE := br_p hE c_1
    exact bX15_isAnswered_41 C hr_X15_isAnswered hr_X15_isMove mr_X15_isAnswered mr_X15_isMove hkl hW hZ _ (lv_sub hl [] rfl) hE
  · have hE := br_n hE c_1
    refine lv_aload_n C.1 C.2.1 dX15_isAnswered_31 rfl (lv_at hl 0 rfl) ?_
    refine lv_iload_n C.1 C.2.1 dX15_isAnswered_32 rfl (lv_at hl 1 rfl) ?_
    refine lv_iconst (v := (1 : Int32)) C.1 C.2.1 dX15_isAnswered_33 (by decide) ?_
    refine lv_iadd C.1 C.2.1 dX15_isAnswered_34 ?_
    obtain ⟨o_2, eo_2, hE⟩ := cl_e hE
    have m1 := moX15_hasEnded eo_2
    have m2 := moX15_isAnswered_38 mr_X15_isAnswered mr_X15_isMove hE
    refine x_kIA (o := o_2) hkl (z_runV (As := [.int (x1 + (1 : Int32))]) (rest := []) C (ct_X15_hasEnded l X F k_x0 eo_2) cw_X15_829 hW hZ k_x0 (by decide) rfl rfl rfl hl.1 (Nat.le_of_ble_eq_true rfl) rfl dX15_isAnswered_35 ⟨by dsimp only [rm, rmA]; omega, by dsimp only [rm, rmA]; omega⟩ (rm_ok hkl m1 m2)) hZ (fun _ _ hW km hZ => ?_)
    replace hkl := hkl.tr km
    replace k_x0 := km.at k_x0 (by decide)
    exact bX15_isAnswered_38 C hr_X15_isAnswered hr_X15_isMove mr_X15_isAnswered mr_X15_isMove k_x0 hkl hW hZ _ (lv_sub hl [0, 1, 2, 3, 4] rfl) hE
set_option maxRecDepth 20000 in
theorem bX15_isAnswered_21 {p : Program} {l : Launch} {e : Env} {s : State} {m : MethodId} {args : Array Value} {below : List Frame} {meth : Method} {c : Code} {X : Ec} {h0 : Hp} {o : Int32 × Hp} {d : Nat} {r_X15_isAnswered : Hp → Nat → Int32 → Int32 → Int32 → Int32 → Int32 → Option (Int32 × Hp)} {r_X15_isMove : Hp → Nat → Int32 → Int32 → Int32 → Int32 → Int32 → Option (Int32 × Hp)} {F : Nat} (C : Cx X p s m args meth c RX15 cX15_isAnswered 7 (some .boolean) "isAnswered") (hr_X15_isAnswered : ∀ {h : Hp} {x0 : Nat} {x1 : Int32} {x2 : Int32} {x3 : Int32} {x4 : Int32} {x5 : Int32} {o : Int32 × Hp}, hK h x0 = 15 → r_X15_isAnswered h x0 x1 x2 x3 x4 x5 = some o → MetIA l yX15_isAnswered cX15_isAnswered 7 (some .boolean)  (d + 9) (d * 26 + 213) X [.ref x0, .int x1, .int x2, .int x3, .int x4, .int x5] h o) (hr_X15_isMove : ∀ {h : Hp} {x0 : Nat} {x1 : Int32} {x2 : Int32} {x3 : Int32} {x4 : Int32} {x5 : Int32} {o : Int32 × Hp}, hK h x0 = 15 → r_X15_isMove h x0 x1 x2 x3 x4 x5 = some o → MetIA l yX15_isMove cX15_isMove 7 (some .boolean)  (d + 9) (d * 26 + 213) X [.ref x0, .int x1, .int x2, .int x3, .int x4, .int x5] h o) (mr_X15_isAnswered : ∀ {h : Hp} {x0 : Nat} {x1 : Int32} {x2 : Int32} {x3 : Int32} {x4 : Int32} {x5 : Int32} {o : Int32 × Hp}, r_X15_isAnswered h x0 x1 x2 x3 x4 x5 = some o → Le h o.2) (mr_X15_isMove : ∀ {h : Hp} {x0 : Nat} {x1 : Int32} {x2 : Int32} {x3 : Int32} {x4 : Int32} {x5 : Int32} {o : Int32 × Hp}, r_X15_isMove h x0 x1 x2 x3 x4 x5 = some o → Le h o.2) {h : Hp} {x0 : Nat} {x1 : Int32} {x3 : Int32} {x4 : Int32} {x5 : Int32} {t0 : Int32} {H : Heap} {locs : List Loc} (k_x0 : hK h x0 = 15) (hkl : Kl h0 h) (hW : Wx X h H) (hZ : va_S (aA (eB X)) s.heap H locs) (ls : Array Slot) (hl : lv_has ls 7 [(0, .ref x0), (1, .int x1), (3, .int x3), (4, .int x4), (5, .int x5)]) (hE : sX15_isAnswered_21 F r_X15_isAnswered r_X15_isMove h x0 x1 x3 x4 x5 t0 = some o) : W p l e (rmA (d + 1 + 9) ((d + 1) * 26 + 213) h0 o.2) s m args below meth c H locs (hS h - hS h0) (hL h - hL h0) (MQ below (QIA X h0 o.1 o.2) args s (hS o.2 - hS h0) (hL o.2 - hL h0) (aA (eB X))) (F0 m 21 ls [.int t0]) := by
  refine lv_if_eq (tgt := 26) C.1 C.2.1 dX15_isAnswered_21 (by decide) (fun c_1 => ?_) (fun c_1 => ?_)
  · have hE := br_p hE c_1
    exact bX15_isAnswered_26 C hr_X15_isAnswered hr_X15_isMove mr_X15_isAnswered mr_X15_isMove k_x0 hkl hW hZ _ (lv_sub hl [0, 1, 2, 3, 4] rfl) hE
  · have hE := br_n hE c_1
    refine lv_iconst (v := (1 : Int32)) C.1 C.2.1 dX15_isAnswered_24 (by decide) ?_
    exact x_iretA C rfl (by decide) hW hZ hkl hE dX15_isAnswered_25
set_option maxRecDepth 20000 in
theorem bX15_isAnswered_6 {p : Program} {l : Launch} {e : Env} {s : State} {m : MethodId} {args : Array Value} {below : List Frame} {meth : Method} {c : Code} {X : Ec} {h0 : Hp} {o : Int32 × Hp} {d : Nat} {r_X15_isAnswered : Hp → Nat → Int32 → Int32 → Int32 → Int32 → Int32 → Option (Int32 × Hp)} {r_X15_isMove : Hp → Nat → Int32 → Int32 → Int32 → Int32 → Int32 → Option (Int32 × Hp)} {F : Nat} (C : Cx X p s m args meth c RX15 cX15_isAnswered 7 (some .boolean) "isAnswered") (hr_X15_isAnswered : ∀ {h : Hp} {x0 : Nat} {x1 : Int32} {x2 : Int32} {x3 : Int32} {x4 : Int32} {x5 : Int32} {o : Int32 × Hp}, hK h x0 = 15 → r_X15_isAnswered h x0 x1 x2 x3 x4 x5 = some o → MetIA l yX15_isAnswered cX15_isAnswered 7 (some .boolean)  (d + 9) (d * 26 + 213) X [.ref x0, .int x1, .int x2, .int x3, .int x4, .int x5] h o) (hr_X15_isMove : ∀ {h : Hp} {x0 : Nat} {x1 : Int32} {x2 : Int32} {x3 : Int32} {x4 : Int32} {x5 : Int32} {o : Int32 × Hp}, hK h x0 = 15 → r_X15_isMove h x0 x1 x2 x3 x4 x5 = some o → MetIA l yX15_isMove cX15_isMove 7 (some .boolean)  (d + 9) (d * 26 + 213) X [.ref x0, .int x1, .int x2, .int x3, .int x4, .int x5] h o) (mr_X15_isAnswered : ∀ {h : Hp} {x0 : Nat} {x1 : Int32} {x2 : Int32} {x3 : Int32} {x4 : Int32} {x5 : Int32} {o : Int32 × Hp}, r_X15_isAnswered h x0 x1 x2 x3 x4 x5 = some o → Le h o.2) (mr_X15_isMove : ∀ {h : Hp} {x0 : Nat} {x1 : Int32} {x2 : Int32} {x3 : Int32} {x4 : Int32} {x5 : Int32} {o : Int32 × Hp}, r_X15_isMove h x0 x1 x2 x3 x4 x5 = some o → Le h o.2) {h : Hp} {x0 : Nat} {x1 : Int32} {x3 : Int32} {x4 : Int32} {x5 : Int32} {H : Heap} {locs : List Loc} (k_x0 : hK h x0 = 15) (hkl : Kl h0 h) (hW : Wx X h H) (hZ : va_S (aA (eB X)) s.heap H locs) (ls : Array Slot) (hl : lv_has ls 7 [(0, .ref x0), (1, .int x1), (3, .int x3), (4, .int x4), (5, .int x5)]) (hE : sX15_isAnswered_6 F r_X15_isAnswered r_X15_isMove h x0 x1 x3 x4 x5 = some o) : W p l e (rmA (d + 1 + 9) ((d + 1) * 26 + 213) h0 o.2) s m args below meth c H locs (hS h - hS h0) (hL h - hL h0) (MQ below (QIA X h0 o.1 o.2) args s (hS o.2 - hS h0) (hL o.2 - hL h0) (aA (eB X))) (F0 m 6 ls []) := by
  refine lv_iload C.1 C.2.1 dX15_isAnswered_6 (lv_at hl 3 rfl) ?_
  refine lv_iconst (v := (1 : Int32)) C.1 C.2.1 dX15_isAnswered_8 (by decide) ?_
  refine lv_icmp_ne (tgt := 26) C.1 C.2.1 dX15_isAnswered_9 (by decide) (fun c_1 => ?_) (fun c_1 => ?_)
  · have hE := br_n hE c_1
    exact bX15_isAnswered_26 C hr_X15_isAnswered hr_X15_isMove mr_X15_isAnswered mr_X15_isMove k_x0 hkl hW hZ _ (lv_sub hl [0, 1, 2, 3, 4] rfl) hE
  · have hE := br_p hE c_1
    refine lv_aload_n C.1 C.2.1 dX15_isAnswered_12 rfl (lv_at hl 0 rfl) ?_
    refine lv_iload_n C.1 C.2.1 dX15_isAnswered_13 rfl (lv_at hl 1 rfl) ?_
    refine lv_iconst (v := (1 : Int32)) C.1 C.2.1 dX15_isAnswered_14 (by decide) ?_
    refine lv_iadd C.1 C.2.1 dX15_isAnswered_15 ?_
    refine lv_iload C.1 C.2.1 dX15_isAnswered_16 (lv_at hl 4 rfl) ?_
    obtain ⟨o_2, eo_2, hE⟩ := cl_e hE
    have m1 := moX15_isGoal eo_2
    have m2 := moX15_isAnswered_21 mr_X15_isAnswered mr_X15_isMove hE
    refine x_kIA (o := o_2) hkl (z_runV (As := [.int (x1 + (1 : Int32)), .int x5]) (rest := []) C (ct_X15_isGoal l X F k_x0 eo_2) cw_X15_826 hW hZ k_x0 (by decide) rfl rfl rfl hl.1 (Nat.le_of_ble_eq_true rfl) rfl dX15_isAnswered_18 ⟨by dsimp only [rm, rmA]; omega, by dsimp only [rm, rmA]; omega⟩ (rm_ok hkl m1 m2)) hZ (fun _ _ hW km hZ => ?_)
    replace hkl := hkl.tr km
    replace k_x0 := km.at k_x0 (by decide)
    exact bX15_isAnswered_21 C hr_X15_isAnswered hr_X15_isMove mr_X15_isAnswered mr_X15_isMove k_x0 hkl hW hZ _ (lv_sub hl [0, 1, 2, 3, 4] rfl) hE
set_option maxRecDepth 20000 in
theorem ot_X15_isAnswered (l : Launch) (X : Ec) (F : Nat) {d : Nat} {r_X15_isAnswered : Hp → Nat → Int32 → Int32 → Int32 → Int32 → Int32 → Option (Int32 × Hp)} {r_X15_isMove : Hp → Nat → Int32 → Int32 → Int32 → Int32 → Int32 → Option (Int32 × Hp)} (hr_X15_isAnswered : ∀ {h : Hp} {x0 : Nat} {x1 : Int32} {x2 : Int32} {x3 : Int32} {x4 : Int32} {x5 : Int32} {o : Int32 × Hp}, hK h x0 = 15 → r_X15_isAnswered h x0 x1 x2 x3 x4 x5 = some o → MetIA l yX15_isAnswered cX15_isAnswered 7 (some .boolean)  (d + 9) (d * 26 + 213) X [.ref x0, .int x1, .int x2, .int x3, .int x4, .int x5] h o) (hr_X15_isMove : ∀ {h : Hp} {x0 : Nat} {x1 : Int32} {x2 : Int32} {x3 : Int32} {x4 : Int32} {x5 : Int32} {o : Int32 × Hp}, hK h x0 = 15 → r_X15_isMove h x0 x1 x2 x3 x4 x5 = some o → MetIA l yX15_isMove cX15_isMove 7 (some .boolean)  (d + 9) (d * 26 + 213) X [.ref x0, .int x1, .int x2, .int x3, .int x4, .int x5] h o) (mr_X15_isAnswered : ∀ {h : Hp} {x0 : Nat} {x1 : Int32} {x2 : Int32} {x3 : Int32} {x4 : Int32} {x5 : Int32} {o : Int32 × Hp}, r_X15_isAnswered h x0 x1 x2 x3 x4 x5 = some o → Le h o.2) (mr_X15_isMove : ∀ {h : Hp} {x0 : Nat} {x1 : Int32} {x2 : Int32} {x3 : Int32} {x4 : Int32} {x5 : Int32} {o : Int32 × Hp}, r_X15_isMove h x0 x1 x2 x3 x4 x5 = some o → Le h o.2) {h : Hp} {x0 : Nat} {x1 : Int32} {x2 : Int32} {x3 : Int32} {x4 : Int32} {x5 : Int32} {o : Int32 × Hp} (k_x0 : hK h x0 = 15) (hE : oX15_isAnswered F r_X15_isAnswered r_X15_isMove h x0 x1 x2 x3 x4 x5 = some o) : MetIA l yX15_isAnswered cX15_isAnswered 7 (some .boolean) (d + 1 + 9) ((d + 1) * 26 + 213) X [.ref x0, .int x1, .int x2, .int x3, .int x4, .int x5] h o := by
  refine x_metA (oh := o.2) (by decide) (Nat.le_of_ble_eq_true rfl) ?_
  intro p e s m below meth c ls C hl hW hZ
  have hl : lv_has ls 7 [(0, .ref x0), (1, .int x1), (2, .int x2), (3, .int x3), (4, .int x4), (5, .int x5)] := hl
  have hkl : Kl h h := Kl.rf h
  refine lv_aload_n C.1 C.2.1 dX15_isAnswered_0 rfl (lv_at hl 0 rfl) ?_
  refine lv_iload_n C.1 C.2.1 dX15_isAnswered_1 rfl (lv_at hl 1 rfl) ?_
  refine lv_iload_n C.1 C.2.1 dX15_isAnswered_2 rfl (lv_at hl 2 rfl) ?_
  obtain ⟨o_1, eo_1, hE⟩ := cl_e hE
  have m1 := moX15_step eo_1
  have m2 := moX15_isAnswered_6 mr_X15_isAnswered mr_X15_isMove hE
  refine x_kVA (o := o_1) hkl (z_runV (As := [.int x1, .int x2]) (rest := []) C (ct_X15_step l X F k_x0 eo_1) cw_X15_823 hW hZ k_x0 (by decide) rfl rfl rfl hl.1 (Nat.le_of_ble_eq_true rfl) rfl dX15_isAnswered_3 ⟨by dsimp only [rm, rmA]; omega, by dsimp only [rm, rmA]; omega⟩ (rm_ok hkl m1 m2)) hZ (fun _ _ hW km hZ => ?_)
  replace hkl := hkl.tr km
  replace k_x0 := km.at k_x0 (by decide)
  exact bX15_isAnswered_6 C hr_X15_isAnswered hr_X15_isMove mr_X15_isAnswered mr_X15_isMove k_x0 hkl hW hZ _ (lv_sub hl [0, 1, 3, 4, 5] rfl) hE
set_option maxRecDepth 20000 in
theorem moX15_isMove_45 {o : Int32 × Hp} {F : Nat} {r_X15_isAnswered : Hp → Nat → Int32 → Int32 → Int32 → Int32 → Int32 → Option (Int32 × Hp)} {r_X15_isMove : Hp → Nat → Int32 → Int32 → Int32 → Int32 → Int32 → Option (Int32 × Hp)} (mr_X15_isAnswered : ∀ {h : Hp} {x0 : Nat} {x1 : Int32} {x2 : Int32} {x3 : Int32} {x4 : Int32} {x5 : Int32} {o : Int32 × Hp}, r_X15_isAnswered h x0 x1 x2 x3 x4 x5 = some o → Le h o.2) (mr_X15_isMove : ∀ {h : Hp} {x0 : Nat} {x1 : Int32} {x2 : Int32} {x3 : Int32} {x4 : Int32} {x5 : Int32} {o : Int32 × Hp}, r_X15_isMove h x0 x1 x2 x3 x4 x5 = some o → Le h o.2) {h : Hp} (hE : sX15_isMove_45 F r_X15_isAnswered r_X15_isMove h  = some o) : Le h o.2 := by
  exact le_some2 hE
set_option maxRecDepth 20000 in
theorem moX15_isMove_80 {o : Int32 × Hp} {k_50 : Hp → Nat → Int32 → Int32 → Int32 → Int32 → Int32 → Option (Int32 × Hp)} {F : Nat} {r_X15_isAnswered : Hp → Nat → Int32 → Int32 → Int32 → Int32 → Int32 → Option (Int32 × Hp)} {r_X15_isMove : Hp → Nat → Int32 → Int32 → Int32 → Int32 → Int32 → Option (Int32 × Hp)} (mr_X15_isAnswered : ∀ {h : Hp} {x0 : Nat} {x1 : Int32} {x2 : Int32} {x3 : Int32} {x4 : Int32} {x5 : Int32} {o : Int32 × Hp}, r_X15_isAnswered h x0 x1 x2 x3 x4 x5 = some o → Le h o.2) (mr_X15_isMove : ∀ {h : Hp} {x0 : Nat} {x1 : Int32} {x2 : Int32} {x3 : Int32} {x4 : Int32} {x5 : Int32} {o : Int32 × Hp}, r_X15_isMove h x0 x1 x2 x3 x4 x5 = some o → Le h o.2) (mk_50 : ∀ (h : Hp) (x0 : Nat) (x1 : Int32) (x3 : Int32) (x4 : Int32) (x5 : Int32) (x6 : Int32), k_50 h x0 x1 x3 x4 x5 x6 = some o → Le h o.2) {h : Hp} {x0 : Nat} {x1 : Int32} {x3 : Int32} {x4 : Int32} {x5 : Int32} {x6 : Int32} {t0 : Int32} (hE : sX15_isMove_80 F r_X15_isAnswered r_X15_isMove k_50 h x0 x1 x3 x4 x5 x6 t0 = some o) : Le h o.2 := by
  rcases br_e hE with ⟨_, hE⟩ | ⟨_, hE⟩
  · exact le_some2 hE
  · obtain ⟨v_2, ev_2, hE⟩ := nm_e2 hE
    exact mk_50 _ _ _ _ _ _ _ hE
set_option maxRecDepth 20000 in
theorem moX15_isMove_50 {o : Int32 × Hp} {F : Nat} {r_X15_isAnswered : Hp → Nat → Int32 → Int32 → Int32 → Int32 → Int32 → Option (Int32 × Hp)} {r_X15_isMove : Hp → Nat → Int32 → Int32 → Int32 → Int32 → Int32 → Option (Int32 × Hp)} (mr_X15_isAnswered : ∀ {h : Hp} {x0 : Nat} {x1 : Int32} {x2 : Int32} {x3 : Int32} {x4 : Int32} {x5 : Int32} {o : Int32 × Hp}, r_X15_isAnswered h x0 x1 x2 x3 x4 x5 = some o → Le h o.2) (mr_X15_isMove : ∀ {h : Hp} {x0 : Nat} {x1 : Int32} {x2 : Int32} {x3 : Int32} {x4 : Int32} {x5 : Int32} {o : Int32 × Hp}, r_X15_isMove h x0 x1 x2 x3 x4 x5 = some o → Le h o.2) : ∀ (f : Nat) {h : Hp} {x0 : Nat} {x1 : Int32} {x3 : Int32} {x4 : Int32} {x5 : Int32} {x6 : Int32}, sX15_isMove_50 F r_X15_isAnswered r_X15_isMove f h x0 x1 x3 x4 x5 x6 = some o → Le h o.2 := by
  intro f
  induction f with
  | zero =>
    intro h x0 x1 x3 x4 x5 x6 hE
    rw [sX15_isMove_50] at hE
    cases hE
  | succ f ih =>
    intro h x0 x1 x3 x4 x5 x6 hE
    rw [sX15_isMove_50] at hE
    have mk_50 : ∀ (h : Hp) (x0 : Nat) (x1 : Int32) (x3 : Int32) (x4 : Int32) (x5 : Int32) (x6 : Int32), sX15_isMove_50 F r_X15_isAnswered r_X15_isMove f h x0 x1 x3 x4 x5 x6 = some o → Le h o.2 := fun h x0 x1 x3 x4 x5 x6 hE => ih hE
    obtain ⟨r_1, er_1, hE⟩ := cl_e hE
    obtain ⟨g_2, hE⟩ := gd_e hE
    obtain ⟨r_3, er_3, hE⟩ := cl_e hE
    rcases br_e hE with ⟨_, hE⟩ | ⟨_, hE⟩
    · exact le_some2 hE
    · obtain ⟨o_5, eo_5, hE⟩ := cl_e hE
      refine (mr_X15_isAnswered eo_5).tr ?_
      exact moX15_isMove_80 mr_X15_isAnswered mr_X15_isMove mk_50 hE
set_option maxRecDepth 20000 in
theorem moX15_isMove_47 {o : Int32 × Hp} {F : Nat} {r_X15_isAnswered : Hp → Nat → Int32 → Int32 → Int32 → Int32 → Int32 → Option (Int32 × Hp)} {r_X15_isMove : Hp → Nat → Int32 → Int32 → Int32 → Int32 → Int32 → Option (Int32 × Hp)} (mr_X15_isAnswered : ∀ {h : Hp} {x0 : Nat} {x1 : Int32} {x2 : Int32} {x3 : Int32} {x4 : Int32} {x5 : Int32} {o : Int32 × Hp}, r_X15_isAnswered h x0 x1 x2 x3 x4 x5 = some o → Le h o.2) (mr_X15_isMove : ∀ {h : Hp} {x0 : Nat} {x1 : Int32} {x2 : Int32} {x3 : Int32} {x4 : Int32} {x5 : Int32} {o : Int32 × Hp}, r_X15_isMove h x0 x1 x2 x3 x4 x5 = some o → Le h o.2) {h : Hp} {x0 : Nat} {x1 : Int32} {x3 : Int32} {x4 : Int32} {x5 : Int32} (hE : sX15_isMove_47 F r_X15_isAnswered r_X15_isMove h x0 x1 x3 x4 x5 = some o) : Le h o.2 := by
  exact moX15_isMove_50 mr_X15_isAnswered mr_X15_isMove _ hE
set_option maxRecDepth 20000 in
theorem moX15_isMove_32 {o : Int32 × Hp} {F : Nat} {r_X15_isAnswered : Hp → Nat → Int32 → Int32 → Int32 → Int32 → Int32 → Option (Int32 × Hp)} {r_X15_isMove : Hp → Nat → Int32 → Int32 → Int32 → Int32 → Int32 → Option (Int32 × Hp)} (mr_X15_isAnswered : ∀ {h : Hp} {x0 : Nat} {x1 : Int32} {x2 : Int32} {x3 : Int32} {x4 : Int32} {x5 : Int32} {o : Int32 × Hp}, r_X15_isAnswered h x0 x1 x2 x3 x4 x5 = some o → Le h o.2) (mr_X15_isMove : ∀ {h : Hp} {x0 : Nat} {x1 : Int32} {x2 : Int32} {x3 : Int32} {x4 : Int32} {x5 : Int32} {o : Int32 × Hp}, r_X15_isMove h x0 x1 x2 x3 x4 x5 = some o → Le h o.2) {h : Hp} {x0 : Nat} {x1 : Int32} {x3 : Int32} {x4 : Int32} {x5 : Int32} {t0 : Int32} (hE : sX15_isMove_32 F r_X15_isAnswered r_X15_isMove h x0 x1 x3 x4 x5 t0 = some o) : Le h o.2 := by
  rcases br_e hE with ⟨_, hE⟩ | ⟨_, hE⟩
  · rcases br_e hE with ⟨_, hE⟩ | ⟨_, hE⟩
    · rcases br_e hE with ⟨_, hE⟩ | ⟨_, hE⟩
      · exact moX15_isMove_45 mr_X15_isAnswered mr_X15_isMove hE
      · exact moX15_isMove_47 mr_X15_isAnswered mr_X15_isMove hE
    · exact moX15_isMove_47 mr_X15_isAnswered mr_X15_isMove hE
  · exact moX15_isMove_45 mr_X15_isAnswered mr_X15_isMove hE
set_option maxRecDepth 20000 in
theorem moX15_isMove_25 {o : Int32 × Hp} {F : Nat} {r_X15_isAnswered : Hp → Nat → Int32 → Int32 → Int32 → Int32 → Int32 → Option (Int32 × Hp)} {r_X15_isMove : Hp → Nat → Int32 → Int32 → Int32 → Int32 → Int32 → Option (Int32 × Hp)} (mr_X15_isAnswered : ∀ {h : Hp} {x0 : Nat} {x1 : Int32} {x2 : Int32} {x3 : Int32} {x4 : Int32} {x5 : Int32} {o : Int32 × Hp}, r_X15_isAnswered h x0 x1 x2 x3 x4 x5 = some o → Le h o.2) (mr_X15_isMove : ∀ {h : Hp} {x0 : Nat} {x1 : Int32} {x2 : Int32} {x3 : Int32} {x4 : Int32} {x5 : Int32} {o : Int32 × Hp}, r_X15_isMove h x0 x1 x2 x3 x4 x5 = some o → Le h o.2) {h : Hp} {x0 : Nat} {x1 : Int32} {x3 : Int32} {x4 : Int32} {x5 : Int32} (hE : sX15_isMove_25 F r_X15_isAnswered r_X15_isMove h x0 x1 x3 x4 x5 = some o) : Le h o.2 := by
  obtain ⟨o_1, eo_1, hE⟩ := cl_e hE
  refine (moX15_hasEnded eo_1).tr ?_
  exact moX15_isMove_32 mr_X15_isAnswered mr_X15_isMove hE
set_option maxRecDepth 20000 in
theorem moX15_isMove_20 {o : Int32 × Hp} {F : Nat} {r_X15_isAnswered : Hp → Nat → Int32 → Int32 → Int32 → Int32 → Int32 → Option (Int32 × Hp)} {r_X15_isMove : Hp → Nat → Int32 → Int32 → Int32 → Int32 → Int32 → Option (Int32 × Hp)} (mr_X15_isAnswered : ∀ {h : Hp} {x0 : Nat} {x1 : Int32} {x2 : Int32} {x3 : Int32} {x4 : Int32} {x5 : Int32} {o : Int32 × Hp}, r_X15_isAnswered h x0 x1 x2 x3 x4 x5 = some o → Le h o.2) (mr_X15_isMove : ∀ {h : Hp} {x0 : Nat} {x1 : Int32} {x2 : Int32} {x3 : Int32} {x4 : Int32} {x5 : Int32} {o : Int32 × Hp}, r_X15_isMove h x0 x1 x2 x3 x4 x5 = some o → Le h o.2) {h : Hp} {x0 : Nat} {x1 : Int32} {x3 : Int32} {x4 : Int32} {x5 : Int32} {t0 : Int32} (hE : sX15_isMove_20 F r_X15_isAnswered r_X15_isMove h x0 x1 x3 x4 x5 t0 = some o) : Le h o.2 := by
  rcases br_e hE with ⟨_, hE⟩ | ⟨_, hE⟩
  · exact moX15_isMove_25 mr_X15_isAnswered mr_X15_isMove hE
  · exact le_some2 hE
set_option maxRecDepth 20000 in
theorem moX15_isMove_6 {o : Int32 × Hp} {F : Nat} {r_X15_isAnswered : Hp → Nat → Int32 → Int32 → Int32 → Int32 → Int32 → Option (Int32 × Hp)} {r_X15_isMove : Hp → Nat → Int32 → Int32 → Int32 → Int32 → Int32 → Option (Int32 × Hp)} (mr_X15_isAnswered : ∀ {h : Hp} {x0 : Nat} {x1 : Int32} {x2 : Int32} {x3 : Int32} {x4 : Int32} {x5 : Int32} {o : Int32 × Hp}, r_X15_isAnswered h x0 x1 x2 x3 x4 x5 = some o → Le h o.2) (mr_X15_isMove : ∀ {h : Hp} {x0 : Nat} {x1 : Int32} {x2 : Int32} {x3 : Int32} {x4 : Int32} {x5 : Int32} {o : Int32 × Hp}, r_X15_isMove h x0 x1 x2 x3 x4 x5 = some o → Le h o.2) {h : Hp} {x0 : Nat} {x1 : Int32} {x3 : Int32} {x4 : Int32} {x5 : Int32} (hE : sX15_isMove_6 F r_X15_isAnswered r_X15_isMove h x0 x1 x3 x4 x5 = some o) : Le h o.2 := by
  rcases br_e hE with ⟨_, hE⟩ | ⟨_, hE⟩
  · obtain ⟨o_2, eo_2, hE⟩ := cl_e hE
    refine (moX15_isGoal eo_2).tr ?_
    exact moX15_isMove_20 mr_X15_isAnswered mr_X15_isMove hE
  · exact moX15_isMove_25 mr_X15_isAnswered mr_X15_isMove hE
set_option maxRecDepth 20000 in
theorem mooX15_isMove {o : Int32 × Hp} {F : Nat} {r_X15_isAnswered : Hp → Nat → Int32 → Int32 → Int32 → Int32 → Int32 → Option (Int32 × Hp)} {r_X15_isMove : Hp → Nat → Int32 → Int32 → Int32 → Int32 → Int32 → Option (Int32 × Hp)} (mr_X15_isAnswered : ∀ {h : Hp} {x0 : Nat} {x1 : Int32} {x2 : Int32} {x3 : Int32} {x4 : Int32} {x5 : Int32} {o : Int32 × Hp}, r_X15_isAnswered h x0 x1 x2 x3 x4 x5 = some o → Le h o.2) (mr_X15_isMove : ∀ {h : Hp} {x0 : Nat} {x1 : Int32} {x2 : Int32} {x3 : Int32} {x4 : Int32} {x5 : Int32} {o : Int32 × Hp}, r_X15_isMove h x0 x1 x2 x3 x4 x5 = some o → Le h o.2) {h : Hp} {x0 : Nat} {x1 : Int32} {x2 : Int32} {x3 : Int32} {x4 : Int32} {x5 : Int32} (hE : oX15_isMove F r_X15_isAnswered r_X15_isMove h x0 x1 x2 x3 x4 x5 = some o) : Le h o.2 := by
  obtain ⟨o_1, eo_1, hE⟩ := cl_e hE
  refine (moX15_step eo_1).tr ?_
  exact moX15_isMove_6 mr_X15_isAnswered mr_X15_isMove hE
set_option maxRecDepth 20000 in
theorem bX15_isMove_45 {p : Program} {l : Launch} {e : Env} {s : State} {m : MethodId} {args : Array Value} {below : List Frame} {meth : Method} {c : Code} {X : Ec} {h0 : Hp} {o : Int32 × Hp} {d : Nat} {r_X15_isAnswered : Hp → Nat → Int32 → Int32 → Int32 → Int32 → Int32 → Option (Int32 × Hp)} {r_X15_isMove : Hp → Nat → Int32 → Int32 → Int32 → Int32 → Int32 → Option (Int32 × Hp)} {F : Nat} (C : Cx X p s m args meth c RX15 cX15_isMove 7 (some .boolean) "isMove") (hr_X15_isAnswered : ∀ {h : Hp} {x0 : Nat} {x1 : Int32} {x2 : Int32} {x3 : Int32} {x4 : Int32} {x5 : Int32} {o : Int32 × Hp}, hK h x0 = 15 → r_X15_isAnswered h x0 x1 x2 x3 x4 x5 = some o → MetIA l yX15_isAnswered cX15_isAnswered 7 (some .boolean)  (d + 9) (d * 26 + 213) X [.ref x0, .int x1, .int x2, .int x3, .int x4, .int x5] h o) (hr_X15_isMove : ∀ {h : Hp} {x0 : Nat} {x1 : Int32} {x2 : Int32} {x3 : Int32} {x4 : Int32} {x5 : Int32} {o : Int32 × Hp}, hK h x0 = 15 → r_X15_isMove h x0 x1 x2 x3 x4 x5 = some o → MetIA l yX15_isMove cX15_isMove 7 (some .boolean)  (d + 9) (d * 26 + 213) X [.ref x0, .int x1, .int x2, .int x3, .int x4, .int x5] h o) (mr_X15_isAnswered : ∀ {h : Hp} {x0 : Nat} {x1 : Int32} {x2 : Int32} {x3 : Int32} {x4 : Int32} {x5 : Int32} {o : Int32 × Hp}, r_X15_isAnswered h x0 x1 x2 x3 x4 x5 = some o → Le h o.2) (mr_X15_isMove : ∀ {h : Hp} {x0 : Nat} {x1 : Int32} {x2 : Int32} {x3 : Int32} {x4 : Int32} {x5 : Int32} {o : Int32 × Hp}, r_X15_isMove h x0 x1 x2 x3 x4 x5 = some o → Le h o.2) {h : Hp} {H : Heap} {locs : List Loc} (hkl : Kl h0 h) (hW : Wx X h H) (hZ : va_S (aA (eB X)) s.heap H locs) (ls : Array Slot) (hl : lv_has ls 7 []) (hE : sX15_isMove_45 F r_X15_isAnswered r_X15_isMove h  = some o) : W p l e (rmA (d + 1 + 9) ((d + 1) * 26 + 213) h0 o.2) s m args below meth c H locs (hS h - hS h0) (hL h - hL h0) (MQ below (QIA X h0 o.1 o.2) args s (hS o.2 - hS h0) (hL o.2 - hL h0) (aA (eB X))) (F0 m 45 ls []) := by
  refine lv_iconst (v := (0 : Int32)) C.1 C.2.1 dX15_isMove_45 (by decide) ?_
  exact x_iretA C rfl (by decide) hW hZ hkl hE dX15_isMove_46
set_option maxRecDepth 20000 in
theorem bX15_isMove_80 {p : Program} {l : Launch} {e : Env} {s : State} {m : MethodId} {args : Array Value} {below : List Frame} {meth : Method} {c : Code} {X : Ec} {h0 : Hp} {o : Int32 × Hp} {d : Nat} {r_X15_isAnswered : Hp → Nat → Int32 → Int32 → Int32 → Int32 → Int32 → Option (Int32 × Hp)} {r_X15_isMove : Hp → Nat → Int32 → Int32 → Int32 → Int32 → Int32 → Option (Int32 × Hp)} {k_50 : Hp → Nat → Int32 → Int32 → Int32 → Int32 → Int32 → Option (Int32 × Hp)} {F : Nat} (C : Cx X p s m args meth c RX15 cX15_isMove 7 (some .boolean) "isMove") (hr_X15_isAnswered : ∀ {h : Hp} {x0 : Nat} {x1 : Int32} {x2 : Int32} {x3 : Int32} {x4 : Int32} {x5 : Int32} {o : Int32 × Hp}, hK h x0 = 15 → r_X15_isAnswered h x0 x1 x2 x3 x4 x5 = some o → MetIA l yX15_isAnswered cX15_isAnswered 7 (some .boolean)  (d + 9) (d * 26 + 213) X [.ref x0, .int x1, .int x2, .int x3, .int x4, .int x5] h o) (hr_X15_isMove : ∀ {h : Hp} {x0 : Nat} {x1 : Int32} {x2 : Int32} {x3 : Int32} {x4 : Int32} {x5 : Int32} {o : Int32 × Hp}, hK h x0 = 15 → r_X15_isMove h x0 x1 x2 x3 x4 x5 = some o → MetIA l yX15_isMove cX15_isMove 7 (some .boolean)  (d + 9) (d * 26 + 213) X [.ref x0, .int x1, .int x2, .int x3, .int x4, .int x5] h o) (mr_X15_isAnswered : ∀ {h : Hp} {x0 : Nat} {x1 : Int32} {x2 : Int32} {x3 : Int32} {x4 : Int32} {x5 : Int32} {o : Int32 × Hp}, r_X15_isAnswered h x0 x1 x2 x3 x4 x5 = some o → Le h o.2) (mr_X15_isMove : ∀ {h : Hp} {x0 : Nat} {x1 : Int32} {x2 : Int32} {x3 : Int32} {x4 : Int32} {x5 : Int32} {o : Int32 × Hp}, r_X15_isMove h x0 x1 x2 x3 x4 x5 = some o → Le h o.2) (hk_50 : ∀ (h : Hp) (x0 : Nat) (x1 : Int32) (x3 : Int32) (x4 : Int32) (x5 : Int32) (x6 : Int32) (H : Heap) (locs : List Loc), hK h x0 = 15 → Kl h0 h → Wx X h H → va_S (aA (eB X)) s.heap H locs → ∀ (ls : Array Slot), lv_has ls 7 [(0, .ref x0), (1, .int x1), (3, .int x3), (4, .int x4), (5, .int x5), (6, .int x6)] → k_50 h x0 x1 x3 x4 x5 x6 = some o → W p l e (rmA (d + 1 + 9) ((d + 1) * 26 + 213) h0 o.2) s m args below meth c H locs (hS h - hS h0) (hL h - hL h0) (MQ below (QIA X h0 o.1 o.2) args s (hS o.2 - hS h0) (hL o.2 - hL h0) (aA (eB X))) (F0 m 50 ls [])) (mk_50 : ∀ (h : Hp) (x0 : Nat) (x1 : Int32) (x3 : Int32) (x4 : Int32) (x5 : Int32) (x6 : Int32), k_50 h x0 x1 x3 x4 x5 x6 = some o → Le h o.2) {h : Hp} {x0 : Nat} {x1 : Int32} {x3 : Int32} {x4 : Int32} {x5 : Int32} {x6 : Int32} {t0 : Int32} {H : Heap} {locs : List Loc} (k_x0 : hK h x0 = 15) (hkl : Kl h0 h) (hW : Wx X h H) (hZ : va_S (aA (eB X)) s.heap H locs) (ls : Array Slot) (hl : lv_has ls 7 [(0, .ref x0), (1, .int x1), (3, .int x3), (4, .int x4), (5, .int x5), (6, .int x6)]) (hE : sX15_isMove_80 F r_X15_isAnswered r_X15_isMove k_50 h x0 x1 x3 x4 x5 x6 t0 = some o) : W p l e (rmA (d + 1 + 9) ((d + 1) * 26 + 213) h0 o.2) s m args below meth c H locs (hS h - hS h0) (hL h - hL h0) (MQ below (QIA X h0 o.1 o.2) args s (hS o.2 - hS h0) (hL o.2 - hL h0) (aA (eB X))) (F0 m 80 ls [.int t0]) := by
  refine lv_if_ne (tgt := 85) C.1 C.2.1 dX15_isMove_80 (by decide) (fun c_1 => ?_) (fun c_1 => ?_)
  · have hE := br_n hE c_1
    obtain ⟨v_2, ev_2, hE⟩ := nm_e2 hE
    refine lv_iinc (v := v_2) (lv' := [(6, .int v_2), (0, .ref x0), (1, .int x1), (3, .int x3), (4, .int x4), (5, .int x5)]) C.1 C.2.1 dX15_isMove_85 hl (k := 5) rfl (by rw [ev_2]; rfl) (by decide) rfl (fun ls hl => ?_)
    refine lv_goto (tgt := 50) C.1 C.2.1 dX15_isMove_88 (by decide) ?_
    exact hk_50 _ _ _ _ _ _ _ _ _ k_x0 hkl hW hZ _ (lv_sub hl [1, 2, 3, 4, 5, 0] rfl) hE
  · have hE := br_p hE c_1
    refine lv_iconst (v := (0 : Int32)) C.1 C.2.1 dX15_isMove_83 (by decide) ?_
    exact x_iretA C rfl (by decide) hW hZ hkl hE dX15_isMove_84
set_option maxRecDepth 20000 in
theorem bX15_isMove_50 {p : Program} {l : Launch} {e : Env} {s : State} {m : MethodId} {args : Array Value} {below : List Frame} {meth : Method} {c : Code} {X : Ec} {h0 : Hp} {o : Int32 × Hp} {d : Nat} {r_X15_isAnswered : Hp → Nat → Int32 → Int32 → Int32 → Int32 → Int32 → Option (Int32 × Hp)} {r_X15_isMove : Hp → Nat → Int32 → Int32 → Int32 → Int32 → Int32 → Option (Int32 × Hp)} {F : Nat} (C : Cx X p s m args meth c RX15 cX15_isMove 7 (some .boolean) "isMove") (hr_X15_isAnswered : ∀ {h : Hp} {x0 : Nat} {x1 : Int32} {x2 : Int32} {x3 : Int32} {x4 : Int32} {x5 : Int32} {o : Int32 × Hp}, hK h x0 = 15 → r_X15_isAnswered h x0 x1 x2 x3 x4 x5 = some o → MetIA l yX15_isAnswered cX15_isAnswered 7 (some .boolean)  (d + 9) (d * 26 + 213) X [.ref x0, .int x1, .int x2, .int x3, .int x4, .int x5] h o) (hr_X15_isMove : ∀ {h : Hp} {x0 : Nat} {x1 : Int32} {x2 : Int32} {x3 : Int32} {x4 : Int32} {x5 : Int32} {o : Int32 × Hp}, hK h x0 = 15 → r_X15_isMove h x0 x1 x2 x3 x4 x5 = some o → MetIA l yX15_isMove cX15_isMove 7 (some .boolean)  (d + 9) (d * 26 + 213) X [.ref x0, .int x1, .int x2, .int x3, .int x4, .int x5] h o) (mr_X15_isAnswered : ∀ {h : Hp} {x0 : Nat} {x1 : Int32} {x2 : Int32} {x3 : Int32} {x4 : Int32} {x5 : Int32} {o : Int32 × Hp}, r_X15_isAnswered h x0 x1 x2 x3 x4 x5 = some o → Le h o.2) (mr_X15_isMove : ∀ {h : Hp} {x0 : Nat} {x1 : Int32} {x2 : Int32} {x3 : Int32} {x4 : Int32} {x5 : Int32} {o : Int32 × Hp}, r_X15_isMove h x0 x1 x2 x3 x4 x5 = some o → Le h o.2) : ∀ (f : Nat) {h : Hp} {x0 : Nat} {x1 : Int32} {x3 : Int32} {x4 : Int32} {x5 : Int32} {x6 : Int32} {H : Heap} {locs : List Loc} (k_x0 : hK h x0 = 15), Kl h0 h → Wx X h H → va_S (aA (eB X)) s.heap H locs → ∀ (ls : Array Slot), lv_has ls 7 [(0, .ref x0), (1, .int x1), (3, .int x3), (4, .int x4), (5, .int x5), (6, .int x6)] → sX15_isMove_50 F r_X15_isAnswered r_X15_isMove f h x0 x1 x3 x4 x5 x6 = some o → W p l e (rmA (d + 1 + 9) ((d + 1) * 26 + 213) h0 o.2) s m args below meth c H locs (hS h - hS h0) (hL h - hL h0) (MQ below (QIA X h0 o.1 o.2) args s (hS o.2 - hS h0) (hL o.2 - hL h0) (aA (eB X))) (F0 m 50 ls []) := by
  intro f
  induction f with
  | zero =>
    intro h x0 x1 x3 x4 x5 x6 H locs k_x0 hkl hW hZ ls hl hE
    rw [sX15_isMove_50] at hE
    cases hE
  | succ f ih =>
    intro h x0 x1 x3 x4 x5 x6 H locs k_x0 hkl hW hZ ls hl hE
    rw [sX15_isMove_50] at hE
    have mk_50 : ∀ (h : Hp) (x0 : Nat) (x1 : Int32) (x3 : Int32) (x4 : Int32) (x5 : Int32) (x6 : Int32), sX15_isMove_50 F r_X15_isAnswered r_X15_isMove f h x0 x1 x3 x4 x5 x6 = some o → Le h o.2 := fun h x0 x1 x3 x4 x5 x6 hE => moX15_isMove_50 mr_X15_isAnswered mr_X15_isMove _ hE
    have hk_50 : ∀ (h : Hp) (x0 : Nat) (x1 : Int32) (x3 : Int32) (x4 : Int32) (x5 : Int32) (x6 : Int32) (H : Heap) (locs : List Loc), hK h x0 = 15 → Kl h0 h → Wx X h H → va_S (aA (eB X)) s.heap H locs → ∀ (ls : Array Slot), lv_has ls 7 [(0, .ref x0), (1, .int x1), (3, .int x3), (4, .int x4), (5, .int x5), (6, .int x6)] → sX15_isMove_50 F r_X15_isAnswered r_X15_isMove f h x0 x1 x3 x4 x5 x6 = some o → W p l e (rmA (d + 1 + 9) ((d + 1) * 26 + 213) h0 o.2) s m args below meth c H locs (hS h - hS h0) (hL h - hL h0) (MQ below (QIA X h0 o.1 o.2) args s (hS o.2 - hS h0) (hL o.2 - hL h0) (aA (eB X))) (F0 m 50 ls []) := fun h x0 x1 x3 x4 x5 x6 H locs k_x0 a b c ls hl hE => ih k_x0 a b c ls hl hE
    refine lv_iload C.1 C.2.1 dX15_isMove_50 (lv_at hl 5 rfl) ?_
    refine lv_aload_n C.1 C.2.1 dX15_isMove_52 rfl (lv_at hl 0 rfl) ?_
    obtain ⟨r_1, er_1, hE⟩ := cl_e hE
    refine gf_X15_301 C hW k_x0 er_1 dX15_isMove_53 (fun k_r_1 => ?_)
    refine lv_iload_n C.1 C.2.1 dX15_isMove_56 rfl (lv_at hl 1 rfl) ?_
    refine lv_iconst (v := (1 : Int32)) C.1 C.2.1 dX15_isMove_57 (by decide) ?_
    refine lv_iadd C.1 C.2.1 dX15_isMove_58 ?_
    obtain ⟨g_2, hE⟩ := gd_e hE
    obtain ⟨r_3, er_3, hE⟩ := cl_e hE
    refine y_aald (t0 := 6) C hW k_r_1 (by decide) (by decide) rfl rfl rfl (fun _ => rfl) g_2 er_3 dX15_isMove_59 (fun k_r_3 => ?_)
    refine gf_X15_575 C hW k_r_3 dX15_isMove_60 ?_
    refine lv_icmp_ge (tgt := 91) C.1 C.2.1 dX15_isMove_63 (by decide) (fun c_4 => ?_) (fun c_4 => ?_)
    · have hE := br_p hE c_4
      refine lv_iconst (v := (1 : Int32)) C.1 C.2.1 dX15_isMove_91 (by decide) ?_
      exact x_iretA C rfl (by decide) hW hZ hkl hE dX15_isMove_92
    · have hE := br_n hE c_4
      refine lv_aload_n C.1 C.2.1 dX15_isMove_66 rfl (lv_at hl 0 rfl) ?_
      refine lv_iload_n C.1 C.2.1 dX15_isMove_67 rfl (lv_at hl 1 rfl) ?_
      refine lv_iconst (v := (1 : Int32)) C.1 C.2.1 dX15_isMove_68 (by decide) ?_
      refine lv_iadd C.1 C.2.1 dX15_isMove_69 ?_
      refine lv_iload C.1 C.2.1 dX15_isMove_70 (lv_at hl 5 rfl) ?_
      refine lv_iload_n C.1 C.2.1 dX15_isMove_72 rfl (lv_at hl 2 rfl) ?_
      refine lv_iload C.1 C.2.1 dX15_isMove_73 (lv_at hl 3 rfl) ?_
      refine lv_iload C.1 C.2.1 dX15_isMove_75 (lv_at hl 4 rfl) ?_
      obtain ⟨o_5, eo_5, hE⟩ := cl_e hE
      have m1 := mr_X15_isAnswered eo_5
      have m2 := moX15_isMove_80 mr_X15_isAnswered mr_X15_isMove mk_50 hE
      refine x_kIA (o := o_5) hkl (z_runV (As := [.int (x1 + (1 : Int32)), .int x6, .int x3, .int x4, .int x5]) (rest := []) C (hr_X15_isAnswered k_x0 eo_5) cw_X15_832 hW hZ k_x0 (by decide) rfl rfl rfl hl.1 (Nat.le_of_ble_eq_true rfl) rfl dX15_isMove_77 ⟨by dsimp only [rm, rmA]; omega, by dsimp only [rm, rmA]; omega⟩ (rm_ok hkl m1 m2)) hZ (fun _ _ hW km hZ => ?_)
      replace hkl := hkl.tr km
      replace k_x0 := km.at k_x0 (by decide)
      exact bX15_isMove_80 C hr_X15_isAnswered hr_X15_isMove mr_X15_isAnswered mr_X15_isMove hk_50 mk_50 k_x0 hkl hW hZ _ (lv_sub hl [0, 1, 2, 3, 4, 5] rfl) hE
set_option maxRecDepth 20000 in
theorem bX15_isMove_47 {p : Program} {l : Launch} {e : Env} {s : State} {m : MethodId} {args : Array Value} {below : List Frame} {meth : Method} {c : Code} {X : Ec} {h0 : Hp} {o : Int32 × Hp} {d : Nat} {r_X15_isAnswered : Hp → Nat → Int32 → Int32 → Int32 → Int32 → Int32 → Option (Int32 × Hp)} {r_X15_isMove : Hp → Nat → Int32 → Int32 → Int32 → Int32 → Int32 → Option (Int32 × Hp)} {F : Nat} (C : Cx X p s m args meth c RX15 cX15_isMove 7 (some .boolean) "isMove") (hr_X15_isAnswered : ∀ {h : Hp} {x0 : Nat} {x1 : Int32} {x2 : Int32} {x3 : Int32} {x4 : Int32} {x5 : Int32} {o : Int32 × Hp}, hK h x0 = 15 → r_X15_isAnswered h x0 x1 x2 x3 x4 x5 = some o → MetIA l yX15_isAnswered cX15_isAnswered 7 (some .boolean)  (d + 9) (d * 26 + 213) X [.ref x0, .int x1, .int x2, .int x3, .int x4, .int x5] h o) (hr_X15_isMove : ∀ {h : Hp} {x0 : Nat} {x1 : Int32} {x2 : Int32} {x3 : Int32} {x4 : Int32} {x5 : Int32} {o : Int32 × Hp}, hK h x0 = 15 → r_X15_isMove h x0 x1 x2 x3 x4 x5 = some o → MetIA l yX15_isMove cX15_isMove 7 (some .boolean)  (d + 9) (d * 26 + 213) X [.ref x0, .int x1, .int x2, .int x3, .int x4, .int x5] h o) (mr_X15_isAnswered : ∀ {h : Hp} {x0 : Nat} {x1 : Int32} {x2 : Int32} {x3 : Int32} {x4 : Int32} {x5 : Int32} {o : Int32 × Hp}, r_X15_isAnswered h x0 x1 x2 x3 x4 x5 = some o → Le h o.2) (mr_X15_isMove : ∀ {h : Hp} {x0 : Nat} {x1 : Int32} {x2 : Int32} {x3 : Int32} {x4 : Int32} {x5 : Int32} {o : Int32 × Hp}, r_X15_isMove h x0 x1 x2 x3 x4 x5 = some o → Le h o.2) {h : Hp} {x0 : Nat} {x1 : Int32} {x3 : Int32} {x4 : Int32} {x5 : Int32} {H : Heap} {locs : List Loc} (k_x0 : hK h x0 = 15) (hkl : Kl h0 h) (hW : Wx X h H) (hZ : va_S (aA (eB X)) s.heap H locs) (ls : Array Slot) (hl : lv_has ls 7 [(0, .ref x0), (1, .int x1), (3, .int x3), (4, .int x4), (5, .int x5)]) (hE : sX15_isMove_47 F r_X15_isAnswered r_X15_isMove h x0 x1 x3 x4 x5 = some o) : W p l e (rmA (d + 1 + 9) ((d + 1) * 26 + 213) h0 o.2) s m args below meth c H locs (hS h - hS h0) (hL h - hL h0) (MQ below (QIA X h0 o.1 o.2) args s (hS o.2 - hS h0) (hL o.2 - hL h0) (aA (eB X))) (F0 m 47 ls []) := by
  refine lv_iconst (v := (0 : Int32)) C.1 C.2.1 dX15_isMove_47 (by decide) ?_
  refine lv_istore (lv' := [(6, .int (0 : Int32)), (0, .ref x0), (1, .int x1), (3, .int x3), (4, .int x4), (5, .int x5)]) C.1 C.2.1 dX15_isMove_48 hl (by decide) rfl (fun ls hl => ?_)
  exact bX15_isMove_50 C hr_X15_isAnswered hr_X15_isMove mr_X15_isAnswered mr_X15_isMove F k_x0 hkl hW hZ _ (lv_sub hl [1, 2, 3, 4, 5, 0] rfl) hE
set_option maxRecDepth 20000 in
theorem bX15_isMove_32 {p : Program} {l : Launch} {e : Env} {s : State} {m : MethodId} {args : Array Value} {below : List Frame} {meth : Method} {c : Code} {X : Ec} {h0 : Hp} {o : Int32 × Hp} {d : Nat} {r_X15_isAnswered : Hp → Nat → Int32 → Int32 → Int32 → Int32 → Int32 → Option (Int32 × Hp)} {r_X15_isMove : Hp → Nat → Int32 → Int32 → Int32 → Int32 → Int32 → Option (Int32 × Hp)} {F : Nat} (C : Cx X p s m args meth c RX15 cX15_isMove 7 (some .boolean) "isMove") (hr_X15_isAnswered : ∀ {h : Hp} {x0 : Nat} {x1 : Int32} {x2 : Int32} {x3 : Int32} {x4 : Int32} {x5 : Int32} {o : Int32 × Hp}, hK h x0 = 15 → r_X15_isAnswered h x0 x1 x2 x3 x4 x5 = some o → MetIA l yX15_isAnswered cX15_isAnswered 7 (some .boolean)  (d + 9) (d * 26 + 213) X [.ref x0, .int x1, .int x2, .int x3, .int x4, .int x5] h o) (hr_X15_isMove : ∀ {h : Hp} {x0 : Nat} {x1 : Int32} {x2 : Int32} {x3 : Int32} {x4 : Int32} {x5 : Int32} {o : Int32 × Hp}, hK h x0 = 15 → r_X15_isMove h x0 x1 x2 x3 x4 x5 = some o → MetIA l yX15_isMove cX15_isMove 7 (some .boolean)  (d + 9) (d * 26 + 213) X [.ref x0, .int x1, .int x2, .int x3, .int x4, .int x5] h o) (mr_X15_isAnswered : ∀ {h : Hp} {x0 : Nat} {x1 : Int32} {x2 : Int32} {x3 : Int32} {x4 : Int32} {x5 : Int32} {o : Int32 × Hp}, r_X15_isAnswered h x0 x1 x2 x3 x4 x5 = some o → Le h o.2) (mr_X15_isMove : ∀ {h : Hp} {x0 : Nat} {x1 : Int32} {x2 : Int32} {x3 : Int32} {x4 : Int32} {x5 : Int32} {o : Int32 × Hp}, r_X15_isMove h x0 x1 x2 x3 x4 x5 = some o → Le h o.2) {h : Hp} {x0 : Nat} {x1 : Int32} {x3 : Int32} {x4 : Int32} {x5 : Int32} {t0 : Int32} {H : Heap} {locs : List Loc} (k_x0 : hK h x0 = 15) (hkl : Kl h0 h) (hW : Wx X h H) (hZ : va_S (aA (eB X)) s.heap H locs) (ls : Array Slot) (hl : lv_has ls 7 [(0, .ref x0), (1, .int x1), (3, .int x3), (4, .int x4), (5, .int x5)]) (hE : sX15_isMove_32 F r_X15_isAnswered r_X15_isMove h x0 x1 x3 x4 x5 t0 = some o) : W p l e (rmA (d + 1 + 9) ((d + 1) * 26 + 213) h0 o.2) s m args below meth c H locs (hS h - hS h0) (hL h - hL h0) (MQ below (QIA X h0 o.1 o.2) args s (hS o.2 - hS h0) (hL o.2 - hL h0) (aA (eB X))) (F0 m 32 ls [.int t0]) := by
  refine lv_if_ne (tgt := 45) C.1 C.2.1 dX15_isMove_32 (by decide) (fun c_1 => ?_) (fun c_1 => ?_)
  · have hE := br_n hE c_1
    exact bX15_isMove_45 C hr_X15_isAnswered hr_X15_isMove mr_X15_isAnswered mr_X15_isMove hkl hW hZ _ (lv_sub hl [] rfl) hE
  · have hE := br_p hE c_1
    refine lv_iload C.1 C.2.1 dX15_isMove_35 (lv_at hl 3 rfl) ?_
    refine lv_if_ne (tgt := 47) C.1 C.2.1 dX15_isMove_37 (by decide) (fun c_2 => ?_) (fun c_2 => ?_)
    · have hE := br_n hE c_2
      exact bX15_isMove_47 C hr_X15_isAnswered hr_X15_isMove mr_X15_isAnswered mr_X15_isMove k_x0 hkl hW hZ _ (lv_sub hl [0, 1, 2, 3, 4] rfl) hE
    · have hE := br_p hE c_2
      refine lv_iload_n C.1 C.2.1 dX15_isMove_40 rfl (lv_at hl 2 rfl) ?_
      refine lv_iconst (v := (1 : Int32)) C.1 C.2.1 dX15_isMove_41 (by decide) ?_
      refine lv_icmp_ne (tgt := 47) C.1 C.2.1 dX15_isMove_42 (by decide) (fun c_3 => ?_) (fun c_3 => ?_)
      · have hE := br_n hE c_3
        exact bX15_isMove_47 C hr_X15_isAnswered hr_X15_isMove mr_X15_isAnswered mr_X15_isMove k_x0 hkl hW hZ _ (lv_sub hl [0, 1, 2, 3, 4] rfl) hE
      · have hE := br_p hE c_3
        exact bX15_isMove_45 C hr_X15_isAnswered hr_X15_isMove mr_X15_isAnswered mr_X15_isMove hkl hW hZ _ (lv_sub hl [] rfl) hE
set_option maxRecDepth 20000 in
theorem bX15_isMove_25 {p : Program} {l : Launch} {e : Env} {s : State} {m : MethodId} {args : Array Value} {below : List Frame} {meth : Method} {c : Code} {X : Ec} {h0 : Hp} {o : Int32 × Hp} {d : Nat} {r_X15_isAnswered : Hp → Nat → Int32 → Int32 → Int32 → Int32 → Int32 → Option (Int32 × Hp)} {r_X15_isMove : Hp → Nat → Int32 → Int32 → Int32 → Int32 → Int32 → Option (Int32 × Hp)} {F : Nat} (C : Cx X p s m args meth c RX15 cX15_isMove 7 (some .boolean) "isMove") (hr_X15_isAnswered : ∀ {h : Hp} {x0 : Nat} {x1 : Int32} {x2 : Int32} {x3 : Int32} {x4 : Int32} {x5 : Int32} {o : Int32 × Hp}, hK h x0 = 15 → r_X15_isAnswered h x0 x1 x2 x3 x4 x5 = some o → MetIA l yX15_isAnswered cX15_isAnswered 7 (some .boolean)  (d + 9) (d * 26 + 213) X [.ref x0, .int x1, .int x2, .int x3, .int x4, .int x5] h o) (hr_X15_isMove : ∀ {h : Hp} {x0 : Nat} {x1 : Int32} {x2 : Int32} {x3 : Int32} {x4 : Int32} {x5 : Int32} {o : Int32 × Hp}, hK h x0 = 15 → r_X15_isMove h x0 x1 x2 x3 x4 x5 = some o → MetIA l yX15_isMove cX15_isMove 7 (some .boolean)  (d + 9) (d * 26 + 213) X [.ref x0, .int x1, .int x2, .int x3, .int x4, .int x5] h o) (mr_X15_isAnswered : ∀ {h : Hp} {x0 : Nat} {x1 : Int32} {x2 : Int32} {x3 : Int32} {x4 : Int32} {x5 : Int32} {o : Int32 × Hp}, r_X15_isAnswered h x0 x1 x2 x3 x4 x5 = some o → Le h o.2) (mr_X15_isMove : ∀ {h : Hp} {x0 : Nat} {x1 : Int32} {x2 : Int32} {x3 : Int32} {x4 : Int32} {x5 : Int32} {o : Int32 × Hp}, r_X15_isMove h x0 x1 x2 x3 x4 x5 = some o → Le h o.2) {h : Hp} {x0 : Nat} {x1 : Int32} {x3 : Int32} {x4 : Int32} {x5 : Int32} {H : Heap} {locs : List Loc} (k_x0 : hK h x0 = 15) (hkl : Kl h0 h) (hW : Wx X h H) (hZ : va_S (aA (eB X)) s.heap H locs) (ls : Array Slot) (hl : lv_has ls 7 [(0, .ref x0), (1, .int x1), (3, .int x3), (4, .int x4), (5, .int x5)]) (hE : sX15_isMove_25 F r_X15_isAnswered r_X15_isMove h x0 x1 x3 x4 x5 = some o) : W p l e (rmA (d + 1 + 9) ((d + 1) * 26 + 213) h0 o.2) s m args below meth c H locs (hS h - hS h0) (hL h - hL h0) (MQ below (QIA X h0 o.1 o.2) args s (hS o.2 - hS h0) (hL o.2 - hL h0) (aA (eB X))) (F0 m 25 ls []) := by
  refine lv_aload_n C.1 C.2.1 dX15_isMove_25 rfl (lv_at hl 0 rfl) ?_
  refine lv_iload_n C.1 C.2.1 dX15_isMove_26 rfl (lv_at hl 1 rfl) ?_
  refine lv_iconst (v := (1 : Int32)) C.1 C.2.1 dX15_isMove_27 (by decide) ?_
  refine lv_iadd C.1 C.2.1 dX15_isMove_28 ?_
  obtain ⟨o_1, eo_1, hE⟩ := cl_e hE
  have m1 := moX15_hasEnded eo_1
  have m2 := moX15_isMove_32 mr_X15_isAnswered mr_X15_isMove hE
  refine x_kIA (o := o_1) hkl (z_runV (As := [.int (x1 + (1 : Int32))]) (rest := []) C (ct_X15_hasEnded l X F k_x0 eo_1) cw_X15_829 hW hZ k_x0 (by decide) rfl rfl rfl hl.1 (Nat.le_of_ble_eq_true rfl) rfl dX15_isMove_29 ⟨by dsimp only [rm, rmA]; omega, by dsimp only [rm, rmA]; omega⟩ (rm_ok hkl m1 m2)) hZ (fun _ _ hW km hZ => ?_)
  replace hkl := hkl.tr km
  replace k_x0 := km.at k_x0 (by decide)
  exact bX15_isMove_32 C hr_X15_isAnswered hr_X15_isMove mr_X15_isAnswered mr_X15_isMove k_x0 hkl hW hZ _ (lv_sub hl [0, 1, 2, 3, 4] rfl) hE
set_option maxRecDepth 20000 in
theorem bX15_isMove_20 {p : Program} {l : Launch} {e : Env} {s : State} {m : MethodId} {args : Array Value} {below : List Frame} {meth : Method} {c : Code} {X : Ec} {h0 : Hp} {o : Int32 × Hp} {d : Nat} {r_X15_isAnswered : Hp → Nat → Int32 → Int32 → Int32 → Int32 → Int32 → Option (Int32 × Hp)} {r_X15_isMove : Hp → Nat → Int32 → Int32 → Int32 → Int32 → Int32 → Option (Int32 × Hp)} {F : Nat} (C : Cx X p s m args meth c RX15 cX15_isMove 7 (some .boolean) "isMove") (hr_X15_isAnswered : ∀ {h : Hp} {x0 : Nat} {x1 : Int32} {x2 : Int32} {x3 : Int32} {x4 : Int32} {x5 : Int32} {o : Int32 × Hp}, hK h x0 = 15 → r_X15_isAnswered h x0 x1 x2 x3 x4 x5 = some o → MetIA l yX15_isAnswered cX15_isAnswered 7 (some .boolean)  (d + 9) (d * 26 + 213) X [.ref x0, .int x1, .int x2, .int x3, .int x4, .int x5] h o) (hr_X15_isMove : ∀ {h : Hp} {x0 : Nat} {x1 : Int32} {x2 : Int32} {x3 : Int32} {x4 : Int32} {x5 : Int32} {o : Int32 × Hp}, hK h x0 = 15 → r_X15_isMove h x0 x1 x2 x3 x4 x5 = some o → MetIA l yX15_isMove cX15_isMove 7 (some .boolean)  (d + 9) (d * 26 + 213) X [.ref x0, .int x1, .int x2, .int x3, .int x4, .int x5] h o) (mr_X15_isAnswered : ∀ {h : Hp} {x0 : Nat} {x1 : Int32} {x2 : Int32} {x3 : Int32} {x4 : Int32} {x5 : Int32} {o : Int32 × Hp}, r_X15_isAnswered h x0 x1 x2 x3 x4 x5 = some o → Le h o.2) (mr_X15_isMove : ∀ {h : Hp} {x0 : Nat} {x1 : Int32} {x2 : Int32} {x3 : Int32} {x4 : Int32} {x5 : Int32} {o : Int32 × Hp}, r_X15_isMove h x0 x1 x2 x3 x4 x5 = some o → Le h o.2) {h : Hp} {x0 : Nat} {x1 : Int32} {x3 : Int32} {x4 : Int32} {x5 : Int32} {t0 : Int32} {H : Heap} {locs : List Loc} (k_x0 : hK h x0 = 15) (hkl : Kl h0 h) (hW : Wx X h H) (hZ : va_S (aA (eB X)) s.heap H locs) (ls : Array Slot) (hl : lv_has ls 7 [(0, .ref x0), (1, .int x1), (3, .int x3), (4, .int x4), (5, .int x5)]) (hE : sX15_isMove_20 F r_X15_isAnswered r_X15_isMove h x0 x1 x3 x4 x5 t0 = some o) : W p l e (rmA (d + 1 + 9) ((d + 1) * 26 + 213) h0 o.2) s m args below meth c H locs (hS h - hS h0) (hL h - hL h0) (MQ below (QIA X h0 o.1 o.2) args s (hS o.2 - hS h0) (hL o.2 - hL h0) (aA (eB X))) (F0 m 20 ls [.int t0]) := by
  refine lv_if_eq (tgt := 25) C.1 C.2.1 dX15_isMove_20 (by decide) (fun c_1 => ?_) (fun c_1 => ?_)
  · have hE := br_p hE c_1
    exact bX15_isMove_25 C hr_X15_isAnswered hr_X15_isMove mr_X15_isAnswered mr_X15_isMove k_x0 hkl hW hZ _ (lv_sub hl [0, 1, 2, 3, 4] rfl) hE
  · have hE := br_n hE c_1
    refine lv_iconst (v := (1 : Int32)) C.1 C.2.1 dX15_isMove_23 (by decide) ?_
    exact x_iretA C rfl (by decide) hW hZ hkl hE dX15_isMove_24
set_option maxRecDepth 20000 in
theorem bX15_isMove_6 {p : Program} {l : Launch} {e : Env} {s : State} {m : MethodId} {args : Array Value} {below : List Frame} {meth : Method} {c : Code} {X : Ec} {h0 : Hp} {o : Int32 × Hp} {d : Nat} {r_X15_isAnswered : Hp → Nat → Int32 → Int32 → Int32 → Int32 → Int32 → Option (Int32 × Hp)} {r_X15_isMove : Hp → Nat → Int32 → Int32 → Int32 → Int32 → Int32 → Option (Int32 × Hp)} {F : Nat} (C : Cx X p s m args meth c RX15 cX15_isMove 7 (some .boolean) "isMove") (hr_X15_isAnswered : ∀ {h : Hp} {x0 : Nat} {x1 : Int32} {x2 : Int32} {x3 : Int32} {x4 : Int32} {x5 : Int32} {o : Int32 × Hp}, hK h x0 = 15 → r_X15_isAnswered h x0 x1 x2 x3 x4 x5 = some o → MetIA l yX15_isAnswered cX15_isAnswered 7 (some .boolean)  (d + 9) (d * 26 + 213) X [.ref x0, .int x1, .int x2, .int x3, .int x4, .int x5] h o) (hr_X15_isMove : ∀ {h : Hp} {x0 : Nat} {x1 : Int32} {x2 : Int32} {x3 : Int32} {x4 : Int32} {x5 : Int32} {o : Int32 × Hp}, hK h x0 = 15 → r_X15_isMove h x0 x1 x2 x3 x4 x5 = some o → MetIA l yX15_isMove cX15_isMove 7 (some .boolean)  (d + 9) (d * 26 + 213) X [.ref x0, .int x1, .int x2, .int x3, .int x4, .int x5] h o) (mr_X15_isAnswered : ∀ {h : Hp} {x0 : Nat} {x1 : Int32} {x2 : Int32} {x3 : Int32} {x4 : Int32} {x5 : Int32} {o : Int32 × Hp}, r_X15_isAnswered h x0 x1 x2 x3 x4 x5 = some o → Le h o.2) (mr_X15_isMove : ∀ {h : Hp} {x0 : Nat} {x1 : Int32} {x2 : Int32} {x3 : Int32} {x4 : Int32} {x5 : Int32} {o : Int32 × Hp}, r_X15_isMove h x0 x1 x2 x3 x4 x5 = some o → Le h o.2) {h : Hp} {x0 : Nat} {x1 : Int32} {x3 : Int32} {x4 : Int32} {x5 : Int32} {H : Heap} {locs : List Loc} (k_x0 : hK h x0 = 15) (hkl : Kl h0 h) (hW : Wx X h H) (hZ : va_S (aA (eB X)) s.heap H locs) (ls : Array Slot) (hl : lv_has ls 7 [(0, .ref x0), (1, .int x1), (3, .int x3), (4, .int x4), (5, .int x5)]) (hE : sX15_isMove_6 F r_X15_isAnswered r_X15_isMove h x0 x1 x3 x4 x5 = some o) : W p l e (rmA (d + 1 + 9) ((d + 1) * 26 + 213) h0 o.2) s m args below meth c H locs (hS h - hS h0) (hL h - hL h0) (MQ below (QIA X h0 o.1 o.2) args s (hS o.2 - hS h0) (hL o.2 - hL h0) (aA (eB X))) (F0 m 6 ls []) := by
  refine lv_iload C.1 C.2.1 dX15_isMove_6 (lv_at hl 3 rfl) ?_
  refine lv_if_ne (tgt := 25) C.1 C.2.1 dX15_isMove_8 (by decide) (fun c_1 => ?_) (fun c_1 => ?_)
  · have hE := br_n hE c_1
    exact bX15_isMove_25 C hr_X15_isAnswered hr_X15_isMove mr_X15_isAnswered mr_X15_isMove k_x0 hkl hW hZ _ (lv_sub hl [0, 1, 2, 3, 4] rfl) hE
  · have hE := br_p hE c_1
    refine lv_aload_n C.1 C.2.1 dX15_isMove_11 rfl (lv_at hl 0 rfl) ?_
    refine lv_iload_n C.1 C.2.1 dX15_isMove_12 rfl (lv_at hl 1 rfl) ?_
    refine lv_iconst (v := (1 : Int32)) C.1 C.2.1 dX15_isMove_13 (by decide) ?_
    refine lv_iadd C.1 C.2.1 dX15_isMove_14 ?_
    refine lv_iload C.1 C.2.1 dX15_isMove_15 (lv_at hl 4 rfl) ?_
    obtain ⟨o_2, eo_2, hE⟩ := cl_e hE
    have m1 := moX15_isGoal eo_2
    have m2 := moX15_isMove_20 mr_X15_isAnswered mr_X15_isMove hE
    refine x_kIA (o := o_2) hkl (z_runV (As := [.int (x1 + (1 : Int32)), .int x5]) (rest := []) C (ct_X15_isGoal l X F k_x0 eo_2) cw_X15_826 hW hZ k_x0 (by decide) rfl rfl rfl hl.1 (Nat.le_of_ble_eq_true rfl) rfl dX15_isMove_17 ⟨by dsimp only [rm, rmA]; omega, by dsimp only [rm, rmA]; omega⟩ (rm_ok hkl m1 m2)) hZ (fun _ _ hW km hZ => ?_)
    replace hkl := hkl.tr km
    replace k_x0 := km.at k_x0 (by decide)
    exact bX15_isMove_20 C hr_X15_isAnswered hr_X15_isMove mr_X15_isAnswered mr_X15_isMove k_x0 hkl hW hZ _ (lv_sub hl [0, 1, 2, 3, 4] rfl) hE
set_option maxRecDepth 20000 in
theorem ot_X15_isMove (l : Launch) (X : Ec) (F : Nat) {d : Nat} {r_X15_isAnswered : Hp → Nat → Int32 → Int32 → Int32 → Int32 → Int32 → Option (Int32 × Hp)} {r_X15_isMove : Hp → Nat → Int32 → Int32 → Int32 → Int32 → Int32 → Option (Int32 × Hp)} (hr_X15_isAnswered : ∀ {h : Hp} {x0 : Nat} {x1 : Int32} {x2 : Int32} {x3 : Int32} {x4 : Int32} {x5 : Int32} {o : Int32 × Hp}, hK h x0 = 15 → r_X15_isAnswered h x0 x1 x2 x3 x4 x5 = some o → MetIA l yX15_isAnswered cX15_isAnswered 7 (some .boolean)  (d + 9) (d * 26 + 213) X [.ref x0, .int x1, .int x2, .int x3, .int x4, .int x5] h o) (hr_X15_isMove : ∀ {h : Hp} {x0 : Nat} {x1 : Int32} {x2 : Int32} {x3 : Int32} {x4 : Int32} {x5 : Int32} {o : Int32 × Hp}, hK h x0 = 15 → r_X15_isMove h x0 x1 x2 x3 x4 x5 = some o → MetIA l yX15_isMove cX15_isMove 7 (some .boolean)  (d + 9) (d * 26 + 213) X [.ref x0, .int x1, .int x2, .int x3, .int x4, .int x5] h o) (mr_X15_isAnswered : ∀ {h : Hp} {x0 : Nat} {x1 : Int32} {x2 : Int32} {x3 : Int32} {x4 : Int32} {x5 : Int32} {o : Int32 × Hp}, r_X15_isAnswered h x0 x1 x2 x3 x4 x5 = some o → Le h o.2) (mr_X15_isMove : ∀ {h : Hp} {x0 : Nat} {x1 : Int32} {x2 : Int32} {x3 : Int32} {x4 : Int32} {x5 : Int32} {o : Int32 × Hp}, r_X15_isMove h x0 x1 x2 x3 x4 x5 = some o → Le h o.2) {h : Hp} {x0 : Nat} {x1 : Int32} {x2 : Int32} {x3 : Int32} {x4 : Int32} {x5 : Int32} {o : Int32 × Hp} (k_x0 : hK h x0 = 15) (hE : oX15_isMove F r_X15_isAnswered r_X15_isMove h x0 x1 x2 x3 x4 x5 = some o) : MetIA l yX15_isMove cX15_isMove 7 (some .boolean) (d + 1 + 9) ((d + 1) * 26 + 213) X [.ref x0, .int x1, .int x2, .int x3, .int x4, .int x5] h o := by
  refine x_metA (oh := o.2) (by decide) (Nat.le_of_ble_eq_true rfl) ?_
  intro p e s m below meth c ls C hl hW hZ
  have hl : lv_has ls 7 [(0, .ref x0), (1, .int x1), (2, .int x2), (3, .int x3), (4, .int x4), (5, .int x5)] := hl
  have hkl : Kl h h := Kl.rf h
  refine lv_aload_n C.1 C.2.1 dX15_isMove_0 rfl (lv_at hl 0 rfl) ?_
  refine lv_iload_n C.1 C.2.1 dX15_isMove_1 rfl (lv_at hl 1 rfl) ?_
  refine lv_iload_n C.1 C.2.1 dX15_isMove_2 rfl (lv_at hl 2 rfl) ?_
  obtain ⟨o_1, eo_1, hE⟩ := cl_e hE
  have m1 := moX15_step eo_1
  have m2 := moX15_isMove_6 mr_X15_isAnswered mr_X15_isMove hE
  refine x_kVA (o := o_1) hkl (z_runV (As := [.int x1, .int x2]) (rest := []) C (ct_X15_step l X F k_x0 eo_1) cw_X15_823 hW hZ k_x0 (by decide) rfl rfl rfl hl.1 (Nat.le_of_ble_eq_true rfl) rfl dX15_isMove_3 ⟨by dsimp only [rm, rmA]; omega, by dsimp only [rm, rmA]; omega⟩ (rm_ok hkl m1 m2)) hZ (fun _ _ hW km hZ => ?_)
  replace hkl := hkl.tr km
  replace k_x0 := km.at k_x0 (by decide)
  exact bX15_isMove_6 C hr_X15_isAnswered hr_X15_isMove mr_X15_isAnswered mr_X15_isMove k_x0 hkl hW hZ _ (lv_sub hl [0, 1, 3, 4, 5] rfl) hE
theorem qmX15_isAnswered (F : Nat) : ∀ (d : Nat), (∀ {h : Hp} {x0 : Nat} {x1 : Int32} {x2 : Int32} {x3 : Int32} {x4 : Int32} {x5 : Int32} {o : Int32 × Hp}, (qX15_isAnswered F d).1 h x0 x1 x2 x3 x4 x5 = some o → Le h o.2) ∧ (∀ {h : Hp} {x0 : Nat} {x1 : Int32} {x2 : Int32} {x3 : Int32} {x4 : Int32} {x5 : Int32} {o : Int32 × Hp}, (qX15_isAnswered F d).2 h x0 x1 x2 x3 x4 x5 = some o → Le h o.2) := by
  intro d
  induction d with
  | zero => exact ⟨fun hE => (by cases hE), fun hE => (by cases hE)⟩
  | succ d ih => exact ⟨fun hE => mooX15_isAnswered (ih).1 (ih).2 hE, fun hE => mooX15_isMove (ih).1 (ih).2 hE⟩
theorem qtX15_isAnswered (l : Launch) (X : Ec) (F : Nat) : ∀ (d : Nat), (∀ {h : Hp} {x0 : Nat} {x1 : Int32} {x2 : Int32} {x3 : Int32} {x4 : Int32} {x5 : Int32} {o : Int32 × Hp}, hK h x0 = 15 → (qX15_isAnswered F d).1 h x0 x1 x2 x3 x4 x5 = some o → MetIA l yX15_isAnswered cX15_isAnswered 7 (some .boolean)  (d + 9) (d * 26 + 213) X [.ref x0, .int x1, .int x2, .int x3, .int x4, .int x5] h o) ∧ (∀ {h : Hp} {x0 : Nat} {x1 : Int32} {x2 : Int32} {x3 : Int32} {x4 : Int32} {x5 : Int32} {o : Int32 × Hp}, hK h x0 = 15 → (qX15_isAnswered F d).2 h x0 x1 x2 x3 x4 x5 = some o → MetIA l yX15_isMove cX15_isMove 7 (some .boolean)  (d + 9) (d * 26 + 213) X [.ref x0, .int x1, .int x2, .int x3, .int x4, .int x5] h o) := by
  intro d
  induction d with
  | zero => exact ⟨fun k_x0 hE => (by cases hE), fun k_x0 hE => (by cases hE)⟩
  | succ d ih => exact ⟨fun k_x0 hE => ot_X15_isAnswered l X F (ih).1 (ih).2 (qmX15_isAnswered F d).1 (qmX15_isAnswered F d).2 k_x0 hE, fun k_x0 hE => ot_X15_isMove l X F (ih).1 (ih).2 (qmX15_isAnswered F d).1 (qmX15_isAnswered F d).2 k_x0 hE⟩
theorem moX15_isAnswered {o : Int32 × Hp} {F : Nat} {h : Hp} {x0 : Nat} {x1 : Int32} {x2 : Int32} {x3 : Int32} {x4 : Int32} {x5 : Int32} (hE : sX15_isAnswered F h x0 x1 x2 x3 x4 x5 = some o) : Le h o.2 := (qmX15_isAnswered F 40).1 hE
theorem ct_X15_isAnswered (l : Launch) (X : Ec) (F : Nat) {h : Hp} {x0 : Nat} {x1 : Int32} {x2 : Int32} {x3 : Int32} {x4 : Int32} {x5 : Int32} {o : Int32 × Hp} (k_x0 : hK h x0 = 15) (hE : sX15_isAnswered F h x0 x1 x2 x3 x4 x5 = some o) : MetIA l yX15_isAnswered cX15_isAnswered 7 (some .boolean) 49 1253 X [.ref x0, .int x1, .int x2, .int x3, .int x4, .int x5] h o := (qtX15_isAnswered l X F 40).1 k_x0 hE
theorem moX15_isMove {o : Int32 × Hp} {F : Nat} {h : Hp} {x0 : Nat} {x1 : Int32} {x2 : Int32} {x3 : Int32} {x4 : Int32} {x5 : Int32} (hE : sX15_isMove F h x0 x1 x2 x3 x4 x5 = some o) : Le h o.2 := (qmX15_isAnswered F 40).2 hE
theorem ct_X15_isMove (l : Launch) (X : Ec) (F : Nat) {h : Hp} {x0 : Nat} {x1 : Int32} {x2 : Int32} {x3 : Int32} {x4 : Int32} {x5 : Int32} {o : Int32 × Hp} (k_x0 : hK h x0 = 15) (hE : sX15_isMove F h x0 x1 x2 x3 x4 x5 = some o) : MetIA l yX15_isMove cX15_isMove 7 (some .boolean) 49 1253 X [.ref x0, .int x1, .int x2, .int x3, .int x4, .int x5] h o := (qtX15_isAnswered l X F 40).2 k_x0 hE
set_option maxRecDepth 100000 in
theorem m_2175 : Cond.fieldLink RX15 847 (TX15 64).1 (TX15 64).2.1 (TX15 64).2.2.1 ∈ W0 := w0_in (List.mem_append_right _ (List.mem_of_getElem? (i := 2175) rfl)) rfl
set_option maxRecDepth 100000 in
theorem m_2177 : Cond.fieldLink RX15 850 (TX15 66).1 (TX15 66).2.1 (TX15 66).2.2.1 ∈ W0 := w0_in (List.mem_append_right _ (List.mem_of_getElem? (i := 2177) rfl)) rfl
set_option maxRecDepth 100000 in
theorem m_2178 : Cond.fieldLink RX15 853 (TX15 67).1 (TX15 67).2.1 (TX15 67).2.2.1 ∈ W0 := w0_in (List.mem_append_right _ (List.mem_of_getElem? (i := 2178) rfl)) rfl
set_option maxRecDepth 100000 in
theorem m_2179 : Cond.fieldLink RX15 856 (TX15 68).1 (TX15 68).2.1 (TX15 68).2.2.1 ∈ W0 := w0_in (List.mem_append_right _ (List.mem_of_getElem? (i := 2179) rfl)) rfl
set_option maxRecDepth 100000 in
theorem m_2181 : Cond.fieldLink RX15 859 (TX15 70).1 (TX15 70).2.1 (TX15 70).2.2.1 ∈ W0 := w0_in (List.mem_append_right _ (List.mem_of_getElem? (i := 2181) rfl)) rfl
section
variable {p : Program} {l : Launch} {e : Env} {R : Room} {s : State} {m : MethodId} {args : Array Value} {below : List Frame} {meth : Method} {c : Code} {H : Heap} {locs : List Loc} {cells slots : Nat} {Q : State → Prop}
variable {cc : ByteArray} {pc : Nat} {ls : Array Slot} {rest : List Value} {X : Ec} {h h1 : Hp} {nL : Nat} {rt : Option FieldType} {mn : String}
theorem gf_X15_371 {a r : Nat} (C : Cx X p s m args meth c RX15 cc nL rt mn) (hW : Wx X h H) (ha : hK h a = 15) (hr : hR h a 69 = some r) (hdg : decode cc pc = .ok (.getfield 371, 3)) (kk : hK h r = 17 → W p l e R s m args below meth c H locs cells slots Q (F0 m (pc + 3) ls (.ref r :: rest))) : W p l e R s m args below meth c H locs cells slots Q (F0 m pc ls (.ref a :: rest)) :=
  y_getr C hW ha i_X15 (by decide) rfl (by decide) m_2180 rfl rfl hr hdg kk
theorem gf_X15_859 {a : Nat} (C : Cx X p s m args meth c RX15 cc nL rt mn) (hW : Wx X h H) (ha : hK h a = 15) (hdg : decode cc pc = .ok (.getfield 859, 3)) (kk : W p l e R s m args below meth c H locs cells slots Q (F0 m (pc + 3) ls (.int (hI h a 70) :: rest))) : W p l e R s m args below meth c H locs cells slots Q (F0 m pc ls (.ref a :: rest)) :=
  y_geti C hW ha i_X15 (by decide) rfl (by decide) m_2181 rfl hdg kk
theorem pf_X15_859 {a : Nat} {v : Int32} (C : Cx X p s m args meth c RX15 cc nL rt mn) (hW : Wx X h H) (hZ : va_S (aA (eB X)) s.heap H locs) (ha : hK h a = 15) (eh : h1 = wI h a 70 v) (hdg : decode cc pc = .ok (.putfield 859, 3)) (kk : ∀ (H1 : Heap) (locs1 : List Loc), Wx X h1 H1 → Km h h1 → va_S (aA (eB X)) s.heap H1 locs1 → W p l e R s m args below meth c H1 locs1 cells slots Q (F0 m (pc + 3) ls rest)) : W p l e R s m args below meth c H locs cells slots Q (F0 m pc ls (.int v :: .ref a :: rest)) :=
  y_puti (ty := .int) C hW hZ ha i_X15 tyX15 tyX15_ok nmX15 (by decide) rfl rfl (by decide) m_2181 rfl (by decide +kernel) rfl rfl rfl eh hdg kk
theorem pf_X15_847 {a : Nat} {v : Int32} (C : Cx X p s m args meth c RX15 cc nL rt mn) (hW : Wx X h H) (hZ : va_S (aA (eB X)) s.heap H locs) (ha : hK h a = 15) (eh : h1 = wI h a 64 v) (hdg : decode cc pc = .ok (.putfield 847, 3)) (kk : ∀ (H1 : Heap) (locs1 : List Loc), Wx X h1 H1 → Km h h1 → va_S (aA (eB X)) s.heap H1 locs1 → W p l e R s m args below meth c H1 locs1 cells slots Q (F0 m (pc + 3) ls rest)) : W p l e R s m args below meth c H locs cells slots Q (F0 m pc ls (.int v :: .ref a :: rest)) :=
  y_puti (ty := .int) C hW hZ ha i_X15 tyX15 tyX15_ok nmX15 (by decide) rfl rfl (by decide) m_2175 rfl (by decide +kernel) rfl rfl rfl eh hdg kk
theorem pf_X15_850 {a : Nat} {v : Int32} (C : Cx X p s m args meth c RX15 cc nL rt mn) (hW : Wx X h H) (hZ : va_S (aA (eB X)) s.heap H locs) (ha : hK h a = 15) (eh : h1 = wI h a 66 v) (hdg : decode cc pc = .ok (.putfield 850, 3)) (kk : ∀ (H1 : Heap) (locs1 : List Loc), Wx X h1 H1 → Km h h1 → va_S (aA (eB X)) s.heap H1 locs1 → W p l e R s m args below meth c H1 locs1 cells slots Q (F0 m (pc + 3) ls rest)) : W p l e R s m args below meth c H locs cells slots Q (F0 m pc ls (.int v :: .ref a :: rest)) :=
  y_puti (ty := .int) C hW hZ ha i_X15 tyX15 tyX15_ok nmX15 (by decide) rfl rfl (by decide) m_2177 rfl (by decide +kernel) rfl rfl rfl eh hdg kk
theorem pf_X15_853 {a : Nat} {v : Int32} (C : Cx X p s m args meth c RX15 cc nL rt mn) (hW : Wx X h H) (hZ : va_S (aA (eB X)) s.heap H locs) (ha : hK h a = 15) (eh : h1 = wI h a 67 v) (hdg : decode cc pc = .ok (.putfield 853, 3)) (kk : ∀ (H1 : Heap) (locs1 : List Loc), Wx X h1 H1 → Km h h1 → va_S (aA (eB X)) s.heap H1 locs1 → W p l e R s m args below meth c H1 locs1 cells slots Q (F0 m (pc + 3) ls rest)) : W p l e R s m args below meth c H locs cells slots Q (F0 m pc ls (.int v :: .ref a :: rest)) :=
  y_puti (ty := .int) C hW hZ ha i_X15 tyX15 tyX15_ok nmX15 (by decide) rfl rfl (by decide) m_2178 rfl (by decide +kernel) rfl rfl rfl eh hdg kk
theorem pf_X15_856 {a : Nat} {v : Int32} (C : Cx X p s m args meth c RX15 cc nL rt mn) (hW : Wx X h H) (hZ : va_S (aA (eB X)) s.heap H locs) (ha : hK h a = 15) (eh : h1 = wI h a 68 v) (hdg : decode cc pc = .ok (.putfield 856, 3)) (kk : ∀ (H1 : Heap) (locs1 : List Loc), Wx X h1 H1 → Km h h1 → va_S (aA (eB X)) s.heap H1 locs1 → W p l e R s m args below meth c H1 locs1 cells slots Q (F0 m (pc + 3) ls rest)) : W p l e R s m args below meth c H locs cells slots Q (F0 m pc ls (.int v :: .ref a :: rest)) :=
  y_puti (ty := .int) C hW hZ ha i_X15 tyX15 tyX15_ok nmX15 (by decide) rfl rfl (by decide) m_2179 rfl (by decide +kernel) rfl rfl rfl eh hdg kk
end
theorem dX15_problem_0 : decode cX15_problem 0 = .ok (.iload_n 2, 1) := by decide +kernel
theorem dX15_problem_1 : decode cX15_problem 1 = .ok (.ifCond .lt 29, 3) := by decide +kernel
theorem dX15_problem_4 : decode cX15_problem 4 = .ok (.iload_n 2, 1) := by decide +kernel
theorem dX15_problem_5 : decode cX15_problem 5 = .ok (.iconst 3, 1) := by decide +kernel
theorem dX15_problem_6 : decode cX15_problem 6 = .ok (.if_icmp .gt 24, 3) := by decide +kernel
theorem dX15_problem_9 : decode cX15_problem 9 = .ok (.iload_n 3, 1) := by decide +kernel
theorem dX15_problem_10 : decode cX15_problem 10 = .ok (.ifCond .lt 20, 3) := by decide +kernel
theorem dX15_problem_13 : decode cX15_problem 13 = .ok (.iload_n 3, 1) := by decide +kernel
theorem dX15_problem_14 : decode cX15_problem 14 = .ok (.iconst 2, 1) := by decide +kernel
theorem dX15_problem_15 : decode cX15_problem 15 = .ok (.if_icmp .gt 15, 3) := by decide +kernel
theorem dX15_problem_18 : decode cX15_problem 18 = .ok (.iload 4, 2) := by decide +kernel
theorem dX15_problem_20 : decode cX15_problem 20 = .ok (.iconst 1, 1) := by decide +kernel
theorem dX15_problem_21 : decode cX15_problem 21 = .ok (.if_icmp .lt 9, 3) := by decide +kernel
theorem dX15_problem_24 : decode cX15_problem 24 = .ok (.iload 4, 2) := by decide +kernel
theorem dX15_problem_26 : decode cX15_problem 26 = .ok (.iconst 4, 1) := by decide +kernel
theorem dX15_problem_27 : decode cX15_problem 27 = .ok (.if_icmp .le 6, 3) := by decide +kernel
theorem dX15_problem_30 : decode cX15_problem 30 = .ok (.bipush (-101), 2) := by decide +kernel
theorem dX15_problem_32 : decode cX15_problem 32 = .ok (.ireturn, 1) := by decide +kernel
theorem dX15_problem_33 : decode cX15_problem 33 = .ok (.aload_n 0, 1) := by decide +kernel
theorem dX15_problem_34 : decode cX15_problem 34 = .ok (.iload_n 1, 1) := by decide +kernel
theorem dX15_problem_35 : decode cX15_problem 35 = .ok (.invokevirtual 668, 3) := by decide +kernel
theorem dX15_problem_38 : decode cX15_problem 38 = .ok (.bipush (-102), 2) := by decide +kernel
theorem dX15_problem_40 : decode cX15_problem 40 = .ok (.if_icmp .ne 6, 3) := by decide +kernel
theorem dX15_problem_43 : decode cX15_problem 43 = .ok (.bipush (-102), 2) := by decide +kernel
theorem dX15_problem_45 : decode cX15_problem 45 = .ok (.ireturn, 1) := by decide +kernel
theorem dX15_problem_46 : decode cX15_problem 46 = .ok (.aload_n 0, 1) := by decide +kernel
theorem dX15_problem_47 : decode cX15_problem 47 = .ok (.aload_n 0, 1) := by decide +kernel
theorem dX15_problem_48 : decode cX15_problem 48 = .ok (.getfield 257, 3) := by decide +kernel
theorem dX15_problem_51 : decode cX15_problem 51 = .ok (.iload_n 1, 1) := by decide +kernel
theorem dX15_problem_52 : decode cX15_problem 52 = .ok (.aaload, 1) := by decide +kernel
theorem dX15_problem_53 : decode cX15_problem 53 = .ok (.aload_n 0, 1) := by decide +kernel
theorem dX15_problem_54 : decode cX15_problem 54 = .ok (.getfield 288, 3) := by decide +kernel
theorem dX15_problem_57 : decode cX15_problem 57 = .ok (.getfield 575, 3) := by decide +kernel
theorem dX15_problem_60 : decode cX15_problem 60 = .ok (.invokevirtual 683, 3) := by decide +kernel
theorem dX15_problem_63 : decode cX15_problem 63 = .ok (.ifCond .le 6, 3) := by decide +kernel
theorem dX15_problem_66 : decode cX15_problem 66 = .ok (.bipush (-103), 2) := by decide +kernel
theorem dX15_problem_68 : decode cX15_problem 68 = .ok (.ireturn, 1) := by decide +kernel
theorem dX15_problem_69 : decode cX15_problem 69 = .ok (.iload_n 2, 1) := by decide +kernel
theorem dX15_problem_70 : decode cX15_problem 70 = .ok (.ifCond .ne 12, 3) := by decide +kernel
theorem dX15_problem_73 : decode cX15_problem 73 = .ok (.iconst 2, 1) := by decide +kernel
theorem dX15_problem_74 : decode cX15_problem 74 = .ok (.iload 4, 2) := by decide +kernel
theorem dX15_problem_76 : decode cX15_problem 76 = .ok (.imul, 1) := by decide +kernel
theorem dX15_problem_77 : decode cX15_problem 77 = .ok (.iconst 1, 1) := by decide +kernel
theorem dX15_problem_78 : decode cX15_problem 78 = .ok (.isub, 1) := by decide +kernel
theorem dX15_problem_79 : decode cX15_problem 79 = .ok (.goto 17, 3) := by decide +kernel
theorem dX15_problem_82 : decode cX15_problem 82 = .ok (.iload_n 2, 1) := by decide +kernel
theorem dX15_problem_83 : decode cX15_problem 83 = .ok (.iconst 3, 1) := by decide +kernel
theorem dX15_problem_84 : decode cX15_problem 84 = .ok (.if_icmp .ne 8, 3) := by decide +kernel
theorem dX15_problem_87 : decode cX15_problem 87 = .ok (.iload 4, 2) := by decide +kernel
theorem dX15_problem_89 : decode cX15_problem 89 = .ok (.goto 7, 3) := by decide +kernel
theorem dX15_problem_92 : decode cX15_problem 92 = .ok (.iconst 2, 1) := by decide +kernel
theorem dX15_problem_93 : decode cX15_problem 93 = .ok (.iload 4, 2) := by decide +kernel
theorem dX15_problem_95 : decode cX15_problem 95 = .ok (.imul, 1) := by decide +kernel
theorem dX15_problem_96 : decode cX15_problem 96 = .ok (.istore 5, 2) := by decide +kernel
theorem dX15_problem_98 : decode cX15_problem 98 = .ok (.aload_n 0, 1) := by decide +kernel
theorem dX15_problem_99 : decode cX15_problem 99 = .ok (.aload_n 0, 1) := by decide +kernel
theorem dX15_problem_100 : decode cX15_problem 100 = .ok (.getfield 257, 3) := by decide +kernel
theorem dX15_problem_103 : decode cX15_problem 103 = .ok (.iload_n 1, 1) := by decide +kernel
theorem dX15_problem_104 : decode cX15_problem 104 = .ok (.aaload, 1) := by decide +kernel
theorem dX15_problem_105 : decode cX15_problem 105 = .ok (.iload 5, 2) := by decide +kernel
theorem dX15_problem_107 : decode cX15_problem 107 = .ok (.iload_n 2, 1) := by decide +kernel
theorem dX15_problem_108 : decode cX15_problem 108 = .ok (.iconst 3, 1) := by decide +kernel
theorem dX15_problem_109 : decode cX15_problem 109 = .ok (.if_icmp .ne 7, 3) := by decide +kernel
theorem dX15_problem_112 : decode cX15_problem 112 = .ok (.iconst 1, 1) := by decide +kernel
theorem dX15_problem_113 : decode cX15_problem 113 = .ok (.goto 4, 3) := by decide +kernel
theorem dX15_problem_116 : decode cX15_problem 116 = .ok (.iconst 0, 1) := by decide +kernel
theorem dX15_problem_117 : decode cX15_problem 117 = .ok (.invokevirtual 686, 3) := by decide +kernel
theorem dX15_problem_120 : decode cX15_problem 120 = .ok (.ifCond .ne 6, 3) := by decide +kernel
theorem dX15_problem_123 : decode cX15_problem 123 = .ok (.bipush (-104), 2) := by decide +kernel
theorem dX15_problem_125 : decode cX15_problem 125 = .ok (.ireturn, 1) := by decide +kernel
theorem dX15_problem_126 : decode cX15_problem 126 = .ok (.aload_n 0, 1) := by decide +kernel
theorem dX15_problem_127 : decode cX15_problem 127 = .ok (.iload_n 1, 1) := by decide +kernel
theorem dX15_problem_128 : decode cX15_problem 128 = .ok (.putfield 847, 3) := by decide +kernel
theorem dX15_problem_131 : decode cX15_problem 131 = .ok (.aload_n 0, 1) := by decide +kernel
theorem dX15_problem_132 : decode cX15_problem 132 = .ok (.aload_n 0, 1) := by decide +kernel
theorem dX15_problem_133 : decode cX15_problem 133 = .ok (.getfield 261, 3) := by decide +kernel
theorem dX15_problem_136 : decode cX15_problem 136 = .ok (.iload_n 1, 1) := by decide +kernel
theorem dX15_problem_137 : decode cX15_problem 137 = .ok (.iaload, 1) := by decide +kernel
theorem dX15_problem_138 : decode cX15_problem 138 = .ok (.putfield 393, 3) := by decide +kernel
theorem dX15_problem_141 : decode cX15_problem 141 = .ok (.aload_n 0, 1) := by decide +kernel
theorem dX15_problem_142 : decode cX15_problem 142 = .ok (.iload_n 2, 1) := by decide +kernel
theorem dX15_problem_143 : decode cX15_problem 143 = .ok (.putfield 850, 3) := by decide +kernel
theorem dX15_problem_146 : decode cX15_problem 146 = .ok (.aload_n 0, 1) := by decide +kernel
theorem dX15_problem_147 : decode cX15_problem 147 = .ok (.iload_n 3, 1) := by decide +kernel
theorem dX15_problem_148 : decode cX15_problem 148 = .ok (.putfield 853, 3) := by decide +kernel
theorem dX15_problem_151 : decode cX15_problem 151 = .ok (.aload_n 0, 1) := by decide +kernel
theorem dX15_problem_152 : decode cX15_problem 152 = .ok (.iload 4, 2) := by decide +kernel
theorem dX15_problem_154 : decode cX15_problem 154 = .ok (.putfield 856, 3) := by decide +kernel
theorem dX15_problem_157 : decode cX15_problem 157 = .ok (.aload_n 0, 1) := by decide +kernel
theorem dX15_problem_158 : decode cX15_problem 158 = .ok (.iconst 0, 1) := by decide +kernel
theorem dX15_problem_159 : decode cX15_problem 159 = .ok (.putfield 859, 3) := by decide +kernel
theorem dX15_problem_162 : decode cX15_problem 162 = .ok (.aload_n 0, 1) := by decide +kernel
theorem dX15_problem_163 : decode cX15_problem 163 = .ok (.iconst 0, 1) := by decide +kernel
theorem dX15_problem_164 : decode cX15_problem 164 = .ok (.invokevirtual 671, 3) := by decide +kernel
theorem dX15_problem_167 : decode cX15_problem 167 = .ok (.aload_n 0, 1) := by decide +kernel
theorem dX15_problem_168 : decode cX15_problem 168 = .ok (.getfield 257, 3) := by decide +kernel
theorem dX15_problem_171 : decode cX15_problem 171 = .ok (.iload_n 1, 1) := by decide +kernel
theorem dX15_problem_172 : decode cX15_problem 172 = .ok (.aaload, 1) := by decide +kernel
theorem dX15_problem_173 : decode cX15_problem 173 = .ok (.invokevirtual 405, 3) := by decide +kernel
theorem dX15_problem_176 : decode cX15_problem 176 = .ok (.aload_n 0, 1) := by decide +kernel
theorem dX15_problem_177 : decode cX15_problem 177 = .ok (.aload_n 0, 1) := by decide +kernel
theorem dX15_problem_178 : decode cX15_problem 178 = .ok (.iconst 0, 1) := by decide +kernel
theorem dX15_problem_179 : decode cX15_problem 179 = .ok (.invokevirtual 671, 3) := by decide +kernel
theorem dX15_problem_182 : decode cX15_problem 182 = .ok (.aload_n 0, 1) := by decide +kernel
theorem dX15_problem_183 : decode cX15_problem 183 = .ok (.getfield 301, 3) := by decide +kernel
theorem dX15_problem_186 : decode cX15_problem 186 = .ok (.iconst 0, 1) := by decide +kernel
theorem dX15_problem_187 : decode cX15_problem 187 = .ok (.aaload, 1) := by decide +kernel
theorem dX15_problem_188 : decode cX15_problem 188 = .ok (.invokevirtual 652, 3) := by decide +kernel
theorem dX15_problem_191 : decode cX15_problem 191 = .ok (.iconst 0, 1) := by decide +kernel
theorem dX15_problem_192 : decode cX15_problem 192 = .ok (.istore 6, 2) := by decide +kernel
theorem dX15_problem_194 : decode cX15_problem 194 = .ok (.iconst 0, 1) := by decide +kernel
theorem dX15_problem_195 : decode cX15_problem 195 = .ok (.istore 7, 2) := by decide +kernel
theorem dX15_problem_197 : decode cX15_problem 197 = .ok (.iload 7, 2) := by decide +kernel
theorem dX15_problem_199 : decode cX15_problem 199 = .ok (.aload_n 0, 1) := by decide +kernel
theorem dX15_problem_200 : decode cX15_problem 200 = .ok (.getfield 301, 3) := by decide +kernel
theorem dX15_problem_203 : decode cX15_problem 203 = .ok (.iconst 0, 1) := by decide +kernel
theorem dX15_problem_204 : decode cX15_problem 204 = .ok (.aaload, 1) := by decide +kernel
theorem dX15_problem_205 : decode cX15_problem 205 = .ok (.getfield 575, 3) := by decide +kernel
theorem dX15_problem_208 : decode cX15_problem 208 = .ok (.if_icmp .ge 103, 3) := by decide +kernel
theorem dX15_problem_211 : decode cX15_problem 211 = .ok (.iload_n 2, 1) := by decide +kernel
theorem dX15_problem_212 : decode cX15_problem 212 = .ok (.iconst 1, 1) := by decide +kernel
theorem dX15_problem_213 : decode cX15_problem 213 = .ok (.if_icmp .le 38, 3) := by decide +kernel
theorem dX15_problem_216 : decode cX15_problem 216 = .ok (.aload_n 0, 1) := by decide +kernel
theorem dX15_problem_217 : decode cX15_problem 217 = .ok (.iconst 0, 1) := by decide +kernel
theorem dX15_problem_218 : decode cX15_problem 218 = .ok (.iload 7, 2) := by decide +kernel
theorem dX15_problem_220 : decode cX15_problem 220 = .ok (.iload_n 2, 1) := by decide +kernel
theorem dX15_problem_221 : decode cX15_problem 221 = .ok (.iconst 2, 1) := by decide +kernel
theorem dX15_problem_222 : decode cX15_problem 222 = .ok (.if_icmp .ne 10, 3) := by decide +kernel
theorem dX15_problem_225 : decode cX15_problem 225 = .ok (.iconst 2, 1) := by decide +kernel
theorem dX15_problem_226 : decode cX15_problem 226 = .ok (.iload 4, 2) := by decide +kernel
theorem dX15_problem_228 : decode cX15_problem 228 = .ok (.imul, 1) := by decide +kernel
theorem dX15_problem_229 : decode cX15_problem 229 = .ok (.goto 5, 3) := by decide +kernel
theorem dX15_problem_232 : decode cX15_problem 232 = .ok (.iload 4, 2) := by decide +kernel
theorem dX15_problem_234 : decode cX15_problem 234 = .ok (.iload_n 2, 1) := by decide +kernel
theorem dX15_problem_235 : decode cX15_problem 235 = .ok (.iconst 3, 1) := by decide +kernel
theorem dX15_problem_236 : decode cX15_problem 236 = .ok (.if_icmp .ne 7, 3) := by decide +kernel
theorem dX15_problem_239 : decode cX15_problem 239 = .ok (.iconst 1, 1) := by decide +kernel
theorem dX15_problem_240 : decode cX15_problem 240 = .ok (.goto 4, 3) := by decide +kernel
theorem dX15_problem_243 : decode cX15_problem 243 = .ok (.iconst 0, 1) := by decide +kernel
theorem dX15_problem_244 : decode cX15_problem 244 = .ok (.iload_n 3, 1) := by decide +kernel
theorem dX15_problem_245 : decode cX15_problem 245 = .ok (.invokevirtual 839, 3) := by decide +kernel
theorem dX15_problem_248 : decode cX15_problem 248 = .ok (.goto 22, 3) := by decide +kernel
theorem dX15_problem_251 : decode cX15_problem 251 = .ok (.aload_n 0, 1) := by decide +kernel
theorem dX15_problem_252 : decode cX15_problem 252 = .ok (.iconst 0, 1) := by decide +kernel
theorem dX15_problem_253 : decode cX15_problem 253 = .ok (.iload 7, 2) := by decide +kernel
theorem dX15_problem_255 : decode cX15_problem 255 = .ok (.iload 4, 2) := by decide +kernel
theorem dX15_problem_257 : decode cX15_problem 257 = .ok (.iload_n 2, 1) := by decide +kernel
theorem dX15_problem_258 : decode cX15_problem 258 = .ok (.iload_n 3, 1) := by decide +kernel
theorem dX15_problem_259 : decode cX15_problem 259 = .ok (.invokevirtual 836, 3) := by decide +kernel
theorem dX15_problem_262 : decode cX15_problem 262 = .ok (.ifCond .eq 7, 3) := by decide +kernel
theorem dX15_problem_265 : decode cX15_problem 265 = .ok (.iconst 1, 1) := by decide +kernel
theorem dX15_problem_266 : decode cX15_problem 266 = .ok (.goto 4, 3) := by decide +kernel
theorem dX15_problem_269 : decode cX15_problem 269 = .ok (.iconst 0, 1) := by decide +kernel
theorem dX15_problem_270 : decode cX15_problem 270 = .ok (.istore 8, 2) := by decide +kernel
theorem dX15_problem_272 : decode cX15_problem 272 = .ok (.iload 6, 2) := by decide +kernel
theorem dX15_problem_274 : decode cX15_problem 274 = .ok (.iload 8, 2) := by decide +kernel
theorem dX15_problem_276 : decode cX15_problem 276 = .ok (.iadd, 1) := by decide +kernel
theorem dX15_problem_277 : decode cX15_problem 277 = .ok (.istore 6, 2) := by decide +kernel
theorem dX15_problem_279 : decode cX15_problem 279 = .ok (.iload 8, 2) := by decide +kernel
theorem dX15_problem_281 : decode cX15_problem 281 = .ok (.ifCond .le 24, 3) := by decide +kernel
theorem dX15_problem_284 : decode cX15_problem 284 = .ok (.aload_n 0, 1) := by decide +kernel
theorem dX15_problem_285 : decode cX15_problem 285 = .ok (.getfield 371, 3) := by decide +kernel
theorem dX15_problem_288 : decode cX15_problem 288 = .ok (.aload_n 0, 1) := by decide +kernel
theorem dX15_problem_289 : decode cX15_problem 289 = .ok (.getfield 859, 3) := by decide +kernel
theorem dX15_problem_292 : decode cX15_problem 292 = .ok (.iload 7, 2) := by decide +kernel
theorem dX15_problem_294 : decode cX15_problem 294 = .ok (.iastore, 1) := by decide +kernel
theorem dX15_problem_295 : decode cX15_problem 295 = .ok (.aload_n 0, 1) := by decide +kernel
theorem dX15_problem_296 : decode cX15_problem 296 = .ok (.dup, 1) := by decide +kernel
theorem dX15_problem_297 : decode cX15_problem 297 = .ok (.getfield 859, 3) := by decide +kernel
theorem dX15_problem_300 : decode cX15_problem 300 = .ok (.iconst 1, 1) := by decide +kernel
theorem dX15_problem_301 : decode cX15_problem 301 = .ok (.iadd, 1) := by decide +kernel
theorem dX15_problem_302 : decode cX15_problem 302 = .ok (.putfield 859, 3) := by decide +kernel
theorem dX15_problem_305 : decode cX15_problem 305 = .ok (.iinc 7 1, 3) := by decide +kernel
theorem dX15_problem_308 : decode cX15_problem 308 = .ok (.goto (-111), 3) := by decide +kernel
theorem dX15_problem_311 : decode cX15_problem 311 = .ok (.iload 6, 2) := by decide +kernel
theorem dX15_problem_313 : decode cX15_problem 313 = .ok (.ireturn, 1) := by decide +kernel
set_option maxRecDepth 20000 in
theorem moX15_problem_30 {o : Int32 × Hp} {F : Nat} {h : Hp} (hE : sX15_problem_30 F h  = some o) : Le h o.2 := by
  exact le_some2 hE
set_option maxRecDepth 20000 in
theorem moX15_problem_305 {o : Int32 × Hp} {k_197 : Hp → Nat → Int32 → Int32 → Int32 → Int32 → Int32 → Option (Int32 × Hp)} {F : Nat} (mk_197 : ∀ (h : Hp) (x0 : Nat) (x2 : Int32) (x3 : Int32) (x4 : Int32) (x6 : Int32) (x7 : Int32), k_197 h x0 x2 x3 x4 x6 x7 = some o → Le h o.2) {h : Hp} {x0 : Nat} {x2 : Int32} {x3 : Int32} {x4 : Int32} {x6 : Int32} {x7 : Int32} (hE : sX15_problem_305 F k_197 h x0 x2 x3 x4 x6 x7 = some o) : Le h o.2 := by
  obtain ⟨v_1, ev_1, hE⟩ := nm_e2 hE
  exact mk_197 _ _ _ _ _ _ _ hE
set_option maxRecDepth 20000 in
theorem moX15_problem_270 {o : Int32 × Hp} {k_197 : Hp → Nat → Int32 → Int32 → Int32 → Int32 → Int32 → Option (Int32 × Hp)} {F : Nat} (mk_197 : ∀ (h : Hp) (x0 : Nat) (x2 : Int32) (x3 : Int32) (x4 : Int32) (x6 : Int32) (x7 : Int32), k_197 h x0 x2 x3 x4 x6 x7 = some o → Le h o.2) {h : Hp} {x0 : Nat} {x2 : Int32} {x3 : Int32} {x4 : Int32} {x6 : Int32} {x7 : Int32} {t0 : Int32} (hE : sX15_problem_270 F k_197 h x0 x2 x3 x4 x6 x7 t0 = some o) : Le h o.2 := by
  obtain ⟨v_1, ev_1, hE⟩ := nm_e2 hE
  rcases br_e hE with ⟨_, hE⟩ | ⟨_, hE⟩
  · exact moX15_problem_305 mk_197 hE
  · obtain ⟨r_3, er_3, hE⟩ := cl_e hE
    obtain ⟨g_4, hE⟩ := gd_e hE
    obtain ⟨h_5, eh_5, hE⟩ := nm_e2 hE
    refine (le_I eh_5).tr ?_
    obtain ⟨h_6, eh_6, hE⟩ := nm_e2 hE
    refine (le_I eh_6).tr ?_
    exact moX15_problem_305 mk_197 hE
set_option maxRecDepth 20000 in
theorem moX15_problem_262 {o : Int32 × Hp} {k_197 : Hp → Nat → Int32 → Int32 → Int32 → Int32 → Int32 → Option (Int32 × Hp)} {F : Nat} (mk_197 : ∀ (h : Hp) (x0 : Nat) (x2 : Int32) (x3 : Int32) (x4 : Int32) (x6 : Int32) (x7 : Int32), k_197 h x0 x2 x3 x4 x6 x7 = some o → Le h o.2) {h : Hp} {x0 : Nat} {x2 : Int32} {x3 : Int32} {x4 : Int32} {x6 : Int32} {x7 : Int32} {t0 : Int32} (hE : sX15_problem_262 F k_197 h x0 x2 x3 x4 x6 x7 t0 = some o) : Le h o.2 := by
  rcases br_e hE with ⟨_, hE⟩ | ⟨_, hE⟩
  · exact moX15_problem_270 mk_197 hE
  · exact moX15_problem_270 mk_197 hE
set_option maxRecDepth 20000 in
theorem moX15_problem_248 {o : Int32 × Hp} {k_197 : Hp → Nat → Int32 → Int32 → Int32 → Int32 → Int32 → Option (Int32 × Hp)} {F : Nat} (mk_197 : ∀ (h : Hp) (x0 : Nat) (x2 : Int32) (x3 : Int32) (x4 : Int32) (x6 : Int32) (x7 : Int32), k_197 h x0 x2 x3 x4 x6 x7 = some o → Le h o.2) {h : Hp} {x0 : Nat} {x2 : Int32} {x3 : Int32} {x4 : Int32} {x6 : Int32} {x7 : Int32} {t0 : Int32} (hE : sX15_problem_248 F k_197 h x0 x2 x3 x4 x6 x7 t0 = some o) : Le h o.2 := by
  exact moX15_problem_270 mk_197 hE
set_option maxRecDepth 20000 in
theorem moX15_problem_244 {o : Int32 × Hp} {k_197 : Hp → Nat → Int32 → Int32 → Int32 → Int32 → Int32 → Option (Int32 × Hp)} {F : Nat} (mk_197 : ∀ (h : Hp) (x0 : Nat) (x2 : Int32) (x3 : Int32) (x4 : Int32) (x6 : Int32) (x7 : Int32), k_197 h x0 x2 x3 x4 x6 x7 = some o → Le h o.2) {h : Hp} {x0 : Nat} {x2 : Int32} {x3 : Int32} {x4 : Int32} {x6 : Int32} {x7 : Int32} {t0 : Int32} {t1 : Int32} {t2 : Int32} {t3 : Int32} {t4 : Nat} (hE : sX15_problem_244 F k_197 h x0 x2 x3 x4 x6 x7 t0 t1 t2 t3 t4 = some o) : Le h o.2 := by
  obtain ⟨o_1, eo_1, hE⟩ := cl_e hE
  refine (moX15_goalRowsBy eo_1).tr ?_
  exact moX15_problem_248 mk_197 hE
set_option maxRecDepth 20000 in
theorem moX15_problem_234 {o : Int32 × Hp} {k_197 : Hp → Nat → Int32 → Int32 → Int32 → Int32 → Int32 → Option (Int32 × Hp)} {F : Nat} (mk_197 : ∀ (h : Hp) (x0 : Nat) (x2 : Int32) (x3 : Int32) (x4 : Int32) (x6 : Int32) (x7 : Int32), k_197 h x0 x2 x3 x4 x6 x7 = some o → Le h o.2) {h : Hp} {x0 : Nat} {x2 : Int32} {x3 : Int32} {x4 : Int32} {x6 : Int32} {x7 : Int32} {t0 : Int32} {t1 : Int32} {t2 : Int32} {t3 : Nat} (hE : sX15_problem_234 F k_197 h x0 x2 x3 x4 x6 x7 t0 t1 t2 t3 = some o) : Le h o.2 := by
  rcases br_e hE with ⟨_, hE⟩ | ⟨_, hE⟩
  · exact moX15_problem_244 mk_197 hE
  · exact moX15_problem_244 mk_197 hE
set_option maxRecDepth 20000 in
theorem moX15_problem_197 {o : Int32 × Hp} {F : Nat} : ∀ (f : Nat) {h : Hp} {x0 : Nat} {x2 : Int32} {x3 : Int32} {x4 : Int32} {x6 : Int32} {x7 : Int32}, sX15_problem_197 F f h x0 x2 x3 x4 x6 x7 = some o → Le h o.2 := by
  intro f
  induction f with
  | zero =>
    intro h x0 x2 x3 x4 x6 x7 hE
    rw [sX15_problem_197] at hE
    cases hE
  | succ f ih =>
    intro h x0 x2 x3 x4 x6 x7 hE
    rw [sX15_problem_197] at hE
    have mk_197 : ∀ (h : Hp) (x0 : Nat) (x2 : Int32) (x3 : Int32) (x4 : Int32) (x6 : Int32) (x7 : Int32), sX15_problem_197 F f h x0 x2 x3 x4 x6 x7 = some o → Le h o.2 := fun h x0 x2 x3 x4 x6 x7 hE => ih hE
    obtain ⟨r_1, er_1, hE⟩ := cl_e hE
    obtain ⟨g_2, hE⟩ := gd_e hE
    obtain ⟨r_3, er_3, hE⟩ := cl_e hE
    rcases br_e hE with ⟨_, hE⟩ | ⟨_, hE⟩
    · exact le_some2 hE
    · rcases br_e hE with ⟨_, hE⟩ | ⟨_, hE⟩
      · obtain ⟨o_6, eo_6, hE⟩ := cl_e hE
        refine (moX15_isMove eo_6).tr ?_
        exact moX15_problem_262 mk_197 hE
      · rcases br_e hE with ⟨_, hE⟩ | ⟨_, hE⟩
        · exact moX15_problem_234 mk_197 hE
        · exact moX15_problem_234 mk_197 hE
set_option maxRecDepth 20000 in
theorem moX15_problem_191 {o : Int32 × Hp} {F : Nat} {h : Hp} {x0 : Nat} {x2 : Int32} {x3 : Int32} {x4 : Int32} (hE : sX15_problem_191 F h x0 x2 x3 x4 = some o) : Le h o.2 := by
  exact moX15_problem_197 _ hE
set_option maxRecDepth 20000 in
theorem moX15_problem_182 {o : Int32 × Hp} {F : Nat} {h : Hp} {x0 : Nat} {x2 : Int32} {x3 : Int32} {x4 : Int32} {t0 : Nat} {t1 : Nat} (hE : sX15_problem_182 F h x0 x2 x3 x4 t0 t1 = some o) : Le h o.2 := by
  obtain ⟨r_1, er_1, hE⟩ := cl_e hE
  obtain ⟨g_2, hE⟩ := gd_e hE
  obtain ⟨r_3, er_3, hE⟩ := cl_e hE
  obtain ⟨o_4, eo_4, hE⟩ := cl_e hE
  refine (moX15_legal eo_4).tr ?_
  exact moX15_problem_191 hE
set_option maxRecDepth 20000 in
theorem moX15_problem_176 {o : Int32 × Hp} {F : Nat} {h : Hp} {x0 : Nat} {x2 : Int32} {x3 : Int32} {x4 : Int32} (hE : sX15_problem_176 F h x0 x2 x3 x4 = some o) : Le h o.2 := by
  obtain ⟨o_1, eo_1, hE⟩ := cl_e hE
  refine (moX15_deepBoard eo_1).tr ?_
  exact moX15_problem_182 hE
set_option maxRecDepth 20000 in
theorem moX15_problem_167 {o : Int32 × Hp} {F : Nat} {h : Hp} {x0 : Nat} {x1 : Int32} {x2 : Int32} {x3 : Int32} {x4 : Int32} {t0 : Nat} (hE : sX15_problem_167 F h x0 x1 x2 x3 x4 t0 = some o) : Le h o.2 := by
  obtain ⟨r_1, er_1, hE⟩ := cl_e hE
  obtain ⟨g_2, hE⟩ := gd_e hE
  obtain ⟨r_3, er_3, hE⟩ := cl_e hE
  obtain ⟨o_4, eo_4, hE⟩ := cl_e hE
  refine (moX12_copy eo_4).tr ?_
  exact moX15_problem_176 hE
set_option maxRecDepth 20000 in
theorem moX15_problem_120 {o : Int32 × Hp} {F : Nat} {h : Hp} {x0 : Nat} {x1 : Int32} {x2 : Int32} {x3 : Int32} {x4 : Int32} {t0 : Int32} (hE : sX15_problem_120 F h x0 x1 x2 x3 x4 t0 = some o) : Le h o.2 := by
  rcases br_e hE with ⟨_, hE⟩ | ⟨_, hE⟩
  · exact le_some2 hE
  · obtain ⟨h_2, eh_2, hE⟩ := nm_e2 hE
    refine (le_I eh_2).tr ?_
    obtain ⟨r_3, er_3, hE⟩ := cl_e hE
    obtain ⟨g_4, hE⟩ := gd_e hE
    obtain ⟨h_5, eh_5, hE⟩ := nm_e2 hE
    refine (le_I eh_5).tr ?_
    obtain ⟨h_6, eh_6, hE⟩ := nm_e2 hE
    refine (le_I eh_6).tr ?_
    obtain ⟨h_7, eh_7, hE⟩ := nm_e2 hE
    refine (le_I eh_7).tr ?_
    obtain ⟨h_8, eh_8, hE⟩ := nm_e2 hE
    refine (le_I eh_8).tr ?_
    obtain ⟨h_9, eh_9, hE⟩ := nm_e2 hE
    refine (le_I eh_9).tr ?_
    obtain ⟨o_10, eo_10, hE⟩ := cl_e hE
    refine (moX15_deepBoard eo_10).tr ?_
    exact moX15_problem_167 hE
set_option maxRecDepth 20000 in
theorem moX15_problem_117 {o : Int32 × Hp} {F : Nat} {h : Hp} {x0 : Nat} {x1 : Int32} {x2 : Int32} {x3 : Int32} {x4 : Int32} {t0 : Int32} {t1 : Int32} {t2 : Nat} {t3 : Nat} (hE : sX15_problem_117 F h x0 x1 x2 x3 x4 t0 t1 t2 t3 = some o) : Le h o.2 := by
  obtain ⟨o_1, eo_1, hE⟩ := cl_e hE
  refine (moX15_isRoom eo_1).tr ?_
  exact moX15_problem_120 hE
set_option maxRecDepth 20000 in
theorem moX15_problem_96 {o : Int32 × Hp} {F : Nat} {h : Hp} {x0 : Nat} {x1 : Int32} {x2 : Int32} {x3 : Int32} {x4 : Int32} {t0 : Int32} (hE : sX15_problem_96 F h x0 x1 x2 x3 x4 t0 = some o) : Le h o.2 := by
  obtain ⟨r_1, er_1, hE⟩ := cl_e hE
  obtain ⟨g_2, hE⟩ := gd_e hE
  obtain ⟨r_3, er_3, hE⟩ := cl_e hE
  rcases br_e hE with ⟨_, hE⟩ | ⟨_, hE⟩
  · exact moX15_problem_117 hE
  · exact moX15_problem_117 hE
set_option maxRecDepth 20000 in
theorem moX15_problem_63 {o : Int32 × Hp} {F : Nat} {h : Hp} {x0 : Nat} {x1 : Int32} {x2 : Int32} {x3 : Int32} {x4 : Int32} {t0 : Int32} (hE : sX15_problem_63 F h x0 x1 x2 x3 x4 t0 = some o) : Le h o.2 := by
  rcases br_e hE with ⟨_, hE⟩ | ⟨_, hE⟩
  · rcases br_e hE with ⟨_, hE⟩ | ⟨_, hE⟩
    · exact moX15_problem_96 hE
    · rcases br_e hE with ⟨_, hE⟩ | ⟨_, hE⟩
      · exact moX15_problem_96 hE
      · exact moX15_problem_96 hE
  · exact le_some2 hE
set_option maxRecDepth 20000 in
theorem moX15_problem_38 {o : Int32 × Hp} {F : Nat} {h : Hp} {x0 : Nat} {x1 : Int32} {x2 : Int32} {x3 : Int32} {x4 : Int32} {t0 : Int32} (hE : sX15_problem_38 F h x0 x1 x2 x3 x4 t0 = some o) : Le h o.2 := by
  rcases br_e hE with ⟨_, hE⟩ | ⟨_, hE⟩
  · exact le_some2 hE
  · obtain ⟨r_2, er_2, hE⟩ := cl_e hE
    obtain ⟨g_3, hE⟩ := gd_e hE
    obtain ⟨r_4, er_4, hE⟩ := cl_e hE
    obtain ⟨r_5, er_5, hE⟩ := cl_e hE
    obtain ⟨o_6, eo_6, hE⟩ := cl_e hE
    refine (moX15_endedBy eo_6).tr ?_
    exact moX15_problem_63 hE
set_option maxRecDepth 20000 in
theorem moX15_problem {o : Int32 × Hp} {F : Nat} {h : Hp} {x0 : Nat} {x1 : Int32} {x2 : Int32} {x3 : Int32} {x4 : Int32} (hE : sX15_problem F h x0 x1 x2 x3 x4 = some o) : Le h o.2 := by
  rcases br_e hE with ⟨_, hE⟩ | ⟨_, hE⟩
  · exact moX15_problem_30 hE
  · rcases br_e hE with ⟨_, hE⟩ | ⟨_, hE⟩
    · exact moX15_problem_30 hE
    · rcases br_e hE with ⟨_, hE⟩ | ⟨_, hE⟩
      · exact moX15_problem_30 hE
      · rcases br_e hE with ⟨_, hE⟩ | ⟨_, hE⟩
        · exact moX15_problem_30 hE
        · rcases br_e hE with ⟨_, hE⟩ | ⟨_, hE⟩
          · exact moX15_problem_30 hE
          · rcases br_e hE with ⟨_, hE⟩ | ⟨_, hE⟩
            · obtain ⟨o_7, eo_7, hE⟩ := cl_e hE
              refine (moX15_moves eo_7).tr ?_
              exact moX15_problem_38 hE
            · exact moX15_problem_30 hE
set_option maxRecDepth 20000 in
theorem bX15_problem_30 {p : Program} {l : Launch} {e : Env} {s : State} {m : MethodId} {args : Array Value} {below : List Frame} {meth : Method} {c : Code} {X : Ec} {h0 : Hp} {o : Int32 × Hp} {F : Nat} (C : Cx X p s m args meth c RX15 cX15_problem 9 (some .int) "problem") {h : Hp} {H : Heap} {locs : List Loc} (hkl : Kl h0 h) (hW : Wx X h H) (hZ : va_S (aA (eB X)) s.heap H locs) (ls : Array Slot) (hl : lv_has ls 9 []) (hE : sX15_problem_30 F h  = some o) : W p l e (rmA 51 1345 h0 o.2) s m args below meth c H locs (hS h - hS h0) (hL h - hL h0) (MQ below (QIA X h0 o.1 o.2) args s (hS o.2 - hS h0) (hL o.2 - hL h0) (aA (eB X))) (F0 m 30 ls []) := by
  refine lv_bipush (v := (-101 : Int32)) C.1 C.2.1 dX15_problem_30 (by decide) ?_
  exact x_iretA C rfl rfl hW hZ hkl hE dX15_problem_32
set_option maxRecDepth 20000 in
theorem bX15_problem_305 {p : Program} {l : Launch} {e : Env} {s : State} {m : MethodId} {args : Array Value} {below : List Frame} {meth : Method} {c : Code} {X : Ec} {h0 : Hp} {o : Int32 × Hp} {k_197 : Hp → Nat → Int32 → Int32 → Int32 → Int32 → Int32 → Option (Int32 × Hp)} {F : Nat} (C : Cx X p s m args meth c RX15 cX15_problem 9 (some .int) "problem") (hk_197 : ∀ (h : Hp) (x0 : Nat) (x2 : Int32) (x3 : Int32) (x4 : Int32) (x6 : Int32) (x7 : Int32) (H : Heap) (locs : List Loc), hK h x0 = 15 → Kl h0 h → Wx X h H → va_S (aA (eB X)) s.heap H locs → ∀ (ls : Array Slot), lv_has ls 9 [(0, .ref x0), (2, .int x2), (3, .int x3), (4, .int x4), (6, .int x6), (7, .int x7)] → k_197 h x0 x2 x3 x4 x6 x7 = some o → W p l e (rmA 51 1345 h0 o.2) s m args below meth c H locs (hS h - hS h0) (hL h - hL h0) (MQ below (QIA X h0 o.1 o.2) args s (hS o.2 - hS h0) (hL o.2 - hL h0) (aA (eB X))) (F0 m 197 ls [])) (mk_197 : ∀ (h : Hp) (x0 : Nat) (x2 : Int32) (x3 : Int32) (x4 : Int32) (x6 : Int32) (x7 : Int32), k_197 h x0 x2 x3 x4 x6 x7 = some o → Le h o.2) {h : Hp} {x0 : Nat} {x2 : Int32} {x3 : Int32} {x4 : Int32} {x6 : Int32} {x7 : Int32} {H : Heap} {locs : List Loc} (k_x0 : hK h x0 = 15) (hkl : Kl h0 h) (hW : Wx X h H) (hZ : va_S (aA (eB X)) s.heap H locs) (ls : Array Slot) (hl : lv_has ls 9 [(0, .ref x0), (2, .int x2), (3, .int x3), (4, .int x4), (6, .int x6), (7, .int x7)]) (hE : sX15_problem_305 F k_197 h x0 x2 x3 x4 x6 x7 = some o) : W p l e (rmA 51 1345 h0 o.2) s m args below meth c H locs (hS h - hS h0) (hL h - hL h0) (MQ below (QIA X h0 o.1 o.2) args s (hS o.2 - hS h0) (hL o.2 - hL h0) (aA (eB X))) (F0 m 305 ls []) := by
  obtain ⟨v_1, ev_1, hE⟩ := nm_e2 hE
  refine lv_iinc (v := v_1) (lv' := [(7, .int v_1), (0, .ref x0), (2, .int x2), (3, .int x3), (4, .int x4), (6, .int x6)]) C.1 C.2.1 dX15_problem_305 hl (k := 5) rfl (by rw [ev_1]; rfl) (by decide) rfl (fun ls hl => ?_)
  refine lv_goto (tgt := 197) C.1 C.2.1 dX15_problem_308 (by decide) ?_
  exact hk_197 _ _ _ _ _ _ _ _ _ k_x0 hkl hW hZ _ (lv_sub hl [1, 2, 3, 4, 5, 0] rfl) hE
set_option maxRecDepth 20000 in
theorem bX15_problem_270 {p : Program} {l : Launch} {e : Env} {s : State} {m : MethodId} {args : Array Value} {below : List Frame} {meth : Method} {c : Code} {X : Ec} {h0 : Hp} {o : Int32 × Hp} {k_197 : Hp → Nat → Int32 → Int32 → Int32 → Int32 → Int32 → Option (Int32 × Hp)} {F : Nat} (C : Cx X p s m args meth c RX15 cX15_problem 9 (some .int) "problem") (hk_197 : ∀ (h : Hp) (x0 : Nat) (x2 : Int32) (x3 : Int32) (x4 : Int32) (x6 : Int32) (x7 : Int32) (H : Heap) (locs : List Loc), hK h x0 = 15 → Kl h0 h → Wx X h H → va_S (aA (eB X)) s.heap H locs → ∀ (ls : Array Slot), lv_has ls 9 [(0, .ref x0), (2, .int x2), (3, .int x3), (4, .int x4), (6, .int x6), (7, .int x7)] → k_197 h x0 x2 x3 x4 x6 x7 = some o → W p l e (rmA 51 1345 h0 o.2) s m args below meth c H locs (hS h - hS h0) (hL h - hL h0) (MQ below (QIA X h0 o.1 o.2) args s (hS o.2 - hS h0) (hL o.2 - hL h0) (aA (eB X))) (F0 m 197 ls [])) (mk_197 : ∀ (h : Hp) (x0 : Nat) (x2 : Int32) (x3 : Int32) (x4 : Int32) (x6 : Int32) (x7 : Int32), k_197 h x0 x2 x3 x4 x6 x7 = some o → Le h o.2) {h : Hp} {x0 : Nat} {x2 : Int32} {x3 : Int32} {x4 : Int32} {x6 : Int32} {x7 : Int32} {t0 : Int32} {H : Heap} {locs : List Loc} (k_x0 : hK h x0 = 15) (hkl : Kl h0 h) (hW : Wx X h H) (hZ : va_S (aA (eB X)) s.heap H locs) (ls : Array Slot) (hl : lv_has ls 9 [(0, .ref x0), (2, .int x2), (3, .int x3), (4, .int x4), (6, .int x6), (7, .int x7)]) (hE : sX15_problem_270 F k_197 h x0 x2 x3 x4 x6 x7 t0 = some o) : W p l e (rmA 51 1345 h0 o.2) s m args below meth c H locs (hS h - hS h0) (hL h - hL h0) (MQ below (QIA X h0 o.1 o.2) args s (hS o.2 - hS h0) (hL o.2 - hL h0) (aA (eB X))) (F0 m 270 ls [.int t0]) := by
  refine lv_istore (lv' := [(8, .int t0), (0, .ref x0), (2, .int x2), (3, .int x3), (4, .int x4), (6, .int x6), (7, .int x7)]) C.1 C.2.1 dX15_problem_270 hl (by decide) rfl (fun ls hl => ?_)
  refine lv_iload C.1 C.2.1 dX15_problem_272 (lv_at hl 5 rfl) ?_
  refine lv_iload C.1 C.2.1 dX15_problem_274 (lv_at hl 0 rfl) ?_
  refine lv_iadd C.1 C.2.1 dX15_problem_276 ?_
  obtain ⟨v_1, ev_1, hE⟩ := nm_e2 hE
  refine x_nmI ev_1 ?_
  refine lv_istore (lv' := [(6, .int v_1), (8, .int t0), (0, .ref x0), (2, .int x2), (3, .int x3), (4, .int x4), (7, .int x7)]) C.1 C.2.1 dX15_problem_277 hl (by decide) rfl (fun ls hl => ?_)
  refine lv_iload C.1 C.2.1 dX15_problem_279 (lv_at hl 1 rfl) ?_
  refine lv_if_le (tgt := 305) C.1 C.2.1 dX15_problem_281 (by decide) (fun c_2 => ?_) (fun c_2 => ?_)
  · have hE := br_p hE c_2
    exact bX15_problem_305 C hk_197 mk_197 k_x0 hkl hW hZ _ (lv_sub hl [2, 3, 4, 5, 0, 6] rfl) hE
  · have hE := br_n hE c_2
    refine lv_aload_n C.1 C.2.1 dX15_problem_284 rfl (lv_at hl 2 rfl) ?_
    obtain ⟨r_3, er_3, hE⟩ := cl_e hE
    refine gf_X15_371 C hW k_x0 er_3 dX15_problem_285 (fun k_r_3 => ?_)
    refine lv_aload_n C.1 C.2.1 dX15_problem_288 rfl (lv_at hl 2 rfl) ?_
    refine gf_X15_859 C hW k_x0 dX15_problem_289 ?_
    refine lv_iload C.1 C.2.1 dX15_problem_292 (lv_at hl 6 rfl) ?_
    obtain ⟨g_4, hE⟩ := gd_e hE
    obtain ⟨h_5, eh_5, hE⟩ := nm_e2 hE
    refine y_iast C hW hZ k_r_3 g_4 eh_5 dX15_problem_294 (fun _ _ hW km hZ => ?_)
    replace hkl := hkl.tr km.l
    refine x_wc km ?_
    replace k_x0 := km.at k_x0 (by decide)
    refine lv_aload_n C.1 C.2.1 dX15_problem_295 rfl (lv_at hl 2 rfl) ?_
    refine lv_dup C.1 C.2.1 dX15_problem_296 rfl ?_
    refine gf_X15_859 C hW k_x0 dX15_problem_297 ?_
    refine lv_iconst (v := (1 : Int32)) C.1 C.2.1 dX15_problem_300 (by decide) ?_
    refine lv_iadd C.1 C.2.1 dX15_problem_301 ?_
    obtain ⟨h_6, eh_6, hE⟩ := nm_e2 hE
    refine pf_X15_859 C hW hZ k_x0 eh_6 dX15_problem_302 (fun _ _ hW km hZ => ?_)
    replace hkl := hkl.tr km.l
    refine x_wc km ?_
    replace k_x0 := km.at k_x0 (by decide)
    exact bX15_problem_305 C hk_197 mk_197 k_x0 hkl hW hZ _ (lv_sub hl [2, 3, 4, 5, 0, 6] rfl) hE
set_option maxRecDepth 20000 in
theorem bX15_problem_262 {p : Program} {l : Launch} {e : Env} {s : State} {m : MethodId} {args : Array Value} {below : List Frame} {meth : Method} {c : Code} {X : Ec} {h0 : Hp} {o : Int32 × Hp} {k_197 : Hp → Nat → Int32 → Int32 → Int32 → Int32 → Int32 → Option (Int32 × Hp)} {F : Nat} (C : Cx X p s m args meth c RX15 cX15_problem 9 (some .int) "problem") (hk_197 : ∀ (h : Hp) (x0 : Nat) (x2 : Int32) (x3 : Int32) (x4 : Int32) (x6 : Int32) (x7 : Int32) (H : Heap) (locs : List Loc), hK h x0 = 15 → Kl h0 h → Wx X h H → va_S (aA (eB X)) s.heap H locs → ∀ (ls : Array Slot), lv_has ls 9 [(0, .ref x0), (2, .int x2), (3, .int x3), (4, .int x4), (6, .int x6), (7, .int x7)] → k_197 h x0 x2 x3 x4 x6 x7 = some o → W p l e (rmA 51 1345 h0 o.2) s m args below meth c H locs (hS h - hS h0) (hL h - hL h0) (MQ below (QIA X h0 o.1 o.2) args s (hS o.2 - hS h0) (hL o.2 - hL h0) (aA (eB X))) (F0 m 197 ls [])) (mk_197 : ∀ (h : Hp) (x0 : Nat) (x2 : Int32) (x3 : Int32) (x4 : Int32) (x6 : Int32) (x7 : Int32), k_197 h x0 x2 x3 x4 x6 x7 = some o → Le h o.2) {h : Hp} {x0 : Nat} {x2 : Int32} {x3 : Int32} {x4 : Int32} {x6 : Int32} {x7 : Int32} {t0 : Int32} {H : Heap} {locs : List Loc} (k_x0 : hK h x0 = 15) (hkl : Kl h0 h) (hW : Wx X h H) (hZ : va_S (aA (eB X)) s.heap H locs) (ls : Array Slot) (hl : lv_has ls 9 [(0, .ref x0), (2, .int x2), (3, .int x3), (4, .int x4), (6, .int x6), (7, .int x7)]) (hE : sX15_problem_262 F k_197 h x0 x2 x3 x4 x6 x7 t0 = some o) : W p l e (rmA 51 1345 h0 o.2) s m args below meth c H locs (hS h - hS h0) (hL h - hL h0) (MQ below (QIA X h0 o.1 o.2) args s (hS o.2 - hS h0) (hL o.2 - hL h0) (aA (eB X))) (F0 m 262 ls [.int t0]) := by
  refine lv_if_eq (tgt := 269) C.1 C.2.1 dX15_problem_262 (by decide) (fun c_1 => ?_) (fun c_1 => ?_)
  · have hE := br_p hE c_1
    refine lv_iconst (v := (0 : Int32)) C.1 C.2.1 dX15_problem_269 (by decide) ?_
    exact bX15_problem_270 C hk_197 mk_197 k_x0 hkl hW hZ _ (lv_sub hl [0, 1, 2, 3, 4, 5] rfl) hE
  · have hE := br_n hE c_1
    refine lv_iconst (v := (1 : Int32)) C.1 C.2.1 dX15_problem_265 (by decide) ?_
    refine lv_goto (tgt := 270) C.1 C.2.1 dX15_problem_266 (by decide) ?_
    exact bX15_problem_270 C hk_197 mk_197 k_x0 hkl hW hZ _ (lv_sub hl [0, 1, 2, 3, 4, 5] rfl) hE
set_option maxRecDepth 20000 in
theorem bX15_problem_248 {p : Program} {l : Launch} {e : Env} {s : State} {m : MethodId} {args : Array Value} {below : List Frame} {meth : Method} {c : Code} {X : Ec} {h0 : Hp} {o : Int32 × Hp} {k_197 : Hp → Nat → Int32 → Int32 → Int32 → Int32 → Int32 → Option (Int32 × Hp)} {F : Nat} (C : Cx X p s m args meth c RX15 cX15_problem 9 (some .int) "problem") (hk_197 : ∀ (h : Hp) (x0 : Nat) (x2 : Int32) (x3 : Int32) (x4 : Int32) (x6 : Int32) (x7 : Int32) (H : Heap) (locs : List Loc), hK h x0 = 15 → Kl h0 h → Wx X h H → va_S (aA (eB X)) s.heap H locs → ∀ (ls : Array Slot), lv_has ls 9 [(0, .ref x0), (2, .int x2), (3, .int x3), (4, .int x4), (6, .int x6), (7, .int x7)] → k_197 h x0 x2 x3 x4 x6 x7 = some o → W p l e (rmA 51 1345 h0 o.2) s m args below meth c H locs (hS h - hS h0) (hL h - hL h0) (MQ below (QIA X h0 o.1 o.2) args s (hS o.2 - hS h0) (hL o.2 - hL h0) (aA (eB X))) (F0 m 197 ls [])) (mk_197 : ∀ (h : Hp) (x0 : Nat) (x2 : Int32) (x3 : Int32) (x4 : Int32) (x6 : Int32) (x7 : Int32), k_197 h x0 x2 x3 x4 x6 x7 = some o → Le h o.2) {h : Hp} {x0 : Nat} {x2 : Int32} {x3 : Int32} {x4 : Int32} {x6 : Int32} {x7 : Int32} {t0 : Int32} {H : Heap} {locs : List Loc} (k_x0 : hK h x0 = 15) (hkl : Kl h0 h) (hW : Wx X h H) (hZ : va_S (aA (eB X)) s.heap H locs) (ls : Array Slot) (hl : lv_has ls 9 [(0, .ref x0), (2, .int x2), (3, .int x3), (4, .int x4), (6, .int x6), (7, .int x7)]) (hE : sX15_problem_248 F k_197 h x0 x2 x3 x4 x6 x7 t0 = some o) : W p l e (rmA 51 1345 h0 o.2) s m args below meth c H locs (hS h - hS h0) (hL h - hL h0) (MQ below (QIA X h0 o.1 o.2) args s (hS o.2 - hS h0) (hL o.2 - hL h0) (aA (eB X))) (F0 m 248 ls [.int t0]) := by
  refine lv_goto (tgt := 270) C.1 C.2.1 dX15_problem_248 (by decide) ?_
  exact bX15_problem_270 C hk_197 mk_197 k_x0 hkl hW hZ _ (lv_sub hl [0, 1, 2, 3, 4, 5] rfl) hE
set_option maxRecDepth 20000 in
theorem bX15_problem_244 {p : Program} {l : Launch} {e : Env} {s : State} {m : MethodId} {args : Array Value} {below : List Frame} {meth : Method} {c : Code} {X : Ec} {h0 : Hp} {o : Int32 × Hp} {k_197 : Hp → Nat → Int32 → Int32 → Int32 → Int32 → Int32 → Option (Int32 × Hp)} {F : Nat} (C : Cx X p s m args meth c RX15 cX15_problem 9 (some .int) "problem") (hk_197 : ∀ (h : Hp) (x0 : Nat) (x2 : Int32) (x3 : Int32) (x4 : Int32) (x6 : Int32) (x7 : Int32) (H : Heap) (locs : List Loc), hK h x0 = 15 → Kl h0 h → Wx X h H → va_S (aA (eB X)) s.heap H locs → ∀ (ls : Array Slot), lv_has ls 9 [(0, .ref x0), (2, .int x2), (3, .int x3), (4, .int x4), (6, .int x6), (7, .int x7)] → k_197 h x0 x2 x3 x4 x6 x7 = some o → W p l e (rmA 51 1345 h0 o.2) s m args below meth c H locs (hS h - hS h0) (hL h - hL h0) (MQ below (QIA X h0 o.1 o.2) args s (hS o.2 - hS h0) (hL o.2 - hL h0) (aA (eB X))) (F0 m 197 ls [])) (mk_197 : ∀ (h : Hp) (x0 : Nat) (x2 : Int32) (x3 : Int32) (x4 : Int32) (x6 : Int32) (x7 : Int32), k_197 h x0 x2 x3 x4 x6 x7 = some o → Le h o.2) {h : Hp} {x0 : Nat} {x2 : Int32} {x3 : Int32} {x4 : Int32} {x6 : Int32} {x7 : Int32} {t0 : Int32} {t1 : Int32} {t2 : Int32} {t3 : Int32} {t4 : Nat} {H : Heap} {locs : List Loc} (k_x0 : hK h x0 = 15) (k_t4 : hK h t4 = 15) (hkl : Kl h0 h) (hW : Wx X h H) (hZ : va_S (aA (eB X)) s.heap H locs) (ls : Array Slot) (hl : lv_has ls 9 [(0, .ref x0), (2, .int x2), (3, .int x3), (4, .int x4), (6, .int x6), (7, .int x7)]) (hE : sX15_problem_244 F k_197 h x0 x2 x3 x4 x6 x7 t0 t1 t2 t3 t4 = some o) : W p l e (rmA 51 1345 h0 o.2) s m args below meth c H locs (hS h - hS h0) (hL h - hL h0) (MQ below (QIA X h0 o.1 o.2) args s (hS o.2 - hS h0) (hL o.2 - hL h0) (aA (eB X))) (F0 m 244 ls [.int t0, .int t1, .int t2, .int t3, .ref t4]) := by
  refine lv_iload_n C.1 C.2.1 dX15_problem_244 rfl (lv_at hl 2 rfl) ?_
  obtain ⟨o_1, eo_1, hE⟩ := cl_e hE
  have m1 := moX15_goalRowsBy eo_1
  have m2 := moX15_problem_248 mk_197 hE
  refine x_kIA (o := o_1) hkl (z_runV (As := [.int t3, .int t2, .int t1, .int t0, .int x3]) (rest := []) C (ct_X15_goalRowsBy l X F k_t4 eo_1) cw_X15_839 hW hZ k_t4 (by decide) rfl rfl rfl hl.1 (Nat.le_of_ble_eq_true rfl) rfl dX15_problem_245 ⟨Nat.le_of_ble_eq_true rfl, Nat.le_of_ble_eq_true rfl⟩ (rm_ok hkl m1 m2)) hZ (fun _ _ hW km hZ => ?_)
  replace hkl := hkl.tr km
  replace k_x0 := km.at k_x0 (by decide)
  exact bX15_problem_248 C hk_197 mk_197 k_x0 hkl hW hZ _ (lv_sub hl [0, 1, 2, 3, 4, 5] rfl) hE
set_option maxRecDepth 20000 in
theorem bX15_problem_234 {p : Program} {l : Launch} {e : Env} {s : State} {m : MethodId} {args : Array Value} {below : List Frame} {meth : Method} {c : Code} {X : Ec} {h0 : Hp} {o : Int32 × Hp} {k_197 : Hp → Nat → Int32 → Int32 → Int32 → Int32 → Int32 → Option (Int32 × Hp)} {F : Nat} (C : Cx X p s m args meth c RX15 cX15_problem 9 (some .int) "problem") (hk_197 : ∀ (h : Hp) (x0 : Nat) (x2 : Int32) (x3 : Int32) (x4 : Int32) (x6 : Int32) (x7 : Int32) (H : Heap) (locs : List Loc), hK h x0 = 15 → Kl h0 h → Wx X h H → va_S (aA (eB X)) s.heap H locs → ∀ (ls : Array Slot), lv_has ls 9 [(0, .ref x0), (2, .int x2), (3, .int x3), (4, .int x4), (6, .int x6), (7, .int x7)] → k_197 h x0 x2 x3 x4 x6 x7 = some o → W p l e (rmA 51 1345 h0 o.2) s m args below meth c H locs (hS h - hS h0) (hL h - hL h0) (MQ below (QIA X h0 o.1 o.2) args s (hS o.2 - hS h0) (hL o.2 - hL h0) (aA (eB X))) (F0 m 197 ls [])) (mk_197 : ∀ (h : Hp) (x0 : Nat) (x2 : Int32) (x3 : Int32) (x4 : Int32) (x6 : Int32) (x7 : Int32), k_197 h x0 x2 x3 x4 x6 x7 = some o → Le h o.2) {h : Hp} {x0 : Nat} {x2 : Int32} {x3 : Int32} {x4 : Int32} {x6 : Int32} {x7 : Int32} {t0 : Int32} {t1 : Int32} {t2 : Int32} {t3 : Nat} {H : Heap} {locs : List Loc} (k_x0 : hK h x0 = 15) (k_t3 : hK h t3 = 15) (hkl : Kl h0 h) (hW : Wx X h H) (hZ : va_S (aA (eB X)) s.heap H locs) (ls : Array Slot) (hl : lv_has ls 9 [(0, .ref x0), (2, .int x2), (3, .int x3), (4, .int x4), (6, .int x6), (7, .int x7)]) (hE : sX15_problem_234 F k_197 h x0 x2 x3 x4 x6 x7 t0 t1 t2 t3 = some o) : W p l e (rmA 51 1345 h0 o.2) s m args below meth c H locs (hS h - hS h0) (hL h - hL h0) (MQ below (QIA X h0 o.1 o.2) args s (hS o.2 - hS h0) (hL o.2 - hL h0) (aA (eB X))) (F0 m 234 ls [.int t0, .int t1, .int t2, .ref t3]) := by
  refine lv_iload_n C.1 C.2.1 dX15_problem_234 rfl (lv_at hl 1 rfl) ?_
  refine lv_iconst (v := (3 : Int32)) C.1 C.2.1 dX15_problem_235 (by decide) ?_
  refine lv_icmp_ne (tgt := 243) C.1 C.2.1 dX15_problem_236 (by decide) (fun c_1 => ?_) (fun c_1 => ?_)
  · have hE := br_n hE c_1
    refine lv_iconst (v := (0 : Int32)) C.1 C.2.1 dX15_problem_243 (by decide) ?_
    exact bX15_problem_244 C hk_197 mk_197 k_x0 k_t3 hkl hW hZ _ (lv_sub hl [0, 1, 2, 3, 4, 5] rfl) hE
  · have hE := br_p hE c_1
    refine lv_iconst (v := (1 : Int32)) C.1 C.2.1 dX15_problem_239 (by decide) ?_
    refine lv_goto (tgt := 244) C.1 C.2.1 dX15_problem_240 (by decide) ?_
    exact bX15_problem_244 C hk_197 mk_197 k_x0 k_t3 hkl hW hZ _ (lv_sub hl [0, 1, 2, 3, 4, 5] rfl) hE
set_option maxRecDepth 20000 in
theorem bX15_problem_197 {p : Program} {l : Launch} {e : Env} {s : State} {m : MethodId} {args : Array Value} {below : List Frame} {meth : Method} {c : Code} {X : Ec} {h0 : Hp} {o : Int32 × Hp} {F : Nat} (C : Cx X p s m args meth c RX15 cX15_problem 9 (some .int) "problem") : ∀ (f : Nat) {h : Hp} {x0 : Nat} {x2 : Int32} {x3 : Int32} {x4 : Int32} {x6 : Int32} {x7 : Int32} {H : Heap} {locs : List Loc} (k_x0 : hK h x0 = 15), Kl h0 h → Wx X h H → va_S (aA (eB X)) s.heap H locs → ∀ (ls : Array Slot), lv_has ls 9 [(0, .ref x0), (2, .int x2), (3, .int x3), (4, .int x4), (6, .int x6), (7, .int x7)] → sX15_problem_197 F f h x0 x2 x3 x4 x6 x7 = some o → W p l e (rmA 51 1345 h0 o.2) s m args below meth c H locs (hS h - hS h0) (hL h - hL h0) (MQ below (QIA X h0 o.1 o.2) args s (hS o.2 - hS h0) (hL o.2 - hL h0) (aA (eB X))) (F0 m 197 ls []) := by
  intro f
  induction f with
  | zero =>
    intro h x0 x2 x3 x4 x6 x7 H locs k_x0 hkl hW hZ ls hl hE
    rw [sX15_problem_197] at hE
    cases hE
  | succ f ih =>
    intro h x0 x2 x3 x4 x6 x7 H locs k_x0 hkl hW hZ ls hl hE
    rw [sX15_problem_197] at hE
    have mk_197 : ∀ (h : Hp) (x0 : Nat) (x2 : Int32) (x3 : Int32) (x4 : Int32) (x6 : Int32) (x7 : Int32), sX15_problem_197 F f h x0 x2 x3 x4 x6 x7 = some o → Le h o.2 := fun h x0 x2 x3 x4 x6 x7 hE => moX15_problem_197 _ hE
    have hk_197 : ∀ (h : Hp) (x0 : Nat) (x2 : Int32) (x3 : Int32) (x4 : Int32) (x6 : Int32) (x7 : Int32) (H : Heap) (locs : List Loc), hK h x0 = 15 → Kl h0 h → Wx X h H → va_S (aA (eB X)) s.heap H locs → ∀ (ls : Array Slot), lv_has ls 9 [(0, .ref x0), (2, .int x2), (3, .int x3), (4, .int x4), (6, .int x6), (7, .int x7)] → sX15_problem_197 F f h x0 x2 x3 x4 x6 x7 = some o → W p l e (rmA 51 1345 h0 o.2) s m args below meth c H locs (hS h - hS h0) (hL h - hL h0) (MQ below (QIA X h0 o.1 o.2) args s (hS o.2 - hS h0) (hL o.2 - hL h0) (aA (eB X))) (F0 m 197 ls []) := fun h x0 x2 x3 x4 x6 x7 H locs k_x0 a b c ls hl hE => ih k_x0 a b c ls hl hE
    refine lv_iload C.1 C.2.1 dX15_problem_197 (lv_at hl 5 rfl) ?_
    refine lv_aload_n C.1 C.2.1 dX15_problem_199 rfl (lv_at hl 0 rfl) ?_
    obtain ⟨r_1, er_1, hE⟩ := cl_e hE
    refine gf_X15_301 C hW k_x0 er_1 dX15_problem_200 (fun k_r_1 => ?_)
    refine lv_iconst (v := (0 : Int32)) C.1 C.2.1 dX15_problem_203 (by decide) ?_
    obtain ⟨g_2, hE⟩ := gd_e hE
    obtain ⟨r_3, er_3, hE⟩ := cl_e hE
    refine y_aald (t0 := 6) C hW k_r_1 (by decide) (by decide) rfl rfl rfl (fun _ => rfl) g_2 er_3 dX15_problem_204 (fun k_r_3 => ?_)
    refine gf_X15_575 C hW k_r_3 dX15_problem_205 ?_
    refine lv_icmp_ge (tgt := 311) C.1 C.2.1 dX15_problem_208 (by decide) (fun c_4 => ?_) (fun c_4 => ?_)
    · have hE := br_p hE c_4
      refine lv_iload C.1 C.2.1 dX15_problem_311 (lv_at hl 4 rfl) ?_
      exact x_iretA C rfl rfl hW hZ hkl hE dX15_problem_313
    · have hE := br_n hE c_4
      refine lv_iload_n C.1 C.2.1 dX15_problem_211 rfl (lv_at hl 1 rfl) ?_
      refine lv_iconst (v := (1 : Int32)) C.1 C.2.1 dX15_problem_212 (by decide) ?_
      refine lv_icmp_le (tgt := 251) C.1 C.2.1 dX15_problem_213 (by decide) (fun c_5 => ?_) (fun c_5 => ?_)
      · have hE := br_p hE c_5
        refine lv_aload_n C.1 C.2.1 dX15_problem_251 rfl (lv_at hl 0 rfl) ?_
        refine lv_iconst (v := (0 : Int32)) C.1 C.2.1 dX15_problem_252 (by decide) ?_
        refine lv_iload C.1 C.2.1 dX15_problem_253 (lv_at hl 5 rfl) ?_
        refine lv_iload C.1 C.2.1 dX15_problem_255 (lv_at hl 3 rfl) ?_
        refine lv_iload_n C.1 C.2.1 dX15_problem_257 rfl (lv_at hl 1 rfl) ?_
        refine lv_iload_n C.1 C.2.1 dX15_problem_258 rfl (lv_at hl 2 rfl) ?_
        obtain ⟨o_6, eo_6, hE⟩ := cl_e hE
        have m1 := moX15_isMove eo_6
        have m2 := moX15_problem_262 mk_197 hE
        refine x_kIA (o := o_6) hkl (z_runV (As := [.int (0 : Int32), .int x7, .int x4, .int x2, .int x3]) (rest := []) C (ct_X15_isMove l X F k_x0 eo_6) cw_X15_836 hW hZ k_x0 (by decide) rfl rfl rfl hl.1 (Nat.le_of_ble_eq_true rfl) rfl dX15_problem_259 ⟨Nat.le_of_ble_eq_true rfl, Nat.le_of_ble_eq_true rfl⟩ (rm_ok hkl m1 m2)) hZ (fun _ _ hW km hZ => ?_)
        replace hkl := hkl.tr km
        replace k_x0 := km.at k_x0 (by decide)
        exact bX15_problem_262 C hk_197 mk_197 k_x0 hkl hW hZ _ (lv_sub hl [0, 1, 2, 3, 4, 5] rfl) hE
      · have hE := br_n hE c_5
        refine lv_aload_n C.1 C.2.1 dX15_problem_216 rfl (lv_at hl 0 rfl) ?_
        refine lv_iconst (v := (0 : Int32)) C.1 C.2.1 dX15_problem_217 (by decide) ?_
        refine lv_iload C.1 C.2.1 dX15_problem_218 (lv_at hl 5 rfl) ?_
        refine lv_iload_n C.1 C.2.1 dX15_problem_220 rfl (lv_at hl 1 rfl) ?_
        refine lv_iconst (v := (2 : Int32)) C.1 C.2.1 dX15_problem_221 (by decide) ?_
        refine lv_icmp_ne (tgt := 232) C.1 C.2.1 dX15_problem_222 (by decide) (fun c_7 => ?_) (fun c_7 => ?_)
        · have hE := br_n hE c_7
          refine lv_iload C.1 C.2.1 dX15_problem_232 (lv_at hl 3 rfl) ?_
          exact bX15_problem_234 C hk_197 mk_197 k_x0 k_x0 hkl hW hZ _ (lv_sub hl [0, 1, 2, 3, 4, 5] rfl) hE
        · have hE := br_p hE c_7
          refine lv_iconst (v := (2 : Int32)) C.1 C.2.1 dX15_problem_225 (by decide) ?_
          refine lv_iload C.1 C.2.1 dX15_problem_226 (lv_at hl 3 rfl) ?_
          refine lv_imul C.1 C.2.1 dX15_problem_228 ?_
          refine lv_goto (tgt := 234) C.1 C.2.1 dX15_problem_229 (by decide) ?_
          exact bX15_problem_234 C hk_197 mk_197 k_x0 k_x0 hkl hW hZ _ (lv_sub hl [0, 1, 2, 3, 4, 5] rfl) hE
set_option maxRecDepth 20000 in
theorem bX15_problem_191 {p : Program} {l : Launch} {e : Env} {s : State} {m : MethodId} {args : Array Value} {below : List Frame} {meth : Method} {c : Code} {X : Ec} {h0 : Hp} {o : Int32 × Hp} {F : Nat} (C : Cx X p s m args meth c RX15 cX15_problem 9 (some .int) "problem") {h : Hp} {x0 : Nat} {x2 : Int32} {x3 : Int32} {x4 : Int32} {H : Heap} {locs : List Loc} (k_x0 : hK h x0 = 15) (hkl : Kl h0 h) (hW : Wx X h H) (hZ : va_S (aA (eB X)) s.heap H locs) (ls : Array Slot) (hl : lv_has ls 9 [(0, .ref x0), (2, .int x2), (3, .int x3), (4, .int x4)]) (hE : sX15_problem_191 F h x0 x2 x3 x4 = some o) : W p l e (rmA 51 1345 h0 o.2) s m args below meth c H locs (hS h - hS h0) (hL h - hL h0) (MQ below (QIA X h0 o.1 o.2) args s (hS o.2 - hS h0) (hL o.2 - hL h0) (aA (eB X))) (F0 m 191 ls []) := by
  refine lv_iconst (v := (0 : Int32)) C.1 C.2.1 dX15_problem_191 (by decide) ?_
  refine lv_istore (lv' := [(6, .int (0 : Int32)), (0, .ref x0), (2, .int x2), (3, .int x3), (4, .int x4)]) C.1 C.2.1 dX15_problem_192 hl (by decide) rfl (fun ls hl => ?_)
  refine lv_iconst (v := (0 : Int32)) C.1 C.2.1 dX15_problem_194 (by decide) ?_
  refine lv_istore (lv' := [(7, .int (0 : Int32)), (6, .int (0 : Int32)), (0, .ref x0), (2, .int x2), (3, .int x3), (4, .int x4)]) C.1 C.2.1 dX15_problem_195 hl (by decide) rfl (fun ls hl => ?_)
  exact bX15_problem_197 C F k_x0 hkl hW hZ _ (lv_sub hl [2, 3, 4, 5, 1, 0] rfl) hE
set_option maxRecDepth 20000 in
theorem bX15_problem_182 {p : Program} {l : Launch} {e : Env} {s : State} {m : MethodId} {args : Array Value} {below : List Frame} {meth : Method} {c : Code} {X : Ec} {h0 : Hp} {o : Int32 × Hp} {F : Nat} (C : Cx X p s m args meth c RX15 cX15_problem 9 (some .int) "problem") {h : Hp} {x0 : Nat} {x2 : Int32} {x3 : Int32} {x4 : Int32} {t0 : Nat} {t1 : Nat} {H : Heap} {locs : List Loc} (k_x0 : hK h x0 = 15) (k_t0 : hK h t0 = 12) (k_t1 : hK h t1 = 15) (hkl : Kl h0 h) (hW : Wx X h H) (hZ : va_S (aA (eB X)) s.heap H locs) (ls : Array Slot) (hl : lv_has ls 9 [(0, .ref x0), (2, .int x2), (3, .int x3), (4, .int x4)]) (hE : sX15_problem_182 F h x0 x2 x3 x4 t0 t1 = some o) : W p l e (rmA 51 1345 h0 o.2) s m args below meth c H locs (hS h - hS h0) (hL h - hL h0) (MQ below (QIA X h0 o.1 o.2) args s (hS o.2 - hS h0) (hL o.2 - hL h0) (aA (eB X))) (F0 m 182 ls [.ref t0, .ref t1]) := by
  refine lv_aload_n C.1 C.2.1 dX15_problem_182 rfl (lv_at hl 0 rfl) ?_
  obtain ⟨r_1, er_1, hE⟩ := cl_e hE
  refine gf_X15_301 C hW k_x0 er_1 dX15_problem_183 (fun k_r_1 => ?_)
  refine lv_iconst (v := (0 : Int32)) C.1 C.2.1 dX15_problem_186 (by decide) ?_
  obtain ⟨g_2, hE⟩ := gd_e hE
  obtain ⟨r_3, er_3, hE⟩ := cl_e hE
  refine y_aald (t0 := 6) C hW k_r_1 (by decide) (by decide) rfl rfl rfl (fun _ => rfl) g_2 er_3 dX15_problem_187 (fun k_r_3 => ?_)
  obtain ⟨o_4, eo_4, hE⟩ := cl_e hE
  have m1 := moX15_legal eo_4
  have m2 := moX15_problem_191 hE
  refine x_kV (o := o_4) (z_runV (As := [.ref t0, .ref r_3]) (rest := []) C (ct_X15_legal l X F k_t1 k_t0 k_r_3 eo_4) cw_X15_652 hW hZ k_t1 (by decide) rfl rfl rfl hl.1 (Nat.le_of_ble_eq_true rfl) rfl dX15_problem_188 ⟨Nat.le_of_ble_eq_true rfl, Nat.le_of_ble_eq_true rfl⟩ (rm_ok0 hkl m1 m2)) hZ (fun _ _ hW km hZ => ?_)
  replace hkl := hkl.tr km.l
  refine x_wc km ?_
  replace k_x0 := km.at k_x0 (by decide)
  exact bX15_problem_191 C k_x0 hkl hW hZ _ (lv_sub hl [0, 1, 2, 3] rfl) hE
set_option maxRecDepth 20000 in
theorem bX15_problem_176 {p : Program} {l : Launch} {e : Env} {s : State} {m : MethodId} {args : Array Value} {below : List Frame} {meth : Method} {c : Code} {X : Ec} {h0 : Hp} {o : Int32 × Hp} {F : Nat} (C : Cx X p s m args meth c RX15 cX15_problem 9 (some .int) "problem") {h : Hp} {x0 : Nat} {x2 : Int32} {x3 : Int32} {x4 : Int32} {H : Heap} {locs : List Loc} (k_x0 : hK h x0 = 15) (hkl : Kl h0 h) (hW : Wx X h H) (hZ : va_S (aA (eB X)) s.heap H locs) (ls : Array Slot) (hl : lv_has ls 9 [(0, .ref x0), (2, .int x2), (3, .int x3), (4, .int x4)]) (hE : sX15_problem_176 F h x0 x2 x3 x4 = some o) : W p l e (rmA 51 1345 h0 o.2) s m args below meth c H locs (hS h - hS h0) (hL h - hL h0) (MQ below (QIA X h0 o.1 o.2) args s (hS o.2 - hS h0) (hL o.2 - hL h0) (aA (eB X))) (F0 m 176 ls []) := by
  refine lv_aload_n C.1 C.2.1 dX15_problem_176 rfl (lv_at hl 0 rfl) ?_
  refine lv_aload_n C.1 C.2.1 dX15_problem_177 rfl (lv_at hl 0 rfl) ?_
  refine lv_iconst (v := (0 : Int32)) C.1 C.2.1 dX15_problem_178 (by decide) ?_
  obtain ⟨o_1, eo_1, hE⟩ := cl_e hE
  have m1 := moX15_deepBoard eo_1
  have m2 := moX15_problem_182 hE
  refine x_kRA (o := o_1) hkl (z_runV (As := [.int (0 : Int32)]) (rest := [.ref x0]) C (ct_X15_deepBoard l X k_x0 eo_1) cw_X15_671 hW hZ k_x0 (by decide) rfl rfl rfl hl.1 (Nat.le_of_ble_eq_true rfl) rfl dX15_problem_179 ⟨Nat.le_of_ble_eq_true rfl, Nat.le_of_ble_eq_true rfl⟩ (rm_ok hkl m1 m2)) hZ (fun _ _ hW km k_o_1_1 hZ => ?_)
  replace hkl := hkl.tr km
  replace k_x0 := km.at k_x0 (by decide)
  exact bX15_problem_182 C k_x0 k_o_1_1 k_x0 hkl hW hZ _ (lv_sub hl [0, 1, 2, 3] rfl) hE
set_option maxRecDepth 20000 in
theorem bX15_problem_167 {p : Program} {l : Launch} {e : Env} {s : State} {m : MethodId} {args : Array Value} {below : List Frame} {meth : Method} {c : Code} {X : Ec} {h0 : Hp} {o : Int32 × Hp} {F : Nat} (C : Cx X p s m args meth c RX15 cX15_problem 9 (some .int) "problem") {h : Hp} {x0 : Nat} {x1 : Int32} {x2 : Int32} {x3 : Int32} {x4 : Int32} {t0 : Nat} {H : Heap} {locs : List Loc} (k_x0 : hK h x0 = 15) (k_t0 : hK h t0 = 12) (hkl : Kl h0 h) (hW : Wx X h H) (hZ : va_S (aA (eB X)) s.heap H locs) (ls : Array Slot) (hl : lv_has ls 9 [(0, .ref x0), (1, .int x1), (2, .int x2), (3, .int x3), (4, .int x4)]) (hE : sX15_problem_167 F h x0 x1 x2 x3 x4 t0 = some o) : W p l e (rmA 51 1345 h0 o.2) s m args below meth c H locs (hS h - hS h0) (hL h - hL h0) (MQ below (QIA X h0 o.1 o.2) args s (hS o.2 - hS h0) (hL o.2 - hL h0) (aA (eB X))) (F0 m 167 ls [.ref t0]) := by
  refine lv_aload_n C.1 C.2.1 dX15_problem_167 rfl (lv_at hl 0 rfl) ?_
  obtain ⟨r_1, er_1, hE⟩ := cl_e hE
  refine gf_X15_257 C hW k_x0 er_1 dX15_problem_168 (fun k_r_1 => ?_)
  refine lv_iload_n C.1 C.2.1 dX15_problem_171 rfl (lv_at hl 1 rfl) ?_
  obtain ⟨g_2, hE⟩ := gd_e hE
  obtain ⟨r_3, er_3, hE⟩ := cl_e hE
  refine y_aald (t0 := 5) C hW k_r_1 (by decide) (by decide) rfl rfl rfl (fun _ => rfl) g_2 er_3 dX15_problem_172 (fun k_r_3 => ?_)
  obtain ⟨o_4, eo_4, hE⟩ := cl_e hE
  have m1 := moX12_copy eo_4
  have m2 := moX15_problem_176 hE
  refine x_kV (o := o_4) (z_runV (As := [.ref r_3]) (rest := []) C (ct_X12_copy l X k_t0 k_r_3 eo_4) cw_X15_405 hW hZ k_t0 (by decide) rfl rfl rfl hl.1 (Nat.le_of_ble_eq_true rfl) rfl dX15_problem_173 ⟨Nat.le_of_ble_eq_true rfl, Nat.le_of_ble_eq_true rfl⟩ (rm_ok0 hkl m1 m2)) hZ (fun _ _ hW km hZ => ?_)
  replace hkl := hkl.tr km.l
  refine x_wc km ?_
  replace k_x0 := km.at k_x0 (by decide)
  exact bX15_problem_176 C k_x0 hkl hW hZ _ (lv_sub hl [0, 2, 3, 4] rfl) hE
set_option maxRecDepth 20000 in
theorem bX15_problem_120 {p : Program} {l : Launch} {e : Env} {s : State} {m : MethodId} {args : Array Value} {below : List Frame} {meth : Method} {c : Code} {X : Ec} {h0 : Hp} {o : Int32 × Hp} {F : Nat} (C : Cx X p s m args meth c RX15 cX15_problem 9 (some .int) "problem") {h : Hp} {x0 : Nat} {x1 : Int32} {x2 : Int32} {x3 : Int32} {x4 : Int32} {t0 : Int32} {H : Heap} {locs : List Loc} (k_x0 : hK h x0 = 15) (hkl : Kl h0 h) (hW : Wx X h H) (hZ : va_S (aA (eB X)) s.heap H locs) (ls : Array Slot) (hl : lv_has ls 9 [(0, .ref x0), (1, .int x1), (2, .int x2), (3, .int x3), (4, .int x4)]) (hE : sX15_problem_120 F h x0 x1 x2 x3 x4 t0 = some o) : W p l e (rmA 51 1345 h0 o.2) s m args below meth c H locs (hS h - hS h0) (hL h - hL h0) (MQ below (QIA X h0 o.1 o.2) args s (hS o.2 - hS h0) (hL o.2 - hL h0) (aA (eB X))) (F0 m 120 ls [.int t0]) := by
  refine lv_if_ne (tgt := 126) C.1 C.2.1 dX15_problem_120 (by decide) (fun c_1 => ?_) (fun c_1 => ?_)
  · have hE := br_n hE c_1
    refine lv_aload_n C.1 C.2.1 dX15_problem_126 rfl (lv_at hl 0 rfl) ?_
    refine lv_iload_n C.1 C.2.1 dX15_problem_127 rfl (lv_at hl 1 rfl) ?_
    obtain ⟨h_2, eh_2, hE⟩ := nm_e2 hE
    refine pf_X15_847 C hW hZ k_x0 eh_2 dX15_problem_128 (fun _ _ hW km hZ => ?_)
    replace hkl := hkl.tr km.l
    refine x_wc km ?_
    replace k_x0 := km.at k_x0 (by decide)
    refine lv_aload_n C.1 C.2.1 dX15_problem_131 rfl (lv_at hl 0 rfl) ?_
    refine lv_aload_n C.1 C.2.1 dX15_problem_132 rfl (lv_at hl 0 rfl) ?_
    obtain ⟨r_3, er_3, hE⟩ := cl_e hE
    refine gf_X15_261 C hW k_x0 er_3 dX15_problem_133 (fun k_r_3 => ?_)
    refine lv_iload_n C.1 C.2.1 dX15_problem_136 rfl (lv_at hl 1 rfl) ?_
    obtain ⟨g_4, hE⟩ := gd_e hE
    refine y_iald C hW k_r_3 g_4 dX15_problem_137 ?_
    obtain ⟨h_5, eh_5, hE⟩ := nm_e2 hE
    refine pf_X15_393 C hW hZ k_x0 eh_5 dX15_problem_138 (fun _ _ hW km hZ => ?_)
    replace hkl := hkl.tr km.l
    refine x_wc km ?_
    replace k_x0 := km.at k_x0 (by decide)
    refine lv_aload_n C.1 C.2.1 dX15_problem_141 rfl (lv_at hl 0 rfl) ?_
    refine lv_iload_n C.1 C.2.1 dX15_problem_142 rfl (lv_at hl 2 rfl) ?_
    obtain ⟨h_6, eh_6, hE⟩ := nm_e2 hE
    refine pf_X15_850 C hW hZ k_x0 eh_6 dX15_problem_143 (fun _ _ hW km hZ => ?_)
    replace hkl := hkl.tr km.l
    refine x_wc km ?_
    replace k_x0 := km.at k_x0 (by decide)
    refine lv_aload_n C.1 C.2.1 dX15_problem_146 rfl (lv_at hl 0 rfl) ?_
    refine lv_iload_n C.1 C.2.1 dX15_problem_147 rfl (lv_at hl 3 rfl) ?_
    obtain ⟨h_7, eh_7, hE⟩ := nm_e2 hE
    refine pf_X15_853 C hW hZ k_x0 eh_7 dX15_problem_148 (fun _ _ hW km hZ => ?_)
    replace hkl := hkl.tr km.l
    refine x_wc km ?_
    replace k_x0 := km.at k_x0 (by decide)
    refine lv_aload_n C.1 C.2.1 dX15_problem_151 rfl (lv_at hl 0 rfl) ?_
    refine lv_iload C.1 C.2.1 dX15_problem_152 (lv_at hl 4 rfl) ?_
    obtain ⟨h_8, eh_8, hE⟩ := nm_e2 hE
    refine pf_X15_856 C hW hZ k_x0 eh_8 dX15_problem_154 (fun _ _ hW km hZ => ?_)
    replace hkl := hkl.tr km.l
    refine x_wc km ?_
    replace k_x0 := km.at k_x0 (by decide)
    refine lv_aload_n C.1 C.2.1 dX15_problem_157 rfl (lv_at hl 0 rfl) ?_
    refine lv_iconst (v := (0 : Int32)) C.1 C.2.1 dX15_problem_158 (by decide) ?_
    obtain ⟨h_9, eh_9, hE⟩ := nm_e2 hE
    refine pf_X15_859 C hW hZ k_x0 eh_9 dX15_problem_159 (fun _ _ hW km hZ => ?_)
    replace hkl := hkl.tr km.l
    refine x_wc km ?_
    replace k_x0 := km.at k_x0 (by decide)
    refine lv_aload_n C.1 C.2.1 dX15_problem_162 rfl (lv_at hl 0 rfl) ?_
    refine lv_iconst (v := (0 : Int32)) C.1 C.2.1 dX15_problem_163 (by decide) ?_
    obtain ⟨o_10, eo_10, hE⟩ := cl_e hE
    have m1 := moX15_deepBoard eo_10
    have m2 := moX15_problem_167 hE
    refine x_kRA (o := o_10) hkl (z_runV (As := [.int (0 : Int32)]) (rest := []) C (ct_X15_deepBoard l X k_x0 eo_10) cw_X15_671 hW hZ k_x0 (by decide) rfl rfl rfl hl.1 (Nat.le_of_ble_eq_true rfl) rfl dX15_problem_164 ⟨Nat.le_of_ble_eq_true rfl, Nat.le_of_ble_eq_true rfl⟩ (rm_ok hkl m1 m2)) hZ (fun _ _ hW km k_o_10_1 hZ => ?_)
    replace hkl := hkl.tr km
    replace k_x0 := km.at k_x0 (by decide)
    exact bX15_problem_167 C k_x0 k_o_10_1 hkl hW hZ _ (lv_sub hl [0, 1, 2, 3, 4] rfl) hE
  · have hE := br_p hE c_1
    refine lv_bipush (v := (-104 : Int32)) C.1 C.2.1 dX15_problem_123 (by decide) ?_
    exact x_iretA C rfl rfl hW hZ hkl hE dX15_problem_125
set_option maxRecDepth 20000 in
theorem bX15_problem_117 {p : Program} {l : Launch} {e : Env} {s : State} {m : MethodId} {args : Array Value} {below : List Frame} {meth : Method} {c : Code} {X : Ec} {h0 : Hp} {o : Int32 × Hp} {F : Nat} (C : Cx X p s m args meth c RX15 cX15_problem 9 (some .int) "problem") {h : Hp} {x0 : Nat} {x1 : Int32} {x2 : Int32} {x3 : Int32} {x4 : Int32} {t0 : Int32} {t1 : Int32} {t2 : Nat} {t3 : Nat} {H : Heap} {locs : List Loc} (k_x0 : hK h x0 = 15) (k_t2 : hK h t2 = 12) (k_t3 : hK h t3 = 15) (hkl : Kl h0 h) (hW : Wx X h H) (hZ : va_S (aA (eB X)) s.heap H locs) (ls : Array Slot) (hl : lv_has ls 9 [(0, .ref x0), (1, .int x1), (2, .int x2), (3, .int x3), (4, .int x4)]) (hE : sX15_problem_117 F h x0 x1 x2 x3 x4 t0 t1 t2 t3 = some o) : W p l e (rmA 51 1345 h0 o.2) s m args below meth c H locs (hS h - hS h0) (hL h - hL h0) (MQ below (QIA X h0 o.1 o.2) args s (hS o.2 - hS h0) (hL o.2 - hL h0) (aA (eB X))) (F0 m 117 ls [.int t0, .int t1, .ref t2, .ref t3]) := by
  obtain ⟨o_1, eo_1, hE⟩ := cl_e hE
  have m1 := moX15_isRoom eo_1
  have m2 := moX15_problem_120 hE
  refine x_kIA (o := o_1) hkl (z_runV (As := [.ref t2, .int t1, .int t0]) (rest := []) C (ct_X15_isRoom l X F k_t3 k_t2 eo_1) cw_X15_686 hW hZ k_t3 (by decide) rfl rfl rfl hl.1 (Nat.le_of_ble_eq_true rfl) rfl dX15_problem_117 ⟨Nat.le_of_ble_eq_true rfl, Nat.le_of_ble_eq_true rfl⟩ (rm_ok hkl m1 m2)) hZ (fun _ _ hW km hZ => ?_)
  replace hkl := hkl.tr km
  replace k_x0 := km.at k_x0 (by decide)
  exact bX15_problem_120 C k_x0 hkl hW hZ _ (lv_sub hl [0, 1, 2, 3, 4] rfl) hE
set_option maxRecDepth 20000 in
theorem bX15_problem_96 {p : Program} {l : Launch} {e : Env} {s : State} {m : MethodId} {args : Array Value} {below : List Frame} {meth : Method} {c : Code} {X : Ec} {h0 : Hp} {o : Int32 × Hp} {F : Nat} (C : Cx X p s m args meth c RX15 cX15_problem 9 (some .int) "problem") {h : Hp} {x0 : Nat} {x1 : Int32} {x2 : Int32} {x3 : Int32} {x4 : Int32} {t0 : Int32} {H : Heap} {locs : List Loc} (k_x0 : hK h x0 = 15) (hkl : Kl h0 h) (hW : Wx X h H) (hZ : va_S (aA (eB X)) s.heap H locs) (ls : Array Slot) (hl : lv_has ls 9 [(0, .ref x0), (1, .int x1), (2, .int x2), (3, .int x3), (4, .int x4)]) (hE : sX15_problem_96 F h x0 x1 x2 x3 x4 t0 = some o) : W p l e (rmA 51 1345 h0 o.2) s m args below meth c H locs (hS h - hS h0) (hL h - hL h0) (MQ below (QIA X h0 o.1 o.2) args s (hS o.2 - hS h0) (hL o.2 - hL h0) (aA (eB X))) (F0 m 96 ls [.int t0]) := by
  refine lv_istore (lv' := [(5, .int t0), (0, .ref x0), (1, .int x1), (2, .int x2), (3, .int x3), (4, .int x4)]) C.1 C.2.1 dX15_problem_96 hl (by decide) rfl (fun ls hl => ?_)
  refine lv_aload_n C.1 C.2.1 dX15_problem_98 rfl (lv_at hl 1 rfl) ?_
  refine lv_aload_n C.1 C.2.1 dX15_problem_99 rfl (lv_at hl 1 rfl) ?_
  obtain ⟨r_1, er_1, hE⟩ := cl_e hE
  refine gf_X15_257 C hW k_x0 er_1 dX15_problem_100 (fun k_r_1 => ?_)
  refine lv_iload_n C.1 C.2.1 dX15_problem_103 rfl (lv_at hl 2 rfl) ?_
  obtain ⟨g_2, hE⟩ := gd_e hE
  obtain ⟨r_3, er_3, hE⟩ := cl_e hE
  refine y_aald (t0 := 5) C hW k_r_1 (by decide) (by decide) rfl rfl rfl (fun _ => rfl) g_2 er_3 dX15_problem_104 (fun k_r_3 => ?_)
  refine lv_iload C.1 C.2.1 dX15_problem_105 (lv_at hl 0 rfl) ?_
  refine lv_iload_n C.1 C.2.1 dX15_problem_107 rfl (lv_at hl 3 rfl) ?_
  refine lv_iconst (v := (3 : Int32)) C.1 C.2.1 dX15_problem_108 (by decide) ?_
  refine lv_icmp_ne (tgt := 116) C.1 C.2.1 dX15_problem_109 (by decide) (fun c_4 => ?_) (fun c_4 => ?_)
  · have hE := br_n hE c_4
    refine lv_iconst (v := (0 : Int32)) C.1 C.2.1 dX15_problem_116 (by decide) ?_
    exact bX15_problem_117 C k_x0 k_r_3 k_x0 hkl hW hZ _ (lv_sub hl [1, 2, 3, 4, 5] rfl) hE
  · have hE := br_p hE c_4
    refine lv_iconst (v := (1 : Int32)) C.1 C.2.1 dX15_problem_112 (by decide) ?_
    refine lv_goto (tgt := 117) C.1 C.2.1 dX15_problem_113 (by decide) ?_
    exact bX15_problem_117 C k_x0 k_r_3 k_x0 hkl hW hZ _ (lv_sub hl [1, 2, 3, 4, 5] rfl) hE
set_option maxRecDepth 20000 in
theorem bX15_problem_63 {p : Program} {l : Launch} {e : Env} {s : State} {m : MethodId} {args : Array Value} {below : List Frame} {meth : Method} {c : Code} {X : Ec} {h0 : Hp} {o : Int32 × Hp} {F : Nat} (C : Cx X p s m args meth c RX15 cX15_problem 9 (some .int) "problem") {h : Hp} {x0 : Nat} {x1 : Int32} {x2 : Int32} {x3 : Int32} {x4 : Int32} {t0 : Int32} {H : Heap} {locs : List Loc} (k_x0 : hK h x0 = 15) (hkl : Kl h0 h) (hW : Wx X h H) (hZ : va_S (aA (eB X)) s.heap H locs) (ls : Array Slot) (hl : lv_has ls 9 [(0, .ref x0), (1, .int x1), (2, .int x2), (3, .int x3), (4, .int x4)]) (hE : sX15_problem_63 F h x0 x1 x2 x3 x4 t0 = some o) : W p l e (rmA 51 1345 h0 o.2) s m args below meth c H locs (hS h - hS h0) (hL h - hL h0) (MQ below (QIA X h0 o.1 o.2) args s (hS o.2 - hS h0) (hL o.2 - hL h0) (aA (eB X))) (F0 m 63 ls [.int t0]) := by
  refine lv_if_le (tgt := 69) C.1 C.2.1 dX15_problem_63 (by decide) (fun c_1 => ?_) (fun c_1 => ?_)
  · have hE := br_p hE c_1
    refine lv_iload_n C.1 C.2.1 dX15_problem_69 rfl (lv_at hl 2 rfl) ?_
    refine lv_if_ne (tgt := 82) C.1 C.2.1 dX15_problem_70 (by decide) (fun c_2 => ?_) (fun c_2 => ?_)
    · have hE := br_n hE c_2
      refine lv_iload_n C.1 C.2.1 dX15_problem_82 rfl (lv_at hl 2 rfl) ?_
      refine lv_iconst (v := (3 : Int32)) C.1 C.2.1 dX15_problem_83 (by decide) ?_
      refine lv_icmp_ne (tgt := 92) C.1 C.2.1 dX15_problem_84 (by decide) (fun c_3 => ?_) (fun c_3 => ?_)
      · have hE := br_n hE c_3
        refine lv_iconst (v := (2 : Int32)) C.1 C.2.1 dX15_problem_92 (by decide) ?_
        refine lv_iload C.1 C.2.1 dX15_problem_93 (lv_at hl 4 rfl) ?_
        refine lv_imul C.1 C.2.1 dX15_problem_95 ?_
        exact bX15_problem_96 C k_x0 hkl hW hZ _ (lv_sub hl [0, 1, 2, 3, 4] rfl) hE
      · have hE := br_p hE c_3
        refine lv_iload C.1 C.2.1 dX15_problem_87 (lv_at hl 4 rfl) ?_
        refine lv_goto (tgt := 96) C.1 C.2.1 dX15_problem_89 (by decide) ?_
        exact bX15_problem_96 C k_x0 hkl hW hZ _ (lv_sub hl [0, 1, 2, 3, 4] rfl) hE
    · have hE := br_p hE c_2
      refine lv_iconst (v := (2 : Int32)) C.1 C.2.1 dX15_problem_73 (by decide) ?_
      refine lv_iload C.1 C.2.1 dX15_problem_74 (lv_at hl 4 rfl) ?_
      refine lv_imul C.1 C.2.1 dX15_problem_76 ?_
      refine lv_iconst (v := (1 : Int32)) C.1 C.2.1 dX15_problem_77 (by decide) ?_
      refine lv_isub C.1 C.2.1 dX15_problem_78 ?_
      refine lv_goto (tgt := 96) C.1 C.2.1 dX15_problem_79 (by decide) ?_
      exact bX15_problem_96 C k_x0 hkl hW hZ _ (lv_sub hl [0, 1, 2, 3, 4] rfl) hE
  · have hE := br_n hE c_1
    refine lv_bipush (v := (-103 : Int32)) C.1 C.2.1 dX15_problem_66 (by decide) ?_
    exact x_iretA C rfl rfl hW hZ hkl hE dX15_problem_68
set_option maxRecDepth 20000 in
theorem bX15_problem_38 {p : Program} {l : Launch} {e : Env} {s : State} {m : MethodId} {args : Array Value} {below : List Frame} {meth : Method} {c : Code} {X : Ec} {h0 : Hp} {o : Int32 × Hp} {F : Nat} (C : Cx X p s m args meth c RX15 cX15_problem 9 (some .int) "problem") {h : Hp} {x0 : Nat} {x1 : Int32} {x2 : Int32} {x3 : Int32} {x4 : Int32} {t0 : Int32} {H : Heap} {locs : List Loc} (k_x0 : hK h x0 = 15) (hkl : Kl h0 h) (hW : Wx X h H) (hZ : va_S (aA (eB X)) s.heap H locs) (ls : Array Slot) (hl : lv_has ls 9 [(0, .ref x0), (1, .int x1), (2, .int x2), (3, .int x3), (4, .int x4)]) (hE : sX15_problem_38 F h x0 x1 x2 x3 x4 t0 = some o) : W p l e (rmA 51 1345 h0 o.2) s m args below meth c H locs (hS h - hS h0) (hL h - hL h0) (MQ below (QIA X h0 o.1 o.2) args s (hS o.2 - hS h0) (hL o.2 - hL h0) (aA (eB X))) (F0 m 38 ls [.int t0]) := by
  refine lv_bipush (v := (-102 : Int32)) C.1 C.2.1 dX15_problem_38 (by decide) ?_
  refine lv_icmp_ne (tgt := 46) C.1 C.2.1 dX15_problem_40 (by decide) (fun c_1 => ?_) (fun c_1 => ?_)
  · have hE := br_n hE c_1
    refine lv_aload_n C.1 C.2.1 dX15_problem_46 rfl (lv_at hl 0 rfl) ?_
    refine lv_aload_n C.1 C.2.1 dX15_problem_47 rfl (lv_at hl 0 rfl) ?_
    obtain ⟨r_2, er_2, hE⟩ := cl_e hE
    refine gf_X15_257 C hW k_x0 er_2 dX15_problem_48 (fun k_r_2 => ?_)
    refine lv_iload_n C.1 C.2.1 dX15_problem_51 rfl (lv_at hl 1 rfl) ?_
    obtain ⟨g_3, hE⟩ := gd_e hE
    obtain ⟨r_4, er_4, hE⟩ := cl_e hE
    refine y_aald (t0 := 5) C hW k_r_2 (by decide) (by decide) rfl rfl rfl (fun _ => rfl) g_3 er_4 dX15_problem_52 (fun k_r_4 => ?_)
    refine lv_aload_n C.1 C.2.1 dX15_problem_53 rfl (lv_at hl 0 rfl) ?_
    obtain ⟨r_5, er_5, hE⟩ := cl_e hE
    refine gf_X15_288 C hW k_x0 er_5 dX15_problem_54 (fun k_r_5 => ?_)
    refine gf_X15_575 C hW k_r_5 dX15_problem_57 ?_
    obtain ⟨o_6, eo_6, hE⟩ := cl_e hE
    have m1 := moX15_endedBy eo_6
    have m2 := moX15_problem_63 hE
    refine x_kI (o := o_6) (z_runV (As := [.ref r_4, .int (hI h r_5 0)]) (rest := []) C (ct_X15_endedBy l X F k_x0 k_r_4 eo_6) cw_X15_683 hW hZ k_x0 (by decide) rfl rfl rfl hl.1 (Nat.le_of_ble_eq_true rfl) rfl dX15_problem_60 ⟨Nat.le_of_ble_eq_true rfl, Nat.le_of_ble_eq_true rfl⟩ (rm_ok0 hkl m1 m2)) hZ (fun _ _ hW km hZ => ?_)
    replace hkl := hkl.tr km.l
    refine x_wc km ?_
    replace k_x0 := km.at k_x0 (by decide)
    exact bX15_problem_63 C k_x0 hkl hW hZ _ (lv_sub hl [0, 1, 2, 3, 4] rfl) hE
  · have hE := br_p hE c_1
    refine lv_bipush (v := (-102 : Int32)) C.1 C.2.1 dX15_problem_43 (by decide) ?_
    exact x_iretA C rfl rfl hW hZ hkl hE dX15_problem_45
set_option maxRecDepth 20000 in
theorem ct_X15_problem (l : Launch) (X : Ec) (F : Nat) {h : Hp} {x0 : Nat} {x1 : Int32} {x2 : Int32} {x3 : Int32} {x4 : Int32} {o : Int32 × Hp} (k_x0 : hK h x0 = 15) (hE : sX15_problem F h x0 x1 x2 x3 x4 = some o) : MetIA l yX15_problem cX15_problem 9 (some .int) 51 1345 X [.ref x0, .int x1, .int x2, .int x3, .int x4] h o := by
  refine x_metA (oh := o.2) (by decide) (Nat.le_of_ble_eq_true rfl) ?_
  intro p e s m below meth c ls C hl hW hZ
  have hl : lv_has ls 9 [(0, .ref x0), (1, .int x1), (2, .int x2), (3, .int x3), (4, .int x4)] := hl
  have hkl : Kl h h := Kl.rf h
  refine lv_iload_n C.1 C.2.1 dX15_problem_0 rfl (lv_at hl 2 rfl) ?_
  refine lv_if_lt (tgt := 30) C.1 C.2.1 dX15_problem_1 (by decide) (fun c_1 => ?_) (fun c_1 => ?_)
  · have hE := br_p hE c_1
    exact bX15_problem_30 C hkl hW hZ _ (lv_sub hl [] rfl) hE
  · have hE := br_n hE c_1
    refine lv_iload_n C.1 C.2.1 dX15_problem_4 rfl (lv_at hl 2 rfl) ?_
    refine lv_iconst (v := (3 : Int32)) C.1 C.2.1 dX15_problem_5 (by decide) ?_
    refine lv_icmp_gt (tgt := 30) C.1 C.2.1 dX15_problem_6 (by decide) (fun c_2 => ?_) (fun c_2 => ?_)
    · have hE := br_p hE c_2
      exact bX15_problem_30 C hkl hW hZ _ (lv_sub hl [] rfl) hE
    · have hE := br_n hE c_2
      refine lv_iload_n C.1 C.2.1 dX15_problem_9 rfl (lv_at hl 3 rfl) ?_
      refine lv_if_lt (tgt := 30) C.1 C.2.1 dX15_problem_10 (by decide) (fun c_3 => ?_) (fun c_3 => ?_)
      · have hE := br_p hE c_3
        exact bX15_problem_30 C hkl hW hZ _ (lv_sub hl [] rfl) hE
      · have hE := br_n hE c_3
        refine lv_iload_n C.1 C.2.1 dX15_problem_13 rfl (lv_at hl 3 rfl) ?_
        refine lv_iconst (v := (2 : Int32)) C.1 C.2.1 dX15_problem_14 (by decide) ?_
        refine lv_icmp_gt (tgt := 30) C.1 C.2.1 dX15_problem_15 (by decide) (fun c_4 => ?_) (fun c_4 => ?_)
        · have hE := br_p hE c_4
          exact bX15_problem_30 C hkl hW hZ _ (lv_sub hl [] rfl) hE
        · have hE := br_n hE c_4
          refine lv_iload C.1 C.2.1 dX15_problem_18 (lv_at hl 4 rfl) ?_
          refine lv_iconst (v := (1 : Int32)) C.1 C.2.1 dX15_problem_20 (by decide) ?_
          refine lv_icmp_lt (tgt := 30) C.1 C.2.1 dX15_problem_21 (by decide) (fun c_5 => ?_) (fun c_5 => ?_)
          · have hE := br_p hE c_5
            exact bX15_problem_30 C hkl hW hZ _ (lv_sub hl [] rfl) hE
          · have hE := br_n hE c_5
            refine lv_iload C.1 C.2.1 dX15_problem_24 (lv_at hl 4 rfl) ?_
            refine lv_iconst (v := (4 : Int32)) C.1 C.2.1 dX15_problem_26 (by decide) ?_
            refine lv_icmp_le (tgt := 33) C.1 C.2.1 dX15_problem_27 (by decide) (fun c_6 => ?_) (fun c_6 => ?_)
            · have hE := br_p hE c_6
              refine lv_aload_n C.1 C.2.1 dX15_problem_33 rfl (lv_at hl 0 rfl) ?_
              refine lv_iload_n C.1 C.2.1 dX15_problem_34 rfl (lv_at hl 1 rfl) ?_
              obtain ⟨o_7, eo_7, hE⟩ := cl_e hE
              have m1 := moX15_moves eo_7
              have m2 := moX15_problem_38 hE
              refine x_kI (o := o_7) (z_runV (As := [.int x1]) (rest := []) C (ct_X15_moves l X F k_x0 eo_7) cw_X15_668 hW hZ k_x0 (by decide) rfl rfl rfl hl.1 (Nat.le_of_ble_eq_true rfl) rfl dX15_problem_35 ⟨Nat.le_of_ble_eq_true rfl, Nat.le_of_ble_eq_true rfl⟩ (rm_ok0 hkl m1 m2)) hZ (fun _ _ hW km hZ => ?_)
              replace hkl := hkl.tr km.l
              refine x_wc km ?_
              replace k_x0 := km.at k_x0 (by decide)
              exact bX15_problem_38 C k_x0 hkl hW hZ _ (lv_sub hl [0, 1, 2, 3, 4] rfl) hE
            · have hE := br_n hE c_6
              exact bX15_problem_30 C hkl hW hZ _ (lv_sub hl [] rfl) hE
