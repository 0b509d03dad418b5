set_option maxRecDepth 100000 in
theorem ms_159 : Cond.selects RX15 yX15_keep yX15_keep ∈ W0 := w0_in (List.mem_append_left _ (List.mem_of_getElem? (i := 159) rfl)) rfl
set_option maxRecDepth 100000 in
theorem ms_146 : Cond.selects RX15 yX15_wrongOf yX15_wrongOf ∈ W0 := w0_in (List.mem_append_left _ (List.mem_of_getElem? (i := 146) rfl)) rfl
set_option maxRecDepth 100000 in
theorem ms_135 : Cond.selects RX15 yX15_isPosition yX15_isPosition ∈ W0 := w0_in (List.mem_append_left _ (List.mem_of_getElem? (i := 135) rfl)) rfl
set_option maxRecDepth 100000 in
theorem m_2341 : Cond.methodLink RX15 475 yX15_isPosition ∈ W0 := w0_in (List.mem_append_right _ (List.mem_of_getElem? (i := 2341) rfl)) rfl
set_option maxRecDepth 100000 in
theorem m_2343 : Cond.instanceMethod yX15_isPosition ∈ W0 := w0_in (List.mem_append_right _ (List.mem_of_getElem? (i := 2343) rfl)) rfl
set_option maxRecDepth 100000 in
theorem m_2344 : Cond.code yX15_isPosition cX15_isPosition 4 (some .boolean) ∈ W0 := w0_in (List.mem_append_right _ (List.mem_of_getElem? (i := 2344) rfl)) rfl
set_option maxRecDepth 100000 in
theorem m_2392 : Cond.methodLink RX15 479 yX15_wrongOf ∈ W0 := w0_in (List.mem_append_right _ (List.mem_of_getElem? (i := 2392) rfl)) rfl
set_option maxRecDepth 100000 in
theorem m_2394 : Cond.instanceMethod yX15_wrongOf ∈ W0 := w0_in (List.mem_append_right _ (List.mem_of_getElem? (i := 2394) rfl)) rfl
set_option maxRecDepth 100000 in
theorem m_2395 : Cond.code yX15_wrongOf cX15_wrongOf 6 (some .int) ∈ W0 := w0_in (List.mem_append_right _ (List.mem_of_getElem? (i := 2395) rfl)) rfl
set_option maxRecDepth 100000 in
theorem m_2454 : Cond.methodLink RX15 483 yX15_keep ∈ W0 := w0_in (List.mem_append_right _ (List.mem_of_getElem? (i := 2454) rfl)) rfl
set_option maxRecDepth 100000 in
theorem m_2456 : Cond.instanceMethod yX15_keep ∈ W0 := w0_in (List.mem_append_right _ (List.mem_of_getElem? (i := 2456) rfl)) rfl
set_option maxRecDepth 100000 in
theorem m_2457 : Cond.code yX15_keep cX15_keep 3 (some .int) ∈ W0 := w0_in (List.mem_append_right _ (List.mem_of_getElem? (i := 2457) rfl)) rfl
section
variable {p : Program} {l : Launch} {e : Env} {R : Room} {s : State} {m : MethodId} {args : Array Value} {below : List Frame} {meth : Method} {c : Code} {H : Heap} {locs : List Loc} {cells slots : Nat} {Q : State → Prop}
variable {cc : ByteArray} {pc : Nat} {ls : Array Slot} {rest : List Value} {X : Ec} {h h1 : Hp} {nL : Nat} {rt : Option FieldType} {mn : String}
theorem gf_X15_265 {a r : Nat} (C : Cx X p s m args meth c RX15 cc nL rt mn) (hW : Wx X h H) (ha : hK h a = 15) (hr : hR h a 21 = some r) (hdg : decode cc pc = .ok (.getfield 265, 3)) (kk : hK h r = 12 → W p l e R s m args below meth c H locs cells slots Q (F0 m (pc + 3) ls (.ref r :: rest))) : W p l e R s m args below meth c H locs cells slots Q (F0 m pc ls (.ref a :: rest)) :=
  y_getr C hW ha i_X15 (by decide) rfl (by decide) m_2132 rfl rfl hr hdg kk
end
theorem cw_X15_483 : cwd RX15 483 yX15_keep cX15_keep 3 (some .int) false 1 := ⟨m_2457, m_2454, m_19, ⟨m_2456, ms_159⟩, by decide, by decide, by decide +kernel⟩
theorem cw_X15_479 : cwd RX15 479 yX15_wrongOf cX15_wrongOf 6 (some .int) false 1 := ⟨m_2395, m_2392, m_19, ⟨m_2394, ms_146⟩, by decide, by decide, by decide +kernel⟩
theorem cw_X15_475 : cwd RX15 475 yX15_isPosition cX15_isPosition 4 (some .boolean) false 3 := ⟨m_2344, m_2341, m_19, ⟨m_2343, ms_135⟩, by decide, by decide, by decide +kernel⟩
theorem dX15_position_0 : decode cX15_position 0 = .ok (.aload_n 0, 1) := by decide +kernel
theorem dX15_position_1 : decode cX15_position 1 = .ok (.getfield 1, 3) := by decide +kernel
theorem dX15_position_4 : decode cX15_position 4 = .ok (.istore_n 1, 1) := by decide +kernel
theorem dX15_position_5 : decode cX15_position 5 = .ok (.aload_n 0, 1) := by decide +kernel
theorem dX15_position_6 : decode cX15_position 6 = .ok (.iconst 0, 1) := by decide +kernel
theorem dX15_position_7 : decode cX15_position 7 = .ok (.putfield 1, 3) := by decide +kernel
theorem dX15_position_10 : decode cX15_position 10 = .ok (.aload_n 0, 1) := by decide +kernel
theorem dX15_position_11 : decode cX15_position 11 = .ok (.invokevirtual 402, 3) := by decide +kernel
theorem dX15_position_14 : decode cX15_position 14 = .ok (.iconst (-1), 1) := by decide +kernel
theorem dX15_position_15 : decode cX15_position 15 = .ok (.if_icmp .ne 6, 3) := by decide +kernel
theorem dX15_position_18 : decode cX15_position 18 = .ok (.bipush (-104), 2) := by decide +kernel
theorem dX15_position_20 : decode cX15_position 20 = .ok (.ireturn, 1) := by decide +kernel
theorem dX15_position_21 : decode cX15_position 21 = .ok (.aload_n 0, 1) := by decide +kernel
theorem dX15_position_22 : decode cX15_position 22 = .ok (.aload_n 0, 1) := by decide +kernel
theorem dX15_position_23 : decode cX15_position 23 = .ok (.getfield 7, 3) := by decide +kernel
theorem dX15_position_26 : decode cX15_position 26 = .ok (.iload_n 1, 1) := by decide +kernel
theorem dX15_position_27 : decode cX15_position 27 = .ok (.aload_n 0, 1) := by decide +kernel
theorem dX15_position_28 : decode cX15_position 28 = .ok (.getfield 265, 3) := by decide +kernel
theorem dX15_position_31 : decode cX15_position 31 = .ok (.invokevirtual 475, 3) := by decide +kernel
theorem dX15_position_34 : decode cX15_position 34 = .ok (.ifCond .ne 12, 3) := by decide +kernel
theorem dX15_position_37 : decode cX15_position 37 = .ok (.sipush (-200), 3) := by decide +kernel
theorem dX15_position_40 : decode cX15_position 40 = .ok (.aload_n 0, 1) := by decide +kernel
theorem dX15_position_41 : decode cX15_position 41 = .ok (.getfield 412, 3) := by decide +kernel
theorem dX15_position_44 : decode cX15_position 44 = .ok (.isub, 1) := by decide +kernel
theorem dX15_position_45 : decode cX15_position 45 = .ok (.ireturn, 1) := by decide +kernel
theorem dX15_position_46 : decode cX15_position 46 = .ok (.aload_n 0, 1) := by decide +kernel
theorem dX15_position_47 : decode cX15_position 47 = .ok (.aload_n 0, 1) := by decide +kernel
theorem dX15_position_48 : decode cX15_position 48 = .ok (.getfield 265, 3) := by decide +kernel
theorem dX15_position_51 : decode cX15_position 51 = .ok (.invokevirtual 479, 3) := by decide +kernel
theorem dX15_position_54 : decode cX15_position 54 = .ok (.istore_n 2, 1) := by decide +kernel
theorem dX15_position_55 : decode cX15_position 55 = .ok (.iload_n 2, 1) := by decide +kernel
theorem dX15_position_56 : decode cX15_position 56 = .ok (.ifCond .le 9, 3) := by decide +kernel
theorem dX15_position_59 : decode cX15_position 59 = .ok (.iconst 0, 1) := by decide +kernel
theorem dX15_position_60 : decode cX15_position 60 = .ok (.iload_n 2, 1) := by decide +kernel
theorem dX15_position_61 : decode cX15_position 61 = .ok (.isub, 1) := by decide +kernel
theorem dX15_position_62 : decode cX15_position 62 = .ok (.goto 11, 3) := by decide +kernel
theorem dX15_position_65 : decode cX15_position 65 = .ok (.aload_n 0, 1) := by decide +kernel
theorem dX15_position_66 : decode cX15_position 66 = .ok (.aload_n 0, 1) := by decide +kernel
theorem dX15_position_67 : decode cX15_position 67 = .ok (.getfield 265, 3) := by decide +kernel
theorem dX15_position_70 : decode cX15_position 70 = .ok (.invokevirtual 483, 3) := by decide +kernel
theorem dX15_position_73 : decode cX15_position 73 = .ok (.ireturn, 1) := by decide +kernel
set_option maxRecDepth 20000 in
theorem moX15_position_73 {o : Int32 × Hp} {F : Nat} {h : Hp} {t0 : Int32} (hE : sX15_position_73 F h  t0 = some o) : Le h o.2 := by
  exact le_some2 hE
set_option maxRecDepth 20000 in
theorem moX15_position_54 {o : Int32 × Hp} {F : Nat} {h : Hp} {x0 : Nat} {t0 : Int32} (hE : sX15_position_54 F h x0 t0 = some o) : Le h o.2 := by
  rcases br_e hE with ⟨_, hE⟩ | ⟨_, hE⟩
  · obtain ⟨r_2, er_2, hE⟩ := cl_e hE
    obtain ⟨o_3, eo_3, hE⟩ := cl_e hE
    refine (moX15_keep eo_3).tr ?_
    exact moX15_position_73 hE
  · exact moX15_position_73 hE
set_option maxRecDepth 20000 in
theorem moX15_position_34 {o : Int32 × Hp} {F : Nat} {h : Hp} {x0 : Nat} {t0 : Int32} (hE : sX15_position_34 F h x0 t0 = some o) : Le h o.2 := by
  rcases br_e hE with ⟨_, hE⟩ | ⟨_, hE⟩
  · exact le_some2 hE
  · obtain ⟨r_2, er_2, hE⟩ := cl_e hE
    obtain ⟨o_3, eo_3, hE⟩ := cl_e hE
    refine (moX15_wrongOf eo_3).tr ?_
    exact moX15_position_54 hE
set_option maxRecDepth 20000 in
theorem moX15_position_14 {o : Int32 × Hp} {F : Nat} {h : Hp} {x0 : Nat} {x1 : Int32} {t0 : Int32} (hE : sX15_position_14 F h x0 x1 t0 = some o) : Le h o.2 := by
  rcases br_e hE with ⟨_, hE⟩ | ⟨_, hE⟩
  · exact le_some2 hE
  · obtain ⟨r_2, er_2, hE⟩ := cl_e hE
    obtain ⟨r_3, er_3, hE⟩ := cl_e hE
    obtain ⟨o_4, eo_4, hE⟩ := cl_e hE
    refine (moX15_isPosition eo_4).tr ?_
    exact moX15_position_34 hE
set_option maxRecDepth 20000 in
theorem moX15_position {o : Int32 × Hp} {F : Nat} {h : Hp} {x0 : Nat} (hE : sX15_position F h x0 = some o) : Le h o.2 := by
  obtain ⟨v_1, ev_1, hE⟩ := nm_e2 hE
  obtain ⟨h_2, eh_2, hE⟩ := nm_e2 hE
  refine (le_I eh_2).tr ?_
  obtain ⟨o_3, eo_3, hE⟩ := cl_e hE
  refine (moX15_freePlace eo_3).tr ?_
  exact moX15_position_14 hE
set_option maxRecDepth 20000 in
theorem bX15_position_73 {p : Program} {l : Launch} {e : Env} {s : State} {m : MethodId} {args : Array Value} {below : List Frame} {meth : Method} {c : Code} {X : Ec} {h0 : Hp} {o : Int32 × Hp} {F : Nat} (C : Cx X p s m args meth c RX15 cX15_position 3 (some .int) "position") {h : Hp} {t0 : Int32} {H : Heap} {locs : List Loc} (hkl : Kl h0 h) (hW : Wx X h H) (hZ : va_S (aA (eB X)) s.heap H locs) (ls : Array Slot) (hl : lv_has ls 3 []) (hE : sX15_position_73 F h  t0 = some o) : W p l e (rmA 5 131 h0 o.2) s m args below meth c H locs (hS h - hS h0) (hL h - hL h0) (MQ below (QIA X h0 o.1 o.2) args s (hS o.2 - hS h0) (hL o.2 - hL h0) (aA (eB X))) (F0 m 73 ls [.int t0]) := by
  exact x_iretA C rfl rfl hW hZ hkl hE dX15_position_73
set_option maxRecDepth 20000 in
theorem bX15_position_54 {p : Program} {l : Launch} {e : Env} {s : State} {m : MethodId} {args : Array Value} {below : List Frame} {meth : Method} {c : Code} {X : Ec} {h0 : Hp} {o : Int32 × Hp} {F : Nat} (C : Cx X p s m args meth c RX15 cX15_position 3 (some .int) "position") {h : Hp} {x0 : Nat} {t0 : Int32} {H : Heap} {locs : List Loc} (k_x0 : hK h x0 = 15) (hkl : Kl h0 h) (hW : Wx X h H) (hZ : va_S (aA (eB X)) s.heap H locs) (ls : Array Slot) (hl : lv_has ls 3 [(0, .ref x0)]) (hE : sX15_position_54 F h x0 t0 = some o) : W p l e (rmA 5 131 h0 o.2) s m args below meth c H locs (hS h - hS h0) (hL h - hL h0) (MQ below (QIA X h0 o.1 o.2) args s (hS o.2 - hS h0) (hL o.2 - hL h0) (aA (eB X))) (F0 m 54 ls [.int t0]) := by
  refine lv_istore_n (lv' := [(2, .int t0), (0, .ref x0)]) C.1 C.2.1 dX15_position_54 rfl hl (by decide) rfl (fun ls hl => ?_)
  refine lv_iload_n C.1 C.2.1 dX15_position_55 rfl (lv_at hl 0 rfl) ?_
  refine lv_if_le (tgt := 65) C.1 C.2.1 dX15_position_56 (by decide) (fun c_1 => ?_) (fun c_1 => ?_)
  · have hE := br_p hE c_1
    refine lv_aload_n C.1 C.2.1 dX15_position_65 rfl (lv_at hl 1 rfl) ?_
    refine lv_aload_n C.1 C.2.1 dX15_position_66 rfl (lv_at hl 1 rfl) ?_
    obtain ⟨r_2, er_2, hE⟩ := cl_e hE
    refine gf_X15_265 C hW k_x0 er_2 dX15_position_67 (fun k_r_2 => ?_)
    obtain ⟨o_3, eo_3, hE⟩ := cl_e hE
    have m1 := moX15_keep eo_3
    have m2 := moX15_position_73 hE
    refine x_kIA (o := o_3) hkl (z_runV (As := [.ref r_2]) (rest := []) C (ct_X15_keep l X F k_x0 k_r_2 eo_3) cw_X15_483 hW hZ k_x0 (by decide) rfl rfl rfl hl.1 (Nat.le_of_ble_eq_true rfl) rfl dX15_position_70 ⟨Nat.le_of_ble_eq_true rfl, Nat.le_of_ble_eq_true rfl⟩ (rm_ok hkl m1 m2)) hZ (fun _ _ hW km hZ => ?_)
    replace hkl := hkl.tr km
    replace k_x0 := km.at k_x0 (by decide)
    exact bX15_position_73 C hkl hW hZ _ (lv_sub hl [] rfl) hE
  · have hE := br_n hE c_1
    refine lv_iconst (v := (0 : Int32)) C.1 C.2.1 dX15_position_59 (by decide) ?_
    refine lv_iload_n C.1 C.2.1 dX15_position_60 rfl (lv_at hl 0 rfl) ?_
    refine lv_isub C.1 C.2.1 dX15_position_61 ?_
    refine lv_goto (tgt := 73) C.1 C.2.1 dX15_position_62 (by decide) ?_
    exact bX15_position_73 C hkl hW hZ _ (lv_sub hl [] rfl) hE
set_option maxRecDepth 20000 in
theorem bX15_position_34 {p : Program} {l : Launch} {e : Env} {s : State} {m : MethodId} {args : Array Value} {below : List Frame} {meth : Method} {c : Code} {X : Ec} {h0 : Hp} {o : Int32 × Hp} {F : Nat} (C : Cx X p s m args meth c RX15 cX15_position 3 (some .int) "position") {h : Hp} {x0 : Nat} {t0 : Int32} {H : Heap} {locs : List Loc} (k_x0 : hK h x0 = 15) (hkl : Kl h0 h) (hW : Wx X h H) (hZ : va_S (aA (eB X)) s.heap H locs) (ls : Array Slot) (hl : lv_has ls 3 [(0, .ref x0)]) (hE : sX15_position_34 F h x0 t0 = some o) : W p l e (rmA 5 131 h0 o.2) s m args below meth c H locs (hS h - hS h0) (hL h - hL h0) (MQ below (QIA X h0 o.1 o.2) args s (hS o.2 - hS h0) (hL o.2 - hL h0) (aA (eB X))) (F0 m 34 ls [.int t0]) := by
  refine lv_if_ne (tgt := 46) C.1 C.2.1 dX15_position_34 (by decide) (fun c_1 => ?_) (fun c_1 => ?_)
  · have hE := br_n hE c_1
    refine lv_aload_n C.1 C.2.1 dX15_position_46 rfl (lv_at hl 0 rfl) ?_
    refine lv_aload_n C.1 C.2.1 dX15_position_47 rfl (lv_at hl 0 rfl) ?_
    obtain ⟨r_2, er_2, hE⟩ := cl_e hE
    refine gf_X15_265 C hW k_x0 er_2 dX15_position_48 (fun k_r_2 => ?_)
    obtain ⟨o_3, eo_3, hE⟩ := cl_e hE
    have m1 := moX15_wrongOf eo_3
    have m2 := moX15_position_54 hE
    refine x_kI (o := o_3) (z_runV (As := [.ref r_2]) (rest := []) C (ct_X15_wrongOf l X F k_x0 k_r_2 eo_3) cw_X15_479 hW hZ k_x0 (by decide) rfl rfl rfl hl.1 (Nat.le_of_ble_eq_true rfl) rfl dX15_position_51 ⟨Nat.le_of_ble_eq_true rfl, Nat.le_of_ble_eq_true rfl⟩ (rm_ok0 hkl m1 m2)) hZ (fun _ _ hW km hZ => ?_)
    replace hkl := hkl.tr km.l
    refine x_wc km ?_
    replace k_x0 := km.at k_x0 (by decide)
    exact bX15_position_54 C k_x0 hkl hW hZ _ (lv_sub hl [0] rfl) hE
  · have hE := br_p hE c_1
    refine lv_sipush (v := (-200 : Int32)) C.1 C.2.1 dX15_position_37 (by decide) ?_
    refine lv_aload_n C.1 C.2.1 dX15_position_40 rfl (lv_at hl 0 rfl) ?_
    refine gf_X15_412 C hW k_x0 dX15_position_41 ?_
    refine lv_isub C.1 C.2.1 dX15_position_44 ?_
    exact x_iretA C rfl rfl hW hZ hkl hE dX15_position_45
set_option maxRecDepth 20000 in
theorem bX15_position_14 {p : Program} {l : Launch} {e : Env} {s : State} {m : MethodId} {args : Array Value} {below : List Frame} {meth : Method} {c : Code} {X : Ec} {h0 : Hp} {o : Int32 × Hp} {F : Nat} (C : Cx X p s m args meth c RX15 cX15_position 3 (some .int) "position") {h : Hp} {x0 : Nat} {x1 : Int32} {t0 : Int32} {H : Heap} {locs : List Loc} (k_x0 : hK h x0 = 15) (hkl : Kl h0 h) (hW : Wx X h H) (hZ : va_S (aA (eB X)) s.heap H locs) (ls : Array Slot) (hl : lv_has ls 3 [(0, .ref x0), (1, .int x1)]) (hE : sX15_position_14 F h x0 x1 t0 = some o) : W p l e (rmA 5 131 h0 o.2) s m args below meth c H locs (hS h - hS h0) (hL h - hL h0) (MQ below (QIA X h0 o.1 o.2) args s (hS o.2 - hS h0) (hL o.2 - hL h0) (aA (eB X))) (F0 m 14 ls [.int t0]) := by
  refine lv_iconst (v := (-1 : Int32)) C.1 C.2.1 dX15_position_14 (by decide) ?_
  refine lv_icmp_ne (tgt := 21) C.1 C.2.1 dX15_position_15 (by decide) (fun c_1 => ?_) (fun c_1 => ?_)
  · have hE := br_n hE c_1
    refine lv_aload_n C.1 C.2.1 dX15_position_21 rfl (lv_at hl 0 rfl) ?_
    refine lv_aload_n C.1 C.2.1 dX15_position_22 rfl (lv_at hl 0 rfl) ?_
    obtain ⟨r_2, er_2, hE⟩ := cl_e hE
    refine gf_X15_7 C hW k_x0 er_2 dX15_position_23 (fun k_r_2 => ?_)
    refine lv_iload_n C.1 C.2.1 dX15_position_26 rfl (lv_at hl 1 rfl) ?_
    refine lv_aload_n C.1 C.2.1 dX15_position_27 rfl (lv_at hl 0 rfl) ?_
    obtain ⟨r_3, er_3, hE⟩ := cl_e hE
    refine gf_X15_265 C hW k_x0 er_3 dX15_position_28 (fun k_r_3 => ?_)
    obtain ⟨o_4, eo_4, hE⟩ := cl_e hE
    have m1 := moX15_isPosition eo_4
    have m2 := moX15_position_34 hE
    refine x_kI (o := o_4) (z_runV (As := [.ref r_2, .int x1, .ref r_3]) (rest := []) C (ct_X15_isPosition l X F k_x0 k_r_2 k_r_3 eo_4) cw_X15_475 hW hZ k_x0 (by decide) rfl rfl rfl hl.1 (Nat.le_of_ble_eq_true rfl) rfl dX15_position_31 ⟨Nat.le_of_ble_eq_true rfl, Nat.le_of_ble_eq_true rfl⟩ (rm_ok0 hkl m1 m2)) hZ (fun _ _ hW km hZ => ?_)
    replace hkl := hkl.tr km.l
    refine x_wc km ?_
    replace k_x0 := km.at k_x0 (by decide)
    exact bX15_position_34 C k_x0 hkl hW hZ _ (lv_sub hl [0] rfl) hE
  · have hE := br_p hE c_1
    refine lv_bipush (v := (-104 : Int32)) C.1 C.2.1 dX15_position_18 (by decide) ?_
    exact x_iretA C rfl rfl hW hZ hkl hE dX15_position_20
set_option maxRecDepth 20000 in
theorem ct_X15_position (l : Launch) (X : Ec) (F : Nat) {h : Hp} {x0 : Nat} {o : Int32 × Hp} (k_x0 : hK h x0 = 15) (hE : sX15_position F h x0 = some o) : MetIA l yX15_position cX15_position 3 (some .int) 5 131 X [.ref x0] h o := by
  refine x_metA (oh := o.2) (by decide) (Nat.le_of_ble_eq_true rfl) ?_
  intro p e s m below meth c ls C hl hW hZ
  have hl : lv_has ls 3 [(0, .ref x0)] := hl
  have hkl : Kl h h := Kl.rf h
  refine lv_aload_n C.1 C.2.1 dX15_position_0 rfl (lv_at hl 0 rfl) ?_
  refine gf_X15_1 C hW k_x0 dX15_position_1 ?_
  obtain ⟨v_1, ev_1, hE⟩ := nm_e2 hE
  refine x_nmI ev_1 ?_
  refine lv_istore_n (lv' := [(1, .int v_1), (0, .ref x0)]) C.1 C.2.1 dX15_position_4 rfl hl (by decide) rfl (fun ls hl => ?_)
  refine lv_aload_n C.1 C.2.1 dX15_position_5 rfl (lv_at hl 1 rfl) ?_
  refine lv_iconst (v := (0 : Int32)) C.1 C.2.1 dX15_position_6 (by decide) ?_
  obtain ⟨h_2, eh_2, hE⟩ := nm_e2 hE
  refine pf_X15_1 C hW hZ k_x0 eh_2 dX15_position_7 (fun _ _ hW km hZ => ?_)
  replace hkl := hkl.tr km.l
  refine x_wc km ?_
  replace k_x0 := km.at k_x0 (by decide)
  refine lv_aload_n C.1 C.2.1 dX15_position_10 rfl (lv_at hl 1 rfl) ?_
  obtain ⟨o_3, eo_3, hE⟩ := cl_e hE
  have m1 := moX15_freePlace eo_3
  have m2 := moX15_position_14 hE
  refine x_kI (o := o_3) (z_runV (As := []) (rest := []) C (ct_X15_freePlace l X F k_x0 eo_3) cw_X15_402 hW hZ k_x0 (by decide) rfl rfl rfl hl.1 (Nat.le_of_ble_eq_true rfl) rfl dX15_position_11 ⟨Nat.le_of_ble_eq_true rfl, Nat.le_of_ble_eq_true rfl⟩ (rm_ok0 hkl m1 m2)) hZ (fun _ _ hW km hZ => ?_)
  replace hkl := hkl.tr km.l
  refine x_wc km ?_
  replace k_x0 := km.at k_x0 (by decide)
  exact bX15_position_14 C k_x0 hkl hW hZ _ (lv_sub hl [1, 0] rfl) hE
theorem dX15_has_0 : decode cX15_has 0 = .ok (.iload_n 1, 1) := by decide +kernel
theorem dX15_has_1 : decode cX15_has 1 = .ok (.ifCond .lt 22, 3) := by decide +kernel
theorem dX15_has_4 : decode cX15_has 4 = .ok (.iload_n 1, 1) := by decide +kernel
theorem dX15_has_5 : decode cX15_has 5 = .ok (.bipush 60, 2) := by decide +kernel
theorem dX15_has_7 : decode cX15_has 7 = .ok (.if_icmp .ge 16, 3) := by decide +kernel
theorem dX15_has_10 : decode cX15_has 10 = .ok (.aload_n 0, 1) := by decide +kernel
theorem dX15_has_11 : decode cX15_has 11 = .ok (.getfield 261, 3) := by decide +kernel
theorem dX15_has_14 : decode cX15_has 14 = .ok (.iload_n 1, 1) := by decide +kernel
theorem dX15_has_15 : decode cX15_has 15 = .ok (.iaload, 1) := by decide +kernel
theorem dX15_has_16 : decode cX15_has 16 = .ok (.ifCond .le 7, 3) := by decide +kernel
theorem dX15_has_19 : decode cX15_has 19 = .ok (.iconst 1, 1) := by decide +kernel
theorem dX15_has_20 : decode cX15_has 20 = .ok (.goto 4, 3) := by decide +kernel
theorem dX15_has_23 : decode cX15_has 23 = .ok (.iconst 0, 1) := by decide +kernel
theorem dX15_has_24 : decode cX15_has 24 = .ok (.ireturn, 1) := by decide +kernel
set_option maxRecDepth 20000 in
theorem moX15_has_24 {o : Int32 × Hp} {h : Hp} {t0 : Int32} (hE : sX15_has_24 h  t0 = some o) : Le h o.2 := by
  obtain ⟨g_1, hE⟩ := gd_e hE
  exact le_some2 hE
set_option maxRecDepth 20000 in
theorem moX15_has_23 {o : Int32 × Hp} {h : Hp} (hE : sX15_has_23 h  = some o) : Le h o.2 := by
  exact moX15_has_24 hE
set_option maxRecDepth 20000 in
theorem moX15_has {o : Int32 × Hp} {h : Hp} {x0 : Nat} {x1 : Int32} (hE : sX15_has h x0 x1 = some o) : Le h o.2 := by
  rcases br_e hE with ⟨_, hE⟩ | ⟨_, hE⟩
  · exact moX15_has_23 hE
  · rcases br_e hE with ⟨_, hE⟩ | ⟨_, hE⟩
    · exact moX15_has_23 hE
    · obtain ⟨r_3, er_3, hE⟩ := cl_e hE
      obtain ⟨g_4, hE⟩ := gd_e hE
      rcases br_e hE with ⟨_, hE⟩ | ⟨_, hE⟩
      · exact moX15_has_23 hE
      · exact moX15_has_24 hE
set_option maxRecDepth 20000 in
theorem bX15_has_24 {p : Program} {l : Launch} {e : Env} {s : State} {m : MethodId} {args : Array Value} {below : List Frame} {meth : Method} {c : Code} {X : Ec} {h0 : Hp} {o : Int32 × Hp} (C : Cx X p s m args meth c RX15 cX15_has 2 (some .boolean) "has") {h : Hp} {t0 : Int32} {H : Heap} {locs : List Loc} (hkm : Km h0 h) (hW : Wx X h H) (hZ : va_S (aA (eB X)) s.heap H locs) (ls : Array Slot) (hl : lv_has ls 2 []) (hE : sX15_has_24 h  t0 = some o) : W p l e (rm 0 0) s m args below meth c H locs 0 0 (MQ below (QI X h0 o.1 o.2) args s 0 0 (aA (eB X))) (F0 m 24 ls [.int t0]) := by
  obtain ⟨g_1, hE⟩ := gd_e hE
  exact x_iret C rfl (narB g_1) hW hZ hkm hE dX15_has_24
set_option maxRecDepth 20000 in
theorem bX15_has_23 {p : Program} {l : Launch} {e : Env} {s : State} {m : MethodId} {args : Array Value} {below : List Frame} {meth : Method} {c : Code} {X : Ec} {h0 : Hp} {o : Int32 × Hp} (C : Cx X p s m args meth c RX15 cX15_has 2 (some .boolean) "has") {h : Hp} {H : Heap} {locs : List Loc} (hkm : Km h0 h) (hW : Wx X h H) (hZ : va_S (aA (eB X)) s.heap H locs) (ls : Array Slot) (hl : lv_has ls 2 []) (hE : sX15_has_23 h  = some o) : W p l e (rm 0 0) s m args below meth c H locs 0 0 (MQ below (QI X h0 o.1 o.2) args s 0 0 (aA (eB X))) (F0 m 23 ls []) := by
  refine lv_iconst (v := (0 : Int32)) C.1 C.2.1 dX15_has_23 (by decide) ?_
  exact bX15_has_24 C hkm hW hZ _ (lv_sub hl [] rfl) hE
set_option maxRecDepth 20000 in
theorem ct_X15_has (l : Launch) (X : Ec) {h : Hp} {x0 : Nat} {x1 : Int32} {o : Int32 × Hp} (k_x0 : hK h x0 = 15) (hE : sX15_has h x0 x1 = some o) : MetI l yX15_has cX15_has 2 (some .boolean) 0 0 X [.ref x0, .int x1] h o := by
  refine x_met (by decide) (Nat.le_of_ble_eq_true rfl) ?_
  intro p e s m below meth c ls C hl hW hZ
  have hl : lv_has ls 2 [(0, .ref x0), (1, .int x1)] := hl
  have hkm : Km h h := Km.rf h
  refine lv_iload_n C.1 C.2.1 dX15_has_0 rfl (lv_at hl 1 rfl) ?_
  refine lv_if_lt (tgt := 23) C.1 C.2.1 dX15_has_1 (by decide) (fun c_1 => ?_) (fun c_1 => ?_)
  · have hE := br_p hE c_1
    exact bX15_has_23 C hkm hW hZ _ (lv_sub hl [] rfl) hE
  · have hE := br_n hE c_1
    refine lv_iload_n C.1 C.2.1 dX15_has_4 rfl (lv_at hl 1 rfl) ?_
    refine lv_bipush (v := (60 : Int32)) C.1 C.2.1 dX15_has_5 (by decide) ?_
    refine lv_icmp_ge (tgt := 23) C.1 C.2.1 dX15_has_7 (by decide) (fun c_2 => ?_) (fun c_2 => ?_)
    · have hE := br_p hE c_2
      exact bX15_has_23 C hkm hW hZ _ (lv_sub hl [] rfl) hE
    · have hE := br_n hE c_2
      refine lv_aload_n C.1 C.2.1 dX15_has_10 rfl (lv_at hl 0 rfl) ?_
      obtain ⟨r_3, er_3, hE⟩ := cl_e hE
      refine gf_X15_261 C hW k_x0 er_3 dX15_has_11 (fun k_r_3 => ?_)
      refine lv_iload_n C.1 C.2.1 dX15_has_14 rfl (lv_at hl 1 rfl) ?_
      obtain ⟨g_4, hE⟩ := gd_e hE
      refine y_iald C hW k_r_3 g_4 dX15_has_15 ?_
      refine lv_if_le (tgt := 23) C.1 C.2.1 dX15_has_16 (by decide) (fun c_5 => ?_) (fun c_5 => ?_)
      · have hE := br_p hE c_5
        exact bX15_has_23 C hkm hW hZ _ (lv_sub hl [] rfl) hE
      · have hE := br_n hE c_5
        refine lv_iconst (v := (1 : Int32)) C.1 C.2.1 dX15_has_19 (by decide) ?_
        refine lv_goto (tgt := 24) C.1 C.2.1 dX15_has_20 (by decide) ?_
        exact bX15_has_24 C hkm hW hZ _ (lv_sub hl [] rfl) hE
set_option maxRecDepth 100000 in
theorem ms_160 : Cond.selects RX15 yX15_has yX15_has ∈ W0 := w0_in (List.mem_append_left _ (List.mem_of_getElem? (i := 160) rfl)) rfl
set_option maxRecDepth 100000 in
theorem m_2467 : Cond.methodLink RX15 486 yX15_has ∈ W0 := w0_in (List.mem_append_right _ (List.mem_of_getElem? (i := 2467) rfl)) rfl
set_option maxRecDepth 100000 in
theorem m_2469 : Cond.instanceMethod yX15_has ∈ W0 := w0_in (List.mem_append_right _ (List.mem_of_getElem? (i := 2469) rfl)) rfl
set_option maxRecDepth 100000 in
theorem m_2470 : Cond.code yX15_has cX15_has 2 (some .boolean) ∈ W0 := w0_in (List.mem_append_right _ (List.mem_of_getElem? (i := 2470) rfl)) rfl
theorem cw_X15_486 : cwd RX15 486 yX15_has cX15_has 2 (some .boolean) false 1 := ⟨m_2470, m_2467, m_19, ⟨m_2469, ms_160⟩, by decide, by decide, by decide +kernel⟩
theorem dX15_drop_0 : decode cX15_drop 0 = .ok (.aload_n 0, 1) := by decide +kernel
theorem dX15_drop_1 : decode cX15_drop 1 = .ok (.iload_n 1, 1) := by decide +kernel
theorem dX15_drop_2 : decode cX15_drop 2 = .ok (.invokevirtual 486, 3) := by decide +kernel
theorem dX15_drop_5 : decode cX15_drop 5 = .ok (.ifCond .ne 6, 3) := by decide +kernel
theorem dX15_drop_8 : decode cX15_drop 8 = .ok (.bipush (-102), 2) := by decide +kernel
theorem dX15_drop_10 : decode cX15_drop 10 = .ok (.ireturn, 1) := by decide +kernel
theorem dX15_drop_11 : decode cX15_drop 11 = .ok (.aload_n 0, 1) := by decide +kernel
theorem dX15_drop_12 : decode cX15_drop 12 = .ok (.getfield 261, 3) := by decide +kernel
theorem dX15_drop_15 : decode cX15_drop 15 = .ok (.iload_n 1, 1) := by decide +kernel
theorem dX15_drop_16 : decode cX15_drop 16 = .ok (.iconst 0, 1) := by decide +kernel
theorem dX15_drop_17 : decode cX15_drop 17 = .ok (.iastore, 1) := by decide +kernel
theorem dX15_drop_18 : decode cX15_drop 18 = .ok (.iconst 1, 1) := by decide +kernel
theorem dX15_drop_19 : decode cX15_drop 19 = .ok (.ireturn, 1) := by decide +kernel
set_option maxRecDepth 20000 in
theorem moX15_drop {o : Int32 × Hp} {h : Hp} {x0 : Nat} {x1 : Int32} (hE : sX15_drop h x0 x1 = some o) : Le h o.2 := by
  obtain ⟨o_1, eo_1, hE⟩ := cl_e hE
  refine (moX15_has eo_1).tr ?_
  rcases br_e hE with ⟨_, hE⟩ | ⟨_, hE⟩
  · exact le_some2 hE
  · obtain ⟨r_3, er_3, hE⟩ := cl_e hE
    obtain ⟨g_4, hE⟩ := gd_e hE
    obtain ⟨h_5, eh_5, hE⟩ := nm_e2 hE
    refine (le_I eh_5).tr ?_
    exact le_some2 hE
set_option maxRecDepth 20000 in
theorem ct_X15_drop (l : Launch) (X : Ec) {h : Hp} {x0 : Nat} {x1 : Int32} {o : Int32 × Hp} (k_x0 : hK h x0 = 15) (hE : sX15_drop h x0 x1 = some o) : MetI l yX15_drop cX15_drop 2 (some .int) 1 21 X [.ref x0, .int x1] h o := by
  refine x_met (by decide) (Nat.le_of_ble_eq_true rfl) ?_
  intro p e s m below meth c ls C hl hW hZ
  have hl : lv_has ls 2 [(0, .ref x0), (1, .int x1)] := hl
  have hkm : Km h h := Km.rf h
  refine lv_aload_n C.1 C.2.1 dX15_drop_0 rfl (lv_at hl 0 rfl) ?_
  refine lv_iload_n C.1 C.2.1 dX15_drop_1 rfl (lv_at hl 1 rfl) ?_
  obtain ⟨o_1, eo_1, hE⟩ := cl_e hE
  refine x_kI (o := o_1) (z_runV (As := [.int x1]) (rest := []) C (ct_X15_has l X k_x0 eo_1) cw_X15_486 hW hZ k_x0 (by decide) rfl rfl rfl hl.1 (Nat.le_of_ble_eq_true rfl) rfl dX15_drop_2 ⟨Nat.le_of_ble_eq_true rfl, Nat.le_of_ble_eq_true rfl⟩ ⟨Nat.le_refl _, Nat.le_refl _⟩) hZ (fun _ _ hW km hZ => ?_)
  replace hkm := hkm.tr km
  replace k_x0 := km.at k_x0 (by decide)
  refine lv_if_ne (tgt := 11) C.1 C.2.1 dX15_drop_5 (by decide) (fun c_2 => ?_) (fun c_2 => ?_)
  · have hE := br_n hE c_2
    refine lv_aload_n C.1 C.2.1 dX15_drop_11 rfl (lv_at hl 0 rfl) ?_
    obtain ⟨r_3, er_3, hE⟩ := cl_e hE
    refine gf_X15_261 C hW k_x0 er_3 dX15_drop_12 (fun k_r_3 => ?_)
    refine lv_iload_n C.1 C.2.1 dX15_drop_15 rfl (lv_at hl 1 rfl) ?_
    refine lv_iconst (v := (0 : Int32)) C.1 C.2.1 dX15_drop_16 (by decide) ?_
    obtain ⟨g_4, hE⟩ := gd_e hE
    obtain ⟨h_5, eh_5, hE⟩ := nm_e2 hE
    refine y_iast C hW hZ k_r_3 g_4 eh_5 dX15_drop_17 (fun _ _ hW km hZ => ?_)
    replace hkm := hkm.tr km
    replace k_x0 := km.at k_x0 (by decide)
    refine lv_iconst (v := (1 : Int32)) C.1 C.2.1 dX15_drop_18 (by decide) ?_
    exact x_iret C rfl rfl hW hZ hkm hE dX15_drop_19
  · have hE := br_p hE c_2
    refine lv_bipush (v := (-102 : Int32)) C.1 C.2.1 dX15_drop_8 (by decide) ?_
    exact x_iret C rfl rfl hW hZ hkm hE dX15_drop_10
section
variable {p : Program} {l : Launch} {e : Env} {R : Room} {s : State} {m : MethodId} {args : Array Value} {below : List Frame} {meth : Method} {c : Code} {H : Heap} {locs : List Loc} {cells slots : Nat} {Q : State → Prop}
variable {cc : ByteArray} {pc : Nat} {ls : Array Slot} {rest : List Value} {X : Ec} {h h1 : Hp} {nL : Nat} {rt : Option FieldType} {mn : String}
theorem pf_X15_11 {a : Nat} {v : Int32} (C : Cx X p s m args meth c RX15 cc nL rt mn) (hW : Wx X h H) (hZ : va_S (aA (eB X)) s.heap H locs) (ha : hK h a = 15) (eh : h1 = wI h a 3 v) (hdg : decode cc pc = .ok (.putfield 11, 3)) (kk : ∀ (H1 : Heap) (locs1 : List Loc), Wx X h1 H1 → Km h h1 → va_S (aA (eB X)) s.heap H1 locs1 → W p l e R s m args below meth c H1 locs1 cells slots Q (F0 m (pc + 3) ls rest)) : W p l e R s m args below meth c H locs cells slots Q (F0 m pc ls (.int v :: .ref a :: rest)) :=
  y_puti (ty := .int) C hW hZ ha i_X15 tyX15 tyX15_ok nmX15 (by decide) rfl rfl (by decide) m_2114 rfl (by decide +kernel) rfl rfl rfl eh hdg kk
end
theorem dX15_say_0 : decode cX15_say 0 = .ok (.aload_n 0, 1) := by decide +kernel
theorem dX15_say_1 : decode cX15_say 1 = .ok (.getfield 14, 3) := by decide +kernel
theorem dX15_say_4 : decode cX15_say 4 = .ok (.aload_n 0, 1) := by decide +kernel
theorem dX15_say_5 : decode cX15_say 5 = .ok (.getfield 11, 3) := by decide +kernel
theorem dX15_say_8 : decode cX15_say 8 = .ok (.iload_n 1, 1) := by decide +kernel
theorem dX15_say_9 : decode cX15_say 9 = .ok (.i2b, 1) := by decide +kernel
theorem dX15_say_10 : decode cX15_say 10 = .ok (.bastore, 1) := by decide +kernel
theorem dX15_say_11 : decode cX15_say 11 = .ok (.aload_n 0, 1) := by decide +kernel
theorem dX15_say_12 : decode cX15_say 12 = .ok (.dup, 1) := by decide +kernel
theorem dX15_say_13 : decode cX15_say 13 = .ok (.getfield 11, 3) := by decide +kernel
theorem dX15_say_16 : decode cX15_say 16 = .ok (.iconst 1, 1) := by decide +kernel
theorem dX15_say_17 : decode cX15_say 17 = .ok (.iadd, 1) := by decide +kernel
theorem dX15_say_18 : decode cX15_say 18 = .ok (.putfield 11, 3) := by decide +kernel
theorem dX15_say_21 : decode cX15_say 21 = .ok (.return_, 1) := by decide +kernel
set_option maxRecDepth 20000 in
theorem moX15_say {o : Hp} {h : Hp} {x0 : Nat} {x1 : Int32} (hE : sX15_say h x0 x1 = some o) : Le h o := by
  obtain ⟨r_1, er_1, hE⟩ := cl_e hE
  obtain ⟨g_2, hE⟩ := gd_e hE
  obtain ⟨h_3, eh_3, hE⟩ := nm_e2 hE
  refine (le_I eh_3).tr ?_
  obtain ⟨h_4, eh_4, hE⟩ := nm_e2 hE
  refine (le_I eh_4).tr ?_
  exact le_some1 hE
set_option maxRecDepth 20000 in
theorem ct_X15_say (l : Launch) (X : Ec) {h : Hp} {x0 : Nat} {x1 : Int32} {o : Hp} (k_x0 : hK h x0 = 15) (hE : sX15_say h x0 x1 = some o) : MetV l yX15_say cX15_say 2 none 0 0 X [.ref x0, .int x1] h o := by
  refine x_met (by decide) (Nat.le_of_ble_eq_true rfl) ?_
  intro p e s m below meth c ls C hl hW hZ
  have hl : lv_has ls 2 [(0, .ref x0), (1, .int x1)] := hl
  have hkm : Km h h := Km.rf h
  refine lv_aload_n C.1 C.2.1 dX15_say_0 rfl (lv_at hl 0 rfl) ?_
  obtain ⟨r_1, er_1, hE⟩ := cl_e hE
  refine gf_X15_14 C hW k_x0 er_1 dX15_say_1 (fun k_r_1 => ?_)
  refine lv_aload_n C.1 C.2.1 dX15_say_4 rfl (lv_at hl 0 rfl) ?_
  refine gf_X15_11 C hW k_x0 dX15_say_5 ?_
  refine lv_iload_n C.1 C.2.1 dX15_say_8 rfl (lv_at hl 1 rfl) ?_
  refine lv_i2b C.1 C.2.1 dX15_say_9 rfl ?_
  obtain ⟨g_2, hE⟩ := gd_e hE
  obtain ⟨h_3, eh_3, hE⟩ := nm_e2 hE
  refine y_bast C hW hZ k_r_1 g_2 eh_3 dX15_say_10 (fun _ _ hW km hZ => ?_)
  replace hkm := hkm.tr km
  replace k_x0 := km.at k_x0 (by decide)
  refine lv_aload_n C.1 C.2.1 dX15_say_11 rfl (lv_at hl 0 rfl) ?_
  refine lv_dup C.1 C.2.1 dX15_say_12 rfl ?_
  refine gf_X15_11 C hW k_x0 dX15_say_13 ?_
  refine lv_iconst (v := (1 : Int32)) C.1 C.2.1 dX15_say_16 (by decide) ?_
  refine lv_iadd C.1 C.2.1 dX15_say_17 ?_
  obtain ⟨h_4, eh_4, hE⟩ := nm_e2 hE
  refine pf_X15_11 C hW hZ k_x0 eh_4 dX15_say_18 (fun _ _ hW km hZ => ?_)
  replace hkm := hkm.tr km
  replace k_x0 := km.at k_x0 (by decide)
  exact x_vret C rfl hW hZ hkm hE dX15_say_21
set_option maxRecDepth 100000 in
theorem ms_164 : Cond.selects RX15 yX15_say yX15_say ∈ W0 := w0_in (List.mem_append_left _ (List.mem_of_getElem? (i := 164) rfl)) rfl
set_option maxRecDepth 100000 in
theorem ms_163 : Cond.selects RX15 yX15_sayNumber yX15_sayNumber ∈ W0 := w0_in (List.mem_append_left _ (List.mem_of_getElem? (i := 163) rfl)) rfl
set_option maxRecDepth 100000 in
theorem m_2484 : Cond.methodLink RX15 17 yX15_sayNumber ∈ W0 := w0_in (List.mem_append_right _ (List.mem_of_getElem? (i := 2484) rfl)) rfl
set_option maxRecDepth 100000 in
theorem m_2486 : Cond.instanceMethod yX15_sayNumber ∈ W0 := w0_in (List.mem_append_right _ (List.mem_of_getElem? (i := 2486) rfl)) rfl
set_option maxRecDepth 100000 in
theorem m_2487 : Cond.code yX15_sayNumber cX15_sayNumber 2 none ∈ W0 := w0_in (List.mem_append_right _ (List.mem_of_getElem? (i := 2487) rfl)) rfl
set_option maxRecDepth 100000 in
theorem m_2488 : Cond.methodLink RX15 21 yX15_say ∈ W0 := w0_in (List.mem_append_right _ (List.mem_of_getElem? (i := 2488) rfl)) rfl
set_option maxRecDepth 100000 in
theorem m_2490 : Cond.instanceMethod yX15_say ∈ W0 := w0_in (List.mem_append_right _ (List.mem_of_getElem? (i := 2490) rfl)) rfl
set_option maxRecDepth 100000 in
theorem m_2491 : Cond.code yX15_say cX15_say 2 none ∈ W0 := w0_in (List.mem_append_right _ (List.mem_of_getElem? (i := 2491) rfl)) rfl
theorem cw_X15_21 : cwd RX15 21 yX15_say cX15_say 2 none false 1 := ⟨m_2491, m_2488, m_19, ⟨m_2490, ms_164⟩, by decide, by decide, by decide +kernel⟩
theorem cw_X15_17 : cwd RX15 17 yX15_sayNumber cX15_sayNumber 2 none false 1 := ⟨m_2487, m_2484, m_19, ⟨m_2486, ms_163⟩, by decide, by decide, by decide +kernel⟩
theorem dX15_sayNumber_0 : decode cX15_sayNumber 0 = .ok (.iload_n 1, 1) := by decide +kernel
theorem dX15_sayNumber_1 : decode cX15_sayNumber 1 = .ok (.bipush 10, 2) := by decide +kernel
theorem dX15_sayNumber_3 : decode cX15_sayNumber 3 = .ok (.if_icmp .lt 11, 3) := by decide +kernel
theorem dX15_sayNumber_6 : decode cX15_sayNumber 6 = .ok (.aload_n 0, 1) := by decide +kernel
theorem dX15_sayNumber_7 : decode cX15_sayNumber 7 = .ok (.iload_n 1, 1) := by decide +kernel
theorem dX15_sayNumber_8 : decode cX15_sayNumber 8 = .ok (.bipush 10, 2) := by decide +kernel
theorem dX15_sayNumber_10 : decode cX15_sayNumber 10 = .ok (.idiv, 1) := by decide +kernel
theorem dX15_sayNumber_11 : decode cX15_sayNumber 11 = .ok (.invokevirtual 17, 3) := by decide +kernel
theorem dX15_sayNumber_14 : decode cX15_sayNumber 14 = .ok (.aload_n 0, 1) := by decide +kernel
theorem dX15_sayNumber_15 : decode cX15_sayNumber 15 = .ok (.bipush 48, 2) := by decide +kernel
theorem dX15_sayNumber_17 : decode cX15_sayNumber 17 = .ok (.iload_n 1, 1) := by decide +kernel
theorem dX15_sayNumber_18 : decode cX15_sayNumber 18 = .ok (.bipush 10, 2) := by decide +kernel
theorem dX15_sayNumber_20 : decode cX15_sayNumber 20 = .ok (.irem, 1) := by decide +kernel
theorem dX15_sayNumber_21 : decode cX15_sayNumber 21 = .ok (.iadd, 1) := by decide +kernel
theorem dX15_sayNumber_22 : decode cX15_sayNumber 22 = .ok (.invokevirtual 21, 3) := by decide +kernel
theorem dX15_sayNumber_25 : decode cX15_sayNumber 25 = .ok (.return_, 1) := by decide +kernel
set_option maxRecDepth 20000 in
theorem moX15_sayNumber_14 {o : Hp} {F : Nat} {r_X15_sayNumber : Hp → Nat → Int32 → Option (Hp)} (mr_X15_sayNumber : ∀ {h : Hp} {x0 : Nat} {x1 : Int32} {o : Hp}, r_X15_sayNumber h x0 x1 = some o → Le h o) {h : Hp} {x0 : Nat} {x1 : Int32} (hE : sX15_sayNumber_14 F r_X15_sayNumber h x0 x1 = some o) : Le h o := by
  obtain ⟨o_1, eo_1, hE⟩ := cl_e hE
  refine (moX15_say eo_1).tr ?_
  exact le_some1 hE
set_option maxRecDepth 20000 in
theorem mooX15_sayNumber {o : Hp} {F : Nat} {r_X15_sayNumber : Hp → Nat → Int32 → Option (Hp)} (mr_X15_sayNumber : ∀ {h : Hp} {x0 : Nat} {x1 : Int32} {o : Hp}, r_X15_sayNumber h x0 x1 = some o → Le h o) {h : Hp} {x0 : Nat} {x1 : Int32} (hE : oX15_sayNumber F r_X15_sayNumber h x0 x1 = some o) : Le h o := by
  rcases br_e hE with ⟨_, hE⟩ | ⟨_, hE⟩
  · exact moX15_sayNumber_14 mr_X15_sayNumber hE
  · obtain ⟨o_2, eo_2, hE⟩ := cl_e hE
    refine (mr_X15_sayNumber eo_2).tr ?_
    exact moX15_sayNumber_14 mr_X15_sayNumber hE
set_option maxRecDepth 20000 in
theorem bX15_sayNumber_14 {p : Program} {l : Launch} {e : Env} {s : State} {m : MethodId} {args : Array Value} {below : List Frame} {meth : Method} {c : Code} {X : Ec} {h0 : Hp} {o : Hp} {d : Nat} {r_X15_sayNumber : Hp → Nat → Int32 → Option (Hp)} {F : Nat} (C : Cx X p s m args meth c RX15 cX15_sayNumber 2 none "sayNumber") (hr_X15_sayNumber : ∀ {h : Hp} {x0 : Nat} {x1 : Int32} {o : Hp}, hK h x0 = 15 → r_X15_sayNumber h x0 x1 = some o → MetV l yX15_sayNumber cX15_sayNumber 2 none  (d + 2) (d * 21 + 21) X [.ref x0, .int x1] h o) (mr_X15_sayNumber : ∀ {h : Hp} {x0 : Nat} {x1 : Int32} {o : Hp}, r_X15_sayNumber h x0 x1 = some o → Le h o) {h : Hp} {x0 : Nat} {x1 : Int32} {H : Heap} {locs : List Loc} (k_x0 : hK h x0 = 15) (hkm : Km h0 h) (hW : Wx X h H) (hZ : va_S (aA (eB X)) s.heap H locs) (ls : Array Slot) (hl : lv_has ls 2 [(0, .ref x0), (1, .int x1)]) (hE : sX15_sayNumber_14 F r_X15_sayNumber h x0 x1 = some o) : W p l e (rm (d + 1 + 2) ((d + 1) * 21 + 21)) s m args below meth c H locs 0 0 (MQ below (QV X h0 o) args s 0 0 (aA (eB X))) (F0 m 14 ls []) := by
  refine lv_aload_n C.1 C.2.1 dX15_sayNumber_14 rfl (lv_at hl 0 rfl) ?_
  refine lv_bipush (v := (48 : Int32)) C.1 C.2.1 dX15_sayNumber_15 (by decide) ?_
  refine lv_iload_n C.1 C.2.1 dX15_sayNumber_17 rfl (lv_at hl 1 rfl) ?_
  refine lv_bipush (v := (10 : Int32)) C.1 C.2.1 dX15_sayNumber_18 (by decide) ?_
  refine lv_irem C.1 C.2.1 dX15_sayNumber_20 (by decide) ?_
  refine lv_iadd C.1 C.2.1 dX15_sayNumber_21 ?_
  obtain ⟨o_1, eo_1, hE⟩ := cl_e hE
  refine x_kV (o := o_1) (z_runV (As := [.int ((48 : Int32) + (x1 - x1 / (10 : Int32) * (10 : Int32)))]) (rest := []) C (ct_X15_say l X k_x0 eo_1) cw_X15_21 hW hZ k_x0 (by decide) rfl rfl rfl hl.1 (Nat.le_of_ble_eq_true rfl) rfl dX15_sayNumber_22 ⟨by dsimp only [rm, rmA]; omega, by dsimp only [rm, rmA]; omega⟩ ⟨Nat.le_refl _, Nat.le_refl _⟩) hZ (fun _ _ hW km hZ => ?_)
  replace hkm := hkm.tr km
  replace k_x0 := km.at k_x0 (by decide)
  exact x_vret C rfl hW hZ hkm hE dX15_sayNumber_25
set_option maxRecDepth 20000 in
theorem ot_X15_sayNumber (l : Launch) (X : Ec) (F : Nat) {d : Nat} {r_X15_sayNumber : Hp → Nat → Int32 → Option (Hp)} (hr_X15_sayNumber : ∀ {h : Hp} {x0 : Nat} {x1 : Int32} {o : Hp}, hK h x0 = 15 → r_X15_sayNumber h x0 x1 = some o → MetV l yX15_sayNumber cX15_sayNumber 2 none  (d + 2) (d * 21 + 21) X [.ref x0, .int x1] h o) (mr_X15_sayNumber : ∀ {h : Hp} {x0 : Nat} {x1 : Int32} {o : Hp}, r_X15_sayNumber h x0 x1 = some o → Le h o) {h : Hp} {x0 : Nat} {x1 : Int32} {o : Hp} (k_x0 : hK h x0 = 15) (hE : oX15_sayNumber F r_X15_sayNumber h x0 x1 = some o) : MetV l yX15_sayNumber cX15_sayNumber 2 none (d + 1 + 2) ((d + 1) * 21 + 21) X [.ref x0, .int x1] h o := by
  refine x_met (by decide) (Nat.le_of_ble_eq_true rfl) ?_
  intro p e s m below meth c ls C hl hW hZ
  have hl : lv_has ls 2 [(0, .ref x0), (1, .int x1)] := hl
  have hkm : Km h h := Km.rf h
  refine lv_iload_n C.1 C.2.1 dX15_sayNumber_0 rfl (lv_at hl 1 rfl) ?_
  refine lv_bipush (v := (10 : Int32)) C.1 C.2.1 dX15_sayNumber_1 (by decide) ?_
  refine lv_icmp_lt (tgt := 14) C.1 C.2.1 dX15_sayNumber_3 (by decide) (fun c_1 => ?_) (fun c_1 => ?_)
  · have hE := br_p hE c_1
    exact bX15_sayNumber_14 C hr_X15_sayNumber mr_X15_sayNumber k_x0 hkm hW hZ _ (lv_sub hl [0, 1] rfl) hE
  · have hE := br_n hE c_1
    refine lv_aload_n C.1 C.2.1 dX15_sayNumber_6 rfl (lv_at hl 0 rfl) ?_
    refine lv_iload_n C.1 C.2.1 dX15_sayNumber_7 rfl (lv_at hl 1 rfl) ?_
    refine lv_bipush (v := (10 : Int32)) C.1 C.2.1 dX15_sayNumber_8 (by decide) ?_
    refine lv_idiv C.1 C.2.1 dX15_sayNumber_10 (by decide) ?_
    obtain ⟨o_2, eo_2, hE⟩ := cl_e hE
    refine x_kV (o := o_2) (z_runV (As := [.int (x1 / (10 : Int32))]) (rest := []) C (hr_X15_sayNumber k_x0 eo_2) cw_X15_17 hW hZ k_x0 (by decide) rfl rfl rfl hl.1 (Nat.le_of_ble_eq_true rfl) rfl dX15_sayNumber_11 ⟨by dsimp only [rm, rmA]; omega, by dsimp only [rm, rmA]; omega⟩ ⟨Nat.le_refl _, Nat.le_refl _⟩) hZ (fun _ _ hW km hZ => ?_)
    replace hkm := hkm.tr km
    replace k_x0 := km.at k_x0 (by decide)
    exact bX15_sayNumber_14 C hr_X15_sayNumber mr_X15_sayNumber k_x0 hkm hW hZ _ (lv_sub hl [0, 1] rfl) hE
theorem qmX15_sayNumber (F : Nat) : ∀ (d : Nat), (∀ {h : Hp} {x0 : Nat} {x1 : Int32} {o : Hp}, (qX15_sayNumber F d) h x0 x1 = some o → Le h o) := by
  intro d
  induction d with
  | zero => exact fun hE => (by cases hE)
  | succ d ih => exact fun hE => mooX15_sayNumber (ih) hE
theorem qtX15_sayNumber (l : Launch) (X : Ec) (F : Nat) : ∀ (d : Nat), (∀ {h : Hp} {x0 : Nat} {x1 : Int32} {o : Hp}, hK h x0 = 15 → (qX15_sayNumber F d) h x0 x1 = some o → MetV l yX15_sayNumber cX15_sayNumber 2 none  (d + 2) (d * 21 + 21) X [.ref x0, .int x1] h o) := by
  intro d
  induction d with
  | zero => exact fun k_x0 hE => (by cases hE)
  | succ d ih => exact fun k_x0 hE => ot_X15_sayNumber l X F (ih) (qmX15_sayNumber F d) k_x0 hE
theorem moX15_sayNumber {o : Hp} {F : Nat} {h : Hp} {x0 : Nat} {x1 : Int32} (hE : sX15_sayNumber F h x0 x1 = some o) : Le h o := (qmX15_sayNumber F 12) hE
theorem ct_X15_sayNumber (l : Launch) (X : Ec) (F : Nat) {h : Hp} {x0 : Nat} {x1 : Int32} {o : Hp} (k_x0 : hK h x0 = 15) (hE : sX15_sayNumber F h x0 x1 = some o) : MetV l yX15_sayNumber cX15_sayNumber 2 none 14 273 X [.ref x0, .int x1] h o := (qtX15_sayNumber l X F 12) k_x0 hE
theorem dX15_letterOf_0 : decode cX15_letterOf 0 = .ok (.aload_n 0, 1) := by decide +kernel
theorem dX15_letterOf_1 : decode cX15_letterOf 1 = .ok (.getfield 252, 3) := by decide +kernel
theorem dX15_letterOf_4 : decode cX15_letterOf 4 = .ok (.getfield 172, 3) := by decide +kernel
theorem dX15_letterOf_7 : decode cX15_letterOf 7 = .ok (.iload_n 1, 1) := by decide +kernel
theorem dX15_letterOf_8 : decode cX15_letterOf 8 = .ok (.invokestatic 492, 3) := by decide +kernel
theorem dX15_letterOf_11 : decode cX15_letterOf 11 = .ok (.iaload, 1) := by decide +kernel
theorem dX15_letterOf_12 : decode cX15_letterOf 12 = .ok (.iload_n 1, 1) := by decide +kernel
theorem dX15_letterOf_13 : decode cX15_letterOf 13 = .ok (.invokestatic 489, 3) := by decide +kernel
theorem dX15_letterOf_16 : decode cX15_letterOf 16 = .ok (.ifCond .ne 8, 3) := by decide +kernel
theorem dX15_letterOf_19 : decode cX15_letterOf 19 = .ok (.bipush 32, 2) := by decide +kernel
theorem dX15_letterOf_21 : decode cX15_letterOf 21 = .ok (.goto 4, 3) := by decide +kernel
theorem dX15_letterOf_24 : decode cX15_letterOf 24 = .ok (.iconst 0, 1) := by decide +kernel
theorem dX15_letterOf_25 : decode cX15_letterOf 25 = .ok (.isub, 1) := by decide +kernel
theorem dX15_letterOf_26 : decode cX15_letterOf 26 = .ok (.ireturn, 1) := by decide +kernel
set_option maxRecDepth 20000 in
theorem moX15_letterOf_25 {o : Int32 × Hp} {h : Hp} {t0 : Int32} {t1 : Int32} (hE : sX15_letterOf_25 h  t0 t1 = some o) : Le h o.2 := by
  exact le_some2 hE
set_option maxRecDepth 20000 in
theorem moX15_letterOf {o : Int32 × Hp} {h : Hp} {x0 : Nat} {x1 : Int32} (hE : sX15_letterOf h x0 x1 = some o) : Le h o.2 := by
  obtain ⟨r_1, er_1, hE⟩ := cl_e hE
  obtain ⟨r_2, er_2, hE⟩ := cl_e hE
  obtain ⟨o_3, eo_3, hE⟩ := cl_e hE
  refine (moX15_manOf eo_3).tr ?_
  obtain ⟨g_4, hE⟩ := gd_e hE
  obtain ⟨o_5, eo_5, hE⟩ := cl_e hE
  refine (moX15_sideOf eo_5).tr ?_
  rcases br_e hE with ⟨_, hE⟩ | ⟨_, hE⟩
  · exact moX15_letterOf_25 hE
  · exact moX15_letterOf_25 hE
set_option maxRecDepth 20000 in
theorem bX15_letterOf_25 {p : Program} {l : Launch} {e : Env} {s : State} {m : MethodId} {args : Array Value} {below : List Frame} {meth : Method} {c : Code} {X : Ec} {h0 : Hp} {o : Int32 × Hp} (C : Cx X p s m args meth c RX15 cX15_letterOf 2 (some .int) "letterOf") {h : Hp} {t0 : Int32} {t1 : Int32} {H : Heap} {locs : List Loc} (hkm : Km h0 h) (hW : Wx X h H) (hZ : va_S (aA (eB X)) s.heap H locs) (ls : Array Slot) (hl : lv_has ls 2 []) (hE : sX15_letterOf_25 h  t0 t1 = some o) : W p l e (rm 1 20) s m args below meth c H locs 0 0 (MQ below (QI X h0 o.1 o.2) args s 0 0 (aA (eB X))) (F0 m 25 ls [.int t0, .int t1]) := by
  refine lv_isub C.1 C.2.1 dX15_letterOf_25 ?_
  exact x_iret C rfl rfl hW hZ hkm hE dX15_letterOf_26
set_option maxRecDepth 20000 in
theorem ct_X15_letterOf (l : Launch) (X : Ec) {h : Hp} {x0 : Nat} {x1 : Int32} {o : Int32 × Hp} (k_x0 : hK h x0 = 15) (hE : sX15_letterOf h x0 x1 = some o) : MetI l yX15_letterOf cX15_letterOf 2 (some .int) 1 20 X [.ref x0, .int x1] h o := by
  refine x_met (by decide) (Nat.le_of_ble_eq_true rfl) ?_
  intro p e s m below meth c ls C hl hW hZ
  have hl : lv_has ls 2 [(0, .ref x0), (1, .int x1)] := hl
  have hkm : Km h h := Km.rf h
  refine lv_aload_n C.1 C.2.1 dX15_letterOf_0 rfl (lv_at hl 0 rfl) ?_
  obtain ⟨r_1, er_1, hE⟩ := cl_e hE
  refine gf_X15_252 C hW k_x0 er_1 dX15_letterOf_1 (fun k_r_1 => ?_)
  obtain ⟨r_2, er_2, hE⟩ := cl_e hE
  refine gf_X15_172 C hW k_r_1 er_2 dX15_letterOf_4 (fun k_r_2 => ?_)
  refine lv_iload_n C.1 C.2.1 dX15_letterOf_7 rfl (lv_at hl 1 rfl) ?_
  obtain ⟨o_3, eo_3, hE⟩ := cl_e hE
  refine x_kI (o := o_3) (z_runS (As := [.int x1]) (rest := [.ref r_2]) C (ct_X15_manOf l X eo_3) cw_X15_492 hW hZ rfl hl.1 (Nat.le_of_ble_eq_true rfl) rfl dX15_letterOf_8 ⟨Nat.le_of_ble_eq_true rfl, Nat.le_of_ble_eq_true rfl⟩ ⟨Nat.le_refl _, Nat.le_refl _⟩) hZ (fun _ _ hW km hZ => ?_)
  replace hkm := hkm.tr km
  replace k_x0 := km.at k_x0 (by decide)
  replace k_r_2 := km.at k_r_2 (by decide)
  obtain ⟨g_4, hE⟩ := gd_e hE
  refine y_iald C hW k_r_2 g_4 dX15_letterOf_11 ?_
  refine lv_iload_n C.1 C.2.1 dX15_letterOf_12 rfl (lv_at hl 1 rfl) ?_
  obtain ⟨o_5, eo_5, hE⟩ := cl_e hE
  refine x_kI (o := o_5) (z_runS (As := [.int x1]) (rest := [.int (hI o_3.2 r_2 o_3.1.toNatClampNeg)]) C (ct_X15_sideOf l X eo_5) cw_X15_489 hW hZ rfl hl.1 (Nat.le_of_ble_eq_true rfl) rfl dX15_letterOf_13 ⟨Nat.le_of_ble_eq_true rfl, Nat.le_of_ble_eq_true rfl⟩ ⟨Nat.le_refl _, Nat.le_refl _⟩) hZ (fun _ _ hW km hZ => ?_)
  replace hkm := hkm.tr km
  replace k_x0 := km.at k_x0 (by decide)
  refine lv_if_ne (tgt := 24) C.1 C.2.1 dX15_letterOf_16 (by decide) (fun c_6 => ?_) (fun c_6 => ?_)
  · have hE := br_n hE c_6
    refine lv_iconst (v := (0 : Int32)) C.1 C.2.1 dX15_letterOf_24 (by decide) ?_
    exact bX15_letterOf_25 C hkm hW hZ _ (lv_sub hl [] rfl) hE
  · have hE := br_p hE c_6
    refine lv_bipush (v := (32 : Int32)) C.1 C.2.1 dX15_letterOf_19 (by decide) ?_
    refine lv_goto (tgt := 25) C.1 C.2.1 dX15_letterOf_21 (by decide) ?_
    exact bX15_letterOf_25 C hkm hW hZ _ (lv_sub hl [] rfl) hE
set_option maxRecDepth 100000 in
theorem ms_165 : Cond.selects RX15 yX15_letterOf yX15_letterOf ∈ W0 := w0_in (List.mem_append_left _ (List.mem_of_getElem? (i := 165) rfl)) rfl
set_option maxRecDepth 100000 in
theorem m_2492 : Cond.methodLink RX15 527 yX15_letterOf ∈ W0 := w0_in (List.mem_append_right _ (List.mem_of_getElem? (i := 2492) rfl)) rfl
set_option maxRecDepth 100000 in
theorem m_2494 : Cond.instanceMethod yX15_letterOf ∈ W0 := w0_in (List.mem_append_right _ (List.mem_of_getElem? (i := 2494) rfl)) rfl
set_option maxRecDepth 100000 in
theorem m_2495 : Cond.code yX15_letterOf cX15_letterOf 2 (some .int) ∈ W0 := w0_in (List.mem_append_right _ (List.mem_of_getElem? (i := 2495) rfl)) rfl
theorem cw_X15_527 : cwd RX15 527 yX15_letterOf cX15_letterOf 2 (some .int) false 1 := ⟨m_2495, m_2492, m_19, ⟨m_2494, ms_165⟩, by decide, by decide, by decide +kernel⟩
theorem dX15_writeMen_0 : decode cX15_writeMen 0 = .ok (.aload_n 0, 1) := by decide +kernel
theorem dX15_writeMen_1 : decode cX15_writeMen 1 = .ok (.getfield 383, 3) := by decide +kernel
theorem dX15_writeMen_4 : decode cX15_writeMen 4 = .ok (.iconst 1, 1) := by decide +kernel
theorem dX15_writeMen_5 : decode cX15_writeMen 5 = .ok (.isub, 1) := by decide +kernel
theorem dX15_writeMen_6 : decode cX15_writeMen 6 = .ok (.istore 4, 2) := by decide +kernel
theorem dX15_writeMen_8 : decode cX15_writeMen 8 = .ok (.iload 4, 2) := by decide +kernel
theorem dX15_writeMen_10 : decode cX15_writeMen 10 = .ok (.ifCond .lt 142, 3) := by decide +kernel
theorem dX15_writeMen_13 : decode cX15_writeMen 13 = .ok (.iconst 0, 1) := by decide +kernel
theorem dX15_writeMen_14 : decode cX15_writeMen 14 = .ok (.istore 5, 2) := by decide +kernel
theorem dX15_writeMen_16 : decode cX15_writeMen 16 = .ok (.iconst 0, 1) := by decide +kernel
theorem dX15_writeMen_17 : decode cX15_writeMen 17 = .ok (.istore 6, 2) := by decide +kernel
theorem dX15_writeMen_19 : decode cX15_writeMen 19 = .ok (.iload 6, 2) := by decide +kernel
theorem dX15_writeMen_21 : decode cX15_writeMen 21 = .ok (.aload_n 0, 1) := by decide +kernel
theorem dX15_writeMen_22 : decode cX15_writeMen 22 = .ok (.getfield 382, 3) := by decide +kernel
theorem dX15_writeMen_25 : decode cX15_writeMen 25 = .ok (.if_icmp .ge 99, 3) := by decide +kernel
theorem dX15_writeMen_28 : decode cX15_writeMen 28 = .ok (.iload 4, 2) := by decide +kernel
theorem dX15_writeMen_30 : decode cX15_writeMen 30 = .ok (.aload_n 0, 1) := by decide +kernel
theorem dX15_writeMen_31 : decode cX15_writeMen 31 = .ok (.getfield 382, 3) := by decide +kernel
theorem dX15_writeMen_34 : decode cX15_writeMen 34 = .ok (.imul, 1) := by decide +kernel
theorem dX15_writeMen_35 : decode cX15_writeMen 35 = .ok (.iload 6, 2) := by decide +kernel
theorem dX15_writeMen_37 : decode cX15_writeMen 37 = .ok (.iadd, 1) := by decide +kernel
theorem dX15_writeMen_38 : decode cX15_writeMen 38 = .ok (.istore 7, 2) := by decide +kernel
theorem dX15_writeMen_40 : decode cX15_writeMen 40 = .ok (.lload_n 2, 1) := by decide +kernel
theorem dX15_writeMen_41 : decode cX15_writeMen 41 = .ok (.iload 7, 2) := by decide +kernel
theorem dX15_writeMen_43 : decode cX15_writeMen 43 = .ok (.lshr, 1) := by decide +kernel
theorem dX15_writeMen_44 : decode cX15_writeMen 44 = .ok (.lconst 1, 1) := by decide +kernel
theorem dX15_writeMen_45 : decode cX15_writeMen 45 = .ok (.land, 1) := by decide +kernel
theorem dX15_writeMen_46 : decode cX15_writeMen 46 = .ok (.lconst 1, 1) := by decide +kernel
theorem dX15_writeMen_47 : decode cX15_writeMen 47 = .ok (.lcmp, 1) := by decide +kernel
theorem dX15_writeMen_48 : decode cX15_writeMen 48 = .ok (.ifCond .ne 7, 3) := by decide +kernel
theorem dX15_writeMen_51 : decode cX15_writeMen 51 = .ok (.iconst 1, 1) := by decide +kernel
theorem dX15_writeMen_52 : decode cX15_writeMen 52 = .ok (.goto 4, 3) := by decide +kernel
theorem dX15_writeMen_55 : decode cX15_writeMen 55 = .ok (.iconst 0, 1) := by decide +kernel
theorem dX15_writeMen_56 : decode cX15_writeMen 56 = .ok (.istore 8, 2) := by decide +kernel
theorem dX15_writeMen_58 : decode cX15_writeMen 58 = .ok (.iload 8, 2) := by decide +kernel
theorem dX15_writeMen_60 : decode cX15_writeMen 60 = .ok (.ifCond .eq 19, 3) := by decide +kernel
theorem dX15_writeMen_63 : decode cX15_writeMen 63 = .ok (.aload_n 1, 1) := by decide +kernel
theorem dX15_writeMen_64 : decode cX15_writeMen 64 = .ok (.getfield 396, 3) := by decide +kernel
theorem dX15_writeMen_67 : decode cX15_writeMen 67 = .ok (.iload 7, 2) := by decide +kernel
theorem dX15_writeMen_69 : decode cX15_writeMen 69 = .ok (.iaload, 1) := by decide +kernel
theorem dX15_writeMen_70 : decode cX15_writeMen 70 = .ok (.ifCond .ne 9, 3) := by decide +kernel
theorem dX15_writeMen_73 : decode cX15_writeMen 73 = .ok (.iinc 5 1, 3) := by decide +kernel
theorem dX15_writeMen_76 : decode cX15_writeMen 76 = .ok (.goto 42, 3) := by decide +kernel
theorem dX15_writeMen_79 : decode cX15_writeMen 79 = .ok (.iload 5, 2) := by decide +kernel
theorem dX15_writeMen_81 : decode cX15_writeMen 81 = .ok (.ifCond .le 9, 3) := by decide +kernel
theorem dX15_writeMen_84 : decode cX15_writeMen 84 = .ok (.aload_n 0, 1) := by decide +kernel
theorem dX15_writeMen_85 : decode cX15_writeMen 85 = .ok (.iload 5, 2) := by decide +kernel
theorem dX15_writeMen_87 : decode cX15_writeMen 87 = .ok (.invokevirtual 17, 3) := by decide +kernel
theorem dX15_writeMen_90 : decode cX15_writeMen 90 = .ok (.iconst 0, 1) := by decide +kernel
theorem dX15_writeMen_91 : decode cX15_writeMen 91 = .ok (.istore 5, 2) := by decide +kernel
theorem dX15_writeMen_93 : decode cX15_writeMen 93 = .ok (.aload_n 0, 1) := by decide +kernel
theorem dX15_writeMen_94 : decode cX15_writeMen 94 = .ok (.iload 8, 2) := by decide +kernel
theorem dX15_writeMen_96 : decode cX15_writeMen 96 = .ok (.ifCond .eq 17, 3) := by decide +kernel
theorem dX15_writeMen_99 : decode cX15_writeMen 99 = .ok (.aload_n 0, 1) := by decide +kernel
theorem dX15_writeMen_100 : decode cX15_writeMen 100 = .ok (.aload_n 1, 1) := by decide +kernel
theorem dX15_writeMen_101 : decode cX15_writeMen 101 = .ok (.getfield 396, 3) := by decide +kernel
theorem dX15_writeMen_104 : decode cX15_writeMen 104 = .ok (.iload 7, 2) := by decide +kernel
theorem dX15_writeMen_106 : decode cX15_writeMen 106 = .ok (.iaload, 1) := by decide +kernel
theorem dX15_writeMen_107 : decode cX15_writeMen 107 = .ok (.invokevirtual 527, 3) := by decide +kernel
theorem dX15_writeMen_110 : decode cX15_writeMen 110 = .ok (.goto 5, 3) := by decide +kernel
theorem dX15_writeMen_113 : decode cX15_writeMen 113 = .ok (.bipush 63, 2) := by decide +kernel
theorem dX15_writeMen_115 : decode cX15_writeMen 115 = .ok (.invokevirtual 21, 3) := by decide +kernel
theorem dX15_writeMen_118 : decode cX15_writeMen 118 = .ok (.iinc 6 1, 3) := by decide +kernel
theorem dX15_writeMen_121 : decode cX15_writeMen 121 = .ok (.goto (-102), 3) := by decide +kernel
theorem dX15_writeMen_124 : decode cX15_writeMen 124 = .ok (.iload 5, 2) := by decide +kernel
theorem dX15_writeMen_126 : decode cX15_writeMen 126 = .ok (.ifCond .le 9, 3) := by decide +kernel
theorem dX15_writeMen_129 : decode cX15_writeMen 129 = .ok (.aload_n 0, 1) := by decide +kernel
theorem dX15_writeMen_130 : decode cX15_writeMen 130 = .ok (.iload 5, 2) := by decide +kernel
theorem dX15_writeMen_132 : decode cX15_writeMen 132 = .ok (.invokevirtual 17, 3) := by decide +kernel
theorem dX15_writeMen_135 : decode cX15_writeMen 135 = .ok (.iload 4, 2) := by decide +kernel
theorem dX15_writeMen_137 : decode cX15_writeMen 137 = .ok (.ifCond .le 9, 3) := by decide +kernel
theorem dX15_writeMen_140 : decode cX15_writeMen 140 = .ok (.aload_n 0, 1) := by decide +kernel
theorem dX15_writeMen_141 : decode cX15_writeMen 141 = .ok (.bipush 47, 2) := by decide +kernel
theorem dX15_writeMen_143 : decode cX15_writeMen 143 = .ok (.invokevirtual 21, 3) := by decide +kernel
theorem dX15_writeMen_146 : decode cX15_writeMen 146 = .ok (.iinc 4 (-1), 3) := by decide +kernel
theorem dX15_writeMen_149 : decode cX15_writeMen 149 = .ok (.goto (-141), 3) := by decide +kernel
theorem dX15_writeMen_152 : decode cX15_writeMen 152 = .ok (.return_, 1) := by decide +kernel
set_option maxRecDepth 20000 in
theorem moX15_writeMen_146 {o : Hp} {k_8 : Hp → Nat → Nat → Int64 → Int32 → Option (Hp)} {F : Nat} (mk_8 : ∀ (h : Hp) (x0 : Nat) (x1 : Nat) (x2 : Int64) (x4 : Int32), k_8 h x0 x1 x2 x4 = some o → Le h o) {h : Hp} {x0 : Nat} {x1 : Nat} {x2 : Int64} {x4 : Int32} (hE : sX15_writeMen_146 F k_8 h x0 x1 x2 x4 = some o) : Le h o := by
  obtain ⟨v_1, ev_1, hE⟩ := nm_e2 hE
  exact mk_8 _ _ _ _ _ hE
set_option maxRecDepth 20000 in
theorem moX15_writeMen_135 {o : Hp} {k_8 : Hp → Nat → Nat → Int64 → Int32 → Option (Hp)} {F : Nat} (mk_8 : ∀ (h : Hp) (x0 : Nat) (x1 : Nat) (x2 : Int64) (x4 : Int32), k_8 h x0 x1 x2 x4 = some o → Le h o) {h : Hp} {x0 : Nat} {x1 : Nat} {x2 : Int64} {x4 : Int32} (hE : sX15_writeMen_135 F k_8 h x0 x1 x2 x4 = some o) : Le h o := by
  rcases br_e hE with ⟨_, hE⟩ | ⟨_, hE⟩
  · exact moX15_writeMen_146 mk_8 hE
  · obtain ⟨o_2, eo_2, hE⟩ := cl_e hE
    refine (moX15_say eo_2).tr ?_
    exact moX15_writeMen_146 mk_8 hE
set_option maxRecDepth 20000 in
theorem moX15_writeMen_118 {o : Hp} {k_8 : Hp → Nat → Nat → Int64 → Int32 → Option (Hp)} {k_19 : Hp → Nat → Nat → Int64 → Int32 → Int32 → Int32 → Option (Hp)} {F : Nat} (mk_8 : ∀ (h : Hp) (x0 : Nat) (x1 : Nat) (x2 : Int64) (x4 : Int32), k_8 h x0 x1 x2 x4 = some o → Le h o) (mk_19 : ∀ (h : Hp) (x0 : Nat) (x1 : Nat) (x2 : Int64) (x4 : Int32) (x5 : Int32) (x6 : Int32), k_19 h x0 x1 x2 x4 x5 x6 = some o → Le h o) {h : Hp} {x0 : Nat} {x1 : Nat} {x2 : Int64} {x4 : Int32} {x5 : Int32} {x6 : Int32} (hE : sX15_writeMen_118 F k_8 k_19 h x0 x1 x2 x4 x5 x6 = some o) : Le h o := by
  obtain ⟨v_1, ev_1, hE⟩ := nm_e2 hE
  exact mk_19 _ _ _ _ _ _ _ hE
set_option maxRecDepth 20000 in
theorem moX15_writeMen_115 {o : Hp} {k_8 : Hp → Nat → Nat → Int64 → Int32 → Option (Hp)} {k_19 : Hp → Nat → Nat → Int64 → Int32 → Int32 → Int32 → Option (Hp)} {F : Nat} (mk_8 : ∀ (h : Hp) (x0 : Nat) (x1 : Nat) (x2 : Int64) (x4 : Int32), k_8 h x0 x1 x2 x4 = some o → Le h o) (mk_19 : ∀ (h : Hp) (x0 : Nat) (x1 : Nat) (x2 : Int64) (x4 : Int32) (x5 : Int32) (x6 : Int32), k_19 h x0 x1 x2 x4 x5 x6 = some o → Le h o) {h : Hp} {x0 : Nat} {x1 : Nat} {x2 : Int64} {x4 : Int32} {x5 : Int32} {x6 : Int32} {t0 : Int32} {t1 : Nat} (hE : sX15_writeMen_115 F k_8 k_19 h x0 x1 x2 x4 x5 x6 t0 t1 = some o) : Le h o := by
  obtain ⟨o_1, eo_1, hE⟩ := cl_e hE
  refine (moX15_say eo_1).tr ?_
  exact moX15_writeMen_118 mk_8 mk_19 hE
set_option maxRecDepth 20000 in
theorem moX15_writeMen_90 {o : Hp} {k_8 : Hp → Nat → Nat → Int64 → Int32 → Option (Hp)} {k_19 : Hp → Nat → Nat → Int64 → Int32 → Int32 → Int32 → Option (Hp)} {F : Nat} (mk_8 : ∀ (h : Hp) (x0 : Nat) (x1 : Nat) (x2 : Int64) (x4 : Int32), k_8 h x0 x1 x2 x4 = some o → Le h o) (mk_19 : ∀ (h : Hp) (x0 : Nat) (x1 : Nat) (x2 : Int64) (x4 : Int32) (x5 : Int32) (x6 : Int32), k_19 h x0 x1 x2 x4 x5 x6 = some o → Le h o) {h : Hp} {x0 : Nat} {x1 : Nat} {x2 : Int64} {x4 : Int32} {x6 : Int32} {x7 : Int32} {x8 : Int32} (hE : sX15_writeMen_90 F k_8 k_19 h x0 x1 x2 x4 x6 x7 x8 = some o) : Le h o := by
  rcases br_e hE with ⟨_, hE⟩ | ⟨_, hE⟩
  · exact moX15_writeMen_115 mk_8 mk_19 hE
  · obtain ⟨r_2, er_2, hE⟩ := cl_e hE
    obtain ⟨g_3, hE⟩ := gd_e hE
    obtain ⟨o_4, eo_4, hE⟩ := cl_e hE
    refine (moX15_letterOf eo_4).tr ?_
    exact moX15_writeMen_115 mk_8 mk_19 hE
set_option maxRecDepth 20000 in
theorem moX15_writeMen_79 {o : Hp} {k_8 : Hp → Nat → Nat → Int64 → Int32 → Option (Hp)} {k_19 : Hp → Nat → Nat → Int64 → Int32 → Int32 → Int32 → Option (Hp)} {F : Nat} (mk_8 : ∀ (h : Hp) (x0 : Nat) (x1 : Nat) (x2 : Int64) (x4 : Int32), k_8 h x0 x1 x2 x4 = some o → Le h o) (mk_19 : ∀ (h : Hp) (x0 : Nat) (x1 : Nat) (x2 : Int64) (x4 : Int32) (x5 : Int32) (x6 : Int32), k_19 h x0 x1 x2 x4 x5 x6 = some o → Le h o) {h : Hp} {x0 : Nat} {x1 : Nat} {x2 : Int64} {x4 : Int32} {x5 : Int32} {x6 : Int32} {x7 : Int32} {x8 : Int32} (hE : sX15_writeMen_79 F k_8 k_19 h x0 x1 x2 x4 x5 x6 x7 x8 = some o) : Le h o := by
  rcases br_e hE with ⟨_, hE⟩ | ⟨_, hE⟩
  · exact moX15_writeMen_90 mk_8 mk_19 hE
  · obtain ⟨o_2, eo_2, hE⟩ := cl_e hE
    refine (moX15_sayNumber eo_2).tr ?_
    exact moX15_writeMen_90 mk_8 mk_19 hE
set_option maxRecDepth 20000 in
theorem moX15_writeMen_56 {o : Hp} {k_8 : Hp → Nat → Nat → Int64 → Int32 → Option (Hp)} {k_19 : Hp → Nat → Nat → Int64 → Int32 → Int32 → Int32 → Option (Hp)} {F : Nat} (mk_8 : ∀ (h : Hp) (x0 : Nat) (x1 : Nat) (x2 : Int64) (x4 : Int32), k_8 h x0 x1 x2 x4 = some o → Le h o) (mk_19 : ∀ (h : Hp) (x0 : Nat) (x1 : Nat) (x2 : Int64) (x4 : Int32) (x5 : Int32) (x6 : Int32), k_19 h x0 x1 x2 x4 x5 x6 = some o → Le h o) {h : Hp} {x0 : Nat} {x1 : Nat} {x2 : Int64} {x4 : Int32} {x5 : Int32} {x6 : Int32} {x7 : Int32} {t0 : Int32} (hE : sX15_writeMen_56 F k_8 k_19 h x0 x1 x2 x4 x5 x6 x7 t0 = some o) : Le h o := by
  rcases br_e hE with ⟨_, hE⟩ | ⟨_, hE⟩
  · exact moX15_writeMen_79 mk_8 mk_19 hE
  · obtain ⟨r_2, er_2, hE⟩ := cl_e hE
    obtain ⟨g_3, hE⟩ := gd_e hE
    rcases br_e hE with ⟨_, hE⟩ | ⟨_, hE⟩
    · obtain ⟨v_5, ev_5, hE⟩ := nm_e2 hE
      exact moX15_writeMen_118 mk_8 mk_19 hE
    · exact moX15_writeMen_79 mk_8 mk_19 hE
set_option maxRecDepth 20000 in
theorem moX15_writeMen_19 {o : Hp} {k_8 : Hp → Nat → Nat → Int64 → Int32 → Option (Hp)} {F : Nat} (mk_8 : ∀ (h : Hp) (x0 : Nat) (x1 : Nat) (x2 : Int64) (x4 : Int32), k_8 h x0 x1 x2 x4 = some o → Le h o) : ∀ (f : Nat) {h : Hp} {x0 : Nat} {x1 : Nat} {x2 : Int64} {x4 : Int32} {x5 : Int32} {x6 : Int32}, sX15_writeMen_19 F k_8 f h x0 x1 x2 x4 x5 x6 = some o → Le h o := by
  intro f
  induction f with
  | zero =>
    intro h x0 x1 x2 x4 x5 x6 hE
    rw [sX15_writeMen_19] at hE
    cases hE
  | succ f ih =>
    intro h x0 x1 x2 x4 x5 x6 hE
    rw [sX15_writeMen_19] at hE
    have mk_19 : ∀ (h : Hp) (x0 : Nat) (x1 : Nat) (x2 : Int64) (x4 : Int32) (x5 : Int32) (x6 : Int32), sX15_writeMen_19 F k_8 f h x0 x1 x2 x4 x5 x6 = some o → Le h o := fun h x0 x1 x2 x4 x5 x6 hE => ih hE
    rcases br_e hE with ⟨_, hE⟩ | ⟨_, hE⟩
    · rcases br_e hE with ⟨_, hE⟩ | ⟨_, hE⟩
      · exact moX15_writeMen_135 mk_8 hE
      · obtain ⟨o_3, eo_3, hE⟩ := cl_e hE
        refine (moX15_sayNumber eo_3).tr ?_
        exact moX15_writeMen_135 mk_8 hE
    · obtain ⟨v_4, ev_4, hE⟩ := nm_e2 hE
      rcases br_e hE with ⟨_, hE⟩ | ⟨_, hE⟩
      · exact moX15_writeMen_56 mk_8 mk_19 hE
      · exact moX15_writeMen_56 mk_8 mk_19 hE
set_option maxRecDepth 20000 in
theorem moX15_writeMen_8 {o : Hp} {F : Nat} : ∀ (f : Nat) {h : Hp} {x0 : Nat} {x1 : Nat} {x2 : Int64} {x4 : Int32}, sX15_writeMen_8 F f h x0 x1 x2 x4 = some o → Le h o := by
  intro f
  induction f with
  | zero =>
    intro h x0 x1 x2 x4 hE
    rw [sX15_writeMen_8] at hE
    cases hE
  | succ f ih =>
    intro h x0 x1 x2 x4 hE
    rw [sX15_writeMen_8] at hE
    have mk_8 : ∀ (h : Hp) (x0 : Nat) (x1 : Nat) (x2 : Int64) (x4 : Int32), sX15_writeMen_8 F f h x0 x1 x2 x4 = some o → Le h o := fun h x0 x1 x2 x4 hE => ih hE
    rcases br_e hE with ⟨_, hE⟩ | ⟨_, hE⟩
    · exact le_some1 hE
    · exact moX15_writeMen_19 mk_8 _ hE
set_option maxRecDepth 20000 in
theorem moX15_writeMen {o : Hp} {F : Nat} {h : Hp} {x0 : Nat} {x1 : Nat} {x2 : Int64} (hE : sX15_writeMen F h x0 x1 x2 = some o) : Le h o := by
  obtain ⟨v_1, ev_1, hE⟩ := nm_e2 hE
  exact moX15_writeMen_8 _ hE
set_option maxRecDepth 20000 in
theorem bX15_writeMen_146 {p : Program} {l : Launch} {e : Env} {s : State} {m : MethodId} {args : Array Value} {below : List Frame} {meth : Method} {c : Code} {X : Ec} {h0 : Hp} {o : Hp} {k_8 : Hp → Nat → Nat → Int64 → Int32 → Option (Hp)} {F : Nat} (C : Cx X p s m args meth c RX15 cX15_writeMen 9 none "writeMen") (hk_8 : ∀ (h : Hp) (x0 : Nat) (x1 : Nat) (x2 : Int64) (x4 : Int32) (H : Heap) (locs : List Loc), hK h x0 = 15 → hK h x1 = 12 → Km h0 h → Wx X h H → va_S (aA (eB X)) s.heap H locs → ∀ (ls : Array Slot), lv_has ls 9 [(0, .ref x0), (1, .ref x1), (2, .long x2), (4, .int x4)] → k_8 h x0 x1 x2 x4 = some o → W p l e (rm 15 294) s m args below meth c H locs 0 0 (MQ below (QV X h0 o) args s 0 0 (aA (eB X))) (F0 m 8 ls [])) {h : Hp} {x0 : Nat} {x1 : Nat} {x2 : Int64} {x4 : Int32} {H : Heap} {locs : List Loc} (k_x0 : hK h x0 = 15) (k_x1 : hK h x1 = 12) (hkm : Km h0 h) (hW : Wx X h H) (hZ : va_S (aA (eB X)) s.heap H locs) (ls : Array Slot) (hl : lv_has ls 9 [(0, .ref x0), (1, .ref x1), (2, .long x2), (4, .int x4)]) (hE : sX15_writeMen_146 F k_8 h x0 x1 x2 x4 = some o) : W p l e (rm 15 294) s m args below meth c H locs 0 0 (MQ below (QV X h0 o) args s 0 0 (aA (eB X))) (F0 m 146 ls []) := by
  obtain ⟨v_1, ev_1, hE⟩ := nm_e2 hE
  refine lv_iinc (v := v_1) (lv' := [(4, .int v_1), (0, .ref x0), (1, .ref x1), (2, .long x2)]) C.1 C.2.1 dX15_writeMen_146 hl (k := 3) rfl (by rw [ev_1]; rfl) (by decide) rfl (fun ls hl => ?_)
  refine lv_goto (tgt := 8) C.1 C.2.1 dX15_writeMen_149 (by decide) ?_
  exact hk_8 _ _ _ _ _ _ _ k_x0 k_x1 hkm hW hZ _ (lv_sub hl [1, 2, 3, 0] rfl) hE
set_option maxRecDepth 20000 in
theorem bX15_writeMen_135 {p : Program} {l : Launch} {e : Env} {s : State} {m : MethodId} {args : Array Value} {below : List Frame} {meth : Method} {c : Code} {X : Ec} {h0 : Hp} {o : Hp} {k_8 : Hp → Nat → Nat → Int64 → Int32 → Option (Hp)} {F : Nat} (C : Cx X p s m args meth c RX15 cX15_writeMen 9 none "writeMen") (hk_8 : ∀ (h : Hp) (x0 : Nat) (x1 : Nat) (x2 : Int64) (x4 : Int32) (H : Heap) (locs : List Loc), hK h x0 = 15 → hK h x1 = 12 → Km h0 h → Wx X h H → va_S (aA (eB X)) s.heap H locs → ∀ (ls : Array Slot), lv_has ls 9 [(0, .ref x0), (1, .ref x1), (2, .long x2), (4, .int x4)] → k_8 h x0 x1 x2 x4 = some o → W p l e (rm 15 294) s m args below meth c H locs 0 0 (MQ below (QV X h0 o) args s 0 0 (aA (eB X))) (F0 m 8 ls [])) {h : Hp} {x0 : Nat} {x1 : Nat} {x2 : Int64} {x4 : Int32} {H : Heap} {locs : List Loc} (k_x0 : hK h x0 = 15) (k_x1 : hK h x1 = 12) (hkm : Km h0 h) (hW : Wx X h H) (hZ : va_S (aA (eB X)) s.heap H locs) (ls : Array Slot) (hl : lv_has ls 9 [(0, .ref x0), (1, .ref x1), (2, .long x2), (4, .int x4)]) (hE : sX15_writeMen_135 F k_8 h x0 x1 x2 x4 = some o) : W p l e (rm 15 294) s m args below meth c H locs 0 0 (MQ below (QV X h0 o) args s 0 0 (aA (eB X))) (F0 m 135 ls []) := by
  refine lv_iload C.1 C.2.1 dX15_writeMen_135 (lv_at hl 3 rfl) ?_
  refine lv_if_le (tgt := 146) C.1 C.2.1 dX15_writeMen_137 (by decide) (fun c_1 => ?_) (fun c_1 => ?_)
  · have hE := br_p hE c_1
    exact bX15_writeMen_146 C hk_8 k_x0 k_x1 hkm hW hZ _ (lv_sub hl [0, 1, 2, 3] rfl) hE
  · have hE := br_n hE c_1
    refine lv_aload_n C.1 C.2.1 dX15_writeMen_140 rfl (lv_at hl 0 rfl) ?_
    refine lv_bipush (v := (47 : Int32)) C.1 C.2.1 dX15_writeMen_141 (by decide) ?_
    obtain ⟨o_2, eo_2, hE⟩ := cl_e hE
    refine x_kV (o := o_2) (z_runV (As := [.int (47 : Int32)]) (rest := []) C (ct_X15_say l X k_x0 eo_2) cw_X15_21 hW hZ k_x0 (by decide) rfl rfl rfl hl.1 (Nat.le_of_ble_eq_true rfl) rfl dX15_writeMen_143 ⟨Nat.le_of_ble_eq_true rfl, Nat.le_of_ble_eq_true rfl⟩ ⟨Nat.le_refl _, Nat.le_refl _⟩) hZ (fun _ _ hW km hZ => ?_)
    replace hkm := hkm.tr km
    replace k_x0 := km.at k_x0 (by decide)
    replace k_x1 := km.at k_x1 (by decide)
    exact bX15_writeMen_146 C hk_8 k_x0 k_x1 hkm hW hZ _ (lv_sub hl [0, 1, 2, 3] rfl) hE
set_option maxRecDepth 20000 in
theorem bX15_writeMen_118 {p : Program} {l : Launch} {e : Env} {s : State} {m : MethodId} {args : Array Value} {below : List Frame} {meth : Method} {c : Code} {X : Ec} {h0 : Hp} {o : Hp} {k_8 : Hp → Nat → Nat → Int64 → Int32 → Option (Hp)} {k_19 : Hp → Nat → Nat → Int64 → Int32 → Int32 → Int32 → Option (Hp)} {F : Nat} (C : Cx X p s m args meth c RX15 cX15_writeMen 9 none "writeMen") (hk_8 : ∀ (h : Hp) (x0 : Nat) (x1 : Nat) (x2 : Int64) (x4 : Int32) (H : Heap) (locs : List Loc), hK h x0 = 15 → hK h x1 = 12 → Km h0 h → Wx X h H → va_S (aA (eB X)) s.heap H locs → ∀ (ls : Array Slot), lv_has ls 9 [(0, .ref x0), (1, .ref x1), (2, .long x2), (4, .int x4)] → k_8 h x0 x1 x2 x4 = some o → W p l e (rm 15 294) s m args below meth c H locs 0 0 (MQ below (QV X h0 o) args s 0 0 (aA (eB X))) (F0 m 8 ls [])) (hk_19 : ∀ (h : Hp) (x0 : Nat) (x1 : Nat) (x2 : Int64) (x4 : Int32) (x5 : Int32) (x6 : Int32) (H : Heap) (locs : List Loc), hK h x0 = 15 → hK h x1 = 12 → Km h0 h → Wx X h H → va_S (aA (eB X)) s.heap H locs → ∀ (ls : Array Slot), lv_has ls 9 [(0, .ref x0), (1, .ref x1), (2, .long x2), (4, .int x4), (5, .int x5), (6, .int x6)] → k_19 h x0 x1 x2 x4 x5 x6 = some o → W p l e (rm 15 294) s m args below meth c H locs 0 0 (MQ below (QV X h0 o) args s 0 0 (aA (eB X))) (F0 m 19 ls [])) {h : Hp} {x0 : Nat} {x1 : Nat} {x2 : Int64} {x4 : Int32} {x5 : Int32} {x6 : Int32} {H : Heap} {locs : List Loc} (k_x0 : hK h x0 = 15) (k_x1 : hK h x1 = 12) (hkm : Km h0 h) (hW : Wx X h H) (hZ : va_S (aA (eB X)) s.heap H locs) (ls : Array Slot) (hl : lv_has ls 9 [(0, .ref x0), (1, .ref x1), (2, .long x2), (4, .int x4), (5, .int x5), (6, .int x6)]) (hE : sX15_writeMen_118 F k_8 k_19 h x0 x1 x2 x4 x5 x6 = some o) : W p l e (rm 15 294) s m args below meth c H locs 0 0 (MQ below (QV X h0 o) args s 0 0 (aA (eB X))) (F0 m 118 ls []) := by
  obtain ⟨v_1, ev_1, hE⟩ := nm_e2 hE
  refine lv_iinc (v := v_1) (lv' := [(6, .int v_1), (0, .ref x0), (1, .ref x1), (2, .long x2), (4, .int x4), (5, .int x5)]) C.1 C.2.1 dX15_writeMen_118 hl (k := 5) rfl (by rw [ev_1]; rfl) (by decide) rfl (fun ls hl => ?_)
  refine lv_goto (tgt := 19) C.1 C.2.1 dX15_writeMen_121 (by decide) ?_
  exact hk_19 _ _ _ _ _ _ _ _ _ k_x0 k_x1 hkm hW hZ _ (lv_sub hl [1, 2, 3, 4, 5, 0] rfl) hE
set_option maxRecDepth 20000 in
theorem bX15_writeMen_115 {p : Program} {l : Launch} {e : Env} {s : State} {m : MethodId} {args : Array Value} {below : List Frame} {meth : Method} {c : Code} {X : Ec} {h0 : Hp} {o : Hp} {k_8 : Hp → Nat → Nat → Int64 → Int32 → Option (Hp)} {k_19 : Hp → Nat → Nat → Int64 → Int32 → Int32 → Int32 → Option (Hp)} {F : Nat} (C : Cx X p s m args meth c RX15 cX15_writeMen 9 none "writeMen") (hk_8 : ∀ (h : Hp) (x0 : Nat) (x1 : Nat) (x2 : Int64) (x4 : Int32) (H : Heap) (locs : List Loc), hK h x0 = 15 → hK h x1 = 12 → Km h0 h → Wx X h H → va_S (aA (eB X)) s.heap H locs → ∀ (ls : Array Slot), lv_has ls 9 [(0, .ref x0), (1, .ref x1), (2, .long x2), (4, .int x4)] → k_8 h x0 x1 x2 x4 = some o → W p l e (rm 15 294) s m args below meth c H locs 0 0 (MQ below (QV X h0 o) args s 0 0 (aA (eB X))) (F0 m 8 ls [])) (hk_19 : ∀ (h : Hp) (x0 : Nat) (x1 : Nat) (x2 : Int64) (x4 : Int32) (x5 : Int32) (x6 : Int32) (H : Heap) (locs : List Loc), hK h x0 = 15 → hK h x1 = 12 → Km h0 h → Wx X h H → va_S (aA (eB X)) s.heap H locs → ∀ (ls : Array Slot), lv_has ls 9 [(0, .ref x0), (1, .ref x1), (2, .long x2), (4, .int x4), (5, .int x5), (6, .int x6)] → k_19 h x0 x1 x2 x4 x5 x6 = some o → W p l e (rm 15 294) s m args below meth c H locs 0 0 (MQ below (QV X h0 o) args s 0 0 (aA (eB X))) (F0 m 19 ls [])) {h : Hp} {x0 : Nat} {x1 : Nat} {x2 : Int64} {x4 : Int32} {x5 : Int32} {x6 : Int32} {t0 : Int32} {t1 : Nat} {H : Heap} {locs : List Loc} (k_x0 : hK h x0 = 15) (k_x1 : hK h x1 = 12) (k_t1 : hK h t1 = 15) (hkm : Km h0 h) (hW : Wx X h H) (hZ : va_S (aA (eB X)) s.heap H locs) (ls : Array Slot) (hl : lv_has ls 9 [(0, .ref x0), (1, .ref x1), (2, .long x2), (4, .int x4), (5, .int x5), (6, .int x6)]) (hE : sX15_writeMen_115 F k_8 k_19 h x0 x1 x2 x4 x5 x6 t0 t1 = some o) : W p l e (rm 15 294) s m args below meth c H locs 0 0 (MQ below (QV X h0 o) args s 0 0 (aA (eB X))) (F0 m 115 ls [.int t0, .ref t1]) := by
  obtain ⟨o_1, eo_1, hE⟩ := cl_e hE
  refine x_kV (o := o_1) (z_runV (As := [.int t0]) (rest := []) C (ct_X15_say l X k_t1 eo_1) cw_X15_21 hW hZ k_t1 (by decide) rfl rfl rfl hl.1 (Nat.le_of_ble_eq_true rfl) rfl dX15_writeMen_115 ⟨Nat.le_of_ble_eq_true rfl, Nat.le_of_ble_eq_true rfl⟩ ⟨Nat.le_refl _, Nat.le_refl _⟩) hZ (fun _ _ hW km hZ => ?_)
  replace hkm := hkm.tr km
  replace k_x0 := km.at k_x0 (by decide)
  replace k_x1 := km.at k_x1 (by decide)
  exact bX15_writeMen_118 C hk_8 hk_19 k_x0 k_x1 hkm hW hZ _ (lv_sub hl [0, 1, 2, 3, 4, 5] rfl) hE
set_option maxRecDepth 20000 in
theorem bX15_writeMen_90 {p : Program} {l : Launch} {e : Env} {s : State} {m : MethodId} {args : Array Value} {below : List Frame} {meth : Method} {c : Code} {X : Ec} {h0 : Hp} {o : Hp} {k_8 : Hp → Nat → Nat → Int64 → Int32 → Option (Hp)} {k_19 : Hp → Nat → Nat → Int64 → Int32 → Int32 → Int32 → Option (Hp)} {F : Nat} (C : Cx X p s m args meth c RX15 cX15_writeMen 9 none "writeMen") (hk_8 : ∀ (h : Hp) (x0 : Nat) (x1 : Nat) (x2 : Int64) (x4 : Int32) (H : Heap) (locs : List Loc), hK h x0 = 15 → hK h x1 = 12 → Km h0 h → Wx X h H → va_S (aA (eB X)) s.heap H locs → ∀ (ls : Array Slot), lv_has ls 9 [(0, .ref x0), (1, .ref x1), (2, .long x2), (4, .int x4)] → k_8 h x0 x1 x2 x4 = some o → W p l e (rm 15 294) s m args below meth c H locs 0 0 (MQ below (QV X h0 o) args s 0 0 (aA (eB X))) (F0 m 8 ls [])) (hk_19 : ∀ (h : Hp) (x0 : Nat) (x1 : Nat) (x2 : Int64) (x4 : Int32) (x5 : Int32) (x6 : Int32) (H : Heap) (locs : List Loc), hK h x0 = 15 → hK h x1 = 12 → Km h0 h → Wx X h H → va_S (aA (eB X)) s.heap H locs → ∀ (ls : Array Slot), lv_has ls 9 [(0, .ref x0), (1, .ref x1), (2, .long x2), (4, .int x4), (5, .int x5), (6, .int x6)] → k_19 h x0 x1 x2 x4 x5 x6 = some o → W p l e (rm 15 294) s m args below meth c H locs 0 0 (MQ below (QV X h0 o) args s 0 0 (aA (eB X))) (F0 m 19 ls [])) {h : Hp} {x0 : Nat} {x1 : Nat} {x2 : Int64} {x4 : Int32} {x6 : Int32} {x7 : Int32} {x8 : Int32} {H : Heap} {locs : List Loc} (k_x0 : hK h x0 = 15) (k_x1 : hK h x1 = 12) (hkm : Km h0 h) (hW : Wx X h H) (hZ : va_S (aA (eB X)) s.heap H locs) (ls : Array Slot) (hl : lv_has ls 9 [(0, .ref x0), (1, .ref x1), (2, .long x2), (4, .int x4), (6, .int x6), (7, .int x7), (8, .int x8)]) (hE : sX15_writeMen_90 F k_8 k_19 h x0 x1 x2 x4 x6 x7 x8 = some o) : W p l e (rm 15 294) s m args below meth c H locs 0 0 (MQ below (QV X h0 o) args s 0 0 (aA (eB X))) (F0 m 90 ls []) := by
  refine lv_iconst (v := (0 : Int32)) C.1 C.2.1 dX15_writeMen_90 (by decide) ?_
  refine lv_istore (lv' := [(5, .int (0 : Int32)), (0, .ref x0), (1, .ref x1), (2, .long x2), (4, .int x4), (6, .int x6), (7, .int x7), (8, .int x8)]) C.1 C.2.1 dX15_writeMen_91 hl (by decide) rfl (fun ls hl => ?_)
  refine lv_aload_n C.1 C.2.1 dX15_writeMen_93 rfl (lv_at hl 1 rfl) ?_
  refine lv_iload C.1 C.2.1 dX15_writeMen_94 (lv_at hl 7 rfl) ?_
  refine lv_if_eq (tgt := 113) C.1 C.2.1 dX15_writeMen_96 (by decide) (fun c_1 => ?_) (fun c_1 => ?_)
  · have hE := br_p hE c_1
    refine lv_bipush (v := (63 : Int32)) C.1 C.2.1 dX15_writeMen_113 (by decide) ?_
    exact bX15_writeMen_115 C hk_8 hk_19 k_x0 k_x1 k_x0 hkm hW hZ _ (lv_sub hl [1, 2, 3, 4, 0, 5] rfl) hE
  · have hE := br_n hE c_1
    refine lv_aload_n C.1 C.2.1 dX15_writeMen_99 rfl (lv_at hl 1 rfl) ?_
    refine lv_aload_n C.1 C.2.1 dX15_writeMen_100 rfl (lv_at hl 2 rfl) ?_
    obtain ⟨r_2, er_2, hE⟩ := cl_e hE
    refine gf_X15_396 C hW k_x1 er_2 dX15_writeMen_101 (fun k_r_2 => ?_)
    refine lv_iload C.1 C.2.1 dX15_writeMen_104 (lv_at hl 6 rfl) ?_
    obtain ⟨g_3, hE⟩ := gd_e hE
    refine y_iald C hW k_r_2 g_3 dX15_writeMen_106 ?_
    obtain ⟨o_4, eo_4, hE⟩ := cl_e hE
    refine x_kI (o := o_4) (z_runV (As := [.int (hI h r_2 x7.toNatClampNeg)]) (rest := [.ref x0]) C (ct_X15_letterOf l X k_x0 eo_4) cw_X15_527 hW hZ k_x0 (by decide) rfl rfl rfl hl.1 (Nat.le_of_ble_eq_true rfl) rfl dX15_writeMen_107 ⟨Nat.le_of_ble_eq_true rfl, Nat.le_of_ble_eq_true rfl⟩ ⟨Nat.le_refl _, Nat.le_refl _⟩) hZ (fun _ _ hW km hZ => ?_)
    replace hkm := hkm.tr km
    replace k_x0 := km.at k_x0 (by decide)
    replace k_x1 := km.at k_x1 (by decide)
    refine lv_goto (tgt := 115) C.1 C.2.1 dX15_writeMen_110 (by decide) ?_
    exact bX15_writeMen_115 C hk_8 hk_19 k_x0 k_x1 k_x0 hkm hW hZ _ (lv_sub hl [1, 2, 3, 4, 0, 5] rfl) hE
set_option maxRecDepth 20000 in
theorem bX15_writeMen_79 {p : Program} {l : Launch} {e : Env} {s : State} {m : MethodId} {args : Array Value} {below : List Frame} {meth : Method} {c : Code} {X : Ec} {h0 : Hp} {o : Hp} {k_8 : Hp → Nat → Nat → Int64 → Int32 → Option (Hp)} {k_19 : Hp → Nat → Nat → Int64 → Int32 → Int32 → Int32 → Option (Hp)} {F : Nat} (C : Cx X p s m args meth c RX15 cX15_writeMen 9 none "writeMen") (hk_8 : ∀ (h : Hp) (x0 : Nat) (x1 : Nat) (x2 : Int64) (x4 : Int32) (H : Heap) (locs : List Loc), hK h x0 = 15 → hK h x1 = 12 → Km h0 h → Wx X h H → va_S (aA (eB X)) s.heap H locs → ∀ (ls : Array Slot), lv_has ls 9 [(0, .ref x0), (1, .ref x1), (2, .long x2), (4, .int x4)] → k_8 h x0 x1 x2 x4 = some o → W p l e (rm 15 294) s m args below meth c H locs 0 0 (MQ below (QV X h0 o) args s 0 0 (aA (eB X))) (F0 m 8 ls [])) (hk_19 : ∀ (h : Hp) (x0 : Nat) (x1 : Nat) (x2 : Int64) (x4 : Int32) (x5 : Int32) (x6 : Int32) (H : Heap) (locs : List Loc), hK h x0 = 15 → hK h x1 = 12 → Km h0 h → Wx X h H → va_S (aA (eB X)) s.heap H locs → ∀ (ls : Array Slot), lv_has ls 9 [(0, .ref x0), (1, .ref x1), (2, .long x2), (4, .int x4), (5, .int x5), (6, .int x6)] → k_19 h x0 x1 x2 x4 x5 x6 = some o → W p l e (rm 15 294) s m args below meth c H locs 0 0 (MQ below (QV X h0 o) args s 0 0 (aA (eB X))) (F0 m 19 ls [])) {h : Hp} {x0 : Nat} {x1 : Nat} {x2 : Int64} {x4 : Int32} {x5 : Int32} {x6 : Int32} {x7 : Int32} {x8 : Int32} {H : Heap} {locs : List Loc} (k_x0 : hK h x0 = 15) (k_x1 : hK h x1 = 12) (hkm : Km h0 h) (hW : Wx X h H) (hZ : va_S (aA (eB X)) s.heap H locs) (ls : Array Slot) (hl : lv_has ls 9 [(0, .ref x0), (1, .ref x1), (2, .long x2), (4, .int x4), (5, .int x5), (6, .int x6), (7, .int x7), (8, .int x8)]) (hE : sX15_writeMen_79 F k_8 k_19 h x0 x1 x2 x4 x5 x6 x7 x8 = some o) : W p l e (rm 15 294) s m args below meth c H locs 0 0 (MQ below (QV X h0 o) args s 0 0 (aA (eB X))) (F0 m 79 ls []) := by
  refine lv_iload C.1 C.2.1 dX15_writeMen_79 (lv_at hl 4 rfl) ?_
  refine lv_if_le (tgt := 90) C.1 C.2.1 dX15_writeMen_81 (by decide) (fun c_1 => ?_) (fun c_1 => ?_)
  · have hE := br_p hE c_1
    exact bX15_writeMen_90 C hk_8 hk_19 k_x0 k_x1 hkm hW hZ _ (lv_sub hl [0, 1, 2, 3, 5, 6, 7] rfl) hE
  · have hE := br_n hE c_1
    refine lv_aload_n C.1 C.2.1 dX15_writeMen_84 rfl (lv_at hl 0 rfl) ?_
    refine lv_iload C.1 C.2.1 dX15_writeMen_85 (lv_at hl 4 rfl) ?_
    obtain ⟨o_2, eo_2, hE⟩ := cl_e hE
    refine x_kV (o := o_2) (z_runV (As := [.int x5]) (rest := []) C (ct_X15_sayNumber l X F k_x0 eo_2) cw_X15_17 hW hZ k_x0 (by decide) rfl rfl rfl hl.1 (Nat.le_of_ble_eq_true rfl) rfl dX15_writeMen_87 ⟨Nat.le_of_ble_eq_true rfl, Nat.le_of_ble_eq_true rfl⟩ ⟨Nat.le_refl _, Nat.le_refl _⟩) hZ (fun _ _ hW km hZ => ?_)
    replace hkm := hkm.tr km
    replace k_x0 := km.at k_x0 (by decide)
    replace k_x1 := km.at k_x1 (by decide)
    exact bX15_writeMen_90 C hk_8 hk_19 k_x0 k_x1 hkm hW hZ _ (lv_sub hl [0, 1, 2, 3, 5, 6, 7] rfl) hE
set_option maxRecDepth 20000 in
theorem bX15_writeMen_56 {p : Program} {l : Launch} {e : Env} {s : State} {m : MethodId} {args : Array Value} {below : List Frame} {meth : Method} {c : Code} {X : Ec} {h0 : Hp} {o : Hp} {k_8 : Hp → Nat → Nat → Int64 → Int32 → Option (Hp)} {k_19 : Hp → Nat → Nat → Int64 → Int32 → Int32 → Int32 → Option (Hp)} {F : Nat} (C : Cx X p s m args meth c RX15 cX15_writeMen 9 none "writeMen") (hk_8 : ∀ (h : Hp) (x0 : Nat) (x1 : Nat) (x2 : Int64) (x4 : Int32) (H : Heap) (locs : List Loc), hK h x0 = 15 → hK h x1 = 12 → Km h0 h → Wx X h H → va_S (aA (eB X)) s.heap H locs → ∀ (ls : Array Slot), lv_has ls 9 [(0, .ref x0), (1, .ref x1), (2, .long x2), (4, .int x4)] → k_8 h x0 x1 x2 x4 = some o → W p l e (rm 15 294) s m args below meth c H locs 0 0 (MQ below (QV X h0 o) args s 0 0 (aA (eB X))) (F0 m 8 ls [])) (hk_19 : ∀ (h : Hp) (x0 : Nat) (x1 : Nat) (x2 : Int64) (x4 : Int32) (x5 : Int32) (x6 : Int32) (H : Heap) (locs : List Loc), hK h x0 = 15 → hK h x1 = 12 → Km h0 h → Wx X h H → va_S (aA (eB X)) s.heap H locs → ∀ (ls : Array Slot), lv_has ls 9 [(0, .ref x0), (1, .ref x1), (2, .long x2), (4, .int x4), (5, .int x5), (6, .int x6)] → k_19 h x0 x1 x2 x4 x5 x6 = some o → W p l e (rm 15 294) s m args below meth c H locs 0 0 (MQ below (QV X h0 o) args s 0 0 (aA (eB X))) (F0 m 19 ls [])) {h : Hp} {x0 : Nat} {x1 : Nat} {x2 : Int64} {x4 : Int32} {x5 : Int32} {x6 : Int32} {x7 : Int32} {t0 : Int32} {H : Heap} {locs : List Loc} (k_x0 : hK h x0 = 15) (k_x1 : hK h x1 = 12) (hkm : Km h0 h) (hW : Wx X h H) (hZ : va_S (aA (eB X)) s.heap H locs) (ls : Array Slot) (hl : lv_has ls 9 [(0, .ref x0), (1, .ref x1), (2, .long x2), (4, .int x4), (5, .int x5), (6, .int x6), (7, .int x7)]) (hE : sX15_writeMen_56 F k_8 k_19 h x0 x1 x2 x4 x5 x6 x7 t0 = some o) : W p l e (rm 15 294) s m args below meth c H locs 0 0 (MQ below (QV X h0 o) args s 0 0 (aA (eB X))) (F0 m 56 ls [.int t0]) := by
  refine lv_istore (lv' := [(8, .int t0), (0, .ref x0), (1, .ref x1), (2, .long x2), (4, .int x4), (5, .int x5), (6, .int x6), (7, .int x7)]) C.1 C.2.1 dX15_writeMen_56 hl (by decide) rfl (fun ls hl => ?_)
  refine lv_iload C.1 C.2.1 dX15_writeMen_58 (lv_at hl 0 rfl) ?_
  refine lv_if_eq (tgt := 79) C.1 C.2.1 dX15_writeMen_60 (by decide) (fun c_1 => ?_) (fun c_1 => ?_)
  · have hE := br_p hE c_1
    exact bX15_writeMen_79 C hk_8 hk_19 k_x0 k_x1 hkm hW hZ _ (lv_sub hl [1, 2, 3, 4, 5, 6, 7, 0] rfl) hE
  · have hE := br_n hE c_1
    refine lv_aload_n C.1 C.2.1 dX15_writeMen_63 rfl (lv_at hl 2 rfl) ?_
    obtain ⟨r_2, er_2, hE⟩ := cl_e hE
    refine gf_X15_396 C hW k_x1 er_2 dX15_writeMen_64 (fun k_r_2 => ?_)
    refine lv_iload C.1 C.2.1 dX15_writeMen_67 (lv_at hl 7 rfl) ?_
    obtain ⟨g_3, hE⟩ := gd_e hE
    refine y_iald C hW k_r_2 g_3 dX15_writeMen_69 ?_
    refine lv_if_ne (tgt := 79) C.1 C.2.1 dX15_writeMen_70 (by decide) (fun c_4 => ?_) (fun c_4 => ?_)
    · have hE := br_n hE c_4
      exact bX15_writeMen_79 C hk_8 hk_19 k_x0 k_x1 hkm hW hZ _ (lv_sub hl [1, 2, 3, 4, 5, 6, 7, 0] rfl) hE
    · have hE := br_p hE c_4
      obtain ⟨v_5, ev_5, hE⟩ := nm_e2 hE
      refine lv_iinc (v := v_5) (lv' := [(5, .int v_5), (8, .int t0), (0, .ref x0), (1, .ref x1), (2, .long x2), (4, .int x4), (6, .int x6), (7, .int x7)]) C.1 C.2.1 dX15_writeMen_73 hl (k := 5) rfl (by rw [ev_5]; rfl) (by decide) rfl (fun ls hl => ?_)
      refine lv_goto (tgt := 118) C.1 C.2.1 dX15_writeMen_76 (by decide) ?_
      exact bX15_writeMen_118 C hk_8 hk_19 k_x0 k_x1 hkm hW hZ _ (lv_sub hl [2, 3, 4, 5, 0, 6] rfl) hE
set_option maxRecDepth 20000 in
theorem bX15_writeMen_19 {p : Program} {l : Launch} {e : Env} {s : State} {m : MethodId} {args : Array Value} {below : List Frame} {meth : Method} {c : Code} {X : Ec} {h0 : Hp} {o : Hp} {k_8 : Hp → Nat → Nat → Int64 → Int32 → Option (Hp)} {F : Nat} (C : Cx X p s m args meth c RX15 cX15_writeMen 9 none "writeMen") (hk_8 : ∀ (h : Hp) (x0 : Nat) (x1 : Nat) (x2 : Int64) (x4 : Int32) (H : Heap) (locs : List Loc), hK h x0 = 15 → hK h x1 = 12 → Km h0 h → Wx X h H → va_S (aA (eB X)) s.heap H locs → ∀ (ls : Array Slot), lv_has ls 9 [(0, .ref x0), (1, .ref x1), (2, .long x2), (4, .int x4)] → k_8 h x0 x1 x2 x4 = some o → W p l e (rm 15 294) s m args below meth c H locs 0 0 (MQ below (QV X h0 o) args s 0 0 (aA (eB X))) (F0 m 8 ls [])) : ∀ (f : Nat) {h : Hp} {x0 : Nat} {x1 : Nat} {x2 : Int64} {x4 : Int32} {x5 : Int32} {x6 : Int32} {H : Heap} {locs : List Loc} (k_x0 : hK h x0 = 15) (k_x1 : hK h x1 = 12), Km h0 h → Wx X h H → va_S (aA (eB X)) s.heap H locs → ∀ (ls : Array Slot), lv_has ls 9 [(0, .ref x0), (1, .ref x1), (2, .long x2), (4, .int x4), (5, .int x5), (6, .int x6)] → sX15_writeMen_19 F k_8 f h x0 x1 x2 x4 x5 x6 = some o → W p l e (rm 15 294) s m args below meth c H locs 0 0 (MQ below (QV X h0 o) args s 0 0 (aA (eB X))) (F0 m 19 ls []) := by
  intro f
  induction f with
  | zero =>
    intro h x0 x1 x2 x4 x5 x6 H locs k_x0 k_x1 hkm hW hZ ls hl hE
    rw [sX15_writeMen_19] at hE
    cases hE
  | succ f ih =>
    intro h x0 x1 x2 x4 x5 x6 H locs k_x0 k_x1 hkm hW hZ ls hl hE
    rw [sX15_writeMen_19] at hE
    have hk_19 : ∀ (h : Hp) (x0 : Nat) (x1 : Nat) (x2 : Int64) (x4 : Int32) (x5 : Int32) (x6 : Int32) (H : Heap) (locs : List Loc), hK h x0 = 15 → hK h x1 = 12 → Km h0 h → Wx X h H → va_S (aA (eB X)) s.heap H locs → ∀ (ls : Array Slot), lv_has ls 9 [(0, .ref x0), (1, .ref x1), (2, .long x2), (4, .int x4), (5, .int x5), (6, .int x6)] → sX15_writeMen_19 F k_8 f h x0 x1 x2 x4 x5 x6 = some o → W p l e (rm 15 294) s m args below meth c H locs 0 0 (MQ below (QV X h0 o) args s 0 0 (aA (eB X))) (F0 m 19 ls []) := fun h x0 x1 x2 x4 x5 x6 H locs k_x0 k_x1 a b c ls hl hE => ih k_x0 k_x1 a b c ls hl hE
    refine lv_iload C.1 C.2.1 dX15_writeMen_19 (lv_at hl 5 rfl) ?_
    refine lv_aload_n C.1 C.2.1 dX15_writeMen_21 rfl (lv_at hl 0 rfl) ?_
    refine gf_X15_382 C hW k_x0 dX15_writeMen_22 ?_
    refine lv_icmp_ge (tgt := 124) C.1 C.2.1 dX15_writeMen_25 (by decide) (fun c_1 => ?_) (fun c_1 => ?_)
    · have hE := br_p hE c_1
      refine lv_iload C.1 C.2.1 dX15_writeMen_124 (lv_at hl 4 rfl) ?_
      refine lv_if_le (tgt := 135) C.1 C.2.1 dX15_writeMen_126 (by decide) (fun c_2 => ?_) (fun c_2 => ?_)
      · have hE := br_p hE c_2
        exact bX15_writeMen_135 C hk_8 k_x0 k_x1 hkm hW hZ _ (lv_sub hl [0, 1, 2, 3] rfl) hE
      · have hE := br_n hE c_2
        refine lv_aload_n C.1 C.2.1 dX15_writeMen_129 rfl (lv_at hl 0 rfl) ?_
        refine lv_iload C.1 C.2.1 dX15_writeMen_130 (lv_at hl 4 rfl) ?_
        obtain ⟨o_3, eo_3, hE⟩ := cl_e hE
        refine x_kV (o := o_3) (z_runV (As := [.int x5]) (rest := []) C (ct_X15_sayNumber l X F k_x0 eo_3) cw_X15_17 hW hZ k_x0 (by decide) rfl rfl rfl hl.1 (Nat.le_of_ble_eq_true rfl) rfl dX15_writeMen_132 ⟨Nat.le_of_ble_eq_true rfl, Nat.le_of_ble_eq_true rfl⟩ ⟨Nat.le_refl _, Nat.le_refl _⟩) hZ (fun _ _ hW km hZ => ?_)
        replace hkm := hkm.tr km
        replace k_x0 := km.at k_x0 (by decide)
        replace k_x1 := km.at k_x1 (by decide)
        exact bX15_writeMen_135 C hk_8 k_x0 k_x1 hkm hW hZ _ (lv_sub hl [0, 1, 2, 3] rfl) hE
    · have hE := br_n hE c_1
      refine lv_iload C.1 C.2.1 dX15_writeMen_28 (lv_at hl 3 rfl) ?_
      refine lv_aload_n C.1 C.2.1 dX15_writeMen_30 rfl (lv_at hl 0 rfl) ?_
      refine gf_X15_382 C hW k_x0 dX15_writeMen_31 ?_
      refine lv_imul C.1 C.2.1 dX15_writeMen_34 ?_
      refine lv_iload C.1 C.2.1 dX15_writeMen_35 (lv_at hl 5 rfl) ?_
      refine lv_iadd C.1 C.2.1 dX15_writeMen_37 ?_
      obtain ⟨v_4, ev_4, hE⟩ := nm_e2 hE
      refine x_nmI ev_4 ?_
      refine lv_istore (lv' := [(7, .int v_4), (0, .ref x0), (1, .ref x1), (2, .long x2), (4, .int x4), (5, .int x5), (6, .int x6)]) C.1 C.2.1 dX15_writeMen_38 hl (by decide) rfl (fun ls hl => ?_)
      refine lv_lload_n C.1 C.2.1 dX15_writeMen_40 rfl (lv_at hl 3 rfl) ?_
      refine lv_iload C.1 C.2.1 dX15_writeMen_41 (lv_at hl 0 rfl) ?_
      refine lv_lshr C.1 C.2.1 dX15_writeMen_43 rfl ?_
      refine lv_lconst (v := (1 : Int64)) C.1 C.2.1 dX15_writeMen_44 (by decide) ?_
      refine lv_land C.1 C.2.1 dX15_writeMen_45 ?_
      refine lv_lconst (v := (1 : Int64)) C.1 C.2.1 dX15_writeMen_46 (by decide) ?_
      refine W.lcmp C.1 C.2.1 dX15_writeMen_47 ?_
      refine lv_if_ne (tgt := 55) C.1 C.2.1 dX15_writeMen_48 (by decide) (fun c_5 => ?_) (fun c_5 => ?_)
      · have hE := br_n hE c_5
        refine lv_iconst (v := (0 : Int32)) C.1 C.2.1 dX15_writeMen_55 (by decide) ?_
        exact bX15_writeMen_56 C hk_8 hk_19 k_x0 k_x1 hkm hW hZ _ (lv_sub hl [1, 2, 3, 4, 5, 6, 0] rfl) hE
      · have hE := br_p hE c_5
        refine lv_iconst (v := (1 : Int32)) C.1 C.2.1 dX15_writeMen_51 (by decide) ?_
        refine lv_goto (tgt := 56) C.1 C.2.1 dX15_writeMen_52 (by decide) ?_
        exact bX15_writeMen_56 C hk_8 hk_19 k_x0 k_x1 hkm hW hZ _ (lv_sub hl [1, 2, 3, 4, 5, 6, 0] rfl) hE
set_option maxRecDepth 20000 in
theorem bX15_writeMen_8 {p : Program} {l : Launch} {e : Env} {s : State} {m : MethodId} {args : Array Value} {below : List Frame} {meth : Method} {c : Code} {X : Ec} {h0 : Hp} {o : Hp} {F : Nat} (C : Cx X p s m args meth c RX15 cX15_writeMen 9 none "writeMen") : ∀ (f : Nat) {h : Hp} {x0 : Nat} {x1 : Nat} {x2 : Int64} {x4 : Int32} {H : Heap} {locs : List Loc} (k_x0 : hK h x0 = 15) (k_x1 : hK h x1 = 12), Km h0 h → Wx X h H → va_S (aA (eB X)) s.heap H locs → ∀ (ls : Array Slot), lv_has ls 9 [(0, .ref x0), (1, .ref x1), (2, .long x2), (4, .int x4)] → sX15_writeMen_8 F f h x0 x1 x2 x4 = some o → W p l e (rm 15 294) s m args below meth c H locs 0 0 (MQ below (QV X h0 o) args s 0 0 (aA (eB X))) (F0 m 8 ls []) := by
  intro f
  induction f with
  | zero =>
    intro h x0 x1 x2 x4 H locs k_x0 k_x1 hkm hW hZ ls hl hE
    rw [sX15_writeMen_8] at hE
    cases hE
  | succ f ih =>
    intro h x0 x1 x2 x4 H locs k_x0 k_x1 hkm hW hZ ls hl hE
    rw [sX15_writeMen_8] at hE
    have hk_8 : ∀ (h : Hp) (x0 : Nat) (x1 : Nat) (x2 : Int64) (x4 : Int32) (H : Heap) (locs : List Loc), hK h x0 = 15 → hK h x1 = 12 → Km h0 h → Wx X h H → va_S (aA (eB X)) s.heap H locs → ∀ (ls : Array Slot), lv_has ls 9 [(0, .ref x0), (1, .ref x1), (2, .long x2), (4, .int x4)] → sX15_writeMen_8 F f h x0 x1 x2 x4 = some o → W p l e (rm 15 294) s m args below meth c H locs 0 0 (MQ below (QV X h0 o) args s 0 0 (aA (eB X))) (F0 m 8 ls []) := fun h x0 x1 x2 x4 H locs k_x0 k_x1 a b c ls hl hE => ih k_x0 k_x1 a b c ls hl hE
    refine lv_iload C.1 C.2.1 dX15_writeMen_8 (lv_at hl 3 rfl) ?_
    refine lv_if_lt (tgt := 152) C.1 C.2.1 dX15_writeMen_10 (by decide) (fun c_1 => ?_) (fun c_1 => ?_)
    · have hE := br_p hE c_1
      exact x_vret C rfl hW hZ hkm hE dX15_writeMen_152
    · have hE := br_n hE c_1
      refine lv_iconst (v := (0 : Int32)) C.1 C.2.1 dX15_writeMen_13 (by decide) ?_
      refine lv_istore (lv' := [(5, .int (0 : Int32)), (0, .ref x0), (1, .ref x1), (2, .long x2), (4, .int x4)]) C.1 C.2.1 dX15_writeMen_14 hl (by decide) rfl (fun ls hl => ?_)
      refine lv_iconst (v := (0 : Int32)) C.1 C.2.1 dX15_writeMen_16 (by decide) ?_
      refine lv_istore (lv' := [(6, .int (0 : Int32)), (5, .int (0 : Int32)), (0, .ref x0), (1, .ref x1), (2, .long x2), (4, .int x4)]) C.1 C.2.1 dX15_writeMen_17 hl (by decide) rfl (fun ls hl => ?_)
      exact bX15_writeMen_19 C hk_8 F k_x0 k_x1 hkm hW hZ _ (lv_sub hl [2, 3, 4, 5, 1, 0] rfl) hE
set_option maxRecDepth 20000 in
theorem ct_X15_writeMen (l : Launch) (X : Ec) (F : Nat) {h : Hp} {x0 : Nat} {x1 : Nat} {x2 : Int64} {o : Hp} (k_x0 : hK h x0 = 15) (k_x1 : hK h x1 = 12) (hE : sX15_writeMen F h x0 x1 x2 = some o) : MetV l yX15_writeMen cX15_writeMen 9 none 15 294 X [.ref x0, .ref x1, .long x2] h o := by
  refine x_met (by decide) (Nat.le_of_ble_eq_true rfl) ?_
  intro p e s m below meth c ls C hl hW hZ
  have hl : lv_has ls 9 [(0, .ref x0), (1, .ref x1), (2, .long x2)] := hl
  have hkm : Km h h := Km.rf h
  refine lv_aload_n C.1 C.2.1 dX15_writeMen_0 rfl (lv_at hl 0 rfl) ?_
  refine gf_X15_383 C hW k_x0 dX15_writeMen_1 ?_
  refine lv_iconst (v := (1 : Int32)) C.1 C.2.1 dX15_writeMen_4 (by decide) ?_
  refine lv_isub C.1 C.2.1 dX15_writeMen_5 ?_
  obtain ⟨v_1, ev_1, hE⟩ := nm_e2 hE
  refine x_nmI ev_1 ?_
  refine lv_istore (lv' := [(4, .int v_1), (0, .ref x0), (1, .ref x1), (2, .long x2)]) C.1 C.2.1 dX15_writeMen_6 hl (by decide) rfl (fun ls hl => ?_)
  exact bX15_writeMen_8 C F k_x0 k_x1 hkm hW hZ _ (lv_sub hl [1, 2, 3, 0] rfl) hE
theorem dX15_fileOf_0 : decode cX15_fileOf 0 = .ok (.iload_n 1, 1) := by decide +kernel
theorem dX15_fileOf_1 : decode cX15_fileOf 1 = .ok (.aload_n 0, 1) := by decide +kernel
theorem dX15_fileOf_2 : decode cX15_fileOf 2 = .ok (.getfield 382, 3) := by decide +kernel
theorem dX15_fileOf_5 : decode cX15_fileOf 5 = .ok (.irem, 1) := by decide +kernel
theorem dX15_fileOf_6 : decode cX15_fileOf 6 = .ok (.ireturn, 1) := by decide +kernel
set_option maxRecDepth 20000 in
theorem moX15_fileOf {o : Int32 × Hp} {h : Hp} {x0 : Nat} {x1 : Int32} (hE : sX15_fileOf h x0 x1 = some o) : Le h o.2 := by
  obtain ⟨g_1, hE⟩ := gd_e hE
  exact le_some2 hE
set_option maxRecDepth 20000 in
theorem ct_X15_fileOf (l : Launch) (X : Ec) {h : Hp} {x0 : Nat} {x1 : Int32} {o : Int32 × Hp} (k_x0 : hK h x0 = 15) (hE : sX15_fileOf h x0 x1 = some o) : MetI l yX15_fileOf cX15_fileOf 2 (some .int) 0 0 X [.ref x0, .int x1] h o := by
  refine x_met (by decide) (Nat.le_of_ble_eq_true rfl) ?_
  intro p e s m below meth c ls C hl hW hZ
  have hl : lv_has ls 2 [(0, .ref x0), (1, .int x1)] := hl
  have hkm : Km h h := Km.rf h
  refine lv_iload_n C.1 C.2.1 dX15_fileOf_0 rfl (lv_at hl 1 rfl) ?_
  refine lv_aload_n C.1 C.2.1 dX15_fileOf_1 rfl (lv_at hl 0 rfl) ?_
  refine gf_X15_382 C hW k_x0 dX15_fileOf_2 ?_
  obtain ⟨g_1, hE⟩ := gd_e hE
  refine lv_irem C.1 C.2.1 dX15_fileOf_5 g_1 ?_
  exact x_iret C rfl rfl hW hZ hkm hE dX15_fileOf_6
set_option maxRecDepth 100000 in
theorem ms_167 : Cond.selects RX15 yX15_fileOf yX15_fileOf ∈ W0 := w0_in (List.mem_append_left _ (List.mem_of_getElem? (i := 167) rfl)) rfl
set_option maxRecDepth 100000 in
theorem m_2500 : Cond.methodLink RX15 530 yX15_fileOf ∈ W0 := w0_in (List.mem_append_right _ (List.mem_of_getElem? (i := 2500) rfl)) rfl
set_option maxRecDepth 100000 in
theorem m_2502 : Cond.instanceMethod yX15_fileOf ∈ W0 := w0_in (List.mem_append_right _ (List.mem_of_getElem? (i := 2502) rfl)) rfl
set_option maxRecDepth 100000 in
theorem m_2503 : Cond.code yX15_fileOf cX15_fileOf 2 (some .int) ∈ W0 := w0_in (List.mem_append_right _ (List.mem_of_getElem? (i := 2503) rfl)) rfl
theorem cw_X15_530 : cwd RX15 530 yX15_fileOf cX15_fileOf 2 (some .int) false 1 := ⟨m_2503, m_2500, m_19, ⟨m_2502, ms_167⟩, by decide, by decide, by decide +kernel⟩
theorem dX15_saySquare_0 : decode cX15_saySquare 0 = .ok (.aload_n 0, 1) := by decide +kernel
theorem dX15_saySquare_1 : decode cX15_saySquare 1 = .ok (.bipush 97, 2) := by decide +kernel
theorem dX15_saySquare_3 : decode cX15_saySquare 3 = .ok (.aload_n 0, 1) := by decide +kernel
theorem dX15_saySquare_4 : decode cX15_saySquare 4 = .ok (.iload_n 1, 1) := by decide +kernel
theorem dX15_saySquare_5 : decode cX15_saySquare 5 = .ok (.invokevirtual 530, 3) := by decide +kernel
theorem dX15_saySquare_8 : decode cX15_saySquare 8 = .ok (.iadd, 1) := by decide +kernel
theorem dX15_saySquare_9 : decode cX15_saySquare 9 = .ok (.invokevirtual 21, 3) := by decide +kernel
theorem dX15_saySquare_12 : decode cX15_saySquare 12 = .ok (.aload_n 0, 1) := by decide +kernel
theorem dX15_saySquare_13 : decode cX15_saySquare 13 = .ok (.bipush 49, 2) := by decide +kernel
theorem dX15_saySquare_15 : decode cX15_saySquare 15 = .ok (.iload_n 1, 1) := by decide +kernel
theorem dX15_saySquare_16 : decode cX15_saySquare 16 = .ok (.aload_n 0, 1) := by decide +kernel
theorem dX15_saySquare_17 : decode cX15_saySquare 17 = .ok (.getfield 382, 3) := by decide +kernel
theorem dX15_saySquare_20 : decode cX15_saySquare 20 = .ok (.idiv, 1) := by decide +kernel
theorem dX15_saySquare_21 : decode cX15_saySquare 21 = .ok (.iadd, 1) := by decide +kernel
theorem dX15_saySquare_22 : decode cX15_saySquare 22 = .ok (.invokevirtual 21, 3) := by decide +kernel
theorem dX15_saySquare_25 : decode cX15_saySquare 25 = .ok (.return_, 1) := by decide +kernel
set_option maxRecDepth 20000 in
theorem moX15_saySquare {o : Hp} {h : Hp} {x0 : Nat} {x1 : Int32} (hE : sX15_saySquare h x0 x1 = some o) : Le h o := by
  obtain ⟨o_1, eo_1, hE⟩ := cl_e hE
  refine (moX15_fileOf eo_1).tr ?_
  obtain ⟨o_2, eo_2, hE⟩ := cl_e hE
  refine (moX15_say eo_2).tr ?_
  obtain ⟨g_3, hE⟩ := gd_e hE
  obtain ⟨o_4, eo_4, hE⟩ := cl_e hE
  refine (moX15_say eo_4).tr ?_
  exact le_some1 hE
set_option maxRecDepth 20000 in
theorem ct_X15_saySquare (l : Launch) (X : Ec) {h : Hp} {x0 : Nat} {x1 : Int32} {o : Hp} (k_x0 : hK h x0 = 15) (hE : sX15_saySquare h x0 x1 = some o) : MetV l yX15_saySquare cX15_saySquare 2 none 1 21 X [.ref x0, .int x1] h o := by
  refine x_met (by decide) (Nat.le_of_ble_eq_true rfl) ?_
  intro p e s m below meth c ls C hl hW hZ
  have hl : lv_has ls 2 [(0, .ref x0), (1, .int x1)] := hl
  have hkm : Km h h := Km.rf h
  refine lv_aload_n C.1 C.2.1 dX15_saySquare_0 rfl (lv_at hl 0 rfl) ?_
  refine lv_bipush (v := (97 : Int32)) C.1 C.2.1 dX15_saySquare_1 (by decide) ?_
  refine lv_aload_n C.1 C.2.1 dX15_saySquare_3 rfl (lv_at hl 0 rfl) ?_
  refine lv_iload_n C.1 C.2.1 dX15_saySquare_4 rfl (lv_at hl 1 rfl) ?_
  obtain ⟨o_1, eo_1, hE⟩ := cl_e hE
  refine x_kI (o := o_1) (z_runV (As := [.int x1]) (rest := [.int (97 : Int32), .ref x0]) C (ct_X15_fileOf l X k_x0 eo_1) cw_X15_530 hW hZ k_x0 (by decide) rfl rfl rfl hl.1 (Nat.le_of_ble_eq_true rfl) rfl dX15_saySquare_5 ⟨Nat.le_of_ble_eq_true rfl, Nat.le_of_ble_eq_true rfl⟩ ⟨Nat.le_refl _, Nat.le_refl _⟩) hZ (fun _ _ hW km hZ => ?_)
  replace hkm := hkm.tr km
  replace k_x0 := km.at k_x0 (by decide)
  refine lv_iadd C.1 C.2.1 dX15_saySquare_8 ?_
  obtain ⟨o_2, eo_2, hE⟩ := cl_e hE
  refine x_kV (o := o_2) (z_runV (As := [.int ((97 : Int32) + o_1.1)]) (rest := []) C (ct_X15_say l X k_x0 eo_2) cw_X15_21 hW hZ k_x0 (by decide) rfl rfl rfl hl.1 (Nat.le_of_ble_eq_true rfl) rfl dX15_saySquare_9 ⟨Nat.le_of_ble_eq_true rfl, Nat.le_of_ble_eq_true rfl⟩ ⟨Nat.le_refl _, Nat.le_refl _⟩) hZ (fun _ _ hW km hZ => ?_)
  replace hkm := hkm.tr km
  replace k_x0 := km.at k_x0 (by decide)
  refine lv_aload_n C.1 C.2.1 dX15_saySquare_12 rfl (lv_at hl 0 rfl) ?_
  refine lv_bipush (v := (49 : Int32)) C.1 C.2.1 dX15_saySquare_13 (by decide) ?_
  refine lv_iload_n C.1 C.2.1 dX15_saySquare_15 rfl (lv_at hl 1 rfl) ?_
  refine lv_aload_n C.1 C.2.1 dX15_saySquare_16 rfl (lv_at hl 0 rfl) ?_
  refine gf_X15_382 C hW k_x0 dX15_saySquare_17 ?_
  obtain ⟨g_3, hE⟩ := gd_e hE
  refine lv_idiv C.1 C.2.1 dX15_saySquare_20 g_3 ?_
  refine lv_iadd C.1 C.2.1 dX15_saySquare_21 ?_
  obtain ⟨o_4, eo_4, hE⟩ := cl_e hE
  refine x_kV (o := o_4) (z_runV (As := [.int ((49 : Int32) + (x1 / (hI o_2 x0 11)))]) (rest := []) C (ct_X15_say l X k_x0 eo_4) cw_X15_21 hW hZ k_x0 (by decide) rfl rfl rfl hl.1 (Nat.le_of_ble_eq_true rfl) rfl dX15_saySquare_22 ⟨Nat.le_of_ble_eq_true rfl, Nat.le_of_ble_eq_true rfl⟩ ⟨Nat.le_refl _, Nat.le_refl _⟩) hZ (fun _ _ hW km hZ => ?_)
  replace hkm := hkm.tr km
  replace k_x0 := km.at k_x0 (by decide)
  exact x_vret C rfl hW hZ hkm hE dX15_saySquare_25
set_option maxRecDepth 100000 in
theorem ms_166 : Cond.selects RX15 yX15_saySquare yX15_saySquare ∈ W0 := w0_in (List.mem_append_left _ (List.mem_of_getElem? (i := 166) rfl)) rfl
set_option maxRecDepth 100000 in
theorem ms_162 : Cond.selects RX15 yX15_writeMen yX15_writeMen ∈ W0 := w0_in (List.mem_append_left _ (List.mem_of_getElem? (i := 162) rfl)) rfl
set_option maxRecDepth 100000 in
theorem m_2479 : Cond.constantLong RX15 533 (-1 : Int64) ∈ W0 := w0_in (List.mem_append_right _ (List.mem_of_getElem? (i := 2479) rfl)) rfl
set_option maxRecDepth 100000 in
theorem m_2480 : Cond.methodLink RX15 535 yX15_writeMen ∈ W0 := w0_in (List.mem_append_right _ (List.mem_of_getElem? (i := 2480) rfl)) rfl
set_option maxRecDepth 100000 in
theorem m_2482 : Cond.instanceMethod yX15_writeMen ∈ W0 := w0_in (List.mem_append_right _ (List.mem_of_getElem? (i := 2482) rfl)) rfl
set_option maxRecDepth 100000 in
theorem m_2483 : Cond.code yX15_writeMen cX15_writeMen 9 none ∈ W0 := w0_in (List.mem_append_right _ (List.mem_of_getElem? (i := 2483) rfl)) rfl
set_option maxRecDepth 100000 in
theorem m_2496 : Cond.methodLink RX15 539 yX15_saySquare ∈ W0 := w0_in (List.mem_append_right _ (List.mem_of_getElem? (i := 2496) rfl)) rfl
set_option maxRecDepth 100000 in
theorem m_2498 : Cond.instanceMethod yX15_saySquare ∈ W0 := w0_in (List.mem_append_right _ (List.mem_of_getElem? (i := 2498) rfl)) rfl
set_option maxRecDepth 100000 in
theorem m_2499 : Cond.code yX15_saySquare cX15_saySquare 2 none ∈ W0 := w0_in (List.mem_append_right _ (List.mem_of_getElem? (i := 2499) rfl)) rfl
section
variable {p : Program} {l : Launch} {e : Env} {R : Room} {s : State} {m : MethodId} {args : Array Value} {below : List Frame} {meth : Method} {c : Code} {H : Heap} {locs : List Loc} {cells slots : Nat} {Q : State → Prop}
variable {cc : ByteArray} {pc : Nat} {ls : Array Slot} {rest : List Value} {X : Ec} {h h1 : Hp} {nL : Nat} {rt : Option FieldType} {mn : String}
theorem gf_X15_449 {a : Nat} (C : Cx X p s m args meth c RX15 cc nL rt mn) (hW : Wx X h H) (ha : hK h a = 12) (hdg : decode cc pc = .ok (.getfield 449, 3)) (kk : W p l e R s m args below meth c H locs cells slots Q (F0 m (pc + 3) ls (.int (hI h a 7) :: rest))) : W p l e R s m args below meth c H locs cells slots Q (F0 m pc ls (.ref a :: rest)) :=
  y_getiN C hW ha i_X12 (by decide) rfl (by decide) n_1923 rfl hdg kk
end
theorem cw_X15_539 : cwd RX15 539 yX15_saySquare cX15_saySquare 2 none false 1 := ⟨m_2499, m_2496, m_19, ⟨m_2498, ms_166⟩, by decide, by decide, by decide +kernel⟩
theorem cw_X15_535 : cwd RX15 535 yX15_writeMen cX15_writeMen 9 none false 2 := ⟨m_2483, m_2480, m_19, ⟨m_2482, ms_162⟩, by decide, by decide, by decide +kernel⟩
theorem dX15_writeAll_0 : decode cX15_writeAll 0 = .ok (.aload_n 0, 1) := by decide +kernel
theorem dX15_writeAll_1 : decode cX15_writeAll 1 = .ok (.aload_n 1, 1) := by decide +kernel
theorem dX15_writeAll_2 : decode cX15_writeAll 2 = .ok (.ldc2_w 533, 3) := by decide +kernel
theorem dX15_writeAll_5 : decode cX15_writeAll 5 = .ok (.invokevirtual 535, 3) := by decide +kernel
theorem dX15_writeAll_8 : decode cX15_writeAll 8 = .ok (.aload_n 0, 1) := by decide +kernel
theorem dX15_writeAll_9 : decode cX15_writeAll 9 = .ok (.bipush 32, 2) := by decide +kernel
theorem dX15_writeAll_11 : decode cX15_writeAll 11 = .ok (.invokevirtual 21, 3) := by decide +kernel
theorem dX15_writeAll_14 : decode cX15_writeAll 14 = .ok (.aload_n 0, 1) := by decide +kernel
theorem dX15_writeAll_15 : decode cX15_writeAll 15 = .ok (.aload_n 1, 1) := by decide +kernel
theorem dX15_writeAll_16 : decode cX15_writeAll 16 = .ok (.getfield 452, 3) := by decide +kernel
theorem dX15_writeAll_19 : decode cX15_writeAll 19 = .ok (.ifCond .ne 8, 3) := by decide +kernel
theorem dX15_writeAll_22 : decode cX15_writeAll 22 = .ok (.bipush 119, 2) := by decide +kernel
theorem dX15_writeAll_24 : decode cX15_writeAll 24 = .ok (.goto 5, 3) := by decide +kernel
theorem dX15_writeAll_27 : decode cX15_writeAll 27 = .ok (.bipush 98, 2) := by decide +kernel
theorem dX15_writeAll_29 : decode cX15_writeAll 29 = .ok (.invokevirtual 21, 3) := by decide +kernel
theorem dX15_writeAll_32 : decode cX15_writeAll 32 = .ok (.aload_n 0, 1) := by decide +kernel
theorem dX15_writeAll_33 : decode cX15_writeAll 33 = .ok (.bipush 32, 2) := by decide +kernel
theorem dX15_writeAll_35 : decode cX15_writeAll 35 = .ok (.invokevirtual 21, 3) := by decide +kernel
theorem dX15_writeAll_38 : decode cX15_writeAll 38 = .ok (.aload_n 1, 1) := by decide +kernel
theorem dX15_writeAll_39 : decode cX15_writeAll 39 = .ok (.getfield 436, 3) := by decide +kernel
theorem dX15_writeAll_42 : decode cX15_writeAll 42 = .ok (.lconst 0, 1) := by decide +kernel
theorem dX15_writeAll_43 : decode cX15_writeAll 43 = .ok (.lcmp, 1) := by decide +kernel
theorem dX15_writeAll_44 : decode cX15_writeAll 44 = .ok (.ifCond .ne 9, 3) := by decide +kernel
theorem dX15_writeAll_47 : decode cX15_writeAll 47 = .ok (.aload_n 0, 1) := by decide +kernel
theorem dX15_writeAll_48 : decode cX15_writeAll 48 = .ok (.bipush 45, 2) := by decide +kernel
theorem dX15_writeAll_50 : decode cX15_writeAll 50 = .ok (.invokevirtual 21, 3) := by decide +kernel
theorem dX15_writeAll_53 : decode cX15_writeAll 53 = .ok (.iconst 0, 1) := by decide +kernel
theorem dX15_writeAll_54 : decode cX15_writeAll 54 = .ok (.istore_n 2, 1) := by decide +kernel
theorem dX15_writeAll_55 : decode cX15_writeAll 55 = .ok (.iload_n 2, 1) := by decide +kernel
theorem dX15_writeAll_56 : decode cX15_writeAll 56 = .ok (.aload_n 0, 1) := by decide +kernel
theorem dX15_writeAll_57 : decode cX15_writeAll 57 = .ok (.getfield 384, 3) := by decide +kernel
theorem dX15_writeAll_60 : decode cX15_writeAll 60 = .ok (.if_icmp .ge 27, 3) := by decide +kernel
theorem dX15_writeAll_63 : decode cX15_writeAll 63 = .ok (.aload_n 1, 1) := by decide +kernel
theorem dX15_writeAll_64 : decode cX15_writeAll 64 = .ok (.getfield 436, 3) := by decide +kernel
theorem dX15_writeAll_67 : decode cX15_writeAll 67 = .ok (.iload_n 2, 1) := by decide +kernel
theorem dX15_writeAll_68 : decode cX15_writeAll 68 = .ok (.lshr, 1) := by decide +kernel
theorem dX15_writeAll_69 : decode cX15_writeAll 69 = .ok (.lconst 1, 1) := by decide +kernel
theorem dX15_writeAll_70 : decode cX15_writeAll 70 = .ok (.land, 1) := by decide +kernel
theorem dX15_writeAll_71 : decode cX15_writeAll 71 = .ok (.lconst 1, 1) := by decide +kernel
theorem dX15_writeAll_72 : decode cX15_writeAll 72 = .ok (.lcmp, 1) := by decide +kernel
theorem dX15_writeAll_73 : decode cX15_writeAll 73 = .ok (.ifCond .ne 8, 3) := by decide +kernel
theorem dX15_writeAll_76 : decode cX15_writeAll 76 = .ok (.aload_n 0, 1) := by decide +kernel
theorem dX15_writeAll_77 : decode cX15_writeAll 77 = .ok (.iload_n 2, 1) := by decide +kernel
theorem dX15_writeAll_78 : decode cX15_writeAll 78 = .ok (.invokevirtual 539, 3) := by decide +kernel
theorem dX15_writeAll_81 : decode cX15_writeAll 81 = .ok (.iinc 2 1, 3) := by decide +kernel
theorem dX15_writeAll_84 : decode cX15_writeAll 84 = .ok (.goto (-29), 3) := by decide +kernel
theorem dX15_writeAll_87 : decode cX15_writeAll 87 = .ok (.aload_n 0, 1) := by decide +kernel
theorem dX15_writeAll_88 : decode cX15_writeAll 88 = .ok (.bipush 32, 2) := by decide +kernel
theorem dX15_writeAll_90 : decode cX15_writeAll 90 = .ok (.invokevirtual 21, 3) := by decide +kernel
theorem dX15_writeAll_93 : decode cX15_writeAll 93 = .ok (.aload_n 1, 1) := by decide +kernel
theorem dX15_writeAll_94 : decode cX15_writeAll 94 = .ok (.getfield 441, 3) := by decide +kernel
theorem dX15_writeAll_97 : decode cX15_writeAll 97 = .ok (.ifCond .ne 9, 3) := by decide +kernel
theorem dX15_writeAll_100 : decode cX15_writeAll 100 = .ok (.aload_n 0, 1) := by decide +kernel
theorem dX15_writeAll_101 : decode cX15_writeAll 101 = .ok (.bipush 45, 2) := by decide +kernel
theorem dX15_writeAll_103 : decode cX15_writeAll 103 = .ok (.invokevirtual 21, 3) := by decide +kernel
theorem dX15_writeAll_106 : decode cX15_writeAll 106 = .ok (.iconst 0, 1) := by decide +kernel
theorem dX15_writeAll_107 : decode cX15_writeAll 107 = .ok (.istore_n 2, 1) := by decide +kernel
theorem dX15_writeAll_108 : decode cX15_writeAll 108 = .ok (.iload_n 2, 1) := by decide +kernel
theorem dX15_writeAll_109 : decode cX15_writeAll 109 = .ok (.aload_n 1, 1) := by decide +kernel
theorem dX15_writeAll_110 : decode cX15_writeAll 110 = .ok (.getfield 441, 3) := by decide +kernel
theorem dX15_writeAll_113 : decode cX15_writeAll 113 = .ok (.if_icmp .ge 19, 3) := by decide +kernel
theorem dX15_writeAll_116 : decode cX15_writeAll 116 = .ok (.aload_n 0, 1) := by decide +kernel
theorem dX15_writeAll_117 : decode cX15_writeAll 117 = .ok (.aload_n 1, 1) := by decide +kernel
theorem dX15_writeAll_118 : decode cX15_writeAll 118 = .ok (.getfield 439, 3) := by decide +kernel
theorem dX15_writeAll_121 : decode cX15_writeAll 121 = .ok (.iload_n 2, 1) := by decide +kernel
theorem dX15_writeAll_122 : decode cX15_writeAll 122 = .ok (.iaload, 1) := by decide +kernel
theorem dX15_writeAll_123 : decode cX15_writeAll 123 = .ok (.invokevirtual 539, 3) := by decide +kernel
theorem dX15_writeAll_126 : decode cX15_writeAll 126 = .ok (.iinc 2 1, 3) := by decide +kernel
theorem dX15_writeAll_129 : decode cX15_writeAll 129 = .ok (.goto (-21), 3) := by decide +kernel
theorem dX15_writeAll_132 : decode cX15_writeAll 132 = .ok (.aload_n 0, 1) := by decide +kernel
theorem dX15_writeAll_133 : decode cX15_writeAll 133 = .ok (.bipush 32, 2) := by decide +kernel
theorem dX15_writeAll_135 : decode cX15_writeAll 135 = .ok (.invokevirtual 21, 3) := by decide +kernel
theorem dX15_writeAll_138 : decode cX15_writeAll 138 = .ok (.aload_n 0, 1) := by decide +kernel
theorem dX15_writeAll_139 : decode cX15_writeAll 139 = .ok (.getfield 11, 3) := by decide +kernel
theorem dX15_writeAll_142 : decode cX15_writeAll 142 = .ok (.istore_n 2, 1) := by decide +kernel
theorem dX15_writeAll_143 : decode cX15_writeAll 143 = .ok (.iconst 0, 1) := by decide +kernel
theorem dX15_writeAll_144 : decode cX15_writeAll 144 = .ok (.istore_n 3, 1) := by decide +kernel
theorem dX15_writeAll_145 : decode cX15_writeAll 145 = .ok (.iload_n 3, 1) := by decide +kernel
theorem dX15_writeAll_146 : decode cX15_writeAll 146 = .ok (.iconst 2, 1) := by decide +kernel
theorem dX15_writeAll_147 : decode cX15_writeAll 147 = .ok (.if_icmp .ge 69, 3) := by decide +kernel
theorem dX15_writeAll_150 : decode cX15_writeAll 150 = .ok (.iconst 0, 1) := by decide +kernel
theorem dX15_writeAll_151 : decode cX15_writeAll 151 = .ok (.istore 4, 2) := by decide +kernel
theorem dX15_writeAll_153 : decode cX15_writeAll 153 = .ok (.iload 4, 2) := by decide +kernel
theorem dX15_writeAll_155 : decode cX15_writeAll 155 = .ok (.aload_n 0, 1) := by decide +kernel
theorem dX15_writeAll_156 : decode cX15_writeAll 156 = .ok (.getfield 252, 3) := by decide +kernel
theorem dX15_writeAll_159 : decode cX15_writeAll 159 = .ok (.getfield 169, 3) := by decide +kernel
theorem dX15_writeAll_162 : decode cX15_writeAll 162 = .ok (.if_icmp .ge 48, 3) := by decide +kernel
theorem dX15_writeAll_165 : decode cX15_writeAll 165 = .ok (.iconst 0, 1) := by decide +kernel
theorem dX15_writeAll_166 : decode cX15_writeAll 166 = .ok (.istore 5, 2) := by decide +kernel
theorem dX15_writeAll_168 : decode cX15_writeAll 168 = .ok (.iload 5, 2) := by decide +kernel
theorem dX15_writeAll_170 : decode cX15_writeAll 170 = .ok (.aload_n 1, 1) := by decide +kernel
theorem dX15_writeAll_171 : decode cX15_writeAll 171 = .ok (.getfield 444, 3) := by decide +kernel
theorem dX15_writeAll_174 : decode cX15_writeAll 174 = .ok (.iconst 2, 1) := by decide +kernel
theorem dX15_writeAll_175 : decode cX15_writeAll 175 = .ok (.iload 4, 2) := by decide +kernel
theorem dX15_writeAll_177 : decode cX15_writeAll 177 = .ok (.imul, 1) := by decide +kernel
theorem dX15_writeAll_178 : decode cX15_writeAll 178 = .ok (.iload_n 3, 1) := by decide +kernel
theorem dX15_writeAll_179 : decode cX15_writeAll 179 = .ok (.iadd, 1) := by decide +kernel
theorem dX15_writeAll_180 : decode cX15_writeAll 180 = .ok (.iaload, 1) := by decide +kernel
theorem dX15_writeAll_181 : decode cX15_writeAll 181 = .ok (.if_icmp .ge 23, 3) := by decide +kernel
theorem dX15_writeAll_184 : decode cX15_writeAll 184 = .ok (.aload_n 0, 1) := by decide +kernel
theorem dX15_writeAll_185 : decode cX15_writeAll 185 = .ok (.aload_n 0, 1) := by decide +kernel
theorem dX15_writeAll_186 : decode cX15_writeAll 186 = .ok (.iload 4, 2) := by decide +kernel
theorem dX15_writeAll_188 : decode cX15_writeAll 188 = .ok (.iload_n 3, 1) := by decide +kernel
theorem dX15_writeAll_189 : decode cX15_writeAll 189 = .ok (.invokestatic 398, 3) := by decide +kernel
theorem dX15_writeAll_192 : decode cX15_writeAll 192 = .ok (.invokevirtual 527, 3) := by decide +kernel
theorem dX15_writeAll_195 : decode cX15_writeAll 195 = .ok (.invokevirtual 21, 3) := by decide +kernel
theorem dX15_writeAll_198 : decode cX15_writeAll 198 = .ok (.iinc 5 1, 3) := by decide +kernel
theorem dX15_writeAll_201 : decode cX15_writeAll 201 = .ok (.goto (-33), 3) := by decide +kernel
theorem dX15_writeAll_204 : decode cX15_writeAll 204 = .ok (.iinc 4 1, 3) := by decide +kernel
theorem dX15_writeAll_207 : decode cX15_writeAll 207 = .ok (.goto (-54), 3) := by decide +kernel
theorem dX15_writeAll_210 : decode cX15_writeAll 210 = .ok (.iinc 3 1, 3) := by decide +kernel
theorem dX15_writeAll_213 : decode cX15_writeAll 213 = .ok (.goto (-68), 3) := by decide +kernel
theorem dX15_writeAll_216 : decode cX15_writeAll 216 = .ok (.aload_n 0, 1) := by decide +kernel
theorem dX15_writeAll_217 : decode cX15_writeAll 217 = .ok (.getfield 11, 3) := by decide +kernel
theorem dX15_writeAll_220 : decode cX15_writeAll 220 = .ok (.iload_n 2, 1) := by decide +kernel
theorem dX15_writeAll_221 : decode cX15_writeAll 221 = .ok (.if_icmp .ne 9, 3) := by decide +kernel
theorem dX15_writeAll_224 : decode cX15_writeAll 224 = .ok (.aload_n 0, 1) := by decide +kernel
theorem dX15_writeAll_225 : decode cX15_writeAll 225 = .ok (.bipush 45, 2) := by decide +kernel
theorem dX15_writeAll_227 : decode cX15_writeAll 227 = .ok (.invokevirtual 21, 3) := by decide +kernel
theorem dX15_writeAll_230 : decode cX15_writeAll 230 = .ok (.aload_n 0, 1) := by decide +kernel
theorem dX15_writeAll_231 : decode cX15_writeAll 231 = .ok (.bipush 32, 2) := by decide +kernel
theorem dX15_writeAll_233 : decode cX15_writeAll 233 = .ok (.invokevirtual 21, 3) := by decide +kernel
theorem dX15_writeAll_236 : decode cX15_writeAll 236 = .ok (.aload_n 0, 1) := by decide +kernel
theorem dX15_writeAll_237 : decode cX15_writeAll 237 = .ok (.bipush 48, 2) := by decide +kernel
theorem dX15_writeAll_239 : decode cX15_writeAll 239 = .ok (.aload_n 1, 1) := by decide +kernel
theorem dX15_writeAll_240 : decode cX15_writeAll 240 = .ok (.getfield 447, 3) := by decide +kernel
theorem dX15_writeAll_243 : decode cX15_writeAll 243 = .ok (.iconst 0, 1) := by decide +kernel
theorem dX15_writeAll_244 : decode cX15_writeAll 244 = .ok (.iaload, 1) := by decide +kernel
theorem dX15_writeAll_245 : decode cX15_writeAll 245 = .ok (.iadd, 1) := by decide +kernel
theorem dX15_writeAll_246 : decode cX15_writeAll 246 = .ok (.invokevirtual 21, 3) := by decide +kernel
theorem dX15_writeAll_249 : decode cX15_writeAll 249 = .ok (.aload_n 0, 1) := by decide +kernel
theorem dX15_writeAll_250 : decode cX15_writeAll 250 = .ok (.bipush 48, 2) := by decide +kernel
theorem dX15_writeAll_252 : decode cX15_writeAll 252 = .ok (.aload_n 1, 1) := by decide +kernel
theorem dX15_writeAll_253 : decode cX15_writeAll 253 = .ok (.getfield 447, 3) := by decide +kernel
theorem dX15_writeAll_256 : decode cX15_writeAll 256 = .ok (.iconst 1, 1) := by decide +kernel
theorem dX15_writeAll_257 : decode cX15_writeAll 257 = .ok (.iaload, 1) := by decide +kernel
theorem dX15_writeAll_258 : decode cX15_writeAll 258 = .ok (.iadd, 1) := by decide +kernel
theorem dX15_writeAll_259 : decode cX15_writeAll 259 = .ok (.invokevirtual 21, 3) := by decide +kernel
theorem dX15_writeAll_262 : decode cX15_writeAll 262 = .ok (.aload_n 0, 1) := by decide +kernel
theorem dX15_writeAll_263 : decode cX15_writeAll 263 = .ok (.bipush 32, 2) := by decide +kernel
theorem dX15_writeAll_265 : decode cX15_writeAll 265 = .ok (.invokevirtual 21, 3) := by decide +kernel
theorem dX15_writeAll_268 : decode cX15_writeAll 268 = .ok (.aload_n 0, 1) := by decide +kernel
theorem dX15_writeAll_269 : decode cX15_writeAll 269 = .ok (.aload_n 1, 1) := by decide +kernel
theorem dX15_writeAll_270 : decode cX15_writeAll 270 = .ok (.getfield 449, 3) := by decide +kernel
theorem dX15_writeAll_273 : decode cX15_writeAll 273 = .ok (.invokevirtual 17, 3) := by decide +kernel
theorem dX15_writeAll_276 : decode cX15_writeAll 276 = .ok (.return_, 1) := by decide +kernel
set_option maxRecDepth 20000 in
theorem moX15_writeAll_230 {o : Hp} {F : Nat} {h : Hp} {x0 : Nat} {x1 : Nat} (hE : sX15_writeAll_230 F h x0 x1 = some o) : Le h o := by
  obtain ⟨o_1, eo_1, hE⟩ := cl_e hE
  refine (moX15_say eo_1).tr ?_
  obtain ⟨r_2, er_2, hE⟩ := cl_e hE
  obtain ⟨g_3, hE⟩ := gd_e hE
  obtain ⟨o_4, eo_4, hE⟩ := cl_e hE
  refine (moX15_say eo_4).tr ?_
  obtain ⟨r_5, er_5, hE⟩ := cl_e hE
  obtain ⟨g_6, hE⟩ := gd_e hE
  obtain ⟨o_7, eo_7, hE⟩ := cl_e hE
  refine (moX15_say eo_7).tr ?_
  obtain ⟨o_8, eo_8, hE⟩ := cl_e hE
  refine (moX15_say eo_8).tr ?_
  obtain ⟨o_9, eo_9, hE⟩ := cl_e hE
  refine (moX15_sayNumber eo_9).tr ?_
  exact le_some1 hE
set_option maxRecDepth 20000 in
theorem moX15_writeAll_168 {o : Hp} {k_145 : Hp → Nat → Nat → Int32 → Int32 → Option (Hp)} {k_153 : Hp → Nat → Nat → Int32 → Int32 → Int32 → Option (Hp)} {F : Nat} (mk_145 : ∀ (h : Hp) (x0 : Nat) (x1 : Nat) (x2 : Int32) (x3 : Int32), k_145 h x0 x1 x2 x3 = some o → Le h o) (mk_153 : ∀ (h : Hp) (x0 : Nat) (x1 : Nat) (x2 : Int32) (x3 : Int32) (x4 : Int32), k_153 h x0 x1 x2 x3 x4 = some o → Le h o) : ∀ (f : Nat) {h : Hp} {x0 : Nat} {x1 : Nat} {x2 : Int32} {x3 : Int32} {x4 : Int32} {x5 : Int32}, sX15_writeAll_168 F k_145 k_153 f h x0 x1 x2 x3 x4 x5 = some o → Le h o := by
  intro f
  induction f with
  | zero =>
    intro h x0 x1 x2 x3 x4 x5 hE
    rw [sX15_writeAll_168] at hE
    cases hE
  | succ f ih =>
    intro h x0 x1 x2 x3 x4 x5 hE
    rw [sX15_writeAll_168] at hE
    have mk_168 : ∀ (h : Hp) (x0 : Nat) (x1 : Nat) (x2 : Int32) (x3 : Int32) (x4 : Int32) (x5 : Int32), sX15_writeAll_168 F k_145 k_153 f h x0 x1 x2 x3 x4 x5 = some o → Le h o := fun h x0 x1 x2 x3 x4 x5 hE => ih hE
    obtain ⟨r_1, er_1, hE⟩ := cl_e hE
    obtain ⟨g_2, hE⟩ := gd_e hE
    rcases br_e hE with ⟨_, hE⟩ | ⟨_, hE⟩
    · obtain ⟨v_4, ev_4, hE⟩ := nm_e2 hE
      exact mk_153 _ _ _ _ _ _ hE
    · obtain ⟨o_5, eo_5, hE⟩ := cl_e hE
      refine (moX15_valueOf eo_5).tr ?_
      obtain ⟨o_6, eo_6, hE⟩ := cl_e hE
      refine (moX15_letterOf eo_6).tr ?_
      obtain ⟨o_7, eo_7, hE⟩ := cl_e hE
      refine (moX15_say eo_7).tr ?_
      obtain ⟨v_8, ev_8, hE⟩ := nm_e2 hE
      exact mk_168 _ _ _ _ _ _ _ hE
set_option maxRecDepth 20000 in
theorem moX15_writeAll_153 {o : Hp} {k_145 : Hp → Nat → Nat → Int32 → Int32 → Option (Hp)} {F : Nat} (mk_145 : ∀ (h : Hp) (x0 : Nat) (x1 : Nat) (x2 : Int32) (x3 : Int32), k_145 h x0 x1 x2 x3 = some o → Le h o) : ∀ (f : Nat) {h : Hp} {x0 : Nat} {x1 : Nat} {x2 : Int32} {x3 : Int32} {x4 : Int32}, sX15_writeAll_153 F k_145 f h x0 x1 x2 x3 x4 = some o → Le h o := by
  intro f
  induction f with
  | zero =>
    intro h x0 x1 x2 x3 x4 hE
    rw [sX15_writeAll_153] at hE
    cases hE
  | succ f ih =>
    intro h x0 x1 x2 x3 x4 hE
    rw [sX15_writeAll_153] at hE
    have mk_153 : ∀ (h : Hp) (x0 : Nat) (x1 : Nat) (x2 : Int32) (x3 : Int32) (x4 : Int32), sX15_writeAll_153 F k_145 f h x0 x1 x2 x3 x4 = some o → Le h o := fun h x0 x1 x2 x3 x4 hE => ih hE
    obtain ⟨r_1, er_1, hE⟩ := cl_e hE
    rcases br_e hE with ⟨_, hE⟩ | ⟨_, hE⟩
    · obtain ⟨v_3, ev_3, hE⟩ := nm_e2 hE
      exact mk_145 _ _ _ _ _ hE
    · exact moX15_writeAll_168 mk_145 mk_153 _ hE
set_option maxRecDepth 20000 in
theorem moX15_writeAll_145 {o : Hp} {F : Nat} : ∀ (f : Nat) {h : Hp} {x0 : Nat} {x1 : Nat} {x2 : Int32} {x3 : Int32}, sX15_writeAll_145 F f h x0 x1 x2 x3 = some o → Le h o := by
  intro f
  induction f with
  | zero =>
    intro h x0 x1 x2 x3 hE
    rw [sX15_writeAll_145] at hE
    cases hE
  | succ f ih =>
    intro h x0 x1 x2 x3 hE
    rw [sX15_writeAll_145] at hE
    have mk_145 : ∀ (h : Hp) (x0 : Nat) (x1 : Nat) (x2 : Int32) (x3 : Int32), sX15_writeAll_145 F f h x0 x1 x2 x3 = some o → Le h o := fun h x0 x1 x2 x3 hE => ih hE
    rcases br_e hE with ⟨_, hE⟩ | ⟨_, hE⟩
    · rcases br_e hE with ⟨_, hE⟩ | ⟨_, hE⟩
      · obtain ⟨o_3, eo_3, hE⟩ := cl_e hE
        refine (moX15_say eo_3).tr ?_
        exact moX15_writeAll_230 hE
      · exact moX15_writeAll_230 hE
    · exact moX15_writeAll_153 mk_145 _ hE
set_option maxRecDepth 20000 in
theorem moX15_writeAll_108 {o : Hp} {F : Nat} : ∀ (f : Nat) {h : Hp} {x0 : Nat} {x1 : Nat} {x2 : Int32}, sX15_writeAll_108 F f h x0 x1 x2 = some o → Le h o := by
  intro f
  induction f with
  | zero =>
    intro h x0 x1 x2 hE
    rw [sX15_writeAll_108] at hE
    cases hE
  | succ f ih =>
    intro h x0 x1 x2 hE
    rw [sX15_writeAll_108] at hE
    have mk_108 : ∀ (h : Hp) (x0 : Nat) (x1 : Nat) (x2 : Int32), sX15_writeAll_108 F f h x0 x1 x2 = some o → Le h o := fun h x0 x1 x2 hE => ih hE
    rcases br_e hE with ⟨_, hE⟩ | ⟨_, hE⟩
    · obtain ⟨o_2, eo_2, hE⟩ := cl_e hE
      refine (moX15_say eo_2).tr ?_
      obtain ⟨v_3, ev_3, hE⟩ := nm_e2 hE
      exact moX15_writeAll_145 _ hE
    · obtain ⟨r_4, er_4, hE⟩ := cl_e hE
      obtain ⟨g_5, hE⟩ := gd_e hE
      obtain ⟨o_6, eo_6, hE⟩ := cl_e hE
      refine (moX15_saySquare eo_6).tr ?_
      obtain ⟨v_7, ev_7, hE⟩ := nm_e2 hE
      exact mk_108 _ _ _ _ hE
set_option maxRecDepth 20000 in
theorem moX15_writeAll_106 {o : Hp} {F : Nat} {h : Hp} {x0 : Nat} {x1 : Nat} (hE : sX15_writeAll_106 F h x0 x1 = some o) : Le h o := by
  exact moX15_writeAll_108 _ hE
set_option maxRecDepth 20000 in
theorem moX15_writeAll_81 {o : Hp} {k_55 : Hp → Nat → Nat → Int32 → Option (Hp)} {F : Nat} (mk_55 : ∀ (h : Hp) (x0 : Nat) (x1 : Nat) (x2 : Int32), k_55 h x0 x1 x2 = some o → Le h o) {h : Hp} {x0 : Nat} {x1 : Nat} {x2 : Int32} (hE : sX15_writeAll_81 F k_55 h x0 x1 x2 = some o) : Le h o := by
  obtain ⟨v_1, ev_1, hE⟩ := nm_e2 hE
  exact mk_55 _ _ _ _ hE
set_option maxRecDepth 20000 in
theorem moX15_writeAll_55 {o : Hp} {F : Nat} : ∀ (f : Nat) {h : Hp} {x0 : Nat} {x1 : Nat} {x2 : Int32}, sX15_writeAll_55 F f h x0 x1 x2 = some o → Le h o := by
  intro f
  induction f with
  | zero =>
    intro h x0 x1 x2 hE
    rw [sX15_writeAll_55] at hE
    cases hE
  | succ f ih =>
    intro h x0 x1 x2 hE
    rw [sX15_writeAll_55] at hE
    have mk_55 : ∀ (h : Hp) (x0 : Nat) (x1 : Nat) (x2 : Int32), sX15_writeAll_55 F f h x0 x1 x2 = some o → Le h o := fun h x0 x1 x2 hE => ih hE
    rcases br_e hE with ⟨_, hE⟩ | ⟨_, hE⟩
    · obtain ⟨o_2, eo_2, hE⟩ := cl_e hE
      refine (moX15_say eo_2).tr ?_
      rcases br_e hE with ⟨_, hE⟩ | ⟨_, hE⟩
      · obtain ⟨o_4, eo_4, hE⟩ := cl_e hE
        refine (moX15_say eo_4).tr ?_
        exact moX15_writeAll_106 hE
      · exact moX15_writeAll_106 hE
    · rcases br_e hE with ⟨_, hE⟩ | ⟨_, hE⟩
      · obtain ⟨o_6, eo_6, hE⟩ := cl_e hE
        refine (moX15_saySquare eo_6).tr ?_
        exact moX15_writeAll_81 mk_55 hE
      · exact moX15_writeAll_81 mk_55 hE
set_option maxRecDepth 20000 in
theorem moX15_writeAll_53 {o : Hp} {F : Nat} {h : Hp} {x0 : Nat} {x1 : Nat} (hE : sX15_writeAll_53 F h x0 x1 = some o) : Le h o := by
  exact moX15_writeAll_55 _ hE
set_option maxRecDepth 20000 in
theorem moX15_writeAll_29 {o : Hp} {F : Nat} {h : Hp} {x0 : Nat} {x1 : Nat} {t0 : Int32} {t1 : Nat} (hE : sX15_writeAll_29 F h x0 x1 t0 t1 = some o) : Le h o := by
  obtain ⟨o_1, eo_1, hE⟩ := cl_e hE
  refine (moX15_say eo_1).tr ?_
  obtain ⟨o_2, eo_2, hE⟩ := cl_e hE
  refine (moX15_say eo_2).tr ?_
  rcases br_e hE with ⟨_, hE⟩ | ⟨_, hE⟩
  · obtain ⟨o_4, eo_4, hE⟩ := cl_e hE
    refine (moX15_say eo_4).tr ?_
    exact moX15_writeAll_53 hE
  · exact moX15_writeAll_53 hE
set_option maxRecDepth 20000 in
theorem moX15_writeAll {o : Hp} {F : Nat} {h : Hp} {x0 : Nat} {x1 : Nat} (hE : sX15_writeAll F h x0 x1 = some o) : Le h o := by
  obtain ⟨o_1, eo_1, hE⟩ := cl_e hE
  refine (moX15_writeMen eo_1).tr ?_
  obtain ⟨o_2, eo_2, hE⟩ := cl_e hE
  refine (moX15_say eo_2).tr ?_
  rcases br_e hE with ⟨_, hE⟩ | ⟨_, hE⟩
  · exact moX15_writeAll_29 hE
  · exact moX15_writeAll_29 hE
set_option maxRecDepth 20000 in
theorem bX15_writeAll_230 {p : Program} {l : Launch} {e : Env} {s : State} {m : MethodId} {args : Array Value} {below : List Frame} {meth : Method} {c : Code} {X : Ec} {h0 : Hp} {o : Hp} {F : Nat} (C : Cx X p s m args meth c RX15 cX15_writeAll 6 none "writeAll") {h : Hp} {x0 : Nat} {x1 : Nat} {H : Heap} {locs : List Loc} (k_x0 : hK h x0 = 15) (k_x1 : hK h x1 = 12) (hkm : Km h0 h) (hW : Wx X h H) (hZ : va_S (aA (eB X)) s.heap H locs) (ls : Array Slot) (hl : lv_has ls 6 [(0, .ref x0), (1, .ref x1)]) (hE : sX15_writeAll_230 F h x0 x1 = some o) : W p l e (rm 16 322) s m args below meth c H locs 0 0 (MQ below (QV X h0 o) args s 0 0 (aA (eB X))) (F0 m 230 ls []) := by
  refine lv_aload_n C.1 C.2.1 dX15_writeAll_230 rfl (lv_at hl 0 rfl) ?_
  refine lv_bipush (v := (32 : Int32)) C.1 C.2.1 dX15_writeAll_231 (by decide) ?_
  obtain ⟨o_1, eo_1, hE⟩ := cl_e hE
  refine x_kV (o := o_1) (z_runV (As := [.int (32 : Int32)]) (rest := []) C (ct_X15_say l X k_x0 eo_1) cw_X15_21 hW hZ k_x0 (by decide) rfl rfl rfl hl.1 (Nat.le_of_ble_eq_true rfl) rfl dX15_writeAll_233 ⟨Nat.le_of_ble_eq_true rfl, Nat.le_of_ble_eq_true rfl⟩ ⟨Nat.le_refl _, Nat.le_refl _⟩) hZ (fun _ _ hW km hZ => ?_)
  replace hkm := hkm.tr km
  replace k_x0 := km.at k_x0 (by decide)
  replace k_x1 := km.at k_x1 (by decide)
  refine lv_aload_n C.1 C.2.1 dX15_writeAll_236 rfl (lv_at hl 0 rfl) ?_
  refine lv_bipush (v := (48 : Int32)) C.1 C.2.1 dX15_writeAll_237 (by decide) ?_
  refine lv_aload_n C.1 C.2.1 dX15_writeAll_239 rfl (lv_at hl 1 rfl) ?_
  obtain ⟨r_2, er_2, hE⟩ := cl_e hE
  refine gf_X15_447 C hW k_x1 er_2 dX15_writeAll_240 (fun k_r_2 => ?_)
  refine lv_iconst (v := (0 : Int32)) C.1 C.2.1 dX15_writeAll_243 (by decide) ?_
  obtain ⟨g_3, hE⟩ := gd_e hE
  refine y_iald C hW k_r_2 g_3 dX15_writeAll_244 ?_
  refine lv_iadd C.1 C.2.1 dX15_writeAll_245 ?_
  obtain ⟨o_4, eo_4, hE⟩ := cl_e hE
  refine x_kV (o := o_4) (z_runV (As := [.int ((48 : Int32) + (hI o_1 r_2 (0 : Int32).toNatClampNeg))]) (rest := []) C (ct_X15_say l X k_x0 eo_4) cw_X15_21 hW hZ k_x0 (by decide) rfl rfl rfl hl.1 (Nat.le_of_ble_eq_true rfl) rfl dX15_writeAll_246 ⟨Nat.le_of_ble_eq_true rfl, Nat.le_of_ble_eq_true rfl⟩ ⟨Nat.le_refl _, Nat.le_refl _⟩) hZ (fun _ _ hW km hZ => ?_)
  replace hkm := hkm.tr km
  replace k_x0 := km.at k_x0 (by decide)
  replace k_x1 := km.at k_x1 (by decide)
  refine lv_aload_n C.1 C.2.1 dX15_writeAll_249 rfl (lv_at hl 0 rfl) ?_
  refine lv_bipush (v := (48 : Int32)) C.1 C.2.1 dX15_writeAll_250 (by decide) ?_
  refine lv_aload_n C.1 C.2.1 dX15_writeAll_252 rfl (lv_at hl 1 rfl) ?_
  obtain ⟨r_5, er_5, hE⟩ := cl_e hE
  refine gf_X15_447 C hW k_x1 er_5 dX15_writeAll_253 (fun k_r_5 => ?_)
  refine lv_iconst (v := (1 : Int32)) C.1 C.2.1 dX15_writeAll_256 (by decide) ?_
  obtain ⟨g_6, hE⟩ := gd_e hE
  refine y_iald C hW k_r_5 g_6 dX15_writeAll_257 ?_
  refine lv_iadd C.1 C.2.1 dX15_writeAll_258 ?_
  obtain ⟨o_7, eo_7, hE⟩ := cl_e hE
  refine x_kV (o := o_7) (z_runV (As := [.int ((48 : Int32) + (hI o_4 r_5 (1 : Int32).toNatClampNeg))]) (rest := []) C (ct_X15_say l X k_x0 eo_7) cw_X15_21 hW hZ k_x0 (by decide) rfl rfl rfl hl.1 (Nat.le_of_ble_eq_true rfl) rfl dX15_writeAll_259 ⟨Nat.le_of_ble_eq_true rfl, Nat.le_of_ble_eq_true rfl⟩ ⟨Nat.le_refl _, Nat.le_refl _⟩) hZ (fun _ _ hW km hZ => ?_)
  replace hkm := hkm.tr km
  replace k_x0 := km.at k_x0 (by decide)
  replace k_x1 := km.at k_x1 (by decide)
  refine lv_aload_n C.1 C.2.1 dX15_writeAll_262 rfl (lv_at hl 0 rfl) ?_
  refine lv_bipush (v := (32 : Int32)) C.1 C.2.1 dX15_writeAll_263 (by decide) ?_
  obtain ⟨o_8, eo_8, hE⟩ := cl_e hE
  refine x_kV (o := o_8) (z_runV (As := [.int (32 : Int32)]) (rest := []) C (ct_X15_say l X k_x0 eo_8) cw_X15_21 hW hZ k_x0 (by decide) rfl rfl rfl hl.1 (Nat.le_of_ble_eq_true rfl) rfl dX15_writeAll_265 ⟨Nat.le_of_ble_eq_true rfl, Nat.le_of_ble_eq_true rfl⟩ ⟨Nat.le_refl _, Nat.le_refl _⟩) hZ (fun _ _ hW km hZ => ?_)
  replace hkm := hkm.tr km
  replace k_x0 := km.at k_x0 (by decide)
  replace k_x1 := km.at k_x1 (by decide)
  refine lv_aload_n C.1 C.2.1 dX15_writeAll_268 rfl (lv_at hl 0 rfl) ?_
  refine lv_aload_n C.1 C.2.1 dX15_writeAll_269 rfl (lv_at hl 1 rfl) ?_
  refine gf_X15_449 C hW k_x1 dX15_writeAll_270 ?_
  obtain ⟨o_9, eo_9, hE⟩ := cl_e hE
  refine x_kV (o := o_9) (z_runV (As := [.int (hI o_8 x1 7)]) (rest := []) C (ct_X15_sayNumber l X F k_x0 eo_9) cw_X15_17 hW hZ k_x0 (by decide) rfl rfl rfl hl.1 (Nat.le_of_ble_eq_true rfl) rfl dX15_writeAll_273 ⟨Nat.le_of_ble_eq_true rfl, Nat.le_of_ble_eq_true rfl⟩ ⟨Nat.le_refl _, Nat.le_refl _⟩) hZ (fun _ _ hW km hZ => ?_)
  replace hkm := hkm.tr km
  replace k_x0 := km.at k_x0 (by decide)
  replace k_x1 := km.at k_x1 (by decide)
  exact x_vret C rfl hW hZ hkm hE dX15_writeAll_276
set_option maxRecDepth 20000 in
theorem bX15_writeAll_168 {p : Program} {l : Launch} {e : Env} {s : State} {m : MethodId} {args : Array Value} {below : List Frame} {meth : Method} {c : Code} {X : Ec} {h0 : Hp} {o : Hp} {k_145 : Hp → Nat → Nat → Int32 → Int32 → Option (Hp)} {k_153 : Hp → Nat → Nat → Int32 → Int32 → Int32 → Option (Hp)} {F : Nat} (C : Cx X p s m args meth c RX15 cX15_writeAll 6 none "writeAll") (hk_145 : ∀ (h : Hp) (x0 : Nat) (x1 : Nat) (x2 : Int32) (x3 : Int32) (H : Heap) (locs : List Loc), hK h x0 = 15 → hK h x1 = 12 → Km h0 h → Wx X h H → va_S (aA (eB X)) s.heap H locs → ∀ (ls : Array Slot), lv_has ls 6 [(0, .ref x0), (1, .ref x1), (2, .int x2), (3, .int x3)] → k_145 h x0 x1 x2 x3 = some o → W p l e (rm 16 322) s m args below meth c H locs 0 0 (MQ below (QV X h0 o) args s 0 0 (aA (eB X))) (F0 m 145 ls [])) (hk_153 : ∀ (h : Hp) (x0 : Nat) (x1 : Nat) (x2 : Int32) (x3 : Int32) (x4 : Int32) (H : Heap) (locs : List Loc), hK h x0 = 15 → hK h x1 = 12 → Km h0 h → Wx X h H → va_S (aA (eB X)) s.heap H locs → ∀ (ls : Array Slot), lv_has ls 6 [(0, .ref x0), (1, .ref x1), (2, .int x2), (3, .int x3), (4, .int x4)] → k_153 h x0 x1 x2 x3 x4 = some o → W p l e (rm 16 322) s m args below meth c H locs 0 0 (MQ below (QV X h0 o) args s 0 0 (aA (eB X))) (F0 m 153 ls [])) : ∀ (f : Nat) {h : Hp} {x0 : Nat} {x1 : Nat} {x2 : Int32} {x3 : Int32} {x4 : Int32} {x5 : Int32} {H : Heap} {locs : List Loc} (k_x0 : hK h x0 = 15) (k_x1 : hK h x1 = 12), Km h0 h → Wx X h H → va_S (aA (eB X)) s.heap H locs → ∀ (ls : Array Slot), lv_has ls 6 [(0, .ref x0), (1, .ref x1), (2, .int x2), (3, .int x3), (4, .int x4), (5, .int x5)] → sX15_writeAll_168 F k_145 k_153 f h x0 x1 x2 x3 x4 x5 = some o → W p l e (rm 16 322) s m args below meth c H locs 0 0 (MQ below (QV X h0 o) args s 0 0 (aA (eB X))) (F0 m 168 ls []) := by
  intro f
  induction f with
  | zero =>
    intro h x0 x1 x2 x3 x4 x5 H locs k_x0 k_x1 hkm hW hZ ls hl hE
    rw [sX15_writeAll_168] at hE
    cases hE
  | succ f ih =>
    intro h x0 x1 x2 x3 x4 x5 H locs k_x0 k_x1 hkm hW hZ ls hl hE
    rw [sX15_writeAll_168] at hE
    have hk_168 : ∀ (h : Hp) (x0 : Nat) (x1 : Nat) (x2 : Int32) (x3 : Int32) (x4 : Int32) (x5 : Int32) (H : Heap) (locs : List Loc), hK h x0 = 15 → hK h x1 = 12 → Km h0 h → Wx X h H → va_S (aA (eB X)) s.heap H locs → ∀ (ls : Array Slot), lv_has ls 6 [(0, .ref x0), (1, .ref x1), (2, .int x2), (3, .int x3), (4, .int x4), (5, .int x5)] → sX15_writeAll_168 F k_145 k_153 f h x0 x1 x2 x3 x4 x5 = some o → W p l e (rm 16 322) s m args below meth c H locs 0 0 (MQ below (QV X h0 o) args s 0 0 (aA (eB X))) (F0 m 168 ls []) := fun h x0 x1 x2 x3 x4 x5 H locs k_x0 k_x1 a b c ls hl hE => ih k_x0 k_x1 a b c ls hl hE
    refine lv_iload C.1 C.2.1 dX15_writeAll_168 (lv_at hl 5 rfl) ?_
    refine lv_aload_n C.1 C.2.1 dX15_writeAll_170 rfl (lv_at hl 1 rfl) ?_
    obtain ⟨r_1, er_1, hE⟩ := cl_e hE
    refine gf_X15_444 C hW k_x1 er_1 dX15_writeAll_171 (fun k_r_1 => ?_)
    refine lv_iconst (v := (2 : Int32)) C.1 C.2.1 dX15_writeAll_174 (by decide) ?_
    refine lv_iload C.1 C.2.1 dX15_writeAll_175 (lv_at hl 4 rfl) ?_
    refine lv_imul C.1 C.2.1 dX15_writeAll_177 ?_
    refine lv_iload_n C.1 C.2.1 dX15_writeAll_178 rfl (lv_at hl 3 rfl) ?_
    refine lv_iadd C.1 C.2.1 dX15_writeAll_179 ?_
    obtain ⟨g_2, hE⟩ := gd_e hE
    refine y_iald C hW k_r_1 g_2 dX15_writeAll_180 ?_
    refine lv_icmp_ge (tgt := 204) C.1 C.2.1 dX15_writeAll_181 (by decide) (fun c_3 => ?_) (fun c_3 => ?_)
    · have hE := br_p hE c_3
      obtain ⟨v_4, ev_4, hE⟩ := nm_e2 hE
      refine lv_iinc (v := v_4) (lv' := [(4, .int v_4), (0, .ref x0), (1, .ref x1), (2, .int x2), (3, .int x3), (5, .int x5)]) C.1 C.2.1 dX15_writeAll_204 hl (k := 4) rfl (by rw [ev_4]; rfl) (by decide) rfl (fun ls hl => ?_)
      refine lv_goto (tgt := 153) C.1 C.2.1 dX15_writeAll_207 (by decide) ?_
      exact hk_153 _ _ _ _ _ _ _ _ k_x0 k_x1 hkm hW hZ _ (lv_sub hl [1, 2, 3, 4, 0] rfl) hE
    · have hE := br_n hE c_3
      refine lv_aload_n C.1 C.2.1 dX15_writeAll_184 rfl (lv_at hl 0 rfl) ?_
      refine lv_aload_n C.1 C.2.1 dX15_writeAll_185 rfl (lv_at hl 0 rfl) ?_
      refine lv_iload C.1 C.2.1 dX15_writeAll_186 (lv_at hl 4 rfl) ?_
      refine lv_iload_n C.1 C.2.1 dX15_writeAll_188 rfl (lv_at hl 3 rfl) ?_
      obtain ⟨o_5, eo_5, hE⟩ := cl_e hE
      refine x_kI (o := o_5) (z_runS (As := [.int x4, .int x3]) (rest := [.ref x0, .ref x0]) C (ct_X15_valueOf l X eo_5) cw_X15_398 hW hZ rfl hl.1 (Nat.le_of_ble_eq_true rfl) rfl dX15_writeAll_189 ⟨Nat.le_of_ble_eq_true rfl, Nat.le_of_ble_eq_true rfl⟩ ⟨Nat.le_refl _, Nat.le_refl _⟩) hZ (fun _ _ hW km hZ => ?_)
      replace hkm := hkm.tr km
      replace k_x0 := km.at k_x0 (by decide)
      replace k_x1 := km.at k_x1 (by decide)
      obtain ⟨o_6, eo_6, hE⟩ := cl_e hE
      refine x_kI (o := o_6) (z_runV (As := [.int o_5.1]) (rest := [.ref x0]) C (ct_X15_letterOf l X k_x0 eo_6) cw_X15_527 hW hZ k_x0 (by decide) rfl rfl rfl hl.1 (Nat.le_of_ble_eq_true rfl) rfl dX15_writeAll_192 ⟨Nat.le_of_ble_eq_true rfl, Nat.le_of_ble_eq_true rfl⟩ ⟨Nat.le_refl _, Nat.le_refl _⟩) hZ (fun _ _ hW km hZ => ?_)
      replace hkm := hkm.tr km
      replace k_x0 := km.at k_x0 (by decide)
      replace k_x1 := km.at k_x1 (by decide)
      obtain ⟨o_7, eo_7, hE⟩ := cl_e hE
      refine x_kV (o := o_7) (z_runV (As := [.int o_6.1]) (rest := []) C (ct_X15_say l X k_x0 eo_7) cw_X15_21 hW hZ k_x0 (by decide) rfl rfl rfl hl.1 (Nat.le_of_ble_eq_true rfl) rfl dX15_writeAll_195 ⟨Nat.le_of_ble_eq_true rfl, Nat.le_of_ble_eq_true rfl⟩ ⟨Nat.le_refl _, Nat.le_refl _⟩) hZ (fun _ _ hW km hZ => ?_)
      replace hkm := hkm.tr km
      replace k_x0 := km.at k_x0 (by decide)
      replace k_x1 := km.at k_x1 (by decide)
      obtain ⟨v_8, ev_8, hE⟩ := nm_e2 hE
      refine lv_iinc (v := v_8) (lv' := [(5, .int v_8), (0, .ref x0), (1, .ref x1), (2, .int x2), (3, .int x3), (4, .int x4)]) C.1 C.2.1 dX15_writeAll_198 hl (k := 5) rfl (by rw [ev_8]; rfl) (by decide) rfl (fun ls hl => ?_)
      refine lv_goto (tgt := 168) C.1 C.2.1 dX15_writeAll_201 (by decide) ?_
      exact hk_168 _ _ _ _ _ _ _ _ _ k_x0 k_x1 hkm hW hZ _ (lv_sub hl [1, 2, 3, 4, 5, 0] rfl) hE
set_option maxRecDepth 20000 in
theorem bX15_writeAll_153 {p : Program} {l : Launch} {e : Env} {s : State} {m : MethodId} {args : Array Value} {below : List Frame} {meth : Method} {c : Code} {X : Ec} {h0 : Hp} {o : Hp} {k_145 : Hp → Nat → Nat → Int32 → Int32 → Option (Hp)} {F : Nat} (C : Cx X p s m args meth c RX15 cX15_writeAll 6 none "writeAll") (hk_145 : ∀ (h : Hp) (x0 : Nat) (x1 : Nat) (x2 : Int32) (x3 : Int32) (H : Heap) (locs : List Loc), hK h x0 = 15 → hK h x1 = 12 → Km h0 h → Wx X h H → va_S (aA (eB X)) s.heap H locs → ∀ (ls : Array Slot), lv_has ls 6 [(0, .ref x0), (1, .ref x1), (2, .int x2), (3, .int x3)] → k_145 h x0 x1 x2 x3 = some o → W p l e (rm 16 322) s m args below meth c H locs 0 0 (MQ below (QV X h0 o) args s 0 0 (aA (eB X))) (F0 m 145 ls [])) : ∀ (f : Nat) {h : Hp} {x0 : Nat} {x1 : Nat} {x2 : Int32} {x3 : Int32} {x4 : Int32} {H : Heap} {locs : List Loc} (k_x0 : hK h x0 = 15) (k_x1 : hK h x1 = 12), Km h0 h → Wx X h H → va_S (aA (eB X)) s.heap H locs → ∀ (ls : Array Slot), lv_has ls 6 [(0, .ref x0), (1, .ref x1), (2, .int x2), (3, .int x3), (4, .int x4)] → sX15_writeAll_153 F k_145 f h x0 x1 x2 x3 x4 = some o → W p l e (rm 16 322) s m args below meth c H locs 0 0 (MQ below (QV X h0 o) args s 0 0 (aA (eB X))) (F0 m 153 ls []) := by
  intro f
  induction f with
  | zero =>
    intro h x0 x1 x2 x3 x4 H locs k_x0 k_x1 hkm hW hZ ls hl hE
    rw [sX15_writeAll_153] at hE
    cases hE
  | succ f ih =>
    intro h x0 x1 x2 x3 x4 H locs k_x0 k_x1 hkm hW hZ ls hl hE
    rw [sX15_writeAll_153] at hE
    have hk_153 : ∀ (h : Hp) (x0 : Nat) (x1 : Nat) (x2 : Int32) (x3 : Int32) (x4 : Int32) (H : Heap) (locs : List Loc), hK h x0 = 15 → hK h x1 = 12 → Km h0 h → Wx X h H → va_S (aA (eB X)) s.heap H locs → ∀ (ls : Array Slot), lv_has ls 6 [(0, .ref x0), (1, .ref x1), (2, .int x2), (3, .int x3), (4, .int x4)] → sX15_writeAll_153 F k_145 f h x0 x1 x2 x3 x4 = some o → W p l e (rm 16 322) s m args below meth c H locs 0 0 (MQ below (QV X h0 o) args s 0 0 (aA (eB X))) (F0 m 153 ls []) := fun h x0 x1 x2 x3 x4 H locs k_x0 k_x1 a b c ls hl hE => ih k_x0 k_x1 a b c ls hl hE
    refine lv_iload C.1 C.2.1 dX15_writeAll_153 (lv_at hl 4 rfl) ?_
    refine lv_aload_n C.1 C.2.1 dX15_writeAll_155 rfl (lv_at hl 0 rfl) ?_
    obtain ⟨r_1, er_1, hE⟩ := cl_e hE
    refine gf_X15_252 C hW k_x0 er_1 dX15_writeAll_156 (fun k_r_1 => ?_)
    refine gf_X15_169 C hW k_r_1 dX15_writeAll_159 ?_
    refine lv_icmp_ge (tgt := 210) C.1 C.2.1 dX15_writeAll_162 (by decide) (fun c_2 => ?_) (fun c_2 => ?_)
    · have hE := br_p hE c_2
      obtain ⟨v_3, ev_3, hE⟩ := nm_e2 hE
      refine lv_iinc (v := v_3) (lv' := [(3, .int v_3), (0, .ref x0), (1, .ref x1), (2, .int x2), (4, .int x4)]) C.1 C.2.1 dX15_writeAll_210 hl (k := 3) rfl (by rw [ev_3]; rfl) (by decide) rfl (fun ls hl => ?_)
      refine lv_goto (tgt := 145) C.1 C.2.1 dX15_writeAll_213 (by decide) ?_
      exact hk_145 _ _ _ _ _ _ _ k_x0 k_x1 hkm hW hZ _ (lv_sub hl [1, 2, 3, 0] rfl) hE
    · have hE := br_n hE c_2
      refine lv_iconst (v := (0 : Int32)) C.1 C.2.1 dX15_writeAll_165 (by decide) ?_
      refine lv_istore (lv' := [(5, .int (0 : Int32)), (0, .ref x0), (1, .ref x1), (2, .int x2), (3, .int x3), (4, .int x4)]) C.1 C.2.1 dX15_writeAll_166 hl (by decide) rfl (fun ls hl => ?_)
      exact bX15_writeAll_168 C hk_145 hk_153 F k_x0 k_x1 hkm hW hZ _ (lv_sub hl [1, 2, 3, 4, 5, 0] rfl) hE
set_option maxRecDepth 20000 in
theorem bX15_writeAll_145 {p : Program} {l : Launch} {e : Env} {s : State} {m : MethodId} {args : Array Value} {below : List Frame} {meth : Method} {c : Code} {X : Ec} {h0 : Hp} {o : Hp} {F : Nat} (C : Cx X p s m args meth c RX15 cX15_writeAll 6 none "writeAll") : ∀ (f : Nat) {h : Hp} {x0 : Nat} {x1 : Nat} {x2 : Int32} {x3 : Int32} {H : Heap} {locs : List Loc} (k_x0 : hK h x0 = 15) (k_x1 : hK h x1 = 12), Km h0 h → Wx X h H → va_S (aA (eB X)) s.heap H locs → ∀ (ls : Array Slot), lv_has ls 6 [(0, .ref x0), (1, .ref x1), (2, .int x2), (3, .int x3)] → sX15_writeAll_145 F f h x0 x1 x2 x3 = some o → W p l e (rm 16 322) s m args below meth c H locs 0 0 (MQ below (QV X h0 o) args s 0 0 (aA (eB X))) (F0 m 145 ls []) := by
  intro f
  induction f with
  | zero =>
    intro h x0 x1 x2 x3 H locs k_x0 k_x1 hkm hW hZ ls hl hE
    rw [sX15_writeAll_145] at hE
    cases hE
  | succ f ih =>
    intro h x0 x1 x2 x3 H locs k_x0 k_x1 hkm hW hZ ls hl hE
    rw [sX15_writeAll_145] at hE
    have hk_145 : ∀ (h : Hp) (x0 : Nat) (x1 : Nat) (x2 : Int32) (x3 : Int32) (H : Heap) (locs : List Loc), hK h x0 = 15 → hK h x1 = 12 → Km h0 h → Wx X h H → va_S (aA (eB X)) s.heap H locs → ∀ (ls : Array Slot), lv_has ls 6 [(0, .ref x0), (1, .ref x1), (2, .int x2), (3, .int x3)] → sX15_writeAll_145 F f h x0 x1 x2 x3 = some o → W p l e (rm 16 322) s m args below meth c H locs 0 0 (MQ below (QV X h0 o) args s 0 0 (aA (eB X))) (F0 m 145 ls []) := fun h x0 x1 x2 x3 H locs k_x0 k_x1 a b c ls hl hE => ih k_x0 k_x1 a b c ls hl hE
    refine lv_iload_n C.1 C.2.1 dX15_writeAll_145 rfl (lv_at hl 3 rfl) ?_
    refine lv_iconst (v := (2 : Int32)) C.1 C.2.1 dX15_writeAll_146 (by decide) ?_
    refine lv_icmp_ge (tgt := 216) C.1 C.2.1 dX15_writeAll_147 (by decide) (fun c_1 => ?_) (fun c_1 => ?_)
    · have hE := br_p hE c_1
      refine lv_aload_n C.1 C.2.1 dX15_writeAll_216 rfl (lv_at hl 0 rfl) ?_
      refine gf_X15_11 C hW k_x0 dX15_writeAll_217 ?_
      refine lv_iload_n C.1 C.2.1 dX15_writeAll_220 rfl (lv_at hl 2 rfl) ?_
      refine lv_icmp_ne (tgt := 230) C.1 C.2.1 dX15_writeAll_221 (by decide) (fun c_2 => ?_) (fun c_2 => ?_)
      · have hE := br_n hE c_2
        exact bX15_writeAll_230 C k_x0 k_x1 hkm hW hZ _ (lv_sub hl [0, 1] rfl) hE
      · have hE := br_p hE c_2
        refine lv_aload_n C.1 C.2.1 dX15_writeAll_224 rfl (lv_at hl 0 rfl) ?_
        refine lv_bipush (v := (45 : Int32)) C.1 C.2.1 dX15_writeAll_225 (by decide) ?_
        obtain ⟨o_3, eo_3, hE⟩ := cl_e hE
        refine x_kV (o := o_3) (z_runV (As := [.int (45 : Int32)]) (rest := []) C (ct_X15_say l X k_x0 eo_3) cw_X15_21 hW hZ k_x0 (by decide) rfl rfl rfl hl.1 (Nat.le_of_ble_eq_true rfl) rfl dX15_writeAll_227 ⟨Nat.le_of_ble_eq_true rfl, Nat.le_of_ble_eq_true rfl⟩ ⟨Nat.le_refl _, Nat.le_refl _⟩) hZ (fun _ _ hW km hZ => ?_)
        replace hkm := hkm.tr km
        replace k_x0 := km.at k_x0 (by decide)
        replace k_x1 := km.at k_x1 (by decide)
        exact bX15_writeAll_230 C k_x0 k_x1 hkm hW hZ _ (lv_sub hl [0, 1] rfl) hE
    · have hE := br_n hE c_1
      refine lv_iconst (v := (0 : Int32)) C.1 C.2.1 dX15_writeAll_150 (by decide) ?_
      refine lv_istore (lv' := [(4, .int (0 : Int32)), (0, .ref x0), (1, .ref x1), (2, .int x2), (3, .int x3)]) C.1 C.2.1 dX15_writeAll_151 hl (by decide) rfl (fun ls hl => ?_)
      exact bX15_writeAll_153 C hk_145 F k_x0 k_x1 hkm hW hZ _ (lv_sub hl [1, 2, 3, 4, 0] rfl) hE
set_option maxRecDepth 20000 in
theorem bX15_writeAll_108 {p : Program} {l : Launch} {e : Env} {s : State} {m : MethodId} {args : Array Value} {below : List Frame} {meth : Method} {c : Code} {X : Ec} {h0 : Hp} {o : Hp} {F : Nat} (C : Cx X p s m args meth c RX15 cX15_writeAll 6 none "writeAll") : ∀ (f : Nat) {h : Hp} {x0 : Nat} {x1 : Nat} {x2 : Int32} {H : Heap} {locs : List Loc} (k_x0 : hK h x0 = 15) (k_x1 : hK h x1 = 12), Km h0 h → Wx X h H → va_S (aA (eB X)) s.heap H locs → ∀ (ls : Array Slot), lv_has ls 6 [(0, .ref x0), (1, .ref x1), (2, .int x2)] → sX15_writeAll_108 F f h x0 x1 x2 = some o → W p l e (rm 16 322) s m args below meth c H locs 0 0 (MQ below (QV X h0 o) args s 0 0 (aA (eB X))) (F0 m 108 ls []) := by
  intro f
  induction f with
  | zero =>
    intro h x0 x1 x2 H locs k_x0 k_x1 hkm hW hZ ls hl hE
    rw [sX15_writeAll_108] at hE
    cases hE
  | succ f ih =>
    intro h x0 x1 x2 H locs k_x0 k_x1 hkm hW hZ ls hl hE
    rw [sX15_writeAll_108] at hE
    have hk_108 : ∀ (h : Hp) (x0 : Nat) (x1 : Nat) (x2 : Int32) (H : Heap) (locs : List Loc), hK h x0 = 15 → hK h x1 = 12 → Km h0 h → Wx X h H → va_S (aA (eB X)) s.heap H locs → ∀ (ls : Array Slot), lv_has ls 6 [(0, .ref x0), (1, .ref x1), (2, .int x2)] → sX15_writeAll_108 F f h x0 x1 x2 = some o → W p l e (rm 16 322) s m args below meth c H locs 0 0 (MQ below (QV X h0 o) args s 0 0 (aA (eB X))) (F0 m 108 ls []) := fun h x0 x1 x2 H locs k_x0 k_x1 a b c ls hl hE => ih k_x0 k_x1 a b c ls hl hE
    refine lv_iload_n C.1 C.2.1 dX15_writeAll_108 rfl (lv_at hl 2 rfl) ?_
    refine lv_aload_n C.1 C.2.1 dX15_writeAll_109 rfl (lv_at hl 1 rfl) ?_
    refine gf_X15_441 C hW k_x1 dX15_writeAll_110 ?_
    refine lv_icmp_ge (tgt := 132) C.1 C.2.1 dX15_writeAll_113 (by decide) (fun c_1 => ?_) (fun c_1 => ?_)
    · have hE := br_p hE c_1
      refine lv_aload_n C.1 C.2.1 dX15_writeAll_132 rfl (lv_at hl 0 rfl) ?_
      refine lv_bipush (v := (32 : Int32)) C.1 C.2.1 dX15_writeAll_133 (by decide) ?_
      obtain ⟨o_2, eo_2, hE⟩ := cl_e hE
      refine x_kV (o := o_2) (z_runV (As := [.int (32 : Int32)]) (rest := []) C (ct_X15_say l X k_x0 eo_2) cw_X15_21 hW hZ k_x0 (by decide) rfl rfl rfl hl.1 (Nat.le_of_ble_eq_true rfl) rfl dX15_writeAll_135 ⟨Nat.le_of_ble_eq_true rfl, Nat.le_of_ble_eq_true rfl⟩ ⟨Nat.le_refl _, Nat.le_refl _⟩) hZ (fun _ _ hW km hZ => ?_)
      replace hkm := hkm.tr km
      replace k_x0 := km.at k_x0 (by decide)
      replace k_x1 := km.at k_x1 (by decide)
      refine lv_aload_n C.1 C.2.1 dX15_writeAll_138 rfl (lv_at hl 0 rfl) ?_
      refine gf_X15_11 C hW k_x0 dX15_writeAll_139 ?_
      obtain ⟨v_3, ev_3, hE⟩ := nm_e2 hE
      refine x_nmI ev_3 ?_
      refine lv_istore_n (lv' := [(2, .int v_3), (0, .ref x0), (1, .ref x1)]) C.1 C.2.1 dX15_writeAll_142 rfl hl (by decide) rfl (fun ls hl => ?_)
      refine lv_iconst (v := (0 : Int32)) C.1 C.2.1 dX15_writeAll_143 (by decide) ?_
      refine lv_istore_n (lv' := [(3, .int (0 : Int32)), (2, .int v_3), (0, .ref x0), (1, .ref x1)]) C.1 C.2.1 dX15_writeAll_144 rfl hl (by decide) rfl (fun ls hl => ?_)
      exact bX15_writeAll_145 C F k_x0 k_x1 hkm hW hZ _ (lv_sub hl [2, 3, 1, 0] rfl) hE
    · have hE := br_n hE c_1
      refine lv_aload_n C.1 C.2.1 dX15_writeAll_116 rfl (lv_at hl 0 rfl) ?_
      refine lv_aload_n C.1 C.2.1 dX15_writeAll_117 rfl (lv_at hl 1 rfl) ?_
      obtain ⟨r_4, er_4, hE⟩ := cl_e hE
      refine gf_X15_439 C hW k_x1 er_4 dX15_writeAll_118 (fun k_r_4 => ?_)
      refine lv_iload_n C.1 C.2.1 dX15_writeAll_121 rfl (lv_at hl 2 rfl) ?_
      obtain ⟨g_5, hE⟩ := gd_e hE
      refine y_iald C hW k_r_4 g_5 dX15_writeAll_122 ?_
      obtain ⟨o_6, eo_6, hE⟩ := cl_e hE
      refine x_kV (o := o_6) (z_runV (As := [.int (hI h r_4 x2.toNatClampNeg)]) (rest := []) C (ct_X15_saySquare l X k_x0 eo_6) cw_X15_539 hW hZ k_x0 (by decide) rfl rfl rfl hl.1 (Nat.le_of_ble_eq_true rfl) rfl dX15_writeAll_123 ⟨Nat.le_of_ble_eq_true rfl, Nat.le_of_ble_eq_true rfl⟩ ⟨Nat.le_refl _, Nat.le_refl _⟩) hZ (fun _ _ hW km hZ => ?_)
      replace hkm := hkm.tr km
      replace k_x0 := km.at k_x0 (by decide)
      replace k_x1 := km.at k_x1 (by decide)
      obtain ⟨v_7, ev_7, hE⟩ := nm_e2 hE
      refine lv_iinc (v := v_7) (lv' := [(2, .int v_7), (0, .ref x0), (1, .ref x1)]) C.1 C.2.1 dX15_writeAll_126 hl (k := 2) rfl (by rw [ev_7]; rfl) (by decide) rfl (fun ls hl => ?_)
      refine lv_goto (tgt := 108) C.1 C.2.1 dX15_writeAll_129 (by decide) ?_
      exact hk_108 _ _ _ _ _ _ k_x0 k_x1 hkm hW hZ _ (lv_sub hl [1, 2, 0] rfl) hE
set_option maxRecDepth 20000 in
theorem bX15_writeAll_106 {p : Program} {l : Launch} {e : Env} {s : State} {m : MethodId} {args : Array Value} {below : List Frame} {meth : Method} {c : Code} {X : Ec} {h0 : Hp} {o : Hp} {F : Nat} (C : Cx X p s m args meth c RX15 cX15_writeAll 6 none "writeAll") {h : Hp} {x0 : Nat} {x1 : Nat} {H : Heap} {locs : List Loc} (k_x0 : hK h x0 = 15) (k_x1 : hK h x1 = 12) (hkm : Km h0 h) (hW : Wx X h H) (hZ : va_S (aA (eB X)) s.heap H locs) (ls : Array Slot) (hl : lv_has ls 6 [(0, .ref x0), (1, .ref x1)]) (hE : sX15_writeAll_106 F h x0 x1 = some o) : W p l e (rm 16 322) s m args below meth c H locs 0 0 (MQ below (QV X h0 o) args s 0 0 (aA (eB X))) (F0 m 106 ls []) := by
  refine lv_iconst (v := (0 : Int32)) C.1 C.2.1 dX15_writeAll_106 (by decide) ?_
  refine lv_istore_n (lv' := [(2, .int (0 : Int32)), (0, .ref x0), (1, .ref x1)]) C.1 C.2.1 dX15_writeAll_107 rfl hl (by decide) rfl (fun ls hl => ?_)
  exact bX15_writeAll_108 C F k_x0 k_x1 hkm hW hZ _ (lv_sub hl [1, 2, 0] rfl) hE
set_option maxRecDepth 20000 in
theorem bX15_writeAll_81 {p : Program} {l : Launch} {e : Env} {s : State} {m : MethodId} {args : Array Value} {below : List Frame} {meth : Method} {c : Code} {X : Ec} {h0 : Hp} {o : Hp} {k_55 : Hp → Nat → Nat → Int32 → Option (Hp)} {F : Nat} (C : Cx X p s m args meth c RX15 cX15_writeAll 6 none "writeAll") (hk_55 : ∀ (h : Hp) (x0 : Nat) (x1 : Nat) (x2 : Int32) (H : Heap) (locs : List Loc), hK h x0 = 15 → hK h x1 = 12 → Km h0 h → Wx X h H → va_S (aA (eB X)) s.heap H locs → ∀ (ls : Array Slot), lv_has ls 6 [(0, .ref x0), (1, .ref x1), (2, .int x2)] → k_55 h x0 x1 x2 = some o → W p l e (rm 16 322) s m args below meth c H locs 0 0 (MQ below (QV X h0 o) args s 0 0 (aA (eB X))) (F0 m 55 ls [])) {h : Hp} {x0 : Nat} {x1 : Nat} {x2 : Int32} {H : Heap} {locs : List Loc} (k_x0 : hK h x0 = 15) (k_x1 : hK h x1 = 12) (hkm : Km h0 h) (hW : Wx X h H) (hZ : va_S (aA (eB X)) s.heap H locs) (ls : Array Slot) (hl : lv_has ls 6 [(0, .ref x0), (1, .ref x1), (2, .int x2)]) (hE : sX15_writeAll_81 F k_55 h x0 x1 x2 = some o) : W p l e (rm 16 322) s m args below meth c H locs 0 0 (MQ below (QV X h0 o) args s 0 0 (aA (eB X))) (F0 m 81 ls []) := by
  obtain ⟨v_1, ev_1, hE⟩ := nm_e2 hE
  refine lv_iinc (v := v_1) (lv' := [(2, .int v_1), (0, .ref x0), (1, .ref x1)]) C.1 C.2.1 dX15_writeAll_81 hl (k := 2) rfl (by rw [ev_1]; rfl) (by decide) rfl (fun ls hl => ?_)
  refine lv_goto (tgt := 55) C.1 C.2.1 dX15_writeAll_84 (by decide) ?_
  exact hk_55 _ _ _ _ _ _ k_x0 k_x1 hkm hW hZ _ (lv_sub hl [1, 2, 0] rfl) hE
set_option maxRecDepth 20000 in
theorem bX15_writeAll_55 {p : Program} {l : Launch} {e : Env} {s : State} {m : MethodId} {args : Array Value} {below : List Frame} {meth : Method} {c : Code} {X : Ec} {h0 : Hp} {o : Hp} {F : Nat} (C : Cx X p s m args meth c RX15 cX15_writeAll 6 none "writeAll") : ∀ (f : Nat) {h : Hp} {x0 : Nat} {x1 : Nat} {x2 : Int32} {H : Heap} {locs : List Loc} (k_x0 : hK h x0 = 15) (k_x1 : hK h x1 = 12), Km h0 h → Wx X h H → va_S (aA (eB X)) s.heap H locs → ∀ (ls : Array Slot), lv_has ls 6 [(0, .ref x0), (1, .ref x1), (2, .int x2)] → sX15_writeAll_55 F f h x0 x1 x2 = some o → W p l e (rm 16 322) s m args below meth c H locs 0 0 (MQ below (QV X h0 o) args s 0 0 (aA (eB X))) (F0 m 55 ls []) := by
  intro f
  induction f with
  | zero =>
    intro h x0 x1 x2 H locs k_x0 k_x1 hkm hW hZ ls hl hE
    rw [sX15_writeAll_55] at hE
    cases hE
  | succ f ih =>
    intro h x0 x1 x2 H locs k_x0 k_x1 hkm hW hZ ls hl hE
    rw [sX15_writeAll_55] at hE
    have hk_55 : ∀ (h : Hp) (x0 : Nat) (x1 : Nat) (x2 : Int32) (H : Heap) (locs : List Loc), hK h x0 = 15 → hK h x1 = 12 → Km h0 h → Wx X h H → va_S (aA (eB X)) s.heap H locs → ∀ (ls : Array Slot), lv_has ls 6 [(0, .ref x0), (1, .ref x1), (2, .int x2)] → sX15_writeAll_55 F f h x0 x1 x2 = some o → W p l e (rm 16 322) s m args below meth c H locs 0 0 (MQ below (QV X h0 o) args s 0 0 (aA (eB X))) (F0 m 55 ls []) := fun h x0 x1 x2 H locs k_x0 k_x1 a b c ls hl hE => ih k_x0 k_x1 a b c ls hl hE
    refine lv_iload_n C.1 C.2.1 dX15_writeAll_55 rfl (lv_at hl 2 rfl) ?_
    refine lv_aload_n C.1 C.2.1 dX15_writeAll_56 rfl (lv_at hl 0 rfl) ?_
    refine gf_X15_384 C hW k_x0 dX15_writeAll_57 ?_
    refine lv_icmp_ge (tgt := 87) C.1 C.2.1 dX15_writeAll_60 (by decide) (fun c_1 => ?_) (fun c_1 => ?_)
    · have hE := br_p hE c_1
      refine lv_aload_n C.1 C.2.1 dX15_writeAll_87 rfl (lv_at hl 0 rfl) ?_
      refine lv_bipush (v := (32 : Int32)) C.1 C.2.1 dX15_writeAll_88 (by decide) ?_
      obtain ⟨o_2, eo_2, hE⟩ := cl_e hE
      refine x_kV (o := o_2) (z_runV (As := [.int (32 : Int32)]) (rest := []) C (ct_X15_say l X k_x0 eo_2) cw_X15_21 hW hZ k_x0 (by decide) rfl rfl rfl hl.1 (Nat.le_of_ble_eq_true rfl) rfl dX15_writeAll_90 ⟨Nat.le_of_ble_eq_true rfl, Nat.le_of_ble_eq_true rfl⟩ ⟨Nat.le_refl _, Nat.le_refl _⟩) hZ (fun _ _ hW km hZ => ?_)
      replace hkm := hkm.tr km
      replace k_x0 := km.at k_x0 (by decide)
      replace k_x1 := km.at k_x1 (by decide)
      refine lv_aload_n C.1 C.2.1 dX15_writeAll_93 rfl (lv_at hl 1 rfl) ?_
      refine gf_X15_441 C hW k_x1 dX15_writeAll_94 ?_
      refine lv_if_ne (tgt := 106) C.1 C.2.1 dX15_writeAll_97 (by decide) (fun c_3 => ?_) (fun c_3 => ?_)
      · have hE := br_n hE c_3
        exact bX15_writeAll_106 C k_x0 k_x1 hkm hW hZ _ (lv_sub hl [0, 1] rfl) hE
      · have hE := br_p hE c_3
        refine lv_aload_n C.1 C.2.1 dX15_writeAll_100 rfl (lv_at hl 0 rfl) ?_
        refine lv_bipush (v := (45 : Int32)) C.1 C.2.1 dX15_writeAll_101 (by decide) ?_
        obtain ⟨o_4, eo_4, hE⟩ := cl_e hE
        refine x_kV (o := o_4) (z_runV (As := [.int (45 : Int32)]) (rest := []) C (ct_X15_say l X k_x0 eo_4) cw_X15_21 hW hZ k_x0 (by decide) rfl rfl rfl hl.1 (Nat.le_of_ble_eq_true rfl) rfl dX15_writeAll_103 ⟨Nat.le_of_ble_eq_true rfl, Nat.le_of_ble_eq_true rfl⟩ ⟨Nat.le_refl _, Nat.le_refl _⟩) hZ (fun _ _ hW km hZ => ?_)
        replace hkm := hkm.tr km
        replace k_x0 := km.at k_x0 (by decide)
        replace k_x1 := km.at k_x1 (by decide)
        exact bX15_writeAll_106 C k_x0 k_x1 hkm hW hZ _ (lv_sub hl [0, 1] rfl) hE
    · have hE := br_n hE c_1
      refine lv_aload_n C.1 C.2.1 dX15_writeAll_63 rfl (lv_at hl 1 rfl) ?_
      refine gf_X15_436 C hW k_x1 dX15_writeAll_64 ?_
      refine lv_iload_n C.1 C.2.1 dX15_writeAll_67 rfl (lv_at hl 2 rfl) ?_
      refine lv_lshr C.1 C.2.1 dX15_writeAll_68 rfl ?_
      refine lv_lconst (v := (1 : Int64)) C.1 C.2.1 dX15_writeAll_69 (by decide) ?_
      refine lv_land C.1 C.2.1 dX15_writeAll_70 ?_
      refine lv_lconst (v := (1 : Int64)) C.1 C.2.1 dX15_writeAll_71 (by decide) ?_
      refine W.lcmp C.1 C.2.1 dX15_writeAll_72 ?_
      refine lv_if_ne (tgt := 81) C.1 C.2.1 dX15_writeAll_73 (by decide) (fun c_5 => ?_) (fun c_5 => ?_)
      · have hE := br_n hE c_5
        exact bX15_writeAll_81 C hk_55 k_x0 k_x1 hkm hW hZ _ (lv_sub hl [0, 1, 2] rfl) hE
      · have hE := br_p hE c_5
        refine lv_aload_n C.1 C.2.1 dX15_writeAll_76 rfl (lv_at hl 0 rfl) ?_
        refine lv_iload_n C.1 C.2.1 dX15_writeAll_77 rfl (lv_at hl 2 rfl) ?_
        obtain ⟨o_6, eo_6, hE⟩ := cl_e hE
        refine x_kV (o := o_6) (z_runV (As := [.int x2]) (rest := []) C (ct_X15_saySquare l X k_x0 eo_6) cw_X15_539 hW hZ k_x0 (by decide) rfl rfl rfl hl.1 (Nat.le_of_ble_eq_true rfl) rfl dX15_writeAll_78 ⟨Nat.le_of_ble_eq_true rfl, Nat.le_of_ble_eq_true rfl⟩ ⟨Nat.le_refl _, Nat.le_refl _⟩) hZ (fun _ _ hW km hZ => ?_)
        replace hkm := hkm.tr km
        replace k_x0 := km.at k_x0 (by decide)
        replace k_x1 := km.at k_x1 (by decide)
        exact bX15_writeAll_81 C hk_55 k_x0 k_x1 hkm hW hZ _ (lv_sub hl [0, 1, 2] rfl) hE
set_option maxRecDepth 20000 in
theorem bX15_writeAll_53 {p : Program} {l : Launch} {e : Env} {s : State} {m : MethodId} {args : Array Value} {below : List Frame} {meth : Method} {c : Code} {X : Ec} {h0 : Hp} {o : Hp} {F : Nat} (C : Cx X p s m args meth c RX15 cX15_writeAll 6 none "writeAll") {h : Hp} {x0 : Nat} {x1 : Nat} {H : Heap} {locs : List Loc} (k_x0 : hK h x0 = 15) (k_x1 : hK h x1 = 12) (hkm : Km h0 h) (hW : Wx X h H) (hZ : va_S (aA (eB X)) s.heap H locs) (ls : Array Slot) (hl : lv_has ls 6 [(0, .ref x0), (1, .ref x1)]) (hE : sX15_writeAll_53 F h x0 x1 = some o) : W p l e (rm 16 322) s m args below meth c H locs 0 0 (MQ below (QV X h0 o) args s 0 0 (aA (eB X))) (F0 m 53 ls []) := by
  refine lv_iconst (v := (0 : Int32)) C.1 C.2.1 dX15_writeAll_53 (by decide) ?_
  refine lv_istore_n (lv' := [(2, .int (0 : Int32)), (0, .ref x0), (1, .ref x1)]) C.1 C.2.1 dX15_writeAll_54 rfl hl (by decide) rfl (fun ls hl => ?_)
  exact bX15_writeAll_55 C F k_x0 k_x1 hkm hW hZ _ (lv_sub hl [1, 2, 0] rfl) hE
set_option maxRecDepth 20000 in
theorem bX15_writeAll_29 {p : Program} {l : Launch} {e : Env} {s : State} {m : MethodId} {args : Array Value} {below : List Frame} {meth : Method} {c : Code} {X : Ec} {h0 : Hp} {o : Hp} {F : Nat} (C : Cx X p s m args meth c RX15 cX15_writeAll 6 none "writeAll") {h : Hp} {x0 : Nat} {x1 : Nat} {t0 : Int32} {t1 : Nat} {H : Heap} {locs : List Loc} (k_x0 : hK h x0 = 15) (k_x1 : hK h x1 = 12) (k_t1 : hK h t1 = 15) (hkm : Km h0 h) (hW : Wx X h H) (hZ : va_S (aA (eB X)) s.heap H locs) (ls : Array Slot) (hl : lv_has ls 6 [(0, .ref x0), (1, .ref x1)]) (hE : sX15_writeAll_29 F h x0 x1 t0 t1 = some o) : W p l e (rm 16 322) s m args below meth c H locs 0 0 (MQ below (QV X h0 o) args s 0 0 (aA (eB X))) (F0 m 29 ls [.int t0, .ref t1]) := by
  obtain ⟨o_1, eo_1, hE⟩ := cl_e hE
  refine x_kV (o := o_1) (z_runV (As := [.int t0]) (rest := []) C (ct_X15_say l X k_t1 eo_1) cw_X15_21 hW hZ k_t1 (by decide) rfl rfl rfl hl.1 (Nat.le_of_ble_eq_true rfl) rfl dX15_writeAll_29 ⟨Nat.le_of_ble_eq_true rfl, Nat.le_of_ble_eq_true rfl⟩ ⟨Nat.le_refl _, Nat.le_refl _⟩) hZ (fun _ _ hW km hZ => ?_)
  replace hkm := hkm.tr km
  replace k_x0 := km.at k_x0 (by decide)
  replace k_x1 := km.at k_x1 (by decide)
  refine lv_aload_n C.1 C.2.1 dX15_writeAll_32 rfl (lv_at hl 0 rfl) ?_
  refine lv_bipush (v := (32 : Int32)) C.1 C.2.1 dX15_writeAll_33 (by decide) ?_
  obtain ⟨o_2, eo_2, hE⟩ := cl_e hE
  refine x_kV (o := o_2) (z_runV (As := [.int (32 : Int32)]) (rest := []) C (ct_X15_say l X k_x0 eo_2) cw_X15_21 hW hZ k_x0 (by decide) rfl rfl rfl hl.1 (Nat.le_of_ble_eq_true rfl) rfl dX15_writeAll_35 ⟨Nat.le_of_ble_eq_true rfl, Nat.le_of_ble_eq_true rfl⟩ ⟨Nat.le_refl _, Nat.le_refl _⟩) hZ (fun _ _ hW km hZ => ?_)
  replace hkm := hkm.tr km
  replace k_x0 := km.at k_x0 (by decide)
  replace k_x1 := km.at k_x1 (by decide)
  refine lv_aload_n C.1 C.2.1 dX15_writeAll_38 rfl (lv_at hl 1 rfl) ?_
  refine gf_X15_436 C hW k_x1 dX15_writeAll_39 ?_
  refine lv_lconst (v := (0 : Int64)) C.1 C.2.1 dX15_writeAll_42 (by decide) ?_
  refine W.lcmp C.1 C.2.1 dX15_writeAll_43 ?_
  refine lv_if_ne (tgt := 53) C.1 C.2.1 dX15_writeAll_44 (by decide) (fun c_3 => ?_) (fun c_3 => ?_)
  · have hE := br_n hE c_3
    exact bX15_writeAll_53 C k_x0 k_x1 hkm hW hZ _ (lv_sub hl [0, 1] rfl) hE
  · have hE := br_p hE c_3
    refine lv_aload_n C.1 C.2.1 dX15_writeAll_47 rfl (lv_at hl 0 rfl) ?_
    refine lv_bipush (v := (45 : Int32)) C.1 C.2.1 dX15_writeAll_48 (by decide) ?_
    obtain ⟨o_4, eo_4, hE⟩ := cl_e hE
    refine x_kV (o := o_4) (z_runV (As := [.int (45 : Int32)]) (rest := []) C (ct_X15_say l X k_x0 eo_4) cw_X15_21 hW hZ k_x0 (by decide) rfl rfl rfl hl.1 (Nat.le_of_ble_eq_true rfl) rfl dX15_writeAll_50 ⟨Nat.le_of_ble_eq_true rfl, Nat.le_of_ble_eq_true rfl⟩ ⟨Nat.le_refl _, Nat.le_refl _⟩) hZ (fun _ _ hW km hZ => ?_)
    replace hkm := hkm.tr km
    replace k_x0 := km.at k_x0 (by decide)
    replace k_x1 := km.at k_x1 (by decide)
    exact bX15_writeAll_53 C k_x0 k_x1 hkm hW hZ _ (lv_sub hl [0, 1] rfl) hE
set_option maxRecDepth 20000 in
theorem ct_X15_writeAll (l : Launch) (X : Ec) (F : Nat) {h : Hp} {x0 : Nat} {x1 : Nat} {o : Hp} (k_x0 : hK h x0 = 15) (k_x1 : hK h x1 = 12) (hE : sX15_writeAll F h x0 x1 = some o) : MetV l yX15_writeAll cX15_writeAll 6 none 16 322 X [.ref x0, .ref x1] h o := by
  refine x_met (by decide) (Nat.le_of_ble_eq_true rfl) ?_
  intro p e s m below meth c ls C hl hW hZ
  have hl : lv_has ls 6 [(0, .ref x0), (1, .ref x1)] := hl
  have hkm : Km h h := Km.rf h
  refine lv_aload_n C.1 C.2.1 dX15_writeAll_0 rfl (lv_at hl 0 rfl) ?_
  refine lv_aload_n C.1 C.2.1 dX15_writeAll_1 rfl (lv_at hl 1 rfl) ?_
  refine lv_ldc2 (v := (-1 : Int64)) C.1 C.2.1 C.2.2.2.1 (C.2.2.2.2.1 _ m_2479) dX15_writeAll_2 ?_
  obtain ⟨o_1, eo_1, hE⟩ := cl_e hE
  refine x_kV (o := o_1) (z_runV (As := [.ref x1, .long (-1 : Int64)]) (rest := []) C (ct_X15_writeMen l X F k_x0 k_x1 eo_1) cw_X15_535 hW hZ k_x0 (by decide) rfl rfl rfl hl.1 (Nat.le_of_ble_eq_true rfl) rfl dX15_writeAll_5 ⟨Nat.le_of_ble_eq_true rfl, Nat.le_of_ble_eq_true rfl⟩ ⟨Nat.le_refl _, Nat.le_refl _⟩) hZ (fun _ _ hW km hZ => ?_)
  replace hkm := hkm.tr km
  replace k_x0 := km.at k_x0 (by decide)
  replace k_x1 := km.at k_x1 (by decide)
  refine lv_aload_n C.1 C.2.1 dX15_writeAll_8 rfl (lv_at hl 0 rfl) ?_
  refine lv_bipush (v := (32 : Int32)) C.1 C.2.1 dX15_writeAll_9 (by decide) ?_
  obtain ⟨o_2, eo_2, hE⟩ := cl_e hE
  refine x_kV (o := o_2) (z_runV (As := [.int (32 : Int32)]) (rest := []) C (ct_X15_say l X k_x0 eo_2) cw_X15_21 hW hZ k_x0 (by decide) rfl rfl rfl hl.1 (Nat.le_of_ble_eq_true rfl) rfl dX15_writeAll_11 ⟨Nat.le_of_ble_eq_true rfl, Nat.le_of_ble_eq_true rfl⟩ ⟨Nat.le_refl _, Nat.le_refl _⟩) hZ (fun _ _ hW km hZ => ?_)
  replace hkm := hkm.tr km
  replace k_x0 := km.at k_x0 (by decide)
  replace k_x1 := km.at k_x1 (by decide)
  refine lv_aload_n C.1 C.2.1 dX15_writeAll_14 rfl (lv_at hl 0 rfl) ?_
  refine lv_aload_n C.1 C.2.1 dX15_writeAll_15 rfl (lv_at hl 1 rfl) ?_
  refine gf_X15_452 C hW k_x1 dX15_writeAll_16 ?_
  refine lv_if_ne (tgt := 27) C.1 C.2.1 dX15_writeAll_19 (by decide) (fun c_3 => ?_) (fun c_3 => ?_)
  · have hE := br_n hE c_3
    refine lv_bipush (v := (98 : Int32)) C.1 C.2.1 dX15_writeAll_27 (by decide) ?_
    exact bX15_writeAll_29 C k_x0 k_x1 k_x0 hkm hW hZ _ (lv_sub hl [0, 1] rfl) hE
  · have hE := br_p hE c_3
    refine lv_bipush (v := (119 : Int32)) C.1 C.2.1 dX15_writeAll_22 (by decide) ?_
    refine lv_goto (tgt := 29) C.1 C.2.1 dX15_writeAll_24 (by decide) ?_
    exact bX15_writeAll_29 C k_x0 k_x1 k_x0 hkm hW hZ _ (lv_sub hl [0, 1] rfl) hE
