set_option maxRecDepth 100000 in
theorem m_539 : Cond.fieldLink RX11 289 (TX4 9).1 (TX4 9).2.1 (TX4 9).2.2.1 ∈ W0 := w0_in (List.mem_append_right _ (List.mem_of_getElem? (i := 539) rfl)) rfl
set_option maxRecDepth 100000 in
theorem m_1346 : Cond.methodLink RX11 283 yX4_setRows ∈ W0 := w0_in (List.mem_append_right _ (List.mem_of_getElem? (i := 1346) rfl)) rfl
set_option maxRecDepth 100000 in
theorem m_1347 : Cond.instanceMethod yX4_setRows ∈ W0 := w0_in (List.mem_append_right _ (List.mem_of_getElem? (i := 1347) rfl)) rfl
set_option maxRecDepth 100000 in
theorem m_1348 : Cond.selects RX4 yX4_setRows yX4_setRows ∈ W0 := w0_in (List.mem_append_right _ (List.mem_of_getElem? (i := 1348) rfl)) rfl
set_option maxRecDepth 100000 in
theorem m_1349 : Cond.code yX4_setRows cX4_setRows 3 none ∈ W0 := w0_in (List.mem_append_right _ (List.mem_of_getElem? (i := 1349) rfl)) rfl
set_option maxRecDepth 100000 in
theorem n_1356 : Cond.methodLinkNest RX11 286 yX4_tree "GameRules" ∈ tables_1 := List.mem_of_getElem? (i := 1356) rfl
section
variable {p : Program} {l : Launch} {e : Env} {R : Room} {s : State} {m : MethodId} {args : Array Value} {below : List Frame} {meth : Method} {c : Code} {H : Heap} {locs : List Loc} {cells slots : Nat} {Q : State → Prop}
variable {cc : ByteArray} {pc : Nat} {ls : Array Slot} {rest : List Value} {X : Ec} {h h1 : Hp} {nL : Nat} {rt : Option FieldType} {mn : String}
theorem gf_X11_289 {a : Nat} (C : Cx X p s m args meth c RX11 cc nL rt mn) (hW : Wx X h H) (ha : hK h a = 4) (hdg : decode cc pc = .ok (.getfield 289, 3)) (kk : W p l e R s m args below meth c H locs cells slots Q (F0 m (pc + 3) ls (.int (hI h a 9) :: rest))) : W p l e R s m args below meth c H locs cells slots Q (F0 m pc ls (.ref a :: rest)) :=
  y_geti C hW ha i_X4 (by decide) rfl (by decide) m_539 rfl hdg kk
end
theorem cw_X11_283 : cwd RX11 283 yX4_setRows cX4_setRows 3 none false 2 := ⟨m_1349, m_1346, m_14, ⟨m_1347, m_1348⟩, by decide, by decide, by decide +kernel⟩
theorem cn_X11_286 : cwn RX11 286 "GameRules" yX4_tree cX4_tree 8 (some .int) false 1 := ⟨m_1359, n_1356, m_14, ⟨m_1358, ms_71⟩, by decide, by decide, by decide +kernel⟩
theorem dX11_rows_0 : decode cX11_rows 0 = .ok (.iload_n 2, 1) := by decide +kernel
theorem dX11_rows_1 : decode cX11_rows 1 = .ok (.ifCond .lt 9, 3) := by decide +kernel
theorem dX11_rows_4 : decode cX11_rows 4 = .ok (.iload_n 2, 1) := by decide +kernel
theorem dX11_rows_5 : decode cX11_rows 5 = .ok (.bipush 6, 2) := by decide +kernel
theorem dX11_rows_7 : decode cX11_rows 7 = .ok (.if_icmp .le 6, 3) := by decide +kernel
theorem dX11_rows_10 : decode cX11_rows 10 = .ok (.bipush (-101), 2) := by decide +kernel
theorem dX11_rows_12 : decode cX11_rows 12 = .ok (.ireturn, 1) := by decide +kernel
theorem dX11_rows_13 : decode cX11_rows 13 = .ok (.aload_n 0, 1) := by decide +kernel
theorem dX11_rows_14 : decode cX11_rows 14 = .ok (.iload_n 1, 1) := by decide +kernel
theorem dX11_rows_15 : decode cX11_rows 15 = .ok (.invokevirtual 193, 3) := by decide +kernel
theorem dX11_rows_18 : decode cX11_rows 18 = .ok (.ifCond .ne 6, 3) := by decide +kernel
theorem dX11_rows_21 : decode cX11_rows 21 = .ok (.bipush (-102), 2) := by decide +kernel
theorem dX11_rows_23 : decode cX11_rows 23 = .ok (.ireturn, 1) := by decide +kernel
theorem dX11_rows_24 : decode cX11_rows 24 = .ok (.iload_n 2, 1) := by decide +kernel
theorem dX11_rows_25 : decode cX11_rows 25 = .ok (.ifCond .ne 5, 3) := by decide +kernel
theorem dX11_rows_28 : decode cX11_rows 28 = .ok (.iconst 1, 1) := by decide +kernel
theorem dX11_rows_29 : decode cX11_rows 29 = .ok (.ireturn, 1) := by decide +kernel
theorem dX11_rows_30 : decode cX11_rows 30 = .ok (.aload_n 0, 1) := by decide +kernel
theorem dX11_rows_31 : decode cX11_rows 31 = .ok (.getfield 93, 3) := by decide +kernel
theorem dX11_rows_34 : decode cX11_rows 34 = .ok (.aload_n 0, 1) := by decide +kernel
theorem dX11_rows_35 : decode cX11_rows 35 = .ok (.getfield 103, 3) := by decide +kernel
theorem dX11_rows_38 : decode cX11_rows 38 = .ok (.iload_n 1, 1) := by decide +kernel
theorem dX11_rows_39 : decode cX11_rows 39 = .ok (.aaload, 1) := by decide +kernel
theorem dX11_rows_40 : decode cX11_rows 40 = .ok (.iload_n 2, 1) := by decide +kernel
theorem dX11_rows_41 : decode cX11_rows 41 = .ok (.invokevirtual 283, 3) := by decide +kernel
theorem dX11_rows_44 : decode cX11_rows 44 = .ok (.aload_n 0, 1) := by decide +kernel
theorem dX11_rows_45 : decode cX11_rows 45 = .ok (.getfield 93, 3) := by decide +kernel
theorem dX11_rows_48 : decode cX11_rows 48 = .ok (.iconst 0, 1) := by decide +kernel
theorem dX11_rows_49 : decode cX11_rows 49 = .ok (.invokevirtual 286, 3) := by decide +kernel
theorem dX11_rows_52 : decode cX11_rows 52 = .ok (.istore_n 3, 1) := by decide +kernel
theorem dX11_rows_53 : decode cX11_rows 53 = .ok (.aload_n 0, 1) := by decide +kernel
theorem dX11_rows_54 : decode cX11_rows 54 = .ok (.getfield 93, 3) := by decide +kernel
theorem dX11_rows_57 : decode cX11_rows 57 = .ok (.getfield 289, 3) := by decide +kernel
theorem dX11_rows_60 : decode cX11_rows 60 = .ok (.ifCond .eq 8, 3) := by decide +kernel
theorem dX11_rows_63 : decode cX11_rows 63 = .ok (.bipush (-104), 2) := by decide +kernel
theorem dX11_rows_65 : decode cX11_rows 65 = .ok (.goto 4, 3) := by decide +kernel
theorem dX11_rows_68 : decode cX11_rows 68 = .ok (.iload_n 3, 1) := by decide +kernel
theorem dX11_rows_69 : decode cX11_rows 69 = .ok (.ireturn, 1) := by decide +kernel
set_option maxRecDepth 20000 in
theorem moX11_rows_10 {o : Int32 × Hp} {F : Nat} {h : Hp} (hE : sX11_rows_10 F h  = some o) : Le h o.2 := by
  exact le_some2 hE
set_option maxRecDepth 20000 in
theorem moX11_rows_69 {o : Int32 × Hp} {F : Nat} {h : Hp} {t0 : Int32} (hE : sX11_rows_69 F h  t0 = some o) : Le h o.2 := by
  exact le_some2 hE
set_option maxRecDepth 20000 in
theorem moX11_rows {o : Int32 × Hp} {F : Nat} {h : Hp} {x0 : Nat} {x1 : Int32} {x2 : Int32} (hE : sX11_rows F h x0 x1 x2 = some o) : Le h o.2 := by
  rcases br_e hE with ⟨_, hE⟩ | ⟨_, hE⟩
  · exact moX11_rows_10 hE
  · rcases br_e hE with ⟨_, hE⟩ | ⟨_, hE⟩
    · obtain ⟨o_3, eo_3, hE⟩ := cl_e hE
      refine (moX11_isPlace eo_3).tr ?_
      rcases br_e hE with ⟨_, hE⟩ | ⟨_, hE⟩
      · exact le_some2 hE
      · rcases br_e hE with ⟨_, hE⟩ | ⟨_, hE⟩
        · exact le_some2 hE
        · obtain ⟨r_6, er_6, hE⟩ := cl_e hE
          obtain ⟨r_7, er_7, hE⟩ := cl_e hE
          obtain ⟨g_8, hE⟩ := gd_e hE
          obtain ⟨r_9, er_9, hE⟩ := cl_e hE
          obtain ⟨o_10, eo_10, hE⟩ := cl_e hE
          refine (moX4_setRows eo_10).tr ?_
          obtain ⟨r_11, er_11, hE⟩ := cl_e hE
          obtain ⟨o_12, eo_12, hE⟩ := cl_e hE
          refine (moX4_tree eo_12).tr ?_
          obtain ⟨r_13, er_13, hE⟩ := cl_e hE
          rcases br_e hE with ⟨_, hE⟩ | ⟨_, hE⟩
          · exact moX11_rows_69 hE
          · exact moX11_rows_69 hE
    · exact moX11_rows_10 hE
set_option maxRecDepth 20000 in
theorem bX11_rows_10 {p : Program} {l : Launch} {e : Env} {s : State} {m : MethodId} {args : Array Value} {below : List Frame} {meth : Method} {c : Code} {X : Ec} {h0 : Hp} {o : Int32 × Hp} {F : Nat} (C : Cx X p s m args meth c RX11 cX11_rows 4 (some .int) "rows") {h : Hp} {H : Heap} {locs : List Loc} (hkm : Km h0 h) (hW : Wx X h H) (hZ : va_S (aA (eB X)) s.heap H locs) (ls : Array Slot) (hl : lv_has ls 4 []) (hE : sX11_rows_10 F h  = some o) : W p l e (rm 47 1268) s m args below meth c H locs 0 0 (MQ below (QI X h0 o.1 o.2) args s 0 0 (aA (eB X))) (F0 m 10 ls []) := by
  refine lv_bipush (v := (-101 : Int32)) C.1 C.2.1 dX11_rows_10 (by decide) ?_
  exact x_iret C rfl rfl hW hZ hkm hE dX11_rows_12
set_option maxRecDepth 20000 in
theorem bX11_rows_69 {p : Program} {l : Launch} {e : Env} {s : State} {m : MethodId} {args : Array Value} {below : List Frame} {meth : Method} {c : Code} {X : Ec} {h0 : Hp} {o : Int32 × Hp} {F : Nat} (C : Cx X p s m args meth c RX11 cX11_rows 4 (some .int) "rows") {h : Hp} {t0 : Int32} {H : Heap} {locs : List Loc} (hkm : Km h0 h) (hW : Wx X h H) (hZ : va_S (aA (eB X)) s.heap H locs) (ls : Array Slot) (hl : lv_has ls 4 []) (hE : sX11_rows_69 F h  t0 = some o) : W p l e (rm 47 1268) s m args below meth c H locs 0 0 (MQ below (QI X h0 o.1 o.2) args s 0 0 (aA (eB X))) (F0 m 69 ls [.int t0]) := by
  exact x_iret C rfl rfl hW hZ hkm hE dX11_rows_69
set_option maxRecDepth 20000 in
theorem ct_X11_rows (l : Launch) (X : Ec) (F : Nat) {h : Hp} {x0 : Nat} {x1 : Int32} {x2 : Int32} {o : Int32 × Hp} (k_x0 : hK h x0 = 11) (hE : sX11_rows F h x0 x1 x2 = some o) : MetI l yX11_rows cX11_rows 4 (some .int) 47 1268 X [.ref x0, .int x1, .int x2] h o := by
  refine x_met (by decide) (Nat.le_of_ble_eq_true rfl) ?_
  intro p e s m below meth c ls C hl hW hZ
  have hl : lv_has ls 4 [(0, .ref x0), (1, .int x1), (2, .int x2)] := hl
  have hkm : Km h h := Km.rf h
  refine lv_iload_n C.1 C.2.1 dX11_rows_0 rfl (lv_at hl 2 rfl) ?_
  refine lv_if_lt (tgt := 10) C.1 C.2.1 dX11_rows_1 (by decide) (fun c_1 => ?_) (fun c_1 => ?_)
  · have hE := br_p hE c_1
    exact bX11_rows_10 C hkm hW hZ _ (lv_sub hl [] rfl) hE
  · have hE := br_n hE c_1
    refine lv_iload_n C.1 C.2.1 dX11_rows_4 rfl (lv_at hl 2 rfl) ?_
    refine lv_bipush (v := (6 : Int32)) C.1 C.2.1 dX11_rows_5 (by decide) ?_
    refine lv_icmp_le (tgt := 13) C.1 C.2.1 dX11_rows_7 (by decide) (fun c_2 => ?_) (fun c_2 => ?_)
    · have hE := br_p hE c_2
      refine lv_aload_n C.1 C.2.1 dX11_rows_13 rfl (lv_at hl 0 rfl) ?_
      refine lv_iload_n C.1 C.2.1 dX11_rows_14 rfl (lv_at hl 1 rfl) ?_
      obtain ⟨o_3, eo_3, hE⟩ := cl_e hE
      refine x_kI (o := o_3) (z_runV (As := [.int x1]) (rest := []) C (ct_X11_isPlace l X k_x0 eo_3) cw_X11_193 hW hZ k_x0 (by decide) rfl rfl rfl hl.1 (Nat.le_of_ble_eq_true rfl) rfl dX11_rows_15 ⟨Nat.le_of_ble_eq_true rfl, Nat.le_of_ble_eq_true rfl⟩ ⟨Nat.le_refl _, Nat.le_refl _⟩) hZ (fun _ _ hW km hZ => ?_)
      replace hkm := hkm.tr km
      replace k_x0 := km.at k_x0 (by decide)
      refine lv_if_ne (tgt := 24) C.1 C.2.1 dX11_rows_18 (by decide) (fun c_4 => ?_) (fun c_4 => ?_)
      · have hE := br_n hE c_4
        refine lv_iload_n C.1 C.2.1 dX11_rows_24 rfl (lv_at hl 2 rfl) ?_
        refine lv_if_ne (tgt := 30) C.1 C.2.1 dX11_rows_25 (by decide) (fun c_5 => ?_) (fun c_5 => ?_)
        · have hE := br_n hE c_5
          refine lv_aload_n C.1 C.2.1 dX11_rows_30 rfl (lv_at hl 0 rfl) ?_
          obtain ⟨r_6, er_6, hE⟩ := cl_e hE
          refine gf_X11_93 C hW k_x0 er_6 dX11_rows_31 (fun k_r_6 => ?_)
          refine lv_aload_n C.1 C.2.1 dX11_rows_34 rfl (lv_at hl 0 rfl) ?_
          obtain ⟨r_7, er_7, hE⟩ := cl_e hE
          refine gf_X11_103 C hW k_x0 er_7 dX11_rows_35 (fun k_r_7 => ?_)
          refine lv_iload_n C.1 C.2.1 dX11_rows_38 rfl (lv_at hl 1 rfl) ?_
          obtain ⟨g_8, hE⟩ := gd_e hE
          obtain ⟨r_9, er_9, hE⟩ := cl_e hE
          refine y_aald (t0 := 4) C hW k_r_7 (by decide) (by decide) rfl rfl rfl (fun _ => rfl) g_8 er_9 dX11_rows_39 (fun k_r_9 => ?_)
          refine lv_iload_n C.1 C.2.1 dX11_rows_40 rfl (lv_at hl 2 rfl) ?_
          obtain ⟨o_10, eo_10, hE⟩ := cl_e hE
          refine x_kV (o := o_10) (z_runV (As := [.ref r_9, .int x2]) (rest := []) C (ct_X4_setRows l X F k_r_6 k_r_9 eo_10) cw_X11_283 hW hZ k_r_6 (by decide) rfl rfl rfl hl.1 (Nat.le_of_ble_eq_true rfl) rfl dX11_rows_41 ⟨Nat.le_of_ble_eq_true rfl, Nat.le_of_ble_eq_true rfl⟩ ⟨Nat.le_refl _, Nat.le_refl _⟩) hZ (fun _ _ hW km hZ => ?_)
          replace hkm := hkm.tr km
          replace k_x0 := km.at k_x0 (by decide)
          refine lv_aload_n C.1 C.2.1 dX11_rows_44 rfl (lv_at hl 0 rfl) ?_
          obtain ⟨r_11, er_11, hE⟩ := cl_e hE
          refine gf_X11_93 C hW k_x0 er_11 dX11_rows_45 (fun k_r_11 => ?_)
          refine lv_iconst (v := (0 : Int32)) C.1 C.2.1 dX11_rows_48 (by decide) ?_
          obtain ⟨o_12, eo_12, hE⟩ := cl_e hE
          refine x_kI (o := o_12) (z_runVN (As := [.int (0 : Int32)]) (rest := []) C (ct_X4_tree l X F k_r_11 eo_12) cn_X11_286 hW hZ k_r_11 (by decide) rfl rfl rfl hl.1 (Nat.le_of_ble_eq_true rfl) rfl dX11_rows_49 ⟨Nat.le_of_ble_eq_true rfl, Nat.le_of_ble_eq_true rfl⟩ ⟨Nat.le_refl _, Nat.le_refl _⟩) hZ (fun _ _ hW km hZ => ?_)
          replace hkm := hkm.tr km
          replace k_x0 := km.at k_x0 (by decide)
          refine lv_istore_n (lv' := [(3, .int o_12.1), (0, .ref x0), (1, .int x1), (2, .int x2)]) C.1 C.2.1 dX11_rows_52 rfl hl (by decide) rfl (fun ls hl => ?_)
          refine lv_aload_n C.1 C.2.1 dX11_rows_53 rfl (lv_at hl 1 rfl) ?_
          obtain ⟨r_13, er_13, hE⟩ := cl_e hE
          refine gf_X11_93 C hW k_x0 er_13 dX11_rows_54 (fun k_r_13 => ?_)
          refine gf_X11_289 C hW k_r_13 dX11_rows_57 ?_
          refine lv_if_eq (tgt := 68) C.1 C.2.1 dX11_rows_60 (by decide) (fun c_14 => ?_) (fun c_14 => ?_)
          · have hE := br_p hE c_14
            refine lv_iload_n C.1 C.2.1 dX11_rows_68 rfl (lv_at hl 0 rfl) ?_
            exact bX11_rows_69 C hkm hW hZ _ (lv_sub hl [] rfl) hE
          · have hE := br_n hE c_14
            refine lv_bipush (v := (-104 : Int32)) C.1 C.2.1 dX11_rows_63 (by decide) ?_
            refine lv_goto (tgt := 69) C.1 C.2.1 dX11_rows_65 (by decide) ?_
            exact bX11_rows_69 C hkm hW hZ _ (lv_sub hl [] rfl) hE
        · have hE := br_p hE c_5
          refine lv_iconst (v := (1 : Int32)) C.1 C.2.1 dX11_rows_28 (by decide) ?_
          exact x_iret C rfl rfl hW hZ hkm hE dX11_rows_29
      · have hE := br_p hE c_4
        refine lv_bipush (v := (-102 : Int32)) C.1 C.2.1 dX11_rows_21 (by decide) ?_
        exact x_iret C rfl rfl hW hZ hkm hE dX11_rows_23
    · have hE := br_n hE c_2
      exact bX11_rows_10 C hkm hW hZ _ (lv_sub hl [] rfl) hE
set_option maxRecDepth 100000 in
theorem m_1398 : Cond.methodLink RX11 293 yX5_endOf ∈ W0 := w0_in (List.mem_append_right _ (List.mem_of_getElem? (i := 1398) rfl)) rfl
theorem cw_X11_293 : cwd RX11 293 yX5_endOf cX5_endOf 3 (some .int) false 1 := ⟨m_1364, m_1398, m_7, ⟨m_1362, m_1363⟩, by decide, by decide, by decide +kernel⟩
theorem dX11_ended_0 : decode cX11_ended 0 = .ok (.aload_n 0, 1) := by decide +kernel
theorem dX11_ended_1 : decode cX11_ended 1 = .ok (.iload_n 1, 1) := by decide +kernel
theorem dX11_ended_2 : decode cX11_ended 2 = .ok (.invokevirtual 193, 3) := by decide +kernel
theorem dX11_ended_5 : decode cX11_ended 5 = .ok (.ifCond .eq 19, 3) := by decide +kernel
theorem dX11_ended_8 : decode cX11_ended 8 = .ok (.aload_n 0, 1) := by decide +kernel
theorem dX11_ended_9 : decode cX11_ended 9 = .ok (.getfield 50, 3) := by decide +kernel
theorem dX11_ended_12 : decode cX11_ended 12 = .ok (.aload_n 0, 1) := by decide +kernel
theorem dX11_ended_13 : decode cX11_ended 13 = .ok (.getfield 103, 3) := by decide +kernel
theorem dX11_ended_16 : decode cX11_ended 16 = .ok (.iload_n 1, 1) := by decide +kernel
theorem dX11_ended_17 : decode cX11_ended 17 = .ok (.aaload, 1) := by decide +kernel
theorem dX11_ended_18 : decode cX11_ended 18 = .ok (.invokevirtual 293, 3) := by decide +kernel
theorem dX11_ended_21 : decode cX11_ended 21 = .ok (.goto 5, 3) := by decide +kernel
theorem dX11_ended_24 : decode cX11_ended 24 = .ok (.bipush (-102), 2) := by decide +kernel
theorem dX11_ended_26 : decode cX11_ended 26 = .ok (.ireturn, 1) := by decide +kernel
set_option maxRecDepth 20000 in
theorem moX11_ended_26 {o : Int32 × Hp} {F : Nat} {h : Hp} {t0 : Int32} (hE : sX11_ended_26 F h  t0 = some o) : Le h o.2 := by
  exact le_some2 hE
set_option maxRecDepth 20000 in
theorem moX11_ended {o : Int32 × Hp} {F : Nat} {h : Hp} {x0 : Nat} {x1 : Int32} (hE : sX11_ended F h x0 x1 = some o) : Le h o.2 := by
  obtain ⟨o_1, eo_1, hE⟩ := cl_e hE
  refine (moX11_isPlace eo_1).tr ?_
  rcases br_e hE with ⟨_, hE⟩ | ⟨_, hE⟩
  · exact moX11_ended_26 hE
  · obtain ⟨r_3, er_3, hE⟩ := cl_e hE
    obtain ⟨r_4, er_4, hE⟩ := cl_e hE
    obtain ⟨g_5, hE⟩ := gd_e hE
    obtain ⟨r_6, er_6, hE⟩ := cl_e hE
    obtain ⟨o_7, eo_7, hE⟩ := cl_e hE
    refine (moX5_endOf eo_7).tr ?_
    exact moX11_ended_26 hE
set_option maxRecDepth 20000 in
theorem bX11_ended_26 {p : Program} {l : Launch} {e : Env} {s : State} {m : MethodId} {args : Array Value} {below : List Frame} {meth : Method} {c : Code} {X : Ec} {h0 : Hp} {o : Int32 × Hp} {F : Nat} (C : Cx X p s m args meth c RX11 cX11_ended 2 (some .int) "ended") {h : Hp} {t0 : Int32} {H : Heap} {locs : List Loc} (hkm : Km h0 h) (hW : Wx X h H) (hZ : va_S (aA (eB X)) s.heap H locs) (ls : Array Slot) (hl : lv_has ls 2 []) (hE : sX11_ended_26 F h  t0 = some o) : W p l e (rm 5 161) s m args below meth c H locs 0 0 (MQ below (QI X h0 o.1 o.2) args s 0 0 (aA (eB X))) (F0 m 26 ls [.int t0]) := by
  exact x_iret C rfl rfl hW hZ hkm hE dX11_ended_26
set_option maxRecDepth 20000 in
theorem ct_X11_ended (l : Launch) (X : Ec) (F : Nat) {h : Hp} {x0 : Nat} {x1 : Int32} {o : Int32 × Hp} (k_x0 : hK h x0 = 11) (hE : sX11_ended F h x0 x1 = some o) : MetI l yX11_ended cX11_ended 2 (some .int) 5 161 X [.ref x0, .int x1] h o := by
  refine x_met (by decide) (Nat.le_of_ble_eq_true rfl) ?_
  intro p e s m below meth c ls C hl hW hZ
  have hl : lv_has ls 2 [(0, .ref x0), (1, .int x1)] := hl
  have hkm : Km h h := Km.rf h
  refine lv_aload_n C.1 C.2.1 dX11_ended_0 rfl (lv_at hl 0 rfl) ?_
  refine lv_iload_n C.1 C.2.1 dX11_ended_1 rfl (lv_at hl 1 rfl) ?_
  obtain ⟨o_1, eo_1, hE⟩ := cl_e hE
  refine x_kI (o := o_1) (z_runV (As := [.int x1]) (rest := []) C (ct_X11_isPlace l X k_x0 eo_1) cw_X11_193 hW hZ k_x0 (by decide) rfl rfl rfl hl.1 (Nat.le_of_ble_eq_true rfl) rfl dX11_ended_2 ⟨Nat.le_of_ble_eq_true rfl, Nat.le_of_ble_eq_true rfl⟩ ⟨Nat.le_refl _, Nat.le_refl _⟩) hZ (fun _ _ hW km hZ => ?_)
  replace hkm := hkm.tr km
  replace k_x0 := km.at k_x0 (by decide)
  refine lv_if_eq (tgt := 24) C.1 C.2.1 dX11_ended_5 (by decide) (fun c_2 => ?_) (fun c_2 => ?_)
  · have hE := br_p hE c_2
    refine lv_bipush (v := (-102 : Int32)) C.1 C.2.1 dX11_ended_24 (by decide) ?_
    exact bX11_ended_26 C hkm hW hZ _ (lv_sub hl [] rfl) hE
  · have hE := br_n hE c_2
    refine lv_aload_n C.1 C.2.1 dX11_ended_8 rfl (lv_at hl 0 rfl) ?_
    obtain ⟨r_3, er_3, hE⟩ := cl_e hE
    refine gf_X11_50 C hW k_x0 er_3 dX11_ended_9 (fun k_r_3 => ?_)
    refine lv_aload_n C.1 C.2.1 dX11_ended_12 rfl (lv_at hl 0 rfl) ?_
    obtain ⟨r_4, er_4, hE⟩ := cl_e hE
    refine gf_X11_103 C hW k_x0 er_4 dX11_ended_13 (fun k_r_4 => ?_)
    refine lv_iload_n C.1 C.2.1 dX11_ended_16 rfl (lv_at hl 1 rfl) ?_
    obtain ⟨g_5, hE⟩ := gd_e hE
    obtain ⟨r_6, er_6, hE⟩ := cl_e hE
    refine y_aald (t0 := 4) C hW k_r_4 (by decide) (by decide) rfl rfl rfl (fun _ => rfl) g_5 er_6 dX11_ended_17 (fun k_r_6 => ?_)
    obtain ⟨o_7, eo_7, hE⟩ := cl_e hE
    refine x_kI (o := o_7) (z_runV (As := [.ref r_6]) (rest := []) C (ct_X5_endOf l X F k_r_3 k_r_6 eo_7) cw_X11_293 hW hZ k_r_3 (by decide) rfl rfl rfl hl.1 (Nat.le_of_ble_eq_true rfl) rfl dX11_ended_18 ⟨Nat.le_of_ble_eq_true rfl, Nat.le_of_ble_eq_true rfl⟩ ⟨Nat.le_refl _, Nat.le_refl _⟩) hZ (fun _ _ hW km hZ => ?_)
    replace hkm := hkm.tr km
    replace k_x0 := km.at k_x0 (by decide)
    refine lv_goto (tgt := 26) C.1 C.2.1 dX11_ended_21 (by decide) ?_
    exact bX11_ended_26 C hkm hW hZ _ (lv_sub hl [] rfl) hE
set_option maxRecDepth 100000 in
theorem m_1403 : Cond.methodLink RX11 296 yX5_winnerOf ∈ W0 := w0_in (List.mem_append_right _ (List.mem_of_getElem? (i := 1403) rfl)) rfl
theorem cw_X11_296 : cwd RX11 296 yX5_winnerOf cX5_winnerOf 6 (some .int) false 2 := ⟨m_1383, m_1403, m_7, ⟨m_1381, m_1382⟩, by decide, by decide, by decide +kernel⟩
theorem dX11_result_0 : decode cX11_result 0 = .ok (.aload_n 0, 1) := by decide +kernel
theorem dX11_result_1 : decode cX11_result 1 = .ok (.iload_n 1, 1) := by decide +kernel
theorem dX11_result_2 : decode cX11_result 2 = .ok (.invokevirtual 193, 3) := by decide +kernel
theorem dX11_result_5 : decode cX11_result 5 = .ok (.ifCond .ne 6, 3) := by decide +kernel
theorem dX11_result_8 : decode cX11_result 8 = .ok (.bipush (-102), 2) := by decide +kernel
theorem dX11_result_10 : decode cX11_result 10 = .ok (.ireturn, 1) := by decide +kernel
theorem dX11_result_11 : decode cX11_result 11 = .ok (.aload_n 0, 1) := by decide +kernel
theorem dX11_result_12 : decode cX11_result 12 = .ok (.getfield 50, 3) := by decide +kernel
theorem dX11_result_15 : decode cX11_result 15 = .ok (.aload_n 0, 1) := by decide +kernel
theorem dX11_result_16 : decode cX11_result 16 = .ok (.getfield 103, 3) := by decide +kernel
theorem dX11_result_19 : decode cX11_result 19 = .ok (.iload_n 1, 1) := by decide +kernel
theorem dX11_result_20 : decode cX11_result 20 = .ok (.aaload, 1) := by decide +kernel
theorem dX11_result_21 : decode cX11_result 21 = .ok (.aload_n 0, 1) := by decide +kernel
theorem dX11_result_22 : decode cX11_result 22 = .ok (.getfield 50, 3) := by decide +kernel
theorem dX11_result_25 : decode cX11_result 25 = .ok (.aload_n 0, 1) := by decide +kernel
theorem dX11_result_26 : decode cX11_result 26 = .ok (.getfield 103, 3) := by decide +kernel
theorem dX11_result_29 : decode cX11_result 29 = .ok (.iload_n 1, 1) := by decide +kernel
theorem dX11_result_30 : decode cX11_result 30 = .ok (.aaload, 1) := by decide +kernel
theorem dX11_result_31 : decode cX11_result 31 = .ok (.invokevirtual 293, 3) := by decide +kernel
theorem dX11_result_34 : decode cX11_result 34 = .ok (.invokevirtual 296, 3) := by decide +kernel
theorem dX11_result_37 : decode cX11_result 37 = .ok (.ireturn, 1) := by decide +kernel
set_option maxRecDepth 20000 in
theorem moX11_result {o : Int32 × Hp} {F : Nat} {h : Hp} {x0 : Nat} {x1 : Int32} (hE : sX11_result F h x0 x1 = some o) : Le h o.2 := by
  obtain ⟨o_1, eo_1, hE⟩ := cl_e hE
  refine (moX11_isPlace eo_1).tr ?_
  rcases br_e hE with ⟨_, hE⟩ | ⟨_, hE⟩
  · exact le_some2 hE
  · obtain ⟨r_3, er_3, hE⟩ := cl_e hE
    obtain ⟨r_4, er_4, hE⟩ := cl_e hE
    obtain ⟨g_5, hE⟩ := gd_e hE
    obtain ⟨r_6, er_6, hE⟩ := cl_e hE
    obtain ⟨r_7, er_7, hE⟩ := cl_e hE
    obtain ⟨r_8, er_8, hE⟩ := cl_e hE
    obtain ⟨g_9, hE⟩ := gd_e hE
    obtain ⟨r_10, er_10, hE⟩ := cl_e hE
    obtain ⟨o_11, eo_11, hE⟩ := cl_e hE
    refine (moX5_endOf eo_11).tr ?_
    obtain ⟨o_12, eo_12, hE⟩ := cl_e hE
    refine (moX5_winnerOf eo_12).tr ?_
    exact le_some2 hE
set_option maxRecDepth 20000 in
theorem ct_X11_result (l : Launch) (X : Ec) (F : Nat) {h : Hp} {x0 : Nat} {x1 : Int32} {o : Int32 × Hp} (k_x0 : hK h x0 = 11) (hE : sX11_result F h x0 x1 = some o) : MetI l yX11_result cX11_result 2 (some .int) 5 161 X [.ref x0, .int x1] h o := by
  refine x_met (by decide) (Nat.le_of_ble_eq_true rfl) ?_
  intro p e s m below meth c ls C hl hW hZ
  have hl : lv_has ls 2 [(0, .ref x0), (1, .int x1)] := hl
  have hkm : Km h h := Km.rf h
  refine lv_aload_n C.1 C.2.1 dX11_result_0 rfl (lv_at hl 0 rfl) ?_
  refine lv_iload_n C.1 C.2.1 dX11_result_1 rfl (lv_at hl 1 rfl) ?_
  obtain ⟨o_1, eo_1, hE⟩ := cl_e hE
  refine x_kI (o := o_1) (z_runV (As := [.int x1]) (rest := []) C (ct_X11_isPlace l X k_x0 eo_1) cw_X11_193 hW hZ k_x0 (by decide) rfl rfl rfl hl.1 (Nat.le_of_ble_eq_true rfl) rfl dX11_result_2 ⟨Nat.le_of_ble_eq_true rfl, Nat.le_of_ble_eq_true rfl⟩ ⟨Nat.le_refl _, Nat.le_refl _⟩) hZ (fun _ _ hW km hZ => ?_)
  replace hkm := hkm.tr km
  replace k_x0 := km.at k_x0 (by decide)
  refine lv_if_ne (tgt := 11) C.1 C.2.1 dX11_result_5 (by decide) (fun c_2 => ?_) (fun c_2 => ?_)
  · have hE := br_n hE c_2
    refine lv_aload_n C.1 C.2.1 dX11_result_11 rfl (lv_at hl 0 rfl) ?_
    obtain ⟨r_3, er_3, hE⟩ := cl_e hE
    refine gf_X11_50 C hW k_x0 er_3 dX11_result_12 (fun k_r_3 => ?_)
    refine lv_aload_n C.1 C.2.1 dX11_result_15 rfl (lv_at hl 0 rfl) ?_
    obtain ⟨r_4, er_4, hE⟩ := cl_e hE
    refine gf_X11_103 C hW k_x0 er_4 dX11_result_16 (fun k_r_4 => ?_)
    refine lv_iload_n C.1 C.2.1 dX11_result_19 rfl (lv_at hl 1 rfl) ?_
    obtain ⟨g_5, hE⟩ := gd_e hE
    obtain ⟨r_6, er_6, hE⟩ := cl_e hE
    refine y_aald (t0 := 4) C hW k_r_4 (by decide) (by decide) rfl rfl rfl (fun _ => rfl) g_5 er_6 dX11_result_20 (fun k_r_6 => ?_)
    refine lv_aload_n C.1 C.2.1 dX11_result_21 rfl (lv_at hl 0 rfl) ?_
    obtain ⟨r_7, er_7, hE⟩ := cl_e hE
    refine gf_X11_50 C hW k_x0 er_7 dX11_result_22 (fun k_r_7 => ?_)
    refine lv_aload_n C.1 C.2.1 dX11_result_25 rfl (lv_at hl 0 rfl) ?_
    obtain ⟨r_8, er_8, hE⟩ := cl_e hE
    refine gf_X11_103 C hW k_x0 er_8 dX11_result_26 (fun k_r_8 => ?_)
    refine lv_iload_n C.1 C.2.1 dX11_result_29 rfl (lv_at hl 1 rfl) ?_
    obtain ⟨g_9, hE⟩ := gd_e hE
    obtain ⟨r_10, er_10, hE⟩ := cl_e hE
    refine y_aald (t0 := 4) C hW k_r_8 (by decide) (by decide) rfl rfl rfl (fun _ => rfl) g_9 er_10 dX11_result_30 (fun k_r_10 => ?_)
    obtain ⟨o_11, eo_11, hE⟩ := cl_e hE
    refine x_kI (o := o_11) (z_runV (As := [.ref r_10]) (rest := [.ref r_6, .ref r_3]) C (ct_X5_endOf l X F k_r_7 k_r_10 eo_11) cw_X11_293 hW hZ k_r_7 (by decide) rfl rfl rfl hl.1 (Nat.le_of_ble_eq_true rfl) rfl dX11_result_31 ⟨Nat.le_of_ble_eq_true rfl, Nat.le_of_ble_eq_true rfl⟩ ⟨Nat.le_refl _, Nat.le_refl _⟩) hZ (fun _ _ hW km hZ => ?_)
    replace hkm := hkm.tr km
    replace k_x0 := km.at k_x0 (by decide)
    replace k_r_6 := km.at k_r_6 (by decide)
    replace k_r_3 := km.at k_r_3 (by decide)
    obtain ⟨o_12, eo_12, hE⟩ := cl_e hE
    refine x_kI (o := o_12) (z_runV (As := [.ref r_6, .int o_11.1]) (rest := []) C (ct_X5_winnerOf l X k_r_3 k_r_6 eo_12) cw_X11_296 hW hZ k_r_3 (by decide) rfl rfl rfl hl.1 (Nat.le_of_ble_eq_true rfl) rfl dX11_result_34 ⟨Nat.le_of_ble_eq_true rfl, Nat.le_of_ble_eq_true rfl⟩ ⟨Nat.le_refl _, Nat.le_refl _⟩) hZ (fun _ _ hW km hZ => ?_)
    replace hkm := hkm.tr km
    replace k_x0 := km.at k_x0 (by decide)
    exact x_iret C rfl rfl hW hZ hkm hE dX11_result_37
  · have hE := br_p hE c_2
    refine lv_bipush (v := (-102 : Int32)) C.1 C.2.1 dX11_result_8 (by decide) ?_
    exact x_iret C rfl rfl hW hZ hkm hE dX11_result_10
set_option maxRecDepth 100000 in
theorem m_1408 : Cond.methodLink RX11 300 yX8_writeMove ∈ W0 := w0_in (List.mem_append_right _ (List.mem_of_getElem? (i := 1408) rfl)) rfl
set_option maxRecDepth 100000 in
theorem m_1431 : Cond.methodLink RX11 304 yX8_markOf ∈ W0 := w0_in (List.mem_append_right _ (List.mem_of_getElem? (i := 1431) rfl)) rfl
set_option maxRecDepth 100000 in
theorem m_1432 : Cond.instanceMethod yX8_markOf ∈ W0 := w0_in (List.mem_append_right _ (List.mem_of_getElem? (i := 1432) rfl)) rfl
set_option maxRecDepth 100000 in
theorem m_1433 : Cond.selects RX8 yX8_markOf yX8_markOf ∈ W0 := w0_in (List.mem_append_right _ (List.mem_of_getElem? (i := 1433) rfl)) rfl
set_option maxRecDepth 100000 in
theorem m_1434 : Cond.code yX8_markOf cX8_markOf 4 (some .int) ∈ W0 := w0_in (List.mem_append_right _ (List.mem_of_getElem? (i := 1434) rfl)) rfl
set_option maxRecDepth 100000 in
theorem m_1440 : Cond.methodLink RX11 307 yX9_append ∈ W0 := w0_in (List.mem_append_right _ (List.mem_of_getElem? (i := 1440) rfl)) rfl
section
variable {p : Program} {l : Launch} {e : Env} {R : Room} {s : State} {m : MethodId} {args : Array Value} {below : List Frame} {meth : Method} {c : Code} {H : Heap} {locs : List Loc} {cells slots : Nat} {Q : State → Prop}
variable {cc : ByteArray} {pc : Nat} {ls : Array Slot} {rest : List Value} {X : Ec} {h h1 : Hp} {nL : Nat} {rt : Option FieldType} {mn : String}
theorem gf_X11_68 {a r : Nat} (C : Cx X p s m args meth c RX11 cc nL rt mn) (hW : Wx X h H) (ha : hK h a = 11) (hr : hR h a 8 = some r) (hdg : decode cc pc = .ok (.getfield 68, 3)) (kk : hK h r = 8 → W p l e R s m args below meth c H locs cells slots Q (F0 m (pc + 3) ls (.ref r :: rest))) : W p l e R s m args below meth c H locs cells slots Q (F0 m pc ls (.ref a :: rest)) :=
  y_getr C hW ha i_X11 (by decide) rfl (by decide) m_837 rfl rfl hr hdg kk
end
theorem cw_X11_300 : cwd RX11 300 yX8_writeMove cX8_writeMove 9 none false 4 := ⟨m_1411, m_1408, m_11, ⟨m_1409, m_1410⟩, by decide, by decide, by decide +kernel⟩
theorem cw_X11_304 : cwd RX11 304 yX8_markOf cX8_markOf 4 (some .int) false 2 := ⟨m_1434, m_1431, m_11, ⟨m_1432, m_1433⟩, by decide, by decide, by decide +kernel⟩
theorem cw_X11_307 : cwd RX11 307 yX9_append cX9_append 2 none false 1 := ⟨m_641, m_1440, m_2, ⟨m_639, m_640⟩, by decide, by decide, by decide +kernel⟩
theorem dX11_say_0 : decode cX11_say 0 = .ok (.aload_n 0, 1) := by decide +kernel
theorem dX11_say_1 : decode cX11_say 1 = .ok (.iload_n 1, 1) := by decide +kernel
theorem dX11_say_2 : decode cX11_say 2 = .ok (.invokevirtual 254, 3) := by decide +kernel
theorem dX11_say_5 : decode cX11_say 5 = .ok (.istore_n 3, 1) := by decide +kernel
theorem dX11_say_6 : decode cX11_say 6 = .ok (.iload_n 2, 1) := by decide +kernel
theorem dX11_say_7 : decode cX11_say 7 = .ok (.ifCond .lt 8, 3) := by decide +kernel
theorem dX11_say_10 : decode cX11_say 10 = .ok (.iload_n 2, 1) := by decide +kernel
theorem dX11_say_11 : decode cX11_say 11 = .ok (.iload_n 3, 1) := by decide +kernel
theorem dX11_say_12 : decode cX11_say 12 = .ok (.if_icmp .lt 6, 3) := by decide +kernel
theorem dX11_say_15 : decode cX11_say 15 = .ok (.bipush (-102), 2) := by decide +kernel
theorem dX11_say_17 : decode cX11_say 17 = .ok (.ireturn, 1) := by decide +kernel
theorem dX11_say_18 : decode cX11_say 18 = .ok (.aload_n 0, 1) := by decide +kernel
theorem dX11_say_19 : decode cX11_say 19 = .ok (.getfield 18, 3) := by decide +kernel
theorem dX11_say_22 : decode cX11_say 22 = .ok (.invokevirtual 144, 3) := by decide +kernel
theorem dX11_say_25 : decode cX11_say 25 = .ok (.aload_n 0, 1) := by decide +kernel
theorem dX11_say_26 : decode cX11_say 26 = .ok (.getfield 68, 3) := by decide +kernel
theorem dX11_say_29 : decode cX11_say 29 = .ok (.aload_n 0, 1) := by decide +kernel
theorem dX11_say_30 : decode cX11_say 30 = .ok (.getfield 97, 3) := by decide +kernel
theorem dX11_say_33 : decode cX11_say 33 = .ok (.iload_n 3, 1) := by decide +kernel
theorem dX11_say_34 : decode cX11_say 34 = .ok (.iload_n 2, 1) := by decide +kernel
theorem dX11_say_35 : decode cX11_say 35 = .ok (.aload_n 0, 1) := by decide +kernel
theorem dX11_say_36 : decode cX11_say 36 = .ok (.getfield 18, 3) := by decide +kernel
theorem dX11_say_39 : decode cX11_say 39 = .ok (.invokevirtual 300, 3) := by decide +kernel
theorem dX11_say_42 : decode cX11_say 42 = .ok (.aload_n 0, 1) := by decide +kernel
theorem dX11_say_43 : decode cX11_say 43 = .ok (.getfield 68, 3) := by decide +kernel
theorem dX11_say_46 : decode cX11_say 46 = .ok (.aload_n 0, 1) := by decide +kernel
theorem dX11_say_47 : decode cX11_say 47 = .ok (.getfield 103, 3) := by decide +kernel
theorem dX11_say_50 : decode cX11_say 50 = .ok (.iload_n 1, 1) := by decide +kernel
theorem dX11_say_51 : decode cX11_say 51 = .ok (.aaload, 1) := by decide +kernel
theorem dX11_say_52 : decode cX11_say 52 = .ok (.aload_n 0, 1) := by decide +kernel
theorem dX11_say_53 : decode cX11_say 53 = .ok (.getfield 97, 3) := by decide +kernel
theorem dX11_say_56 : decode cX11_say 56 = .ok (.iload_n 2, 1) := by decide +kernel
theorem dX11_say_57 : decode cX11_say 57 = .ok (.iaload, 1) := by decide +kernel
theorem dX11_say_58 : decode cX11_say 58 = .ok (.invokevirtual 304, 3) := by decide +kernel
theorem dX11_say_61 : decode cX11_say 61 = .ok (.istore 4, 2) := by decide +kernel
theorem dX11_say_63 : decode cX11_say 63 = .ok (.iload 4, 2) := by decide +kernel
theorem dX11_say_65 : decode cX11_say 65 = .ok (.iconst (-1), 1) := by decide +kernel
theorem dX11_say_66 : decode cX11_say 66 = .ok (.if_icmp .eq 12, 3) := by decide +kernel
theorem dX11_say_69 : decode cX11_say 69 = .ok (.aload_n 0, 1) := by decide +kernel
theorem dX11_say_70 : decode cX11_say 70 = .ok (.getfield 18, 3) := by decide +kernel
theorem dX11_say_73 : decode cX11_say 73 = .ok (.iload 4, 2) := by decide +kernel
theorem dX11_say_75 : decode cX11_say 75 = .ok (.invokevirtual 307, 3) := by decide +kernel
theorem dX11_say_78 : decode cX11_say 78 = .ok (.aload_n 0, 1) := by decide +kernel
theorem dX11_say_79 : decode cX11_say 79 = .ok (.getfield 18, 3) := by decide +kernel
theorem dX11_say_82 : decode cX11_say 82 = .ok (.getfield 147, 3) := by decide +kernel
theorem dX11_say_85 : decode cX11_say 85 = .ok (.ireturn, 1) := by decide +kernel
set_option maxRecDepth 20000 in
theorem moX11_say_15 {o : Int32 × Hp} {F : Nat} {h : Hp} (hE : sX11_say_15 F h  = some o) : Le h o.2 := by
  exact le_some2 hE
set_option maxRecDepth 20000 in
theorem moX11_say_78 {o : Int32 × Hp} {F : Nat} {h : Hp} {x0 : Nat} (hE : sX11_say_78 F h x0 = some o) : Le h o.2 := by
  obtain ⟨r_1, er_1, hE⟩ := cl_e hE
  exact le_some2 hE
set_option maxRecDepth 20000 in
theorem moX11_say {o : Int32 × Hp} {F : Nat} {h : Hp} {x0 : Nat} {x1 : Int32} {x2 : Int32} (hE : sX11_say F h x0 x1 x2 = some o) : Le h o.2 := by
  obtain ⟨o_1, eo_1, hE⟩ := cl_e hE
  refine (moX11_listMoves eo_1).tr ?_
  rcases br_e hE with ⟨_, hE⟩ | ⟨_, hE⟩
  · exact moX11_say_15 hE
  · rcases br_e hE with ⟨_, hE⟩ | ⟨_, hE⟩
    · obtain ⟨r_4, er_4, hE⟩ := cl_e hE
      obtain ⟨o_5, eo_5, hE⟩ := cl_e hE
      refine (moX9_clear eo_5).tr ?_
      obtain ⟨r_6, er_6, hE⟩ := cl_e hE
      obtain ⟨r_7, er_7, hE⟩ := cl_e hE
      obtain ⟨r_8, er_8, hE⟩ := cl_e hE
      obtain ⟨o_9, eo_9, hE⟩ := cl_e hE
      refine (moX8_writeMove eo_9).tr ?_
      obtain ⟨r_10, er_10, hE⟩ := cl_e hE
      obtain ⟨r_11, er_11, hE⟩ := cl_e hE
      obtain ⟨g_12, hE⟩ := gd_e hE
      obtain ⟨r_13, er_13, hE⟩ := cl_e hE
      obtain ⟨r_14, er_14, hE⟩ := cl_e hE
      obtain ⟨g_15, hE⟩ := gd_e hE
      obtain ⟨o_16, eo_16, hE⟩ := cl_e hE
      refine (moX8_markOf eo_16).tr ?_
      rcases br_e hE with ⟨_, hE⟩ | ⟨_, hE⟩
      · exact moX11_say_78 hE
      · obtain ⟨r_18, er_18, hE⟩ := cl_e hE
        obtain ⟨o_19, eo_19, hE⟩ := cl_e hE
        refine (moX9_append eo_19).tr ?_
        exact moX11_say_78 hE
    · exact moX11_say_15 hE
set_option maxRecDepth 20000 in
theorem bX11_say_15 {p : Program} {l : Launch} {e : Env} {s : State} {m : MethodId} {args : Array Value} {below : List Frame} {meth : Method} {c : Code} {X : Ec} {h0 : Hp} {o : Int32 × Hp} {F : Nat} (C : Cx X p s m args meth c RX11 cX11_say 5 (some .int) "say") {h : Hp} {H : Heap} {locs : List Loc} (hkm : Km h0 h) (hW : Wx X h H) (hZ : va_S (aA (eB X)) s.heap H locs) (ls : Array Slot) (hl : lv_has ls 5 []) (hE : sX11_say_15 F h  = some o) : W p l e (rm 6 184) s m args below meth c H locs 0 0 (MQ below (QI X h0 o.1 o.2) args s 0 0 (aA (eB X))) (F0 m 15 ls []) := by
  refine lv_bipush (v := (-102 : Int32)) C.1 C.2.1 dX11_say_15 (by decide) ?_
  exact x_iret C rfl rfl hW hZ hkm hE dX11_say_17
set_option maxRecDepth 20000 in
theorem bX11_say_78 {p : Program} {l : Launch} {e : Env} {s : State} {m : MethodId} {args : Array Value} {below : List Frame} {meth : Method} {c : Code} {X : Ec} {h0 : Hp} {o : Int32 × Hp} {F : Nat} (C : Cx X p s m args meth c RX11 cX11_say 5 (some .int) "say") {h : Hp} {x0 : Nat} {H : Heap} {locs : List Loc} (k_x0 : hK h x0 = 11) (hkm : Km h0 h) (hW : Wx X h H) (hZ : va_S (aA (eB X)) s.heap H locs) (ls : Array Slot) (hl : lv_has ls 5 [(0, .ref x0)]) (hE : sX11_say_78 F h x0 = some o) : W p l e (rm 6 184) s m args below meth c H locs 0 0 (MQ below (QI X h0 o.1 o.2) args s 0 0 (aA (eB X))) (F0 m 78 ls []) := by
  refine lv_aload_n C.1 C.2.1 dX11_say_78 rfl (lv_at hl 0 rfl) ?_
  obtain ⟨r_1, er_1, hE⟩ := cl_e hE
  refine gf_X11_18 C hW k_x0 er_1 dX11_say_79 (fun k_r_1 => ?_)
  refine gf_X11_147 C hW k_r_1 dX11_say_82 ?_
  exact x_iret C rfl rfl hW hZ hkm hE dX11_say_85
set_option maxRecDepth 20000 in
theorem ct_X11_say (l : Launch) (X : Ec) (F : Nat) {h : Hp} {x0 : Nat} {x1 : Int32} {x2 : Int32} {o : Int32 × Hp} (k_x0 : hK h x0 = 11) (hE : sX11_say F h x0 x1 x2 = some o) : MetI l yX11_say cX11_say 5 (some .int) 6 184 X [.ref x0, .int x1, .int x2] h o := by
  refine x_met (by decide) (Nat.le_of_ble_eq_true rfl) ?_
  intro p e s m below meth c ls C hl hW hZ
  have hl : lv_has ls 5 [(0, .ref x0), (1, .int x1), (2, .int x2)] := hl
  have hkm : Km h h := Km.rf h
  refine lv_aload_n C.1 C.2.1 dX11_say_0 rfl (lv_at hl 0 rfl) ?_
  refine lv_iload_n C.1 C.2.1 dX11_say_1 rfl (lv_at hl 1 rfl) ?_
  obtain ⟨o_1, eo_1, hE⟩ := cl_e hE
  refine x_kI (o := o_1) (z_runV (As := [.int x1]) (rest := []) C (ct_X11_listMoves l X F k_x0 eo_1) cw_X11_254 hW hZ k_x0 (by decide) rfl rfl rfl hl.1 (Nat.le_of_ble_eq_true rfl) rfl dX11_say_2 ⟨Nat.le_of_ble_eq_true rfl, Nat.le_of_ble_eq_true rfl⟩ ⟨Nat.le_refl _, Nat.le_refl _⟩) hZ (fun _ _ hW km hZ => ?_)
  replace hkm := hkm.tr km
  replace k_x0 := km.at k_x0 (by decide)
  refine lv_istore_n (lv' := [(3, .int o_1.1), (0, .ref x0), (1, .int x1), (2, .int x2)]) C.1 C.2.1 dX11_say_5 rfl hl (by decide) rfl (fun ls hl => ?_)
  refine lv_iload_n C.1 C.2.1 dX11_say_6 rfl (lv_at hl 3 rfl) ?_
  refine lv_if_lt (tgt := 15) C.1 C.2.1 dX11_say_7 (by decide) (fun c_2 => ?_) (fun c_2 => ?_)
  · have hE := br_p hE c_2
    exact bX11_say_15 C hkm hW hZ _ (lv_sub hl [] rfl) hE
  · have hE := br_n hE c_2
    refine lv_iload_n C.1 C.2.1 dX11_say_10 rfl (lv_at hl 3 rfl) ?_
    refine lv_iload_n C.1 C.2.1 dX11_say_11 rfl (lv_at hl 0 rfl) ?_
    refine lv_icmp_lt (tgt := 18) C.1 C.2.1 dX11_say_12 (by decide) (fun c_3 => ?_) (fun c_3 => ?_)
    · have hE := br_p hE c_3
      refine lv_aload_n C.1 C.2.1 dX11_say_18 rfl (lv_at hl 1 rfl) ?_
      obtain ⟨r_4, er_4, hE⟩ := cl_e hE
      refine gf_X11_18 C hW k_x0 er_4 dX11_say_19 (fun k_r_4 => ?_)
      obtain ⟨o_5, eo_5, hE⟩ := cl_e hE
      refine x_kV (o := o_5) (z_runV (As := []) (rest := []) C (ct_X9_clear l X k_r_4 eo_5) cw_X11_144 hW hZ k_r_4 (by decide) rfl rfl rfl hl.1 (Nat.le_of_ble_eq_true rfl) rfl dX11_say_22 ⟨Nat.le_of_ble_eq_true rfl, Nat.le_of_ble_eq_true rfl⟩ ⟨Nat.le_refl _, Nat.le_refl _⟩) hZ (fun _ _ hW km hZ => ?_)
      replace hkm := hkm.tr km
      replace k_x0 := km.at k_x0 (by decide)
      refine lv_aload_n C.1 C.2.1 dX11_say_25 rfl (lv_at hl 1 rfl) ?_
      obtain ⟨r_6, er_6, hE⟩ := cl_e hE
      refine gf_X11_68 C hW k_x0 er_6 dX11_say_26 (fun k_r_6 => ?_)
      refine lv_aload_n C.1 C.2.1 dX11_say_29 rfl (lv_at hl 1 rfl) ?_
      obtain ⟨r_7, er_7, hE⟩ := cl_e hE
      refine gf_X11_97 C hW k_x0 er_7 dX11_say_30 (fun k_r_7 => ?_)
      refine lv_iload_n C.1 C.2.1 dX11_say_33 rfl (lv_at hl 0 rfl) ?_
      refine lv_iload_n C.1 C.2.1 dX11_say_34 rfl (lv_at hl 3 rfl) ?_
      refine lv_aload_n C.1 C.2.1 dX11_say_35 rfl (lv_at hl 1 rfl) ?_
      obtain ⟨r_8, er_8, hE⟩ := cl_e hE
      refine gf_X11_18 C hW k_x0 er_8 dX11_say_36 (fun k_r_8 => ?_)
      obtain ⟨o_9, eo_9, hE⟩ := cl_e hE
      refine x_kV (o := o_9) (z_runV (As := [.ref r_7, .int o_1.1, .int x2, .ref r_8]) (rest := []) C (ct_X8_writeMove l X F k_r_6 k_r_7 k_r_8 eo_9) cw_X11_300 hW hZ k_r_6 (by decide) rfl rfl rfl hl.1 (Nat.le_of_ble_eq_true rfl) rfl dX11_say_39 ⟨Nat.le_of_ble_eq_true rfl, Nat.le_of_ble_eq_true rfl⟩ ⟨Nat.le_refl _, Nat.le_refl _⟩) hZ (fun _ _ hW km hZ => ?_)
      replace hkm := hkm.tr km
      replace k_x0 := km.at k_x0 (by decide)
      refine lv_aload_n C.1 C.2.1 dX11_say_42 rfl (lv_at hl 1 rfl) ?_
      obtain ⟨r_10, er_10, hE⟩ := cl_e hE
      refine gf_X11_68 C hW k_x0 er_10 dX11_say_43 (fun k_r_10 => ?_)
      refine lv_aload_n C.1 C.2.1 dX11_say_46 rfl (lv_at hl 1 rfl) ?_
      obtain ⟨r_11, er_11, hE⟩ := cl_e hE
      refine gf_X11_103 C hW k_x0 er_11 dX11_say_47 (fun k_r_11 => ?_)
      refine lv_iload_n C.1 C.2.1 dX11_say_50 rfl (lv_at hl 2 rfl) ?_
      obtain ⟨g_12, hE⟩ := gd_e hE
      obtain ⟨r_13, er_13, hE⟩ := cl_e hE
      refine y_aald (t0 := 4) C hW k_r_11 (by decide) (by decide) rfl rfl rfl (fun _ => rfl) g_12 er_13 dX11_say_51 (fun k_r_13 => ?_)
      refine lv_aload_n C.1 C.2.1 dX11_say_52 rfl (lv_at hl 1 rfl) ?_
      obtain ⟨r_14, er_14, hE⟩ := cl_e hE
      refine gf_X11_97 C hW k_x0 er_14 dX11_say_53 (fun k_r_14 => ?_)
      refine lv_iload_n C.1 C.2.1 dX11_say_56 rfl (lv_at hl 3 rfl) ?_
      obtain ⟨g_15, hE⟩ := gd_e hE
      refine y_iald C hW k_r_14 g_15 dX11_say_57 ?_
      obtain ⟨o_16, eo_16, hE⟩ := cl_e hE
      refine x_kI (o := o_16) (z_runV (As := [.ref r_13, .int (hI o_9 r_14 x2.toNatClampNeg)]) (rest := []) C (ct_X8_markOf l X F k_r_10 k_r_13 eo_16) cw_X11_304 hW hZ k_r_10 (by decide) rfl rfl rfl hl.1 (Nat.le_of_ble_eq_true rfl) rfl dX11_say_58 ⟨Nat.le_of_ble_eq_true rfl, Nat.le_of_ble_eq_true rfl⟩ ⟨Nat.le_refl _, Nat.le_refl _⟩) hZ (fun _ _ hW km hZ => ?_)
      replace hkm := hkm.tr km
      replace k_x0 := km.at k_x0 (by decide)
      refine lv_istore (lv' := [(4, .int o_16.1), (3, .int o_1.1), (0, .ref x0), (1, .int x1), (2, .int x2)]) C.1 C.2.1 dX11_say_61 hl (by decide) rfl (fun ls hl => ?_)
      refine lv_iload C.1 C.2.1 dX11_say_63 (lv_at hl 0 rfl) ?_
      refine lv_iconst (v := (-1 : Int32)) C.1 C.2.1 dX11_say_65 (by decide) ?_
      refine lv_icmp_eq (tgt := 78) C.1 C.2.1 dX11_say_66 (by decide) (fun c_17 => ?_) (fun c_17 => ?_)
      · have hE := br_p hE c_17
        exact bX11_say_78 C k_x0 hkm hW hZ _ (lv_sub hl [2] rfl) hE
      · have hE := br_n hE c_17
        refine lv_aload_n C.1 C.2.1 dX11_say_69 rfl (lv_at hl 2 rfl) ?_
        obtain ⟨r_18, er_18, hE⟩ := cl_e hE
        refine gf_X11_18 C hW k_x0 er_18 dX11_say_70 (fun k_r_18 => ?_)
        refine lv_iload C.1 C.2.1 dX11_say_73 (lv_at hl 0 rfl) ?_
        obtain ⟨o_19, eo_19, hE⟩ := cl_e hE
        refine x_kV (o := o_19) (z_runV (As := [.int o_16.1]) (rest := []) C (ct_X9_append l X k_r_18 eo_19) cw_X11_307 hW hZ k_r_18 (by decide) rfl rfl rfl hl.1 (Nat.le_of_ble_eq_true rfl) rfl dX11_say_75 ⟨Nat.le_of_ble_eq_true rfl, Nat.le_of_ble_eq_true rfl⟩ ⟨Nat.le_refl _, Nat.le_refl _⟩) hZ (fun _ _ hW km hZ => ?_)
        replace hkm := hkm.tr km
        replace k_x0 := km.at k_x0 (by decide)
        exact bX11_say_78 C k_x0 hkm hW hZ _ (lv_sub hl [2] rfl) hE
    · have hE := br_n hE c_3
      exact bX11_say_15 C hkm hW hZ _ (lv_sub hl [] rfl) hE
set_option maxRecDepth 100000 in
theorem m_1445 : Cond.methodLink RX11 310 yX8_find ∈ W0 := w0_in (List.mem_append_right _ (List.mem_of_getElem? (i := 1445) rfl)) rfl
set_option maxRecDepth 100000 in
theorem m_1446 : Cond.instanceMethod yX8_find ∈ W0 := w0_in (List.mem_append_right _ (List.mem_of_getElem? (i := 1446) rfl)) rfl
set_option maxRecDepth 100000 in
theorem m_1447 : Cond.selects RX8 yX8_find yX8_find ∈ W0 := w0_in (List.mem_append_right _ (List.mem_of_getElem? (i := 1447) rfl)) rfl
set_option maxRecDepth 100000 in
theorem m_1448 : Cond.code yX8_find cX8_find 6 (some .int) ∈ W0 := w0_in (List.mem_append_right _ (List.mem_of_getElem? (i := 1448) rfl)) rfl
set_option maxRecDepth 100000 in
theorem m_1456 : Cond.methodLink RX11 314 yX8_isWhole ∈ W0 := w0_in (List.mem_append_right _ (List.mem_of_getElem? (i := 1456) rfl)) rfl
set_option maxRecDepth 100000 in
theorem m_1457 : Cond.instanceMethod yX8_isWhole ∈ W0 := w0_in (List.mem_append_right _ (List.mem_of_getElem? (i := 1457) rfl)) rfl
set_option maxRecDepth 100000 in
theorem m_1458 : Cond.selects RX8 yX8_isWhole yX8_isWhole ∈ W0 := w0_in (List.mem_append_right _ (List.mem_of_getElem? (i := 1458) rfl)) rfl
set_option maxRecDepth 100000 in
theorem m_1459 : Cond.code yX8_isWhole cX8_isWhole 2 (some .boolean) ∈ W0 := w0_in (List.mem_append_right _ (List.mem_of_getElem? (i := 1459) rfl)) rfl
theorem cw_X11_310 : cwd RX11 310 yX8_find cX8_find 6 (some .int) false 3 := ⟨m_1448, m_1445, m_11, ⟨m_1446, m_1447⟩, by decide, by decide, by decide +kernel⟩
theorem cw_X11_314 : cwd RX11 314 yX8_isWhole cX8_isWhole 2 (some .boolean) false 1 := ⟨m_1459, m_1456, m_11, ⟨m_1457, m_1458⟩, by decide, by decide, by decide +kernel⟩
theorem dX11_hear_0 : decode cX11_hear 0 = .ok (.bipush (-102), 2) := by decide +kernel
theorem dX11_hear_2 : decode cX11_hear 2 = .ok (.istore_n 2, 1) := by decide +kernel
theorem dX11_hear_3 : decode cX11_hear 3 = .ok (.aload_n 0, 1) := by decide +kernel
theorem dX11_hear_4 : decode cX11_hear 4 = .ok (.iload_n 1, 1) := by decide +kernel
theorem dX11_hear_5 : decode cX11_hear 5 = .ok (.invokevirtual 193, 3) := by decide +kernel
theorem dX11_hear_8 : decode cX11_hear 8 = .ok (.ifCond .eq 97, 3) := by decide +kernel
theorem dX11_hear_11 : decode cX11_hear 11 = .ok (.aload_n 0, 1) := by decide +kernel
theorem dX11_hear_12 : decode cX11_hear 12 = .ok (.getfield 68, 3) := by decide +kernel
theorem dX11_hear_15 : decode cX11_hear 15 = .ok (.aload_n 0, 1) := by decide +kernel
theorem dX11_hear_16 : decode cX11_hear 16 = .ok (.getfield 97, 3) := by decide +kernel
theorem dX11_hear_19 : decode cX11_hear 19 = .ok (.aload_n 0, 1) := by decide +kernel
theorem dX11_hear_20 : decode cX11_hear 20 = .ok (.iload_n 1, 1) := by decide +kernel
theorem dX11_hear_21 : decode cX11_hear 21 = .ok (.invokevirtual 254, 3) := by decide +kernel
theorem dX11_hear_24 : decode cX11_hear 24 = .ok (.aload_n 0, 1) := by decide +kernel
theorem dX11_hear_25 : decode cX11_hear 25 = .ok (.getfield 14, 3) := by decide +kernel
theorem dX11_hear_28 : decode cX11_hear 28 = .ok (.invokevirtual 310, 3) := by decide +kernel
theorem dX11_hear_31 : decode cX11_hear 31 = .ok (.istore_n 2, 1) := by decide +kernel
theorem dX11_hear_32 : decode cX11_hear 32 = .ok (.iload_n 2, 1) := by decide +kernel
theorem dX11_hear_33 : decode cX11_hear 33 = .ok (.iconst (-1), 1) := by decide +kernel
theorem dX11_hear_34 : decode cX11_hear 34 = .ok (.if_icmp .eq 71, 3) := by decide +kernel
theorem dX11_hear_37 : decode cX11_hear 37 = .ok (.aload_n 0, 1) := by decide +kernel
theorem dX11_hear_38 : decode cX11_hear 38 = .ok (.getfield 68, 3) := by decide +kernel
theorem dX11_hear_41 : decode cX11_hear 41 = .ok (.aload_n 0, 1) := by decide +kernel
theorem dX11_hear_42 : decode cX11_hear 42 = .ok (.getfield 14, 3) := by decide +kernel
theorem dX11_hear_45 : decode cX11_hear 45 = .ok (.invokevirtual 314, 3) := by decide +kernel
theorem dX11_hear_48 : decode cX11_hear 48 = .ok (.ifCond .ne 57, 3) := by decide +kernel
theorem dX11_hear_51 : decode cX11_hear 51 = .ok (.aload_n 0, 1) := by decide +kernel
theorem dX11_hear_52 : decode cX11_hear 52 = .ok (.getfield 14, 3) := by decide +kernel
theorem dX11_hear_55 : decode cX11_hear 55 = .ok (.aload_n 0, 1) := by decide +kernel
theorem dX11_hear_56 : decode cX11_hear 56 = .ok (.getfield 14, 3) := by decide +kernel
theorem dX11_hear_59 : decode cX11_hear 59 = .ok (.getfield 147, 3) := by decide +kernel
theorem dX11_hear_62 : decode cX11_hear 62 = .ok (.iconst 1, 1) := by decide +kernel
theorem dX11_hear_63 : decode cX11_hear 63 = .ok (.isub, 1) := by decide +kernel
theorem dX11_hear_64 : decode cX11_hear 64 = .ok (.invokevirtual 179, 3) := by decide +kernel
theorem dX11_hear_67 : decode cX11_hear 67 = .ok (.aload_n 0, 1) := by decide +kernel
theorem dX11_hear_68 : decode cX11_hear 68 = .ok (.getfield 68, 3) := by decide +kernel
theorem dX11_hear_71 : decode cX11_hear 71 = .ok (.aload_n 0, 1) := by decide +kernel
theorem dX11_hear_72 : decode cX11_hear 72 = .ok (.getfield 103, 3) := by decide +kernel
theorem dX11_hear_75 : decode cX11_hear 75 = .ok (.iload_n 1, 1) := by decide +kernel
theorem dX11_hear_76 : decode cX11_hear 76 = .ok (.aaload, 1) := by decide +kernel
theorem dX11_hear_77 : decode cX11_hear 77 = .ok (.aload_n 0, 1) := by decide +kernel
theorem dX11_hear_78 : decode cX11_hear 78 = .ok (.getfield 97, 3) := by decide +kernel
theorem dX11_hear_81 : decode cX11_hear 81 = .ok (.iload_n 2, 1) := by decide +kernel
theorem dX11_hear_82 : decode cX11_hear 82 = .ok (.iaload, 1) := by decide +kernel
theorem dX11_hear_83 : decode cX11_hear 83 = .ok (.invokevirtual 304, 3) := by decide +kernel
theorem dX11_hear_86 : decode cX11_hear 86 = .ok (.if_icmp .ne 7, 3) := by decide +kernel
theorem dX11_hear_89 : decode cX11_hear 89 = .ok (.iconst 1, 1) := by decide +kernel
theorem dX11_hear_90 : decode cX11_hear 90 = .ok (.goto 4, 3) := by decide +kernel
theorem dX11_hear_93 : decode cX11_hear 93 = .ok (.iconst 0, 1) := by decide +kernel
theorem dX11_hear_94 : decode cX11_hear 94 = .ok (.istore_n 3, 1) := by decide +kernel
theorem dX11_hear_95 : decode cX11_hear 95 = .ok (.iload_n 3, 1) := by decide +kernel
theorem dX11_hear_96 : decode cX11_hear 96 = .ok (.ifCond .eq 7, 3) := by decide +kernel
theorem dX11_hear_99 : decode cX11_hear 99 = .ok (.iload_n 2, 1) := by decide +kernel
theorem dX11_hear_100 : decode cX11_hear 100 = .ok (.goto 4, 3) := by decide +kernel
theorem dX11_hear_103 : decode cX11_hear 103 = .ok (.iconst (-1), 1) := by decide +kernel
theorem dX11_hear_104 : decode cX11_hear 104 = .ok (.istore_n 2, 1) := by decide +kernel
theorem dX11_hear_105 : decode cX11_hear 105 = .ok (.aload_n 0, 1) := by decide +kernel
theorem dX11_hear_106 : decode cX11_hear 106 = .ok (.getfield 14, 3) := by decide +kernel
theorem dX11_hear_109 : decode cX11_hear 109 = .ok (.invokevirtual 144, 3) := by decide +kernel
theorem dX11_hear_112 : decode cX11_hear 112 = .ok (.iload_n 2, 1) := by decide +kernel
theorem dX11_hear_113 : decode cX11_hear 113 = .ok (.ireturn, 1) := by decide +kernel
set_option maxRecDepth 20000 in
theorem moX11_hear_105 {o : Int32 × Hp} {F : Nat} {h : Hp} {x0 : Nat} {x2 : Int32} (hE : sX11_hear_105 F h x0 x2 = some o) : Le h o.2 := by
  obtain ⟨r_1, er_1, hE⟩ := cl_e hE
  obtain ⟨o_2, eo_2, hE⟩ := cl_e hE
  refine (moX9_clear eo_2).tr ?_
  exact le_some2 hE
set_option maxRecDepth 20000 in
theorem moX11_hear_104 {o : Int32 × Hp} {F : Nat} {h : Hp} {x0 : Nat} {t0 : Int32} (hE : sX11_hear_104 F h x0 t0 = some o) : Le h o.2 := by
  exact moX11_hear_105 hE
set_option maxRecDepth 20000 in
theorem moX11_hear_94 {o : Int32 × Hp} {F : Nat} {h : Hp} {x0 : Nat} {x2 : Int32} {t0 : Int32} (hE : sX11_hear_94 F h x0 x2 t0 = some o) : Le h o.2 := by
  rcases br_e hE with ⟨_, hE⟩ | ⟨_, hE⟩
  · exact moX11_hear_104 hE
  · exact moX11_hear_104 hE
set_option maxRecDepth 20000 in
theorem moX11_hear {o : Int32 × Hp} {F : Nat} {h : Hp} {x0 : Nat} {x1 : Int32} (hE : sX11_hear F h x0 x1 = some o) : Le h o.2 := by
  obtain ⟨o_1, eo_1, hE⟩ := cl_e hE
  refine (moX11_isPlace eo_1).tr ?_
  rcases br_e hE with ⟨_, hE⟩ | ⟨_, hE⟩
  · exact moX11_hear_105 hE
  · obtain ⟨r_3, er_3, hE⟩ := cl_e hE
    obtain ⟨r_4, er_4, hE⟩ := cl_e hE
    obtain ⟨o_5, eo_5, hE⟩ := cl_e hE
    refine (moX11_listMoves eo_5).tr ?_
    obtain ⟨r_6, er_6, hE⟩ := cl_e hE
    obtain ⟨o_7, eo_7, hE⟩ := cl_e hE
    refine (moX8_find eo_7).tr ?_
    rcases br_e hE with ⟨_, hE⟩ | ⟨_, hE⟩
    · exact moX11_hear_105 hE
    · obtain ⟨r_9, er_9, hE⟩ := cl_e hE
      obtain ⟨r_10, er_10, hE⟩ := cl_e hE
      obtain ⟨o_11, eo_11, hE⟩ := cl_e hE
      refine (moX8_isWhole eo_11).tr ?_
      rcases br_e hE with ⟨_, hE⟩ | ⟨_, hE⟩
      · obtain ⟨r_13, er_13, hE⟩ := cl_e hE
        obtain ⟨r_14, er_14, hE⟩ := cl_e hE
        obtain ⟨o_15, eo_15, hE⟩ := cl_e hE
        refine (moX9_byteAt eo_15).tr ?_
        obtain ⟨r_16, er_16, hE⟩ := cl_e hE
        obtain ⟨r_17, er_17, hE⟩ := cl_e hE
        obtain ⟨g_18, hE⟩ := gd_e hE
        obtain ⟨r_19, er_19, hE⟩ := cl_e hE
        obtain ⟨r_20, er_20, hE⟩ := cl_e hE
        obtain ⟨g_21, hE⟩ := gd_e hE
        obtain ⟨o_22, eo_22, hE⟩ := cl_e hE
        refine (moX8_markOf eo_22).tr ?_
        rcases br_e hE with ⟨_, hE⟩ | ⟨_, hE⟩
        · exact moX11_hear_94 hE
        · exact moX11_hear_94 hE
      · exact moX11_hear_105 hE
set_option maxRecDepth 20000 in
theorem bX11_hear_105 {p : Program} {l : Launch} {e : Env} {s : State} {m : MethodId} {args : Array Value} {below : List Frame} {meth : Method} {c : Code} {X : Ec} {h0 : Hp} {o : Int32 × Hp} {F : Nat} (C : Cx X p s m args meth c RX11 cX11_hear 4 (some .int) "hear") {h : Hp} {x0 : Nat} {x2 : Int32} {H : Heap} {locs : List Loc} (k_x0 : hK h x0 = 11) (hkm : Km h0 h) (hW : Wx X h H) (hZ : va_S (aA (eB X)) s.heap H locs) (ls : Array Slot) (hl : lv_has ls 4 [(0, .ref x0), (2, .int x2)]) (hE : sX11_hear_105 F h x0 x2 = some o) : W p l e (rm 7 184) s m args below meth c H locs 0 0 (MQ below (QI X h0 o.1 o.2) args s 0 0 (aA (eB X))) (F0 m 105 ls []) := by
  refine lv_aload_n C.1 C.2.1 dX11_hear_105 rfl (lv_at hl 0 rfl) ?_
  obtain ⟨r_1, er_1, hE⟩ := cl_e hE
  refine gf_X11_14 C hW k_x0 er_1 dX11_hear_106 (fun k_r_1 => ?_)
  obtain ⟨o_2, eo_2, hE⟩ := cl_e hE
  refine x_kV (o := o_2) (z_runV (As := []) (rest := []) C (ct_X9_clear l X k_r_1 eo_2) cw_X11_144 hW hZ k_r_1 (by decide) rfl rfl rfl hl.1 (Nat.le_of_ble_eq_true rfl) rfl dX11_hear_109 ⟨Nat.le_of_ble_eq_true rfl, Nat.le_of_ble_eq_true rfl⟩ ⟨Nat.le_refl _, Nat.le_refl _⟩) hZ (fun _ _ hW km hZ => ?_)
  replace hkm := hkm.tr km
  replace k_x0 := km.at k_x0 (by decide)
  refine lv_iload_n C.1 C.2.1 dX11_hear_112 rfl (lv_at hl 1 rfl) ?_
  exact x_iret C rfl rfl hW hZ hkm hE dX11_hear_113
set_option maxRecDepth 20000 in
theorem bX11_hear_104 {p : Program} {l : Launch} {e : Env} {s : State} {m : MethodId} {args : Array Value} {below : List Frame} {meth : Method} {c : Code} {X : Ec} {h0 : Hp} {o : Int32 × Hp} {F : Nat} (C : Cx X p s m args meth c RX11 cX11_hear 4 (some .int) "hear") {h : Hp} {x0 : Nat} {t0 : Int32} {H : Heap} {locs : List Loc} (k_x0 : hK h x0 = 11) (hkm : Km h0 h) (hW : Wx X h H) (hZ : va_S (aA (eB X)) s.heap H locs) (ls : Array Slot) (hl : lv_has ls 4 [(0, .ref x0)]) (hE : sX11_hear_104 F h x0 t0 = some o) : W p l e (rm 7 184) s m args below meth c H locs 0 0 (MQ below (QI X h0 o.1 o.2) args s 0 0 (aA (eB X))) (F0 m 104 ls [.int t0]) := by
  refine lv_istore_n (lv' := [(2, .int t0), (0, .ref x0)]) C.1 C.2.1 dX11_hear_104 rfl hl (by decide) rfl (fun ls hl => ?_)
  exact bX11_hear_105 C k_x0 hkm hW hZ _ (lv_sub hl [1, 0] rfl) hE
set_option maxRecDepth 20000 in
theorem bX11_hear_94 {p : Program} {l : Launch} {e : Env} {s : State} {m : MethodId} {args : Array Value} {below : List Frame} {meth : Method} {c : Code} {X : Ec} {h0 : Hp} {o : Int32 × Hp} {F : Nat} (C : Cx X p s m args meth c RX11 cX11_hear 4 (some .int) "hear") {h : Hp} {x0 : Nat} {x2 : Int32} {t0 : Int32} {H : Heap} {locs : List Loc} (k_x0 : hK h x0 = 11) (hkm : Km h0 h) (hW : Wx X h H) (hZ : va_S (aA (eB X)) s.heap H locs) (ls : Array Slot) (hl : lv_has ls 4 [(0, .ref x0), (2, .int x2)]) (hE : sX11_hear_94 F h x0 x2 t0 = some o) : W p l e (rm 7 184) s m args below meth c H locs 0 0 (MQ below (QI X h0 o.1 o.2) args s 0 0 (aA (eB X))) (F0 m 94 ls [.int t0]) := by
  refine lv_istore_n (lv' := [(3, .int t0), (0, .ref x0), (2, .int x2)]) C.1 C.2.1 dX11_hear_94 rfl hl (by decide) rfl (fun ls hl => ?_)
  refine lv_iload_n C.1 C.2.1 dX11_hear_95 rfl (lv_at hl 0 rfl) ?_
  refine lv_if_eq (tgt := 103) C.1 C.2.1 dX11_hear_96 (by decide) (fun c_1 => ?_) (fun c_1 => ?_)
  · have hE := br_p hE c_1
    refine lv_iconst (v := (-1 : Int32)) C.1 C.2.1 dX11_hear_103 (by decide) ?_
    exact bX11_hear_104 C k_x0 hkm hW hZ _ (lv_sub hl [1] rfl) hE
  · have hE := br_n hE c_1
    refine lv_iload_n C.1 C.2.1 dX11_hear_99 rfl (lv_at hl 2 rfl) ?_
    refine lv_goto (tgt := 104) C.1 C.2.1 dX11_hear_100 (by decide) ?_
    exact bX11_hear_104 C k_x0 hkm hW hZ _ (lv_sub hl [1] rfl) hE
set_option maxRecDepth 20000 in
theorem ct_X11_hear (l : Launch) (X : Ec) (F : Nat) {h : Hp} {x0 : Nat} {x1 : Int32} {o : Int32 × Hp} (k_x0 : hK h x0 = 11) (hE : sX11_hear F h x0 x1 = some o) : MetI l yX11_hear cX11_hear 4 (some .int) 7 184 X [.ref x0, .int x1] h o := by
  refine x_met (by decide) (Nat.le_of_ble_eq_true rfl) ?_
  intro p e s m below meth c ls C hl hW hZ
  have hl : lv_has ls 4 [(0, .ref x0), (1, .int x1)] := hl
  have hkm : Km h h := Km.rf h
  refine lv_bipush (v := (-102 : Int32)) C.1 C.2.1 dX11_hear_0 (by decide) ?_
  refine lv_istore_n (lv' := [(2, .int (-102 : Int32)), (0, .ref x0), (1, .int x1)]) C.1 C.2.1 dX11_hear_2 rfl hl (by decide) rfl (fun ls hl => ?_)
  refine lv_aload_n C.1 C.2.1 dX11_hear_3 rfl (lv_at hl 1 rfl) ?_
  refine lv_iload_n C.1 C.2.1 dX11_hear_4 rfl (lv_at hl 2 rfl) ?_
  obtain ⟨o_1, eo_1, hE⟩ := cl_e hE
  refine x_kI (o := o_1) (z_runV (As := [.int x1]) (rest := []) C (ct_X11_isPlace l X k_x0 eo_1) cw_X11_193 hW hZ k_x0 (by decide) rfl rfl rfl hl.1 (Nat.le_of_ble_eq_true rfl) rfl dX11_hear_5 ⟨Nat.le_of_ble_eq_true rfl, Nat.le_of_ble_eq_true rfl⟩ ⟨Nat.le_refl _, Nat.le_refl _⟩) hZ (fun _ _ hW km hZ => ?_)
  replace hkm := hkm.tr km
  replace k_x0 := km.at k_x0 (by decide)
  refine lv_if_eq (tgt := 105) C.1 C.2.1 dX11_hear_8 (by decide) (fun c_2 => ?_) (fun c_2 => ?_)
  · have hE := br_p hE c_2
    exact bX11_hear_105 C k_x0 hkm hW hZ _ (lv_sub hl [1, 0] rfl) hE
  · have hE := br_n hE c_2
    refine lv_aload_n C.1 C.2.1 dX11_hear_11 rfl (lv_at hl 1 rfl) ?_
    obtain ⟨r_3, er_3, hE⟩ := cl_e hE
    refine gf_X11_68 C hW k_x0 er_3 dX11_hear_12 (fun k_r_3 => ?_)
    refine lv_aload_n C.1 C.2.1 dX11_hear_15 rfl (lv_at hl 1 rfl) ?_
    obtain ⟨r_4, er_4, hE⟩ := cl_e hE
    refine gf_X11_97 C hW k_x0 er_4 dX11_hear_16 (fun k_r_4 => ?_)
    refine lv_aload_n C.1 C.2.1 dX11_hear_19 rfl (lv_at hl 1 rfl) ?_
    refine lv_iload_n C.1 C.2.1 dX11_hear_20 rfl (lv_at hl 2 rfl) ?_
    obtain ⟨o_5, eo_5, hE⟩ := cl_e hE
    refine x_kI (o := o_5) (z_runV (As := [.int x1]) (rest := [.ref r_4, .ref r_3]) C (ct_X11_listMoves l X F k_x0 eo_5) cw_X11_254 hW hZ k_x0 (by decide) rfl rfl rfl hl.1 (Nat.le_of_ble_eq_true rfl) rfl dX11_hear_21 ⟨Nat.le_of_ble_eq_true rfl, Nat.le_of_ble_eq_true rfl⟩ ⟨Nat.le_refl _, Nat.le_refl _⟩) hZ (fun _ _ hW km hZ => ?_)
    replace hkm := hkm.tr km
    replace k_x0 := km.at k_x0 (by decide)
    replace k_r_4 := km.at k_r_4 (by decide)
    replace k_r_3 := km.at k_r_3 (by decide)
    refine lv_aload_n C.1 C.2.1 dX11_hear_24 rfl (lv_at hl 1 rfl) ?_
    obtain ⟨r_6, er_6, hE⟩ := cl_e hE
    refine gf_X11_14 C hW k_x0 er_6 dX11_hear_25 (fun k_r_6 => ?_)
    obtain ⟨o_7, eo_7, hE⟩ := cl_e hE
    refine x_kI (o := o_7) (z_runV (As := [.ref r_4, .int o_5.1, .ref r_6]) (rest := []) C (ct_X8_find l X F k_r_3 k_r_4 k_r_6 eo_7) cw_X11_310 hW hZ k_r_3 (by decide) rfl rfl rfl hl.1 (Nat.le_of_ble_eq_true rfl) rfl dX11_hear_28 ⟨Nat.le_of_ble_eq_true rfl, Nat.le_of_ble_eq_true rfl⟩ ⟨Nat.le_refl _, Nat.le_refl _⟩) hZ (fun _ _ hW km hZ => ?_)
    replace hkm := hkm.tr km
    replace k_x0 := km.at k_x0 (by decide)
    refine lv_istore_n (lv' := [(2, .int o_7.1), (0, .ref x0), (1, .int x1)]) C.1 C.2.1 dX11_hear_31 rfl hl (by decide) rfl (fun ls hl => ?_)
    refine lv_iload_n C.1 C.2.1 dX11_hear_32 rfl (lv_at hl 0 rfl) ?_
    refine lv_iconst (v := (-1 : Int32)) C.1 C.2.1 dX11_hear_33 (by decide) ?_
    refine lv_icmp_eq (tgt := 105) C.1 C.2.1 dX11_hear_34 (by decide) (fun c_8 => ?_) (fun c_8 => ?_)
    · have hE := br_p hE c_8
      exact bX11_hear_105 C k_x0 hkm hW hZ _ (lv_sub hl [1, 0] rfl) hE
    · have hE := br_n hE c_8
      refine lv_aload_n C.1 C.2.1 dX11_hear_37 rfl (lv_at hl 1 rfl) ?_
      obtain ⟨r_9, er_9, hE⟩ := cl_e hE
      refine gf_X11_68 C hW k_x0 er_9 dX11_hear_38 (fun k_r_9 => ?_)
      refine lv_aload_n C.1 C.2.1 dX11_hear_41 rfl (lv_at hl 1 rfl) ?_
      obtain ⟨r_10, er_10, hE⟩ := cl_e hE
      refine gf_X11_14 C hW k_x0 er_10 dX11_hear_42 (fun k_r_10 => ?_)
      obtain ⟨o_11, eo_11, hE⟩ := cl_e hE
      refine x_kI (o := o_11) (z_runV (As := [.ref r_10]) (rest := []) C (ct_X8_isWhole l X k_r_9 k_r_10 eo_11) cw_X11_314 hW hZ k_r_9 (by decide) rfl rfl rfl hl.1 (Nat.le_of_ble_eq_true rfl) rfl dX11_hear_45 ⟨Nat.le_of_ble_eq_true rfl, Nat.le_of_ble_eq_true rfl⟩ ⟨Nat.le_refl _, Nat.le_refl _⟩) hZ (fun _ _ hW km hZ => ?_)
      replace hkm := hkm.tr km
      replace k_x0 := km.at k_x0 (by decide)
      refine lv_if_ne (tgt := 105) C.1 C.2.1 dX11_hear_48 (by decide) (fun c_12 => ?_) (fun c_12 => ?_)
      · have hE := br_n hE c_12
        exact bX11_hear_105 C k_x0 hkm hW hZ _ (lv_sub hl [1, 0] rfl) hE
      · have hE := br_p hE c_12
        refine lv_aload_n C.1 C.2.1 dX11_hear_51 rfl (lv_at hl 1 rfl) ?_
        obtain ⟨r_13, er_13, hE⟩ := cl_e hE
        refine gf_X11_14 C hW k_x0 er_13 dX11_hear_52 (fun k_r_13 => ?_)
        refine lv_aload_n C.1 C.2.1 dX11_hear_55 rfl (lv_at hl 1 rfl) ?_
        obtain ⟨r_14, er_14, hE⟩ := cl_e hE
        refine gf_X11_14 C hW k_x0 er_14 dX11_hear_56 (fun k_r_14 => ?_)
        refine gf_X11_147 C hW k_r_14 dX11_hear_59 ?_
        refine lv_iconst (v := (1 : Int32)) C.1 C.2.1 dX11_hear_62 (by decide) ?_
        refine lv_isub C.1 C.2.1 dX11_hear_63 ?_
        obtain ⟨o_15, eo_15, hE⟩ := cl_e hE
        refine x_kI (o := o_15) (z_runV (As := [.int ((hI o_11.2 r_14 1) - (1 : Int32))]) (rest := []) C (ct_X9_byteAt l X k_r_13 eo_15) cw_X11_179 hW hZ k_r_13 (by decide) rfl rfl rfl hl.1 (Nat.le_of_ble_eq_true rfl) rfl dX11_hear_64 ⟨Nat.le_of_ble_eq_true rfl, Nat.le_of_ble_eq_true rfl⟩ ⟨Nat.le_refl _, Nat.le_refl _⟩) hZ (fun _ _ hW km hZ => ?_)
        replace hkm := hkm.tr km
        replace k_x0 := km.at k_x0 (by decide)
        refine lv_aload_n C.1 C.2.1 dX11_hear_67 rfl (lv_at hl 1 rfl) ?_
        obtain ⟨r_16, er_16, hE⟩ := cl_e hE
        refine gf_X11_68 C hW k_x0 er_16 dX11_hear_68 (fun k_r_16 => ?_)
        refine lv_aload_n C.1 C.2.1 dX11_hear_71 rfl (lv_at hl 1 rfl) ?_
        obtain ⟨r_17, er_17, hE⟩ := cl_e hE
        refine gf_X11_103 C hW k_x0 er_17 dX11_hear_72 (fun k_r_17 => ?_)
        refine lv_iload_n C.1 C.2.1 dX11_hear_75 rfl (lv_at hl 2 rfl) ?_
        obtain ⟨g_18, hE⟩ := gd_e hE
        obtain ⟨r_19, er_19, hE⟩ := cl_e hE
        refine y_aald (t0 := 4) C hW k_r_17 (by decide) (by decide) rfl rfl rfl (fun _ => rfl) g_18 er_19 dX11_hear_76 (fun k_r_19 => ?_)
        refine lv_aload_n C.1 C.2.1 dX11_hear_77 rfl (lv_at hl 1 rfl) ?_
        obtain ⟨r_20, er_20, hE⟩ := cl_e hE
        refine gf_X11_97 C hW k_x0 er_20 dX11_hear_78 (fun k_r_20 => ?_)
        refine lv_iload_n C.1 C.2.1 dX11_hear_81 rfl (lv_at hl 0 rfl) ?_
        obtain ⟨g_21, hE⟩ := gd_e hE
        refine y_iald C hW k_r_20 g_21 dX11_hear_82 ?_
        obtain ⟨o_22, eo_22, hE⟩ := cl_e hE
        refine x_kI (o := o_22) (z_runV (As := [.ref r_19, .int (hI o_15.2 r_20 o_7.1.toNatClampNeg)]) (rest := [.int o_15.1]) C (ct_X8_markOf l X F k_r_16 k_r_19 eo_22) cw_X11_304 hW hZ k_r_16 (by decide) rfl rfl rfl hl.1 (Nat.le_of_ble_eq_true rfl) rfl dX11_hear_83 ⟨Nat.le_of_ble_eq_true rfl, Nat.le_of_ble_eq_true rfl⟩ ⟨Nat.le_refl _, Nat.le_refl _⟩) hZ (fun _ _ hW km hZ => ?_)
        replace hkm := hkm.tr km
        replace k_x0 := km.at k_x0 (by decide)
        refine lv_icmp_ne (tgt := 93) C.1 C.2.1 dX11_hear_86 (by decide) (fun c_23 => ?_) (fun c_23 => ?_)
        · have hE := br_n hE c_23
          refine lv_iconst (v := (0 : Int32)) C.1 C.2.1 dX11_hear_93 (by decide) ?_
          exact bX11_hear_94 C k_x0 hkm hW hZ _ (lv_sub hl [1, 0] rfl) hE
        · have hE := br_p hE c_23
          refine lv_iconst (v := (1 : Int32)) C.1 C.2.1 dX11_hear_89 (by decide) ?_
          refine lv_goto (tgt := 94) C.1 C.2.1 dX11_hear_90 (by decide) ?_
          exact bX11_hear_94 C k_x0 hkm hW hZ _ (lv_sub hl [1, 0] rfl) hE
theorem dX11_isGame_0 : decode cX11_isGame 0 = .ok (.iload_n 0, 1) := by decide +kernel
theorem dX11_isGame_1 : decode cX11_isGame 1 = .ok (.ifCond .lt 13, 3) := by decide +kernel
theorem dX11_isGame_4 : decode cX11_isGame 4 = .ok (.iload_n 0, 1) := by decide +kernel
theorem dX11_isGame_5 : decode cX11_isGame 5 = .ok (.bipush 8, 2) := by decide +kernel
theorem dX11_isGame_7 : decode cX11_isGame 7 = .ok (.if_icmp .ge 7, 3) := by decide +kernel
theorem dX11_isGame_10 : decode cX11_isGame 10 = .ok (.iconst 1, 1) := by decide +kernel
theorem dX11_isGame_11 : decode cX11_isGame 11 = .ok (.goto 4, 3) := by decide +kernel
theorem dX11_isGame_14 : decode cX11_isGame 14 = .ok (.iconst 0, 1) := by decide +kernel
theorem dX11_isGame_15 : decode cX11_isGame 15 = .ok (.ireturn, 1) := by decide +kernel
set_option maxRecDepth 20000 in
theorem moX11_isGame_15 {o : Int32 × Hp} {h : Hp} {t0 : Int32} (hE : sX11_isGame_15 h  t0 = some o) : Le h o.2 := by
  obtain ⟨g_1, hE⟩ := gd_e hE
  exact le_some2 hE
set_option maxRecDepth 20000 in
theorem moX11_isGame_14 {o : Int32 × Hp} {h : Hp} (hE : sX11_isGame_14 h  = some o) : Le h o.2 := by
  exact moX11_isGame_15 hE
set_option maxRecDepth 20000 in
theorem moX11_isGame {o : Int32 × Hp} {h : Hp} {x0 : Int32} (hE : sX11_isGame h x0 = some o) : Le h o.2 := by
  rcases br_e hE with ⟨_, hE⟩ | ⟨_, hE⟩
  · exact moX11_isGame_14 hE
  · rcases br_e hE with ⟨_, hE⟩ | ⟨_, hE⟩
    · exact moX11_isGame_14 hE
    · exact moX11_isGame_15 hE
set_option maxRecDepth 20000 in
theorem bX11_isGame_15 {p : Program} {l : Launch} {e : Env} {s : State} {m : MethodId} {args : Array Value} {below : List Frame} {meth : Method} {c : Code} {X : Ec} {h0 : Hp} {o : Int32 × Hp} (C : Cx X p s m args meth c RX11 cX11_isGame 1 (some .boolean) "isGame") {h : Hp} {t0 : Int32} {H : Heap} {locs : List Loc} (hkm : Km h0 h) (hW : Wx X h H) (hZ : va_S (aA (eB X)) s.heap H locs) (ls : Array Slot) (hl : lv_has ls 1 []) (hE : sX11_isGame_15 h  t0 = some o) : W p l e (rm 0 0) s m args below meth c H locs 0 0 (MQ below (QI X h0 o.1 o.2) args s 0 0 (aA (eB X))) (F0 m 15 ls [.int t0]) := by
  obtain ⟨g_1, hE⟩ := gd_e hE
  exact x_iret C rfl (narB g_1) hW hZ hkm hE dX11_isGame_15
set_option maxRecDepth 20000 in
theorem bX11_isGame_14 {p : Program} {l : Launch} {e : Env} {s : State} {m : MethodId} {args : Array Value} {below : List Frame} {meth : Method} {c : Code} {X : Ec} {h0 : Hp} {o : Int32 × Hp} (C : Cx X p s m args meth c RX11 cX11_isGame 1 (some .boolean) "isGame") {h : Hp} {H : Heap} {locs : List Loc} (hkm : Km h0 h) (hW : Wx X h H) (hZ : va_S (aA (eB X)) s.heap H locs) (ls : Array Slot) (hl : lv_has ls 1 []) (hE : sX11_isGame_14 h  = some o) : W p l e (rm 0 0) s m args below meth c H locs 0 0 (MQ below (QI X h0 o.1 o.2) args s 0 0 (aA (eB X))) (F0 m 14 ls []) := by
  refine lv_iconst (v := (0 : Int32)) C.1 C.2.1 dX11_isGame_14 (by decide) ?_
  exact bX11_isGame_15 C hkm hW hZ _ (lv_sub hl [] rfl) hE
set_option maxRecDepth 20000 in
theorem ct_X11_isGame (l : Launch) (X : Ec) {h : Hp} {x0 : Int32} {o : Int32 × Hp} (hE : sX11_isGame h x0 = some o) : MetI l yX11_isGame cX11_isGame 1 (some .boolean) 0 0 X [.int x0] h o := by
  refine x_met (by decide) (Nat.le_of_ble_eq_true rfl) ?_
  intro p e s m below meth c ls C hl hW hZ
  have hl : lv_has ls 1 [(0, .int x0)] := hl
  have hkm : Km h h := Km.rf h
  refine lv_iload_n C.1 C.2.1 dX11_isGame_0 rfl (lv_at hl 0 rfl) ?_
  refine lv_if_lt (tgt := 14) C.1 C.2.1 dX11_isGame_1 (by decide) (fun c_1 => ?_) (fun c_1 => ?_)
  · have hE := br_p hE c_1
    exact bX11_isGame_14 C hkm hW hZ _ (lv_sub hl [] rfl) hE
  · have hE := br_n hE c_1
    refine lv_iload_n C.1 C.2.1 dX11_isGame_4 rfl (lv_at hl 0 rfl) ?_
    refine lv_bipush (v := (8 : Int32)) C.1 C.2.1 dX11_isGame_5 (by decide) ?_
    refine lv_icmp_ge (tgt := 14) C.1 C.2.1 dX11_isGame_7 (by decide) (fun c_2 => ?_) (fun c_2 => ?_)
    · have hE := br_p hE c_2
      exact bX11_isGame_14 C hkm hW hZ _ (lv_sub hl [] rfl) hE
    · have hE := br_n hE c_2
      refine lv_iconst (v := (1 : Int32)) C.1 C.2.1 dX11_isGame_10 (by decide) ?_
      refine lv_goto (tgt := 15) C.1 C.2.1 dX11_isGame_11 (by decide) ?_
      exact bX11_isGame_15 C hkm hW hZ _ (lv_sub hl [] rfl) hE
section
variable {p : Program} {l : Launch} {e : Env} {R : Room} {s : State} {m : MethodId} {args : Array Value} {below : List Frame} {meth : Method} {c : Code} {H : Heap} {locs : List Loc} {cells slots : Nat} {Q : State → Prop}
variable {cc : ByteArray} {pc : Nat} {ls : Array Slot} {rest : List Value} {X : Ec} {h h1 : Hp} {nL : Nat} {rt : Option FieldType} {mn : String}
theorem gf_X11_111 {a r : Nat} (C : Cx X p s m args meth c RX11 cc nL rt mn) (hW : Wx X h H) (ha : hK h a = 11) (hr : hR h a 15 = some r) (hdg : decode cc pc = .ok (.getfield 111, 3)) (kk : hK h r = 20 → W p l e R s m args below meth c H locs cells slots Q (F0 m (pc + 3) ls (.ref r :: rest))) : W p l e R s m args below meth c H locs cells slots Q (F0 m pc ls (.ref a :: rest)) :=
  y_getr C hW ha i_X11 (by decide) rfl (by decide) m_844 rfl rfl hr hdg kk
end
theorem dX11_page_0 : decode cX11_page 0 = .ok (.iload_n 1, 1) := by decide +kernel
theorem dX11_page_1 : decode cX11_page 1 = .ok (.sipush 301, 3) := by decide +kernel
theorem dX11_page_4 : decode cX11_page 4 = .ok (.imul, 1) := by decide +kernel
theorem dX11_page_5 : decode cX11_page 5 = .ok (.iload_n 2, 1) := by decide +kernel
theorem dX11_page_6 : decode cX11_page 6 = .ok (.iadd, 1) := by decide +kernel
theorem dX11_page_7 : decode cX11_page 7 = .ok (.istore_n 3, 1) := by decide +kernel
theorem dX11_page_8 : decode cX11_page 8 = .ok (.aload_n 0, 1) := by decide +kernel
theorem dX11_page_9 : decode cX11_page 9 = .ok (.getfield 111, 3) := by decide +kernel
theorem dX11_page_12 : decode cX11_page 12 = .ok (.iload_n 3, 1) := by decide +kernel
theorem dX11_page_13 : decode cX11_page 13 = .ok (.aaload, 1) := by decide +kernel
theorem dX11_page_14 : decode cX11_page 14 = .ok (.ifnonnull 16, 3) := by decide +kernel
theorem dX11_page_17 : decode cX11_page 17 = .ok (.aload_n 0, 1) := by decide +kernel
theorem dX11_page_18 : decode cX11_page 18 = .ok (.getfield 111, 3) := by decide +kernel
theorem dX11_page_21 : decode cX11_page 21 = .ok (.iload_n 3, 1) := by decide +kernel
theorem dX11_page_22 : decode cX11_page 22 = .ok (.new 101, 3) := by decide +kernel
theorem dX11_page_25 : decode cX11_page 25 = .ok (.dup, 1) := by decide +kernel
theorem dX11_page_26 : decode cX11_page 26 = .ok (.invokespecial 120, 3) := by decide +kernel
theorem dX11_page_29 : decode cX11_page 29 = .ok (.aastore, 1) := by decide +kernel
theorem dX11_page_30 : decode cX11_page 30 = .ok (.aload_n 0, 1) := by decide +kernel
theorem dX11_page_31 : decode cX11_page 31 = .ok (.getfield 111, 3) := by decide +kernel
theorem dX11_page_34 : decode cX11_page 34 = .ok (.iload_n 3, 1) := by decide +kernel
theorem dX11_page_35 : decode cX11_page 35 = .ok (.aaload, 1) := by decide +kernel
theorem dX11_page_36 : decode cX11_page 36 = .ok (.areturn, 1) := by decide +kernel
set_option maxRecDepth 20000 in
theorem moX11_page_30 {o : Nat × Hp} {F : Nat} {h : Hp} {x0 : Nat} {x3 : Int32} (hE : sX11_page_30 F h x0 x3 = some o) : Le h o.2 := by
  obtain ⟨r_1, er_1, hE⟩ := cl_e hE
  obtain ⟨g_2, hE⟩ := gd_e hE
  obtain ⟨r_3, er_3, hE⟩ := cl_e hE
  exact le_some2 hE
set_option maxRecDepth 20000 in
theorem moX11_page_29 {o : Nat × Hp} {F : Nat} {h : Hp} {x0 : Nat} {x3 : Int32} {t0 : Nat} {t1 : Int32} {t2 : Nat} (hE : sX11_page_29 F h x0 x3 t0 t1 t2 = some o) : Le h o.2 := by
  obtain ⟨g_1, hE⟩ := gd_e hE
  obtain ⟨h_2, eh_2, hE⟩ := nm_e2 hE
  refine (le_R eh_2).tr ?_
  exact moX11_page_30 hE
set_option maxRecDepth 20000 in
theorem moX11_page_25 {o : Nat × Hp} {F : Nat} {h : Hp} {x0 : Nat} {x3 : Int32} {t0 : Nat} {t1 : Int32} {t2 : Nat} (hE : sX11_page_25 F h x0 x3 t0 t1 t2 = some o) : Le h o.2 := by
  obtain ⟨o_1, eo_1, hE⟩ := cl_e hE
  refine (moX3_init eo_1).tr ?_
  exact moX11_page_29 hE
set_option maxRecDepth 20000 in
theorem moX11_page {o : Nat × Hp} {F : Nat} {h : Hp} {x0 : Nat} {x1 : Int32} {x2 : Int32} (hE : sX11_page F h x0 x1 x2 = some o) : Le h o.2 := by
  obtain ⟨v_1, ev_1, hE⟩ := nm_e2 hE
  obtain ⟨r_2, er_2, hE⟩ := cl_e hE
  obtain ⟨g_3, hE⟩ := gd_e hE
  rcases onr_e hE with hE | ⟨r_4, hE⟩
  · obtain ⟨r_6, er_6, hE⟩ := cl_e hE
    obtain ⟨a_7, ea_7, hE⟩ := nm_e2 hE
    obtain ⟨h_8, eh_8, hE⟩ := nm_e2 hE
    refine (le_C eh_8).tr ?_
    exact moX11_page_25 hE
  · exact moX11_page_30 hE
set_option maxRecDepth 20000 in
theorem bX11_page_30 {p : Program} {l : Launch} {e : Env} {s : State} {m : MethodId} {args : Array Value} {below : List Frame} {meth : Method} {c : Code} {X : Ec} {h0 : Hp} {o : Nat × Hp} {F : Nat} (C : Cx X p s m args meth c RX11 cX11_page 4 (some (.object "GameRules$Position")) "page") {h : Hp} {x0 : Nat} {x3 : Int32} {H : Heap} {locs : List Loc} (k_x0 : hK h x0 = 11) (hkl : Kl h0 h) (hW : Wx X h H) (hZ : va_S (aA (eB X)) s.heap H locs) (ls : Array Slot) (hl : lv_has ls 4 [(0, .ref x0), (3, .int x3)]) (hE : sX11_page_30 F h x0 x3 = some o) : W p l e (rmA 2 43 h0 o.2) s m args below meth c H locs (hS h - hS h0) (hL h - hL h0) (MQ below (QRA X 3 h0 o.1 o.2) args s (hS o.2 - hS h0) (hL o.2 - hL h0) (aA (eB X))) (F0 m 30 ls []) := by
  refine lv_aload_n C.1 C.2.1 dX11_page_30 rfl (lv_at hl 0 rfl) ?_
  obtain ⟨r_1, er_1, hE⟩ := cl_e hE
  refine gf_X11_111 C hW k_x0 er_1 dX11_page_31 (fun k_r_1 => ?_)
  refine lv_iload_n C.1 C.2.1 dX11_page_34 rfl (lv_at hl 1 rfl) ?_
  obtain ⟨g_2, hE⟩ := gd_e hE
  obtain ⟨r_3, er_3, hE⟩ := cl_e hE
  refine y_aald (t0 := 4) C hW k_r_1 (by decide) (by decide) rfl rfl rfl (fun _ => rfl) g_2 er_3 dX11_page_35 (fun k_r_3 => ?_)
  exact x_aretA C rfl (by first | exact Or.inl ⟨_, rfl⟩ | exact Or.inr ⟨_, rfl⟩) hW hZ hkl k_r_3 hE dX11_page_36
set_option maxRecDepth 20000 in
theorem bX11_page_29 {p : Program} {l : Launch} {e : Env} {s : State} {m : MethodId} {args : Array Value} {below : List Frame} {meth : Method} {c : Code} {X : Ec} {h0 : Hp} {o : Nat × Hp} {F : Nat} (C : Cx X p s m args meth c RX11 cX11_page 4 (some (.object "GameRules$Position")) "page") {h : Hp} {x0 : Nat} {x3 : Int32} {t0 : Nat} {t1 : Int32} {t2 : Nat} {H : Heap} {locs : List Loc} (k_x0 : hK h x0 = 11) (k_t0 : hK h t0 = 3) (k_t2 : hK h t2 = 20) (hkl : Kl h0 h) (hW : Wx X h H) (hZ : va_S (aA (eB X)) s.heap H locs) (ls : Array Slot) (hl : lv_has ls 4 [(0, .ref x0), (3, .int x3)]) (hE : sX11_page_29 F h x0 x3 t0 t1 t2 = some o) : W p l e (rmA 2 43 h0 o.2) s m args below meth c H locs (hS h - hS h0) (hL h - hL h0) (MQ below (QRA X 3 h0 o.1 o.2) args s (hS o.2 - hS h0) (hL o.2 - hL h0) (aA (eB X))) (F0 m 29 ls [.ref t0, .int t1, .ref t2]) := by
  obtain ⟨g_1, hE⟩ := gd_e hE
  obtain ⟨h_2, eh_2, hE⟩ := nm_e2 hE
  refine y_aast (t0 := 4) C hW hZ k_t2 (by decide) (by decide) rfl k_t0 (by decide) rfl (fun _ => rfl) g_1 eh_2 dX11_page_29 (fun _ _ hW km hZ => ?_)
  replace hkl := hkl.tr km.l
  refine x_wc km ?_
  replace k_x0 := km.at k_x0 (by decide)
  exact bX11_page_30 C k_x0 hkl hW hZ _ (lv_sub hl [0, 1] rfl) hE
set_option maxRecDepth 20000 in
theorem bX11_page_25 {p : Program} {l : Launch} {e : Env} {s : State} {m : MethodId} {args : Array Value} {below : List Frame} {meth : Method} {c : Code} {X : Ec} {h0 : Hp} {o : Nat × Hp} {F : Nat} (C : Cx X p s m args meth c RX11 cX11_page 4 (some (.object "GameRules$Position")) "page") {h : Hp} {x0 : Nat} {x3 : Int32} {t0 : Nat} {t1 : Int32} {t2 : Nat} {H : Heap} {locs : List Loc} (k_x0 : hK h x0 = 11) (k_t0 : hK h t0 = 3) (k_t2 : hK h t2 = 20) (hkl : Kl h0 h) (hW : Wx X h H) (hZ : va_S (aA (eB X)) s.heap H locs) (ls : Array Slot) (hl : lv_has ls 4 [(0, .ref x0), (3, .int x3)]) (hE : sX11_page_25 F h x0 x3 t0 t1 t2 = some o) : W p l e (rmA 2 43 h0 o.2) s m args below meth c H locs (hS h - hS h0) (hL h - hL h0) (MQ below (QRA X 3 h0 o.1 o.2) args s (hS o.2 - hS h0) (hL o.2 - hL h0) (aA (eB X))) (F0 m 25 ls [.ref t0, .int t1, .ref t2]) := by
  refine lv_dup C.1 C.2.1 dX11_page_25 rfl ?_
  obtain ⟨o_1, eo_1, hE⟩ := cl_e hE
  have m1 := moX3_init eo_1
  have m2 := moX11_page_29 hE
  refine x_kVA (o := o_1) hkl (z_runI (As := []) (rest := [.ref t0, .int t1, .ref t2]) C (ct_X3_init l X F k_t0 eo_1) ci_X11_120 hW hZ rfl hl.1 (Nat.le_of_ble_eq_true rfl) rfl dX11_page_26 ⟨Nat.le_of_ble_eq_true rfl, Nat.le_of_ble_eq_true rfl⟩ (rm_ok hkl m1 m2)) hZ (fun _ _ hW km hZ => ?_)
  replace hkl := hkl.tr km
  replace k_x0 := km.at k_x0 (by decide)
  replace k_t0 := km.at k_t0 (by decide)
  replace k_t2 := km.at k_t2 (by decide)
  exact bX11_page_29 C k_x0 k_t0 k_t2 hkl hW hZ _ (lv_sub hl [0, 1] rfl) hE
set_option maxRecDepth 20000 in
theorem ct_X11_page (l : Launch) (X : Ec) (F : Nat) {h : Hp} {x0 : Nat} {x1 : Int32} {x2 : Int32} {o : Nat × Hp} (k_x0 : hK h x0 = 11) (hE : sX11_page F h x0 x1 x2 = some o) : MetRA 3 l yX11_page cX11_page 4 (some (.object "GameRules$Position")) 2 43 X [.ref x0, .int x1, .int x2] h o := by
  refine x_metA (oh := o.2) (by decide) (Nat.le_of_ble_eq_true rfl) ?_
  intro p e s m below meth c ls C hl hW hZ
  have hl : lv_has ls 4 [(0, .ref x0), (1, .int x1), (2, .int x2)] := hl
  have hkl : Kl h h := Kl.rf h
  refine lv_iload_n C.1 C.2.1 dX11_page_0 rfl (lv_at hl 1 rfl) ?_
  refine lv_sipush (v := (301 : Int32)) C.1 C.2.1 dX11_page_1 (by decide) ?_
  refine lv_imul C.1 C.2.1 dX11_page_4 ?_
  refine lv_iload_n C.1 C.2.1 dX11_page_5 rfl (lv_at hl 2 rfl) ?_
  refine lv_iadd C.1 C.2.1 dX11_page_6 ?_
  obtain ⟨v_1, ev_1, hE⟩ := nm_e2 hE
  refine x_nmI ev_1 ?_
  refine lv_istore_n (lv' := [(3, .int v_1), (0, .ref x0), (1, .int x1), (2, .int x2)]) C.1 C.2.1 dX11_page_7 rfl hl (by decide) rfl (fun ls hl => ?_)
  refine lv_aload_n C.1 C.2.1 dX11_page_8 rfl (lv_at hl 1 rfl) ?_
  obtain ⟨r_2, er_2, hE⟩ := cl_e hE
  refine gf_X11_111 C hW k_x0 er_2 dX11_page_9 (fun k_r_2 => ?_)
  refine lv_iload_n C.1 C.2.1 dX11_page_12 rfl (lv_at hl 0 rfl) ?_
  obtain ⟨g_3, hE⟩ := gd_e hE
  rcases e_5 : hR h r_2 v_1.toNatClampNeg with _ | r_4
  · have hE := onr_n hE e_5
    refine y_aald0 (t0 := 4) C hW k_r_2 (by decide) (by decide) rfl rfl g_3 e_5 dX11_page_13 ?_
    refine lv_ifnonnullN C.1 C.2.1 dX11_page_14 ?_
    refine lv_aload_n C.1 C.2.1 dX11_page_17 rfl (lv_at hl 1 rfl) ?_
    obtain ⟨r_6, er_6, hE⟩ := cl_e hE
    refine gf_X11_111 C hW k_x0 er_6 dX11_page_18 (fun k_r_6 => ?_)
    refine lv_iload_n C.1 C.2.1 dX11_page_21 rfl (lv_at hl 0 rfl) ?_
    obtain ⟨a_7, ea_7, hE⟩ := nm_e2 hE
    obtain ⟨h_8, eh_8, hE⟩ := nm_e2 hE
    refine y_new C hW hZ hkl (moX11_page_25 hE) ⟨rfl, rfl⟩ i_X3 tyX3 tyX3_ok (by decide) rfl rfl dv_X3 m_582 m_266 m_8 eh_8 dX11_page_22 (fun _ hW km k_a_7 hZ => ?_)
    replace hkl := hkl.tr km
    refine x_nmA ea_7 ?_
    rw [← ea_7] at k_a_7
    replace k_x0 := km.at k_x0 (by decide)
    replace k_r_6 := km.at k_r_6 (by decide)
    exact bX11_page_25 C k_x0 k_a_7 k_r_6 hkl hW hZ _ (lv_sub hl [1, 0] rfl) hE
  · have hE := onr_s hE e_5
    refine y_aald (t0 := 4) C hW k_r_2 (by decide) (by decide) rfl rfl rfl (fun _ => rfl) g_3 e_5 dX11_page_13 (fun k_r_4 => ?_)
    refine lv_ifnonnull (tgt := 30) C.1 C.2.1 dX11_page_14 (by decide) ?_
    exact bX11_page_30 C k_x0 hkl hW hZ _ (lv_sub hl [1, 0] rfl) hE
set_option maxRecDepth 100000 in
theorem ms_79 : Cond.selects RX11 yX11_page yX11_page ∈ W0 := w0_in (List.mem_append_left _ (List.mem_of_getElem? (i := 79) rfl)) rfl
set_option maxRecDepth 100000 in
theorem m_1464 : Cond.methodLink RX11 318 yX11_isGame ∈ W0 := w0_in (List.mem_append_right _ (List.mem_of_getElem? (i := 1464) rfl)) rfl
set_option maxRecDepth 100000 in
theorem m_1465 : Cond.static yX11_isGame ∈ W0 := w0_in (List.mem_append_right _ (List.mem_of_getElem? (i := 1465) rfl)) rfl
set_option maxRecDepth 100000 in
theorem m_1466 : Cond.code yX11_isGame cX11_isGame 1 (some .boolean) ∈ W0 := w0_in (List.mem_append_right _ (List.mem_of_getElem? (i := 1466) rfl)) rfl
set_option maxRecDepth 100000 in
theorem m_1467 : Cond.methodLink RX11 321 yX11_page ∈ W0 := w0_in (List.mem_append_right _ (List.mem_of_getElem? (i := 1467) rfl)) rfl
set_option maxRecDepth 100000 in
theorem m_1469 : Cond.instanceMethod yX11_page ∈ W0 := w0_in (List.mem_append_right _ (List.mem_of_getElem? (i := 1469) rfl)) rfl
set_option maxRecDepth 100000 in
theorem m_1470 : Cond.code yX11_page cX11_page 4 (some (.object "GameRules$Position")) ∈ W0 := w0_in (List.mem_append_right _ (List.mem_of_getElem? (i := 1470) rfl)) rfl
theorem cw_X11_321 : cwd RX11 321 yX11_page cX11_page 4 (some (.object "GameRules$Position")) false 2 := ⟨m_1470, m_1467, m_1, ⟨m_1469, ms_79⟩, by decide, by decide, by decide +kernel⟩
theorem cw_X11_318 : cwd RX11 318 yX11_isGame cX11_isGame 1 (some .boolean) true 1 := ⟨m_1466, m_1464, m_1, m_1465, by decide, by decide, by decide +kernel⟩
theorem dX11_start_0 : decode cX11_start 0 = .ok (.iload_n 1, 1) := by decide +kernel
theorem dX11_start_1 : decode cX11_start 1 = .ok (.invokestatic 318, 3) := by decide +kernel
theorem dX11_start_4 : decode cX11_start 4 = .ok (.ifCond .ne 6, 3) := by decide +kernel
theorem dX11_start_7 : decode cX11_start 7 = .ok (.bipush (-101), 2) := by decide +kernel
theorem dX11_start_9 : decode cX11_start 9 = .ok (.ireturn, 1) := by decide +kernel
theorem dX11_start_10 : decode cX11_start 10 = .ok (.aload_n 0, 1) := by decide +kernel
theorem dX11_start_11 : decode cX11_start 11 = .ok (.iload_n 2, 1) := by decide +kernel
theorem dX11_start_12 : decode cX11_start 12 = .ok (.invokevirtual 193, 3) := by decide +kernel
theorem dX11_start_15 : decode cX11_start 15 = .ok (.ifCond .ne 6, 3) := by decide +kernel
theorem dX11_start_18 : decode cX11_start 18 = .ok (.bipush (-102), 2) := by decide +kernel
theorem dX11_start_20 : decode cX11_start 20 = .ok (.ireturn, 1) := by decide +kernel
theorem dX11_start_21 : decode cX11_start 21 = .ok (.aload_n 0, 1) := by decide +kernel
theorem dX11_start_22 : decode cX11_start 22 = .ok (.iload_n 1, 1) := by decide +kernel
theorem dX11_start_23 : decode cX11_start 23 = .ok (.iconst 0, 1) := by decide +kernel
theorem dX11_start_24 : decode cX11_start 24 = .ok (.invokevirtual 321, 3) := by decide +kernel
theorem dX11_start_27 : decode cX11_start 27 = .ok (.aload_n 0, 1) := by decide +kernel
theorem dX11_start_28 : decode cX11_start 28 = .ok (.getfield 103, 3) := by decide +kernel
theorem dX11_start_31 : decode cX11_start 31 = .ok (.iload_n 2, 1) := by decide +kernel
theorem dX11_start_32 : decode cX11_start 32 = .ok (.aaload, 1) := by decide +kernel
theorem dX11_start_33 : decode cX11_start 33 = .ok (.invokevirtual 325, 3) := by decide +kernel
theorem dX11_start_36 : decode cX11_start 36 = .ok (.aload_n 0, 1) := by decide +kernel
theorem dX11_start_37 : decode cX11_start 37 = .ok (.getfield 117, 3) := by decide +kernel
theorem dX11_start_40 : decode cX11_start 40 = .ok (.iload_n 1, 1) := by decide +kernel
theorem dX11_start_41 : decode cX11_start 41 = .ok (.iconst 0, 1) := by decide +kernel
theorem dX11_start_42 : decode cX11_start 42 = .ok (.iastore, 1) := by decide +kernel
theorem dX11_start_43 : decode cX11_start 43 = .ok (.iconst 0, 1) := by decide +kernel
theorem dX11_start_44 : decode cX11_start 44 = .ok (.ireturn, 1) := by decide +kernel
set_option maxRecDepth 20000 in
theorem moX11_start_36 {o : Int32 × Hp} {F : Nat} {h : Hp} {x0 : Nat} {x1 : Int32} (hE : sX11_start_36 F h x0 x1 = some o) : Le h o.2 := by
  obtain ⟨r_1, er_1, hE⟩ := cl_e hE
  obtain ⟨g_2, hE⟩ := gd_e hE
  obtain ⟨h_3, eh_3, hE⟩ := nm_e2 hE
  refine (le_I eh_3).tr ?_
  exact le_some2 hE
set_option maxRecDepth 20000 in
theorem moX11_start_27 {o : Int32 × Hp} {F : Nat} {h : Hp} {x0 : Nat} {x1 : Int32} {x2 : Int32} {t0 : Nat} (hE : sX11_start_27 F h x0 x1 x2 t0 = some o) : Le h o.2 := by
  obtain ⟨r_1, er_1, hE⟩ := cl_e hE
  obtain ⟨g_2, hE⟩ := gd_e hE
  obtain ⟨r_3, er_3, hE⟩ := cl_e hE
  obtain ⟨o_4, eo_4, hE⟩ := cl_e hE
  refine (moX3_copyFrom eo_4).tr ?_
  exact moX11_start_36 hE
set_option maxRecDepth 20000 in
theorem moX11_start_15 {o : Int32 × Hp} {F : Nat} {h : Hp} {x0 : Nat} {x1 : Int32} {x2 : Int32} {t0 : Int32} (hE : sX11_start_15 F h x0 x1 x2 t0 = some o) : Le h o.2 := by
  rcases br_e hE with ⟨_, hE⟩ | ⟨_, hE⟩
  · exact le_some2 hE
  · obtain ⟨o_2, eo_2, hE⟩ := cl_e hE
    refine (moX11_page eo_2).tr ?_
    exact moX11_start_27 hE
set_option maxRecDepth 20000 in
theorem moX11_start_4 {o : Int32 × Hp} {F : Nat} {h : Hp} {x0 : Nat} {x1 : Int32} {x2 : Int32} {t0 : Int32} (hE : sX11_start_4 F h x0 x1 x2 t0 = some o) : Le h o.2 := by
  rcases br_e hE with ⟨_, hE⟩ | ⟨_, hE⟩
  · exact le_some2 hE
  · obtain ⟨o_2, eo_2, hE⟩ := cl_e hE
    refine (moX11_isPlace eo_2).tr ?_
    exact moX11_start_15 hE
set_option maxRecDepth 20000 in
theorem moX11_start {o : Int32 × Hp} {F : Nat} {h : Hp} {x0 : Nat} {x1 : Int32} {x2 : Int32} (hE : sX11_start F h x0 x1 x2 = some o) : Le h o.2 := by
  obtain ⟨o_1, eo_1, hE⟩ := cl_e hE
  refine (moX11_isGame eo_1).tr ?_
  exact moX11_start_4 hE
set_option maxRecDepth 20000 in
theorem bX11_start_36 {p : Program} {l : Launch} {e : Env} {s : State} {m : MethodId} {args : Array Value} {below : List Frame} {meth : Method} {c : Code} {X : Ec} {h0 : Hp} {o : Int32 × Hp} {F : Nat} (C : Cx X p s m args meth c RX11 cX11_start 3 (some .int) "start") {h : Hp} {x0 : Nat} {x1 : Int32} {H : Heap} {locs : List Loc} (k_x0 : hK h x0 = 11) (hkl : Kl h0 h) (hW : Wx X h H) (hZ : va_S (aA (eB X)) s.heap H locs) (ls : Array Slot) (hl : lv_has ls 3 [(0, .ref x0), (1, .int x1)]) (hE : sX11_start_36 F h x0 x1 = some o) : W p l e (rmA 3 86 h0 o.2) s m args below meth c H locs (hS h - hS h0) (hL h - hL h0) (MQ below (QIA X h0 o.1 o.2) args s (hS o.2 - hS h0) (hL o.2 - hL h0) (aA (eB X))) (F0 m 36 ls []) := by
  refine lv_aload_n C.1 C.2.1 dX11_start_36 rfl (lv_at hl 0 rfl) ?_
  obtain ⟨r_1, er_1, hE⟩ := cl_e hE
  refine gf_X11_117 C hW k_x0 er_1 dX11_start_37 (fun k_r_1 => ?_)
  refine lv_iload_n C.1 C.2.1 dX11_start_40 rfl (lv_at hl 1 rfl) ?_
  refine lv_iconst (v := (0 : Int32)) C.1 C.2.1 dX11_start_41 (by decide) ?_
  obtain ⟨g_2, hE⟩ := gd_e hE
  obtain ⟨h_3, eh_3, hE⟩ := nm_e2 hE
  refine y_iast C hW hZ k_r_1 g_2 eh_3 dX11_start_42 (fun _ _ hW km hZ => ?_)
  replace hkl := hkl.tr km.l
  refine x_wc km ?_
  replace k_x0 := km.at k_x0 (by decide)
  refine lv_iconst (v := (0 : Int32)) C.1 C.2.1 dX11_start_43 (by decide) ?_
  exact x_iretA C rfl rfl hW hZ hkl hE dX11_start_44
set_option maxRecDepth 20000 in
theorem bX11_start_27 {p : Program} {l : Launch} {e : Env} {s : State} {m : MethodId} {args : Array Value} {below : List Frame} {meth : Method} {c : Code} {X : Ec} {h0 : Hp} {o : Int32 × Hp} {F : Nat} (C : Cx X p s m args meth c RX11 cX11_start 3 (some .int) "start") {h : Hp} {x0 : Nat} {x1 : Int32} {x2 : Int32} {t0 : Nat} {H : Heap} {locs : List Loc} (k_x0 : hK h x0 = 11) (k_t0 : hK h t0 = 3) (hkl : Kl h0 h) (hW : Wx X h H) (hZ : va_S (aA (eB X)) s.heap H locs) (ls : Array Slot) (hl : lv_has ls 3 [(0, .ref x0), (1, .int x1), (2, .int x2)]) (hE : sX11_start_27 F h x0 x1 x2 t0 = some o) : W p l e (rmA 3 86 h0 o.2) s m args below meth c H locs (hS h - hS h0) (hL h - hL h0) (MQ below (QIA X h0 o.1 o.2) args s (hS o.2 - hS h0) (hL o.2 - hL h0) (aA (eB X))) (F0 m 27 ls [.ref t0]) := by
  refine lv_aload_n C.1 C.2.1 dX11_start_27 rfl (lv_at hl 0 rfl) ?_
  obtain ⟨r_1, er_1, hE⟩ := cl_e hE
  refine gf_X11_103 C hW k_x0 er_1 dX11_start_28 (fun k_r_1 => ?_)
  refine lv_iload_n C.1 C.2.1 dX11_start_31 rfl (lv_at hl 2 rfl) ?_
  obtain ⟨g_2, hE⟩ := gd_e hE
  obtain ⟨r_3, er_3, hE⟩ := cl_e hE
  refine y_aald (t0 := 4) C hW k_r_1 (by decide) (by decide) rfl rfl rfl (fun _ => rfl) g_2 er_3 dX11_start_32 (fun k_r_3 => ?_)
  obtain ⟨o_4, eo_4, hE⟩ := cl_e hE
  have m1 := moX3_copyFrom eo_4
  have m2 := moX11_start_36 hE
  refine x_kV (o := o_4) (z_runV (As := [.ref r_3]) (rest := []) C (ct_X3_copyFrom l X F k_t0 k_r_3 eo_4) cw_X11_325 hW hZ k_t0 (by decide) rfl rfl rfl hl.1 (Nat.le_of_ble_eq_true rfl) rfl dX11_start_33 ⟨Nat.le_of_ble_eq_true rfl, Nat.le_of_ble_eq_true rfl⟩ (rm_ok0 hkl m1 m2)) hZ (fun _ _ hW km hZ => ?_)
  replace hkl := hkl.tr km.l
  refine x_wc km ?_
  replace k_x0 := km.at k_x0 (by decide)
  exact bX11_start_36 C k_x0 hkl hW hZ _ (lv_sub hl [0, 1] rfl) hE
set_option maxRecDepth 20000 in
theorem bX11_start_15 {p : Program} {l : Launch} {e : Env} {s : State} {m : MethodId} {args : Array Value} {below : List Frame} {meth : Method} {c : Code} {X : Ec} {h0 : Hp} {o : Int32 × Hp} {F : Nat} (C : Cx X p s m args meth c RX11 cX11_start 3 (some .int) "start") {h : Hp} {x0 : Nat} {x1 : Int32} {x2 : Int32} {t0 : Int32} {H : Heap} {locs : List Loc} (k_x0 : hK h x0 = 11) (hkl : Kl h0 h) (hW : Wx X h H) (hZ : va_S (aA (eB X)) s.heap H locs) (ls : Array Slot) (hl : lv_has ls 3 [(0, .ref x0), (1, .int x1), (2, .int x2)]) (hE : sX11_start_15 F h x0 x1 x2 t0 = some o) : W p l e (rmA 3 86 h0 o.2) s m args below meth c H locs (hS h - hS h0) (hL h - hL h0) (MQ below (QIA X h0 o.1 o.2) args s (hS o.2 - hS h0) (hL o.2 - hL h0) (aA (eB X))) (F0 m 15 ls [.int t0]) := by
  refine lv_if_ne (tgt := 21) C.1 C.2.1 dX11_start_15 (by decide) (fun c_1 => ?_) (fun c_1 => ?_)
  · have hE := br_n hE c_1
    refine lv_aload_n C.1 C.2.1 dX11_start_21 rfl (lv_at hl 0 rfl) ?_
    refine lv_iload_n C.1 C.2.1 dX11_start_22 rfl (lv_at hl 1 rfl) ?_
    refine lv_iconst (v := (0 : Int32)) C.1 C.2.1 dX11_start_23 (by decide) ?_
    obtain ⟨o_2, eo_2, hE⟩ := cl_e hE
    have m1 := moX11_page eo_2
    have m2 := moX11_start_27 hE
    refine x_kRA (o := o_2) hkl (z_runV (As := [.int x1, .int (0 : Int32)]) (rest := []) C (ct_X11_page l X F k_x0 eo_2) cw_X11_321 hW hZ k_x0 (by decide) rfl rfl rfl hl.1 (Nat.le_of_ble_eq_true rfl) rfl dX11_start_24 ⟨Nat.le_of_ble_eq_true rfl, Nat.le_of_ble_eq_true rfl⟩ (rm_ok hkl m1 m2)) hZ (fun _ _ hW km k_o_2_1 hZ => ?_)
    replace hkl := hkl.tr km
    replace k_x0 := km.at k_x0 (by decide)
    exact bX11_start_27 C k_x0 k_o_2_1 hkl hW hZ _ (lv_sub hl [0, 1, 2] rfl) hE
  · have hE := br_p hE c_1
    refine lv_bipush (v := (-102 : Int32)) C.1 C.2.1 dX11_start_18 (by decide) ?_
    exact x_iretA C rfl rfl hW hZ hkl hE dX11_start_20
set_option maxRecDepth 20000 in
theorem bX11_start_4 {p : Program} {l : Launch} {e : Env} {s : State} {m : MethodId} {args : Array Value} {below : List Frame} {meth : Method} {c : Code} {X : Ec} {h0 : Hp} {o : Int32 × Hp} {F : Nat} (C : Cx X p s m args meth c RX11 cX11_start 3 (some .int) "start") {h : Hp} {x0 : Nat} {x1 : Int32} {x2 : Int32} {t0 : Int32} {H : Heap} {locs : List Loc} (k_x0 : hK h x0 = 11) (hkl : Kl h0 h) (hW : Wx X h H) (hZ : va_S (aA (eB X)) s.heap H locs) (ls : Array Slot) (hl : lv_has ls 3 [(0, .ref x0), (1, .int x1), (2, .int x2)]) (hE : sX11_start_4 F h x0 x1 x2 t0 = some o) : W p l e (rmA 3 86 h0 o.2) s m args below meth c H locs (hS h - hS h0) (hL h - hL h0) (MQ below (QIA X h0 o.1 o.2) args s (hS o.2 - hS h0) (hL o.2 - hL h0) (aA (eB X))) (F0 m 4 ls [.int t0]) := by
  refine lv_if_ne (tgt := 10) C.1 C.2.1 dX11_start_4 (by decide) (fun c_1 => ?_) (fun c_1 => ?_)
  · have hE := br_n hE c_1
    refine lv_aload_n C.1 C.2.1 dX11_start_10 rfl (lv_at hl 0 rfl) ?_
    refine lv_iload_n C.1 C.2.1 dX11_start_11 rfl (lv_at hl 2 rfl) ?_
    obtain ⟨o_2, eo_2, hE⟩ := cl_e hE
    have m1 := moX11_isPlace eo_2
    have m2 := moX11_start_15 hE
    refine x_kI (o := o_2) (z_runV (As := [.int x2]) (rest := []) C (ct_X11_isPlace l X k_x0 eo_2) cw_X11_193 hW hZ k_x0 (by decide) rfl rfl rfl hl.1 (Nat.le_of_ble_eq_true rfl) rfl dX11_start_12 ⟨Nat.le_of_ble_eq_true rfl, Nat.le_of_ble_eq_true rfl⟩ (rm_ok0 hkl m1 m2)) hZ (fun _ _ hW km hZ => ?_)
    replace hkl := hkl.tr km.l
    refine x_wc km ?_
    replace k_x0 := km.at k_x0 (by decide)
    exact bX11_start_15 C k_x0 hkl hW hZ _ (lv_sub hl [0, 1, 2] rfl) hE
  · have hE := br_p hE c_1
    refine lv_bipush (v := (-101 : Int32)) C.1 C.2.1 dX11_start_7 (by decide) ?_
    exact x_iretA C rfl rfl hW hZ hkl hE dX11_start_9
set_option maxRecDepth 20000 in
theorem ct_X11_start (l : Launch) (X : Ec) (F : Nat) {h : Hp} {x0 : Nat} {x1 : Int32} {x2 : Int32} {o : Int32 × Hp} (k_x0 : hK h x0 = 11) (hE : sX11_start F h x0 x1 x2 = some o) : MetIA l yX11_start cX11_start 3 (some .int) 3 86 X [.ref x0, .int x1, .int x2] h o := by
  refine x_metA (oh := o.2) (by decide) (Nat.le_of_ble_eq_true rfl) ?_
  intro p e s m below meth c ls C hl hW hZ
  have hl : lv_has ls 3 [(0, .ref x0), (1, .int x1), (2, .int x2)] := hl
  have hkl : Kl h h := Kl.rf h
  refine lv_iload_n C.1 C.2.1 dX11_start_0 rfl (lv_at hl 1 rfl) ?_
  obtain ⟨o_1, eo_1, hE⟩ := cl_e hE
  have m1 := moX11_isGame eo_1
  have m2 := moX11_start_4 hE
  refine x_kI (o := o_1) (z_runS (As := [.int x1]) (rest := []) C (ct_X11_isGame l X eo_1) cw_X11_318 hW hZ rfl hl.1 (Nat.le_of_ble_eq_true rfl) rfl dX11_start_1 ⟨Nat.le_of_ble_eq_true rfl, Nat.le_of_ble_eq_true rfl⟩ (rm_ok0 hkl m1 m2)) hZ (fun _ _ hW km hZ => ?_)
  replace hkl := hkl.tr km.l
  refine x_wc km ?_
  replace k_x0 := km.at k_x0 (by decide)
  exact bX11_start_4 C k_x0 hkl hW hZ _ (lv_sub hl [0, 1, 2] rfl) hE
section
variable {p : Program} {l : Launch} {e : Env} {R : Room} {s : State} {m : MethodId} {args : Array Value} {below : List Frame} {meth : Method} {c : Code} {H : Heap} {locs : List Loc} {cells slots : Nat} {Q : State → Prop}
variable {cc : ByteArray} {pc : Nat} {ls : Array Slot} {rest : List Value} {X : Ec} {h h1 : Hp} {nL : Nat} {rt : Option FieldType} {mn : String}
theorem gf_X11_114 {a r : Nat} (C : Cx X p s m args meth c RX11 cc nL rt mn) (hW : Wx X h H) (ha : hK h a = 11) (hr : hR h a 16 = some r) (hdg : decode cc pc = .ok (.getfield 114, 3)) (kk : hK h r = 17 → W p l e R s m args below meth c H locs cells slots Q (F0 m (pc + 3) ls (.ref r :: rest))) : W p l e R s m args below meth c H locs cells slots Q (F0 m pc ls (.ref a :: rest)) :=
  y_getr C hW ha i_X11 (by decide) rfl (by decide) m_845 rfl rfl hr hdg kk
end
theorem dX11_add_0 : decode cX11_add 0 = .ok (.iload_n 1, 1) := by decide +kernel
theorem dX11_add_1 : decode cX11_add 1 = .ok (.invokestatic 318, 3) := by decide +kernel
theorem dX11_add_4 : decode cX11_add 4 = .ok (.ifCond .ne 6, 3) := by decide +kernel
theorem dX11_add_7 : decode cX11_add 7 = .ok (.bipush (-101), 2) := by decide +kernel
theorem dX11_add_9 : decode cX11_add 9 = .ok (.ireturn, 1) := by decide +kernel
theorem dX11_add_10 : decode cX11_add 10 = .ok (.aload_n 0, 1) := by decide +kernel
theorem dX11_add_11 : decode cX11_add 11 = .ok (.getfield 117, 3) := by decide +kernel
theorem dX11_add_14 : decode cX11_add 14 = .ok (.iload_n 1, 1) := by decide +kernel
theorem dX11_add_15 : decode cX11_add 15 = .ok (.iaload, 1) := by decide +kernel
theorem dX11_add_16 : decode cX11_add 16 = .ok (.istore_n 3, 1) := by decide +kernel
theorem dX11_add_17 : decode cX11_add 17 = .ok (.iload_n 3, 1) := by decide +kernel
theorem dX11_add_18 : decode cX11_add 18 = .ok (.iconst (-1), 1) := by decide +kernel
theorem dX11_add_19 : decode cX11_add 19 = .ok (.if_icmp .ne 6, 3) := by decide +kernel
theorem dX11_add_22 : decode cX11_add 22 = .ok (.bipush (-102), 2) := by decide +kernel
theorem dX11_add_24 : decode cX11_add 24 = .ok (.ireturn, 1) := by decide +kernel
theorem dX11_add_25 : decode cX11_add 25 = .ok (.aload_n 0, 1) := by decide +kernel
theorem dX11_add_26 : decode cX11_add 26 = .ok (.iload_n 1, 1) := by decide +kernel
theorem dX11_add_27 : decode cX11_add 27 = .ok (.iload_n 3, 1) := by decide +kernel
theorem dX11_add_28 : decode cX11_add 28 = .ok (.invokevirtual 321, 3) := by decide +kernel
theorem dX11_add_31 : decode cX11_add 31 = .ok (.astore 4, 2) := by decide +kernel
theorem dX11_add_33 : decode cX11_add 33 = .ok (.aload_n 0, 1) := by decide +kernel
theorem dX11_add_34 : decode cX11_add 34 = .ok (.getfield 50, 3) := by decide +kernel
theorem dX11_add_37 : decode cX11_add 37 = .ok (.aload 4, 2) := by decide +kernel
theorem dX11_add_39 : decode cX11_add 39 = .ok (.aload_n 0, 1) := by decide +kernel
theorem dX11_add_40 : decode cX11_add 40 = .ok (.getfield 97, 3) := by decide +kernel
theorem dX11_add_43 : decode cX11_add 43 = .ok (.sipush 4096, 3) := by decide +kernel
theorem dX11_add_46 : decode cX11_add 46 = .ok (.invokevirtual 329, 3) := by decide +kernel
theorem dX11_add_49 : decode cX11_add 49 = .ok (.istore 5, 2) := by decide +kernel
theorem dX11_add_51 : decode cX11_add 51 = .ok (.iload_n 2, 1) := by decide +kernel
theorem dX11_add_52 : decode cX11_add 52 = .ok (.ifCond .lt 9, 3) := by decide +kernel
theorem dX11_add_55 : decode cX11_add 55 = .ok (.iload_n 2, 1) := by decide +kernel
theorem dX11_add_56 : decode cX11_add 56 = .ok (.iload 5, 2) := by decide +kernel
theorem dX11_add_58 : decode cX11_add 58 = .ok (.if_icmp .lt 6, 3) := by decide +kernel
theorem dX11_add_61 : decode cX11_add 61 = .ok (.bipush (-102), 2) := by decide +kernel
theorem dX11_add_63 : decode cX11_add 63 = .ok (.ireturn, 1) := by decide +kernel
theorem dX11_add_64 : decode cX11_add 64 = .ok (.iload_n 3, 1) := by decide +kernel
theorem dX11_add_65 : decode cX11_add 65 = .ok (.sipush 300, 3) := by decide +kernel
theorem dX11_add_68 : decode cX11_add 68 = .ok (.if_icmp .lt 6, 3) := by decide +kernel
theorem dX11_add_71 : decode cX11_add 71 = .ok (.bipush (-104), 2) := by decide +kernel
theorem dX11_add_73 : decode cX11_add 73 = .ok (.ireturn, 1) := by decide +kernel
theorem dX11_add_74 : decode cX11_add 74 = .ok (.aload_n 0, 1) := by decide +kernel
theorem dX11_add_75 : decode cX11_add 75 = .ok (.iload_n 1, 1) := by decide +kernel
theorem dX11_add_76 : decode cX11_add 76 = .ok (.iload_n 3, 1) := by decide +kernel
theorem dX11_add_77 : decode cX11_add 77 = .ok (.iconst 1, 1) := by decide +kernel
theorem dX11_add_78 : decode cX11_add 78 = .ok (.iadd, 1) := by decide +kernel
theorem dX11_add_79 : decode cX11_add 79 = .ok (.invokevirtual 321, 3) := by decide +kernel
theorem dX11_add_82 : decode cX11_add 82 = .ok (.astore 6, 2) := by decide +kernel
theorem dX11_add_84 : decode cX11_add 84 = .ok (.aload 6, 2) := by decide +kernel
theorem dX11_add_86 : decode cX11_add 86 = .ok (.aload 4, 2) := by decide +kernel
theorem dX11_add_88 : decode cX11_add 88 = .ok (.invokevirtual 325, 3) := by decide +kernel
theorem dX11_add_91 : decode cX11_add 91 = .ok (.aload_n 0, 1) := by decide +kernel
theorem dX11_add_92 : decode cX11_add 92 = .ok (.getfield 50, 3) := by decide +kernel
theorem dX11_add_95 : decode cX11_add 95 = .ok (.aload 6, 2) := by decide +kernel
theorem dX11_add_97 : decode cX11_add 97 = .ok (.aload_n 0, 1) := by decide +kernel
theorem dX11_add_98 : decode cX11_add 98 = .ok (.getfield 97, 3) := by decide +kernel
theorem dX11_add_101 : decode cX11_add 101 = .ok (.iload_n 2, 1) := by decide +kernel
theorem dX11_add_102 : decode cX11_add 102 = .ok (.iaload, 1) := by decide +kernel
theorem dX11_add_103 : decode cX11_add 103 = .ok (.invokevirtual 279, 3) := by decide +kernel
theorem dX11_add_106 : decode cX11_add 106 = .ok (.aload_n 0, 1) := by decide +kernel
theorem dX11_add_107 : decode cX11_add 107 = .ok (.getfield 114, 3) := by decide +kernel
theorem dX11_add_110 : decode cX11_add 110 = .ok (.iload_n 1, 1) := by decide +kernel
theorem dX11_add_111 : decode cX11_add 111 = .ok (.sipush 301, 3) := by decide +kernel
theorem dX11_add_114 : decode cX11_add 114 = .ok (.imul, 1) := by decide +kernel
theorem dX11_add_115 : decode cX11_add 115 = .ok (.iload_n 3, 1) := by decide +kernel
theorem dX11_add_116 : decode cX11_add 116 = .ok (.iadd, 1) := by decide +kernel
theorem dX11_add_117 : decode cX11_add 117 = .ok (.iload_n 2, 1) := by decide +kernel
theorem dX11_add_118 : decode cX11_add 118 = .ok (.iastore, 1) := by decide +kernel
theorem dX11_add_119 : decode cX11_add 119 = .ok (.aload_n 0, 1) := by decide +kernel
theorem dX11_add_120 : decode cX11_add 120 = .ok (.getfield 117, 3) := by decide +kernel
theorem dX11_add_123 : decode cX11_add 123 = .ok (.iload_n 1, 1) := by decide +kernel
theorem dX11_add_124 : decode cX11_add 124 = .ok (.iload_n 3, 1) := by decide +kernel
theorem dX11_add_125 : decode cX11_add 125 = .ok (.iconst 1, 1) := by decide +kernel
theorem dX11_add_126 : decode cX11_add 126 = .ok (.iadd, 1) := by decide +kernel
theorem dX11_add_127 : decode cX11_add 127 = .ok (.iastore, 1) := by decide +kernel
theorem dX11_add_128 : decode cX11_add 128 = .ok (.iload_n 3, 1) := by decide +kernel
theorem dX11_add_129 : decode cX11_add 129 = .ok (.iconst 1, 1) := by decide +kernel
theorem dX11_add_130 : decode cX11_add 130 = .ok (.iadd, 1) := by decide +kernel
theorem dX11_add_131 : decode cX11_add 131 = .ok (.ireturn, 1) := by decide +kernel
set_option maxRecDepth 20000 in
theorem moX11_add_61 {o : Int32 × Hp} {F : Nat} {h : Hp} (hE : sX11_add_61 F h  = some o) : Le h o.2 := by
  exact le_some2 hE
set_option maxRecDepth 20000 in
theorem moX11_add_106 {o : Int32 × Hp} {F : Nat} {h : Hp} {x0 : Nat} {x1 : Int32} {x2 : Int32} {x3 : Int32} (hE : sX11_add_106 F h x0 x1 x2 x3 = some o) : Le h o.2 := by
  obtain ⟨r_1, er_1, hE⟩ := cl_e hE
  obtain ⟨g_2, hE⟩ := gd_e hE
  obtain ⟨h_3, eh_3, hE⟩ := nm_e2 hE
  refine (le_I eh_3).tr ?_
  obtain ⟨r_4, er_4, hE⟩ := cl_e hE
  obtain ⟨g_5, hE⟩ := gd_e hE
  obtain ⟨h_6, eh_6, hE⟩ := nm_e2 hE
  refine (le_I eh_6).tr ?_
  exact le_some2 hE
set_option maxRecDepth 20000 in
theorem moX11_add_91 {o : Int32 × Hp} {F : Nat} {h : Hp} {x0 : Nat} {x1 : Int32} {x2 : Int32} {x3 : Int32} {x6 : Nat} (hE : sX11_add_91 F h x0 x1 x2 x3 x6 = some o) : Le h o.2 := by
  obtain ⟨r_1, er_1, hE⟩ := cl_e hE
  obtain ⟨r_2, er_2, hE⟩ := cl_e hE
  obtain ⟨g_3, hE⟩ := gd_e hE
  obtain ⟨o_4, eo_4, hE⟩ := cl_e hE
  refine (moX5_make eo_4).tr ?_
  exact moX11_add_106 hE
set_option maxRecDepth 20000 in
theorem moX11_add_82 {o : Int32 × Hp} {F : Nat} {h : Hp} {x0 : Nat} {x1 : Int32} {x2 : Int32} {x3 : Int32} {x4 : Nat} {t0 : Nat} (hE : sX11_add_82 F h x0 x1 x2 x3 x4 t0 = some o) : Le h o.2 := by
  obtain ⟨o_1, eo_1, hE⟩ := cl_e hE
  refine (moX3_copyFrom eo_1).tr ?_
  exact moX11_add_91 hE
set_option maxRecDepth 20000 in
theorem moX11_add_49 {o : Int32 × Hp} {F : Nat} {h : Hp} {x0 : Nat} {x1 : Int32} {x2 : Int32} {x3 : Int32} {x4 : Nat} {t0 : Int32} (hE : sX11_add_49 F h x0 x1 x2 x3 x4 t0 = some o) : Le h o.2 := by
  rcases br_e hE with ⟨_, hE⟩ | ⟨_, hE⟩
  · exact moX11_add_61 hE
  · rcases br_e hE with ⟨_, hE⟩ | ⟨_, hE⟩
    · rcases br_e hE with ⟨_, hE⟩ | ⟨_, hE⟩
      · obtain ⟨o_4, eo_4, hE⟩ := cl_e hE
        refine (moX11_page eo_4).tr ?_
        exact moX11_add_82 hE
      · exact le_some2 hE
    · exact moX11_add_61 hE
set_option maxRecDepth 20000 in
theorem moX11_add_31 {o : Int32 × Hp} {F : Nat} {h : Hp} {x0 : Nat} {x1 : Int32} {x2 : Int32} {x3 : Int32} {t0 : Nat} (hE : sX11_add_31 F h x0 x1 x2 x3 t0 = some o) : Le h o.2 := by
  obtain ⟨r_1, er_1, hE⟩ := cl_e hE
  obtain ⟨r_2, er_2, hE⟩ := cl_e hE
  obtain ⟨o_3, eo_3, hE⟩ := cl_e hE
  refine (moX5_collect eo_3).tr ?_
  exact moX11_add_49 hE
set_option maxRecDepth 20000 in
theorem moX11_add_4 {o : Int32 × Hp} {F : Nat} {h : Hp} {x0 : Nat} {x1 : Int32} {x2 : Int32} {t0 : Int32} (hE : sX11_add_4 F h x0 x1 x2 t0 = some o) : Le h o.2 := by
  rcases br_e hE with ⟨_, hE⟩ | ⟨_, hE⟩
  · exact le_some2 hE
  · obtain ⟨r_2, er_2, hE⟩ := cl_e hE
    obtain ⟨g_3, hE⟩ := gd_e hE
    obtain ⟨v_4, ev_4, hE⟩ := nm_e2 hE
    rcases br_e hE with ⟨_, hE⟩ | ⟨_, hE⟩
    · exact le_some2 hE
    · obtain ⟨o_6, eo_6, hE⟩ := cl_e hE
      refine (moX11_page eo_6).tr ?_
      exact moX11_add_31 hE
set_option maxRecDepth 20000 in
theorem moX11_add {o : Int32 × Hp} {F : Nat} {h : Hp} {x0 : Nat} {x1 : Int32} {x2 : Int32} (hE : sX11_add F h x0 x1 x2 = some o) : Le h o.2 := by
  obtain ⟨o_1, eo_1, hE⟩ := cl_e hE
  refine (moX11_isGame eo_1).tr ?_
  exact moX11_add_4 hE
set_option maxRecDepth 20000 in
theorem bX11_add_61 {p : Program} {l : Launch} {e : Env} {s : State} {m : MethodId} {args : Array Value} {below : List Frame} {meth : Method} {c : Code} {X : Ec} {h0 : Hp} {o : Int32 × Hp} {F : Nat} (C : Cx X p s m args meth c RX11 cX11_add 7 (some .int) "add") {h : Hp} {H : Heap} {locs : List Loc} (hkl : Kl h0 h) (hW : Wx X h H) (hZ : va_S (aA (eB X)) s.heap H locs) (ls : Array Slot) (hl : lv_has ls 7 []) (hE : sX11_add_61 F h  = some o) : W p l e (rmA 4 139 h0 o.2) s m args below meth c H locs (hS h - hS h0) (hL h - hL h0) (MQ below (QIA X h0 o.1 o.2) args s (hS o.2 - hS h0) (hL o.2 - hL h0) (aA (eB X))) (F0 m 61 ls []) := by
  refine lv_bipush (v := (-102 : Int32)) C.1 C.2.1 dX11_add_61 (by decide) ?_
  exact x_iretA C rfl rfl hW hZ hkl hE dX11_add_63
set_option maxRecDepth 20000 in
theorem bX11_add_106 {p : Program} {l : Launch} {e : Env} {s : State} {m : MethodId} {args : Array Value} {below : List Frame} {meth : Method} {c : Code} {X : Ec} {h0 : Hp} {o : Int32 × Hp} {F : Nat} (C : Cx X p s m args meth c RX11 cX11_add 7 (some .int) "add") {h : Hp} {x0 : Nat} {x1 : Int32} {x2 : Int32} {x3 : Int32} {H : Heap} {locs : List Loc} (k_x0 : hK h x0 = 11) (hkl : Kl h0 h) (hW : Wx X h H) (hZ : va_S (aA (eB X)) s.heap H locs) (ls : Array Slot) (hl : lv_has ls 7 [(0, .ref x0), (1, .int x1), (2, .int x2), (3, .int x3)]) (hE : sX11_add_106 F h x0 x1 x2 x3 = some o) : W p l e (rmA 4 139 h0 o.2) s m args below meth c H locs (hS h - hS h0) (hL h - hL h0) (MQ below (QIA X h0 o.1 o.2) args s (hS o.2 - hS h0) (hL o.2 - hL h0) (aA (eB X))) (F0 m 106 ls []) := by
  refine lv_aload_n C.1 C.2.1 dX11_add_106 rfl (lv_at hl 0 rfl) ?_
  obtain ⟨r_1, er_1, hE⟩ := cl_e hE
  refine gf_X11_114 C hW k_x0 er_1 dX11_add_107 (fun k_r_1 => ?_)
  refine lv_iload_n C.1 C.2.1 dX11_add_110 rfl (lv_at hl 1 rfl) ?_
  refine lv_sipush (v := (301 : Int32)) C.1 C.2.1 dX11_add_111 (by decide) ?_
  refine lv_imul C.1 C.2.1 dX11_add_114 ?_
  refine lv_iload_n C.1 C.2.1 dX11_add_115 rfl (lv_at hl 3 rfl) ?_
  refine lv_iadd C.1 C.2.1 dX11_add_116 ?_
  refine lv_iload_n C.1 C.2.1 dX11_add_117 rfl (lv_at hl 2 rfl) ?_
  obtain ⟨g_2, hE⟩ := gd_e hE
  obtain ⟨h_3, eh_3, hE⟩ := nm_e2 hE
  refine y_iast C hW hZ k_r_1 g_2 eh_3 dX11_add_118 (fun _ _ hW km hZ => ?_)
  replace hkl := hkl.tr km.l
  refine x_wc km ?_
  replace k_x0 := km.at k_x0 (by decide)
  refine lv_aload_n C.1 C.2.1 dX11_add_119 rfl (lv_at hl 0 rfl) ?_
  obtain ⟨r_4, er_4, hE⟩ := cl_e hE
  refine gf_X11_117 C hW k_x0 er_4 dX11_add_120 (fun k_r_4 => ?_)
  refine lv_iload_n C.1 C.2.1 dX11_add_123 rfl (lv_at hl 1 rfl) ?_
  refine lv_iload_n C.1 C.2.1 dX11_add_124 rfl (lv_at hl 3 rfl) ?_
  refine lv_iconst (v := (1 : Int32)) C.1 C.2.1 dX11_add_125 (by decide) ?_
  refine lv_iadd C.1 C.2.1 dX11_add_126 ?_
  obtain ⟨g_5, hE⟩ := gd_e hE
  obtain ⟨h_6, eh_6, hE⟩ := nm_e2 hE
  refine y_iast C hW hZ k_r_4 g_5 eh_6 dX11_add_127 (fun _ _ hW km hZ => ?_)
  replace hkl := hkl.tr km.l
  refine x_wc km ?_
  replace k_x0 := km.at k_x0 (by decide)
  refine lv_iload_n C.1 C.2.1 dX11_add_128 rfl (lv_at hl 3 rfl) ?_
  refine lv_iconst (v := (1 : Int32)) C.1 C.2.1 dX11_add_129 (by decide) ?_
  refine lv_iadd C.1 C.2.1 dX11_add_130 ?_
  exact x_iretA C rfl rfl hW hZ hkl hE dX11_add_131
set_option maxRecDepth 20000 in
theorem bX11_add_91 {p : Program} {l : Launch} {e : Env} {s : State} {m : MethodId} {args : Array Value} {below : List Frame} {meth : Method} {c : Code} {X : Ec} {h0 : Hp} {o : Int32 × Hp} {F : Nat} (C : Cx X p s m args meth c RX11 cX11_add 7 (some .int) "add") {h : Hp} {x0 : Nat} {x1 : Int32} {x2 : Int32} {x3 : Int32} {x6 : Nat} {H : Heap} {locs : List Loc} (k_x0 : hK h x0 = 11) (k_x6 : hK h x6 = 3) (hkl : Kl h0 h) (hW : Wx X h H) (hZ : va_S (aA (eB X)) s.heap H locs) (ls : Array Slot) (hl : lv_has ls 7 [(0, .ref x0), (1, .int x1), (2, .int x2), (3, .int x3), (6, .ref x6)]) (hE : sX11_add_91 F h x0 x1 x2 x3 x6 = some o) : W p l e (rmA 4 139 h0 o.2) s m args below meth c H locs (hS h - hS h0) (hL h - hL h0) (MQ below (QIA X h0 o.1 o.2) args s (hS o.2 - hS h0) (hL o.2 - hL h0) (aA (eB X))) (F0 m 91 ls []) := by
  refine lv_aload_n C.1 C.2.1 dX11_add_91 rfl (lv_at hl 0 rfl) ?_
  obtain ⟨r_1, er_1, hE⟩ := cl_e hE
  refine gf_X11_50 C hW k_x0 er_1 dX11_add_92 (fun k_r_1 => ?_)
  refine lv_aload C.1 C.2.1 dX11_add_95 (lv_at hl 4 rfl) ?_
  refine lv_aload_n C.1 C.2.1 dX11_add_97 rfl (lv_at hl 0 rfl) ?_
  obtain ⟨r_2, er_2, hE⟩ := cl_e hE
  refine gf_X11_97 C hW k_x0 er_2 dX11_add_98 (fun k_r_2 => ?_)
  refine lv_iload_n C.1 C.2.1 dX11_add_101 rfl (lv_at hl 2 rfl) ?_
  obtain ⟨g_3, hE⟩ := gd_e hE
  refine y_iald C hW k_r_2 g_3 dX11_add_102 ?_
  obtain ⟨o_4, eo_4, hE⟩ := cl_e hE
  have m1 := moX5_make eo_4
  have m2 := moX11_add_106 hE
  refine x_kV (o := o_4) (z_runV (As := [.ref x6, .int (hI h r_2 x2.toNatClampNeg)]) (rest := []) C (ct_X5_make l X F k_r_1 k_x6 eo_4) cw_X11_279 hW hZ k_r_1 (by decide) rfl rfl rfl hl.1 (Nat.le_of_ble_eq_true rfl) rfl dX11_add_103 ⟨Nat.le_of_ble_eq_true rfl, Nat.le_of_ble_eq_true rfl⟩ (rm_ok0 hkl m1 m2)) hZ (fun _ _ hW km hZ => ?_)
  replace hkl := hkl.tr km.l
  refine x_wc km ?_
  replace k_x0 := km.at k_x0 (by decide)
  replace k_x6 := km.at k_x6 (by decide)
  exact bX11_add_106 C k_x0 hkl hW hZ _ (lv_sub hl [0, 1, 2, 3] rfl) hE
set_option maxRecDepth 20000 in
theorem bX11_add_82 {p : Program} {l : Launch} {e : Env} {s : State} {m : MethodId} {args : Array Value} {below : List Frame} {meth : Method} {c : Code} {X : Ec} {h0 : Hp} {o : Int32 × Hp} {F : Nat} (C : Cx X p s m args meth c RX11 cX11_add 7 (some .int) "add") {h : Hp} {x0 : Nat} {x1 : Int32} {x2 : Int32} {x3 : Int32} {x4 : Nat} {t0 : Nat} {H : Heap} {locs : List Loc} (k_x0 : hK h x0 = 11) (k_x4 : hK h x4 = 3) (k_t0 : hK h t0 = 3) (hkl : Kl h0 h) (hW : Wx X h H) (hZ : va_S (aA (eB X)) s.heap H locs) (ls : Array Slot) (hl : lv_has ls 7 [(0, .ref x0), (1, .int x1), (2, .int x2), (3, .int x3), (4, .ref x4)]) (hE : sX11_add_82 F h x0 x1 x2 x3 x4 t0 = some o) : W p l e (rmA 4 139 h0 o.2) s m args below meth c H locs (hS h - hS h0) (hL h - hL h0) (MQ below (QIA X h0 o.1 o.2) args s (hS o.2 - hS h0) (hL o.2 - hL h0) (aA (eB X))) (F0 m 82 ls [.ref t0]) := by
  refine lv_astore (lv' := [(6, .ref t0), (0, .ref x0), (1, .int x1), (2, .int x2), (3, .int x3), (4, .ref x4)]) C.1 C.2.1 dX11_add_82 hl (by decide) rfl (fun ls hl => ?_)
  refine lv_aload C.1 C.2.1 dX11_add_84 (lv_at hl 0 rfl) ?_
  refine lv_aload C.1 C.2.1 dX11_add_86 (lv_at hl 5 rfl) ?_
  obtain ⟨o_1, eo_1, hE⟩ := cl_e hE
  have m1 := moX3_copyFrom eo_1
  have m2 := moX11_add_91 hE
  refine x_kV (o := o_1) (z_runV (As := [.ref x4]) (rest := []) C (ct_X3_copyFrom l X F k_t0 k_x4 eo_1) cw_X11_325 hW hZ k_t0 (by decide) rfl rfl rfl hl.1 (Nat.le_of_ble_eq_true rfl) rfl dX11_add_88 ⟨Nat.le_of_ble_eq_true rfl, Nat.le_of_ble_eq_true rfl⟩ (rm_ok0 hkl m1 m2)) hZ (fun _ _ hW km hZ => ?_)
  replace hkl := hkl.tr km.l
  refine x_wc km ?_
  replace k_t0 := km.at k_t0 (by decide)
  replace k_x0 := km.at k_x0 (by decide)
  replace k_x4 := km.at k_x4 (by decide)
  exact bX11_add_91 C k_x0 k_t0 hkl hW hZ _ (lv_sub hl [1, 2, 3, 4, 0] rfl) hE
set_option maxRecDepth 20000 in
theorem bX11_add_49 {p : Program} {l : Launch} {e : Env} {s : State} {m : MethodId} {args : Array Value} {below : List Frame} {meth : Method} {c : Code} {X : Ec} {h0 : Hp} {o : Int32 × Hp} {F : Nat} (C : Cx X p s m args meth c RX11 cX11_add 7 (some .int) "add") {h : Hp} {x0 : Nat} {x1 : Int32} {x2 : Int32} {x3 : Int32} {x4 : Nat} {t0 : Int32} {H : Heap} {locs : List Loc} (k_x0 : hK h x0 = 11) (k_x4 : hK h x4 = 3) (hkl : Kl h0 h) (hW : Wx X h H) (hZ : va_S (aA (eB X)) s.heap H locs) (ls : Array Slot) (hl : lv_has ls 7 [(0, .ref x0), (1, .int x1), (2, .int x2), (3, .int x3), (4, .ref x4)]) (hE : sX11_add_49 F h x0 x1 x2 x3 x4 t0 = some o) : W p l e (rmA 4 139 h0 o.2) s m args below meth c H locs (hS h - hS h0) (hL h - hL h0) (MQ below (QIA X h0 o.1 o.2) args s (hS o.2 - hS h0) (hL o.2 - hL h0) (aA (eB X))) (F0 m 49 ls [.int t0]) := by
  refine lv_istore (lv' := [(5, .int t0), (0, .ref x0), (1, .int x1), (2, .int x2), (3, .int x3), (4, .ref x4)]) C.1 C.2.1 dX11_add_49 hl (by decide) rfl (fun ls hl => ?_)
  refine lv_iload_n C.1 C.2.1 dX11_add_51 rfl (lv_at hl 3 rfl) ?_
  refine lv_if_lt (tgt := 61) C.1 C.2.1 dX11_add_52 (by decide) (fun c_1 => ?_) (fun c_1 => ?_)
  · have hE := br_p hE c_1
    exact bX11_add_61 C hkl hW hZ _ (lv_sub hl [] rfl) hE
  · have hE := br_n hE c_1
    refine lv_iload_n C.1 C.2.1 dX11_add_55 rfl (lv_at hl 3 rfl) ?_
    refine lv_iload C.1 C.2.1 dX11_add_56 (lv_at hl 0 rfl) ?_
    refine lv_icmp_lt (tgt := 64) C.1 C.2.1 dX11_add_58 (by decide) (fun c_2 => ?_) (fun c_2 => ?_)
    · have hE := br_p hE c_2
      refine lv_iload_n C.1 C.2.1 dX11_add_64 rfl (lv_at hl 4 rfl) ?_
      refine lv_sipush (v := (300 : Int32)) C.1 C.2.1 dX11_add_65 (by decide) ?_
      refine lv_icmp_lt (tgt := 74) C.1 C.2.1 dX11_add_68 (by decide) (fun c_3 => ?_) (fun c_3 => ?_)
      · have hE := br_p hE c_3
        refine lv_aload_n C.1 C.2.1 dX11_add_74 rfl (lv_at hl 1 rfl) ?_
        refine lv_iload_n C.1 C.2.1 dX11_add_75 rfl (lv_at hl 2 rfl) ?_
        refine lv_iload_n C.1 C.2.1 dX11_add_76 rfl (lv_at hl 4 rfl) ?_
        refine lv_iconst (v := (1 : Int32)) C.1 C.2.1 dX11_add_77 (by decide) ?_
        refine lv_iadd C.1 C.2.1 dX11_add_78 ?_
        obtain ⟨o_4, eo_4, hE⟩ := cl_e hE
        have m1 := moX11_page eo_4
        have m2 := moX11_add_82 hE
        refine x_kRA (o := o_4) hkl (z_runV (As := [.int x1, .int (x3 + (1 : Int32))]) (rest := []) C (ct_X11_page l X F k_x0 eo_4) cw_X11_321 hW hZ k_x0 (by decide) rfl rfl rfl hl.1 (Nat.le_of_ble_eq_true rfl) rfl dX11_add_79 ⟨Nat.le_of_ble_eq_true rfl, Nat.le_of_ble_eq_true rfl⟩ (rm_ok hkl m1 m2)) hZ (fun _ _ hW km k_o_4_1 hZ => ?_)
        replace hkl := hkl.tr km
        replace k_x0 := km.at k_x0 (by decide)
        replace k_x4 := km.at k_x4 (by decide)
        exact bX11_add_82 C k_x0 k_x4 k_o_4_1 hkl hW hZ _ (lv_sub hl [1, 2, 3, 4, 5] rfl) hE
      · have hE := br_n hE c_3
        refine lv_bipush (v := (-104 : Int32)) C.1 C.2.1 dX11_add_71 (by decide) ?_
        exact x_iretA C rfl rfl hW hZ hkl hE dX11_add_73
    · have hE := br_n hE c_2
      exact bX11_add_61 C hkl hW hZ _ (lv_sub hl [] rfl) hE
set_option maxRecDepth 20000 in
theorem bX11_add_31 {p : Program} {l : Launch} {e : Env} {s : State} {m : MethodId} {args : Array Value} {below : List Frame} {meth : Method} {c : Code} {X : Ec} {h0 : Hp} {o : Int32 × Hp} {F : Nat} (C : Cx X p s m args meth c RX11 cX11_add 7 (some .int) "add") {h : Hp} {x0 : Nat} {x1 : Int32} {x2 : Int32} {x3 : Int32} {t0 : Nat} {H : Heap} {locs : List Loc} (k_x0 : hK h x0 = 11) (k_t0 : hK h t0 = 3) (hkl : Kl h0 h) (hW : Wx X h H) (hZ : va_S (aA (eB X)) s.heap H locs) (ls : Array Slot) (hl : lv_has ls 7 [(0, .ref x0), (1, .int x1), (2, .int x2), (3, .int x3)]) (hE : sX11_add_31 F h x0 x1 x2 x3 t0 = some o) : W p l e (rmA 4 139 h0 o.2) s m args below meth c H locs (hS h - hS h0) (hL h - hL h0) (MQ below (QIA X h0 o.1 o.2) args s (hS o.2 - hS h0) (hL o.2 - hL h0) (aA (eB X))) (F0 m 31 ls [.ref t0]) := by
  refine lv_astore (lv' := [(4, .ref t0), (0, .ref x0), (1, .int x1), (2, .int x2), (3, .int x3)]) C.1 C.2.1 dX11_add_31 hl (by decide) rfl (fun ls hl => ?_)
  refine lv_aload_n C.1 C.2.1 dX11_add_33 rfl (lv_at hl 1 rfl) ?_
  obtain ⟨r_1, er_1, hE⟩ := cl_e hE
  refine gf_X11_50 C hW k_x0 er_1 dX11_add_34 (fun k_r_1 => ?_)
  refine lv_aload C.1 C.2.1 dX11_add_37 (lv_at hl 0 rfl) ?_
  refine lv_aload_n C.1 C.2.1 dX11_add_39 rfl (lv_at hl 1 rfl) ?_
  obtain ⟨r_2, er_2, hE⟩ := cl_e hE
  refine gf_X11_97 C hW k_x0 er_2 dX11_add_40 (fun k_r_2 => ?_)
  refine lv_sipush (v := (4096 : Int32)) C.1 C.2.1 dX11_add_43 (by decide) ?_
  obtain ⟨o_3, eo_3, hE⟩ := cl_e hE
  have m1 := moX5_collect eo_3
  have m2 := moX11_add_49 hE
  refine x_kI (o := o_3) (z_runV (As := [.ref t0, .ref r_2, .int (4096 : Int32)]) (rest := []) C (ct_X5_collect l X F k_r_1 k_t0 k_r_2 eo_3) cw_X11_329 hW hZ k_r_1 (by decide) rfl rfl rfl hl.1 (Nat.le_of_ble_eq_true rfl) rfl dX11_add_46 ⟨Nat.le_of_ble_eq_true rfl, Nat.le_of_ble_eq_true rfl⟩ (rm_ok0 hkl m1 m2)) hZ (fun _ _ hW km hZ => ?_)
  replace hkl := hkl.tr km.l
  refine x_wc km ?_
  replace k_t0 := km.at k_t0 (by decide)
  replace k_x0 := km.at k_x0 (by decide)
  exact bX11_add_49 C k_x0 k_t0 hkl hW hZ _ (lv_sub hl [1, 2, 3, 4, 0] rfl) hE
set_option maxRecDepth 20000 in
theorem bX11_add_4 {p : Program} {l : Launch} {e : Env} {s : State} {m : MethodId} {args : Array Value} {below : List Frame} {meth : Method} {c : Code} {X : Ec} {h0 : Hp} {o : Int32 × Hp} {F : Nat} (C : Cx X p s m args meth c RX11 cX11_add 7 (some .int) "add") {h : Hp} {x0 : Nat} {x1 : Int32} {x2 : Int32} {t0 : Int32} {H : Heap} {locs : List Loc} (k_x0 : hK h x0 = 11) (hkl : Kl h0 h) (hW : Wx X h H) (hZ : va_S (aA (eB X)) s.heap H locs) (ls : Array Slot) (hl : lv_has ls 7 [(0, .ref x0), (1, .int x1), (2, .int x2)]) (hE : sX11_add_4 F h x0 x1 x2 t0 = some o) : W p l e (rmA 4 139 h0 o.2) s m args below meth c H locs (hS h - hS h0) (hL h - hL h0) (MQ below (QIA X h0 o.1 o.2) args s (hS o.2 - hS h0) (hL o.2 - hL h0) (aA (eB X))) (F0 m 4 ls [.int t0]) := by
  refine lv_if_ne (tgt := 10) C.1 C.2.1 dX11_add_4 (by decide) (fun c_1 => ?_) (fun c_1 => ?_)
  · have hE := br_n hE c_1
    refine lv_aload_n C.1 C.2.1 dX11_add_10 rfl (lv_at hl 0 rfl) ?_
    obtain ⟨r_2, er_2, hE⟩ := cl_e hE
    refine gf_X11_117 C hW k_x0 er_2 dX11_add_11 (fun k_r_2 => ?_)
    refine lv_iload_n C.1 C.2.1 dX11_add_14 rfl (lv_at hl 1 rfl) ?_
    obtain ⟨g_3, hE⟩ := gd_e hE
    refine y_iald C hW k_r_2 g_3 dX11_add_15 ?_
    obtain ⟨v_4, ev_4, hE⟩ := nm_e2 hE
    refine x_nmI ev_4 ?_
    refine lv_istore_n (lv' := [(3, .int v_4), (0, .ref x0), (1, .int x1), (2, .int x2)]) C.1 C.2.1 dX11_add_16 rfl hl (by decide) rfl (fun ls hl => ?_)
    refine lv_iload_n C.1 C.2.1 dX11_add_17 rfl (lv_at hl 0 rfl) ?_
    refine lv_iconst (v := (-1 : Int32)) C.1 C.2.1 dX11_add_18 (by decide) ?_
    refine lv_icmp_ne (tgt := 25) C.1 C.2.1 dX11_add_19 (by decide) (fun c_5 => ?_) (fun c_5 => ?_)
    · have hE := br_n hE c_5
      refine lv_aload_n C.1 C.2.1 dX11_add_25 rfl (lv_at hl 1 rfl) ?_
      refine lv_iload_n C.1 C.2.1 dX11_add_26 rfl (lv_at hl 2 rfl) ?_
      refine lv_iload_n C.1 C.2.1 dX11_add_27 rfl (lv_at hl 0 rfl) ?_
      obtain ⟨o_6, eo_6, hE⟩ := cl_e hE
      have m1 := moX11_page eo_6
      have m2 := moX11_add_31 hE
      refine x_kRA (o := o_6) hkl (z_runV (As := [.int x1, .int v_4]) (rest := []) C (ct_X11_page l X F k_x0 eo_6) cw_X11_321 hW hZ k_x0 (by decide) rfl rfl rfl hl.1 (Nat.le_of_ble_eq_true rfl) rfl dX11_add_28 ⟨Nat.le_of_ble_eq_true rfl, Nat.le_of_ble_eq_true rfl⟩ (rm_ok hkl m1 m2)) hZ (fun _ _ hW km k_o_6_1 hZ => ?_)
      replace hkl := hkl.tr km
      replace k_x0 := km.at k_x0 (by decide)
      exact bX11_add_31 C k_x0 k_o_6_1 hkl hW hZ _ (lv_sub hl [1, 2, 3, 0] rfl) hE
    · have hE := br_p hE c_5
      refine lv_bipush (v := (-102 : Int32)) C.1 C.2.1 dX11_add_22 (by decide) ?_
      exact x_iretA C rfl rfl hW hZ hkl hE dX11_add_24
  · have hE := br_p hE c_1
    refine lv_bipush (v := (-101 : Int32)) C.1 C.2.1 dX11_add_7 (by decide) ?_
    exact x_iretA C rfl rfl hW hZ hkl hE dX11_add_9
set_option maxRecDepth 20000 in
theorem ct_X11_add (l : Launch) (X : Ec) (F : Nat) {h : Hp} {x0 : Nat} {x1 : Int32} {x2 : Int32} {o : Int32 × Hp} (k_x0 : hK h x0 = 11) (hE : sX11_add F h x0 x1 x2 = some o) : MetIA l yX11_add cX11_add 7 (some .int) 4 139 X [.ref x0, .int x1, .int x2] h o := by
  refine x_metA (oh := o.2) (by decide) (Nat.le_of_ble_eq_true rfl) ?_
  intro p e s m below meth c ls C hl hW hZ
  have hl : lv_has ls 7 [(0, .ref x0), (1, .int x1), (2, .int x2)] := hl
  have hkl : Kl h h := Kl.rf h
  refine lv_iload_n C.1 C.2.1 dX11_add_0 rfl (lv_at hl 1 rfl) ?_
  obtain ⟨o_1, eo_1, hE⟩ := cl_e hE
  have m1 := moX11_isGame eo_1
  have m2 := moX11_add_4 hE
  refine x_kI (o := o_1) (z_runS (As := [.int x1]) (rest := []) C (ct_X11_isGame l X eo_1) cw_X11_318 hW hZ rfl hl.1 (Nat.le_of_ble_eq_true rfl) rfl dX11_add_1 ⟨Nat.le_of_ble_eq_true rfl, Nat.le_of_ble_eq_true rfl⟩ (rm_ok0 hkl m1 m2)) hZ (fun _ _ hW km hZ => ?_)
  replace hkl := hkl.tr km.l
  refine x_wc km ?_
  replace k_x0 := km.at k_x0 (by decide)
  exact bX11_add_4 C k_x0 hkl hW hZ _ (lv_sub hl [0, 1, 2] rfl) hE
