set_option maxRecDepth 100000 in
theorem ms_135 : Cond.selects RX15 yX15_isPosition yX15_isPosition ∈ W0 := w0_in (List.mem_append_left _ (List.mem_of_getElem? (i := 135) rfl)) rfl
set_option maxRecDepth 100000 in
theorem ms_134 : Cond.selects RX15 yX15_freePlace yX15_freePlace ∈ W0 := w0_in (List.mem_append_left _ (List.mem_of_getElem? (i := 134) rfl)) rfl
set_option maxRecDepth 100000 in
theorem m_2337 : Cond.methodLink RX15 402 yX15_freePlace ∈ W0 := w0_in (List.mem_append_right _ (List.mem_of_getElem? (i := 2337) rfl)) rfl
set_option maxRecDepth 100000 in
theorem m_2339 : Cond.instanceMethod yX15_freePlace ∈ W0 := w0_in (List.mem_append_right _ (List.mem_of_getElem? (i := 2339) rfl)) rfl
set_option maxRecDepth 100000 in
theorem m_2340 : Cond.code yX15_freePlace cX15_freePlace 2 (some .int) ∈ W0 := w0_in (List.mem_append_right _ (List.mem_of_getElem? (i := 2340) rfl)) rfl
set_option maxRecDepth 100000 in
theorem m_2341 : Cond.methodLink RX15 475 yX15_isPosition ∈ W0 := w0_in (List.mem_append_right _ (List.mem_of_getElem? (i := 2341) rfl)) rfl
set_option maxRecDepth 100000 in
theorem m_2343 : Cond.instanceMethod yX15_isPosition ∈ W0 := w0_in (List.mem_append_right _ (List.mem_of_getElem? (i := 2343) rfl)) rfl
set_option maxRecDepth 100000 in
theorem m_2344 : Cond.code yX15_isPosition cX15_isPosition 4 (some .boolean) ∈ W0 := w0_in (List.mem_append_right _ (List.mem_of_getElem? (i := 2344) rfl)) rfl
section
variable {p : Program} {l : Launch} {e : Env} {R : Room} {s : State} {m : MethodId} {args : Array Value} {below : List Frame} {meth : Method} {c : Code} {H : Heap} {locs : List Loc} {cells slots : Nat} {Q : State → Prop}
variable {cc : ByteArray} {pc : Nat} {ls : Array Slot} {rest : List Value} {X : Ec} {h h1 : Hp} {nL : Nat} {rt : Option FieldType} {mn : String}
theorem gf_X15_265 {a r : Nat} (C : Cx X p s m args meth c RX15 cc nL rt mn) (hW : Wx X h H) (ha : hK h a = 15) (hr : hR h a 21 = some r) (hdg : decode cc pc = .ok (.getfield 265, 3)) (kk : hK h r = 12 → W p l e R s m args below meth c H locs cells slots Q (F0 m (pc + 3) ls (.ref r :: rest))) : W p l e R s m args below meth c H locs cells slots Q (F0 m pc ls (.ref a :: rest)) :=
  y_getr C hW ha i_X15 (by decide) rfl (by decide) m_2132 rfl rfl hr hdg kk
end
theorem cw_X15_475 : cwd RX15 475 yX15_isPosition cX15_isPosition 4 (some .boolean) false 3 := ⟨m_2344, m_2341, m_19, ⟨m_2343, ms_135⟩, by decide, by decide, by decide +kernel⟩
theorem cw_X15_402 : cwd RX15 402 yX15_freePlace cX15_freePlace 2 (some .int) false 0 := ⟨m_2340, m_2337, m_19, ⟨m_2339, ms_134⟩, by decide, by decide, by decide +kernel⟩
theorem dX15_position_0 : decode cX15_position 0 = .ok (.aload_n 0, 1) := by decide +kernel
theorem dX15_position_1 : decode cX15_position 1 = .ok (.getfield 1, 3) := by decide +kernel
theorem dX15_position_4 : decode cX15_position 4 = .ok (.istore_n 1, 1) := by decide +kernel
theorem dX15_position_5 : decode cX15_position 5 = .ok (.aload_n 0, 1) := by decide +kernel
theorem dX15_position_6 : decode cX15_position 6 = .ok (.iconst 0, 1) := by decide +kernel
theorem dX15_position_7 : decode cX15_position 7 = .ok (.putfield 1, 3) := by decide +kernel
theorem dX15_position_10 : decode cX15_position 10 = .ok (.aload_n 0, 1) := by decide +kernel
theorem dX15_position_11 : decode cX15_position 11 = .ok (.invokevirtual 402, 3) := by decide +kernel
theorem dX15_position_14 : decode cX15_position 14 = .ok (.iconst (-1), 1) := by decide +kernel
theorem dX15_position_15 : decode cX15_position 15 = .ok (.if_icmp .ne 6, 3) := by decide +kernel
theorem dX15_position_18 : decode cX15_position 18 = .ok (.bipush (-104), 2) := by decide +kernel
theorem dX15_position_20 : decode cX15_position 20 = .ok (.ireturn, 1) := by decide +kernel
theorem dX15_position_21 : decode cX15_position 21 = .ok (.aload_n 0, 1) := by decide +kernel
theorem dX15_position_22 : decode cX15_position 22 = .ok (.aload_n 0, 1) := by decide +kernel
theorem dX15_position_23 : decode cX15_position 23 = .ok (.getfield 7, 3) := by decide +kernel
theorem dX15_position_26 : decode cX15_position 26 = .ok (.iload_n 1, 1) := by decide +kernel
theorem dX15_position_27 : decode cX15_position 27 = .ok (.aload_n 0, 1) := by decide +kernel
theorem dX15_position_28 : decode cX15_position 28 = .ok (.getfield 265, 3) := by decide +kernel
theorem dX15_position_31 : decode cX15_position 31 = .ok (.invokevirtual 475, 3) := by decide +kernel
theorem dX15_position_34 : decode cX15_position 34 = .ok (.ifCond .ne 12, 3) := by decide +kernel
theorem dX15_position_37 : decode cX15_position 37 = .ok (.sipush (-200), 3) := by decide +kernel
theorem dX15_position_40 : decode cX15_position 40 = .ok (.aload_n 0, 1) := by decide +kernel
theorem dX15_position_41 : decode cX15_position 41 = .ok (.getfield 412, 3) := by decide +kernel
theorem dX15_position_44 : decode cX15_position 44 = .ok (.isub, 1) := by decide +kernel
theorem dX15_position_45 : decode cX15_position 45 = .ok (.ireturn, 1) := by decide +kernel
theorem dX15_position_46 : decode cX15_position 46 = .ok (.aload_n 0, 1) := by decide +kernel
theorem dX15_position_47 : decode cX15_position 47 = .ok (.aload_n 0, 1) := by decide +kernel
theorem dX15_position_48 : decode cX15_position 48 = .ok (.getfield 265, 3) := by decide +kernel
theorem dX15_position_51 : decode cX15_position 51 = .ok (.invokevirtual 479, 3) := by decide +kernel
set_option maxRecDepth 20000 in
theorem moX15_position_34 {o : Int32 × Hp} {F : Nat} {h : Hp} {x0 : Nat} {t0 : Int32} (hE : sX15_position_34 F h x0 t0 = some o) : Le h o.2 := by
  rcases br_e hE with ⟨_, hE⟩ | ⟨_, hE⟩
  · exact le_some2 hE
  · obtain ⟨r_2, er_2, hE⟩ := cl_e hE
    cases hE
set_option maxRecDepth 20000 in
theorem moX15_position_14 {o : Int32 × Hp} {F : Nat} {h : Hp} {x0 : Nat} {x1 : Int32} {t0 : Int32} (hE : sX15_position_14 F h x0 x1 t0 = some o) : Le h o.2 := by
  rcases br_e hE with ⟨_, hE⟩ | ⟨_, hE⟩
  · exact le_some2 hE
  · obtain ⟨r_2, er_2, hE⟩ := cl_e hE
    obtain ⟨r_3, er_3, hE⟩ := cl_e hE
    obtain ⟨o_4, eo_4, hE⟩ := cl_e hE
    refine (moX15_isPosition eo_4).tr ?_
    exact moX15_position_34 hE
set_option maxRecDepth 20000 in
theorem moX15_position {o : Int32 × Hp} {F : Nat} {h : Hp} {x0 : Nat} (hE : sX15_position F h x0 = some o) : Le h o.2 := by
  obtain ⟨v_1, ev_1, hE⟩ := nm_e2 hE
  obtain ⟨h_2, eh_2, hE⟩ := nm_e2 hE
  refine (le_I eh_2).tr ?_
  obtain ⟨o_3, eo_3, hE⟩ := cl_e hE
  refine (moX15_freePlace eo_3).tr ?_
  exact moX15_position_14 hE
set_option maxRecDepth 20000 in
theorem bX15_position_34 {p : Program} {l : Launch} {e : Env} {s : State} {m : MethodId} {args : Array Value} {below : List Frame} {meth : Method} {c : Code} {X : Ec} {h0 : Hp} {o : Int32 × Hp} {F : Nat} (C : Cx X p s m args meth c RX15 cX15_position 3 (some .int) "position") {h : Hp} {x0 : Nat} {t0 : Int32} {H : Heap} {locs : List Loc} (k_x0 : hK h x0 = 15) (hkl : Kl h0 h) (hW : Wx X h H) (hZ : va_S (aA (eB X)) s.heap H locs) (ls : Array Slot) (hl : lv_has ls 3 [(0, .ref x0)]) (hE : sX15_position_34 F h x0 t0 = some o) : W p l e (rmA 4 91 h0 o.2) s m args below meth c H locs (hS h - hS h0) (hL h - hL h0) (MQ below (QIA X h0 o.1 o.2) args s (hS o.2 - hS h0) (hL o.2 - hL h0) (aA (eB X))) (F0 m 34 ls [.int t0]) := by
  refine lv_if_ne (tgt := 46) C.1 C.2.1 dX15_position_34 (by decide) (fun c_1 => ?_) (fun c_1 => ?_)
  · have hE := br_n hE c_1
    refine lv_aload_n C.1 C.2.1 dX15_position_46 rfl (lv_at hl 0 rfl) ?_
    refine lv_aload_n C.1 C.2.1 dX15_position_47 rfl (lv_at hl 0 rfl) ?_
    obtain ⟨r_2, er_2, hE⟩ := cl_e hE
    refine gf_X15_265 C hW k_x0 er_2 dX15_position_48 (fun k_r_2 => ?_)
    cases hE
  · have hE := br_p hE c_1
    refine lv_sipush (v := (-200 : Int32)) C.1 C.2.1 dX15_position_37 (by decide) ?_
    refine lv_aload_n C.1 C.2.1 dX15_position_40 rfl (lv_at hl 0 rfl) ?_
    refine gf_X15_412 C hW k_x0 dX15_position_41 ?_
    refine lv_isub C.1 C.2.1 dX15_position_44 ?_
    exact x_iretA C rfl rfl hW hZ hkl hE dX15_position_45
set_option maxRecDepth 20000 in
theorem bX15_position_14 {p : Program} {l : Launch} {e : Env} {s : State} {m : MethodId} {args : Array Value} {below : List Frame} {meth : Method} {c : Code} {X : Ec} {h0 : Hp} {o : Int32 × Hp} {F : Nat} (C : Cx X p s m args meth c RX15 cX15_position 3 (some .int) "position") {h : Hp} {x0 : Nat} {x1 : Int32} {t0 : Int32} {H : Heap} {locs : List Loc} (k_x0 : hK h x0 = 15) (hkl : Kl h0 h) (hW : Wx X h H) (hZ : va_S (aA (eB X)) s.heap H locs) (ls : Array Slot) (hl : lv_has ls 3 [(0, .ref x0), (1, .int x1)]) (hE : sX15_position_14 F h x0 x1 t0 = some o) : W p l e (rmA 4 91 h0 o.2) s m args below meth c H locs (hS h - hS h0) (hL h - hL h0) (MQ below (QIA X h0 o.1 o.2) args s (hS o.2 - hS h0) (hL o.2 - hL h0) (aA (eB X))) (F0 m 14 ls [.int t0]) := by
  refine lv_iconst (v := (-1 : Int32)) C.1 C.2.1 dX15_position_14 (by decide) ?_
  refine lv_icmp_ne (tgt := 21) C.1 C.2.1 dX15_position_15 (by decide) (fun c_1 => ?_) (fun c_1 => ?_)
  · have hE := br_n hE c_1
    refine lv_aload_n C.1 C.2.1 dX15_position_21 rfl (lv_at hl 0 rfl) ?_
    refine lv_aload_n C.1 C.2.1 dX15_position_22 rfl (lv_at hl 0 rfl) ?_
    obtain ⟨r_2, er_2, hE⟩ := cl_e hE
    refine gf_X15_7 C hW k_x0 er_2 dX15_position_23 (fun k_r_2 => ?_)
    refine lv_iload_n C.1 C.2.1 dX15_position_26 rfl (lv_at hl 1 rfl) ?_
    refine lv_aload_n C.1 C.2.1 dX15_position_27 rfl (lv_at hl 0 rfl) ?_
    obtain ⟨r_3, er_3, hE⟩ := cl_e hE
    refine gf_X15_265 C hW k_x0 er_3 dX15_position_28 (fun k_r_3 => ?_)
    obtain ⟨o_4, eo_4, hE⟩ := cl_e hE
    have m1 := moX15_isPosition eo_4
    have m2 := moX15_position_34 hE
    refine x_kI (o := o_4) (z_runV (As := [.ref r_2, .int x1, .ref r_3]) (rest := []) C (ct_X15_isPosition l X F k_x0 k_r_2 k_r_3 eo_4) cw_X15_475 hW hZ k_x0 (by decide) rfl rfl rfl hl.1 (Nat.le_of_ble_eq_true rfl) rfl dX15_position_31 ⟨Nat.le_of_ble_eq_true rfl, Nat.le_of_ble_eq_true rfl⟩ (rm_ok0 hkl m1 m2)) hZ (fun _ _ hW km hZ => ?_)
    replace hkl := hkl.tr km.l
    refine x_wc km ?_
    replace k_x0 := km.at k_x0 (by decide)
    exact bX15_position_34 C k_x0 hkl hW hZ _ (lv_sub hl [0] rfl) hE
  · have hE := br_p hE c_1
    refine lv_bipush (v := (-104 : Int32)) C.1 C.2.1 dX15_position_18 (by decide) ?_
    exact x_iretA C rfl rfl hW hZ hkl hE dX15_position_20
set_option maxRecDepth 20000 in
theorem ct_X15_position (l : Launch) (X : Ec) (F : Nat) {h : Hp} {x0 : Nat} {o : Int32 × Hp} (k_x0 : hK h x0 = 15) (hE : sX15_position F h x0 = some o) : MetIA l yX15_position cX15_position 3 (some .int) 4 91 X [.ref x0] h o := by
  refine x_metA (oh := o.2) (by decide) (Nat.le_of_ble_eq_true rfl) ?_
  intro p e s m below meth c ls C hl hW hZ
  have hl : lv_has ls 3 [(0, .ref x0)] := hl
  have hkl : Kl h h := Kl.rf h
  refine lv_aload_n C.1 C.2.1 dX15_position_0 rfl (lv_at hl 0 rfl) ?_
  refine gf_X15_1 C hW k_x0 dX15_position_1 ?_
  obtain ⟨v_1, ev_1, hE⟩ := nm_e2 hE
  refine x_nmI ev_1 ?_
  refine lv_istore_n (lv' := [(1, .int v_1), (0, .ref x0)]) C.1 C.2.1 dX15_position_4 rfl hl (by decide) rfl (fun ls hl => ?_)
  refine lv_aload_n C.1 C.2.1 dX15_position_5 rfl (lv_at hl 1 rfl) ?_
  refine lv_iconst (v := (0 : Int32)) C.1 C.2.1 dX15_position_6 (by decide) ?_
  obtain ⟨h_2, eh_2, hE⟩ := nm_e2 hE
  refine pf_X15_1 C hW hZ k_x0 eh_2 dX15_position_7 (fun _ _ hW km hZ => ?_)
  replace hkl := hkl.tr km.l
  refine x_wc km ?_
  replace k_x0 := km.at k_x0 (by decide)
  refine lv_aload_n C.1 C.2.1 dX15_position_10 rfl (lv_at hl 1 rfl) ?_
  obtain ⟨o_3, eo_3, hE⟩ := cl_e hE
  have m1 := moX15_freePlace eo_3
  have m2 := moX15_position_14 hE
  refine x_kI (o := o_3) (z_runV (As := []) (rest := []) C (ct_X15_freePlace l X F k_x0 eo_3) cw_X15_402 hW hZ k_x0 (by decide) rfl rfl rfl hl.1 (Nat.le_of_ble_eq_true rfl) rfl dX15_position_11 ⟨Nat.le_of_ble_eq_true rfl, Nat.le_of_ble_eq_true rfl⟩ (rm_ok0 hkl m1 m2)) hZ (fun _ _ hW km hZ => ?_)
  replace hkl := hkl.tr km.l
  refine x_wc km ?_
  replace k_x0 := km.at k_x0 (by decide)
  exact bX15_position_14 C k_x0 hkl hW hZ _ (lv_sub hl [1, 0] rfl) hE
theorem dX15_has_0 : decode cX15_has 0 = .ok (.iload_n 1, 1) := by decide +kernel
theorem dX15_has_1 : decode cX15_has 1 = .ok (.ifCond .lt 22, 3) := by decide +kernel
theorem dX15_has_4 : decode cX15_has 4 = .ok (.iload_n 1, 1) := by decide +kernel
theorem dX15_has_5 : decode cX15_has 5 = .ok (.bipush 60, 2) := by decide +kernel
theorem dX15_has_7 : decode cX15_has 7 = .ok (.if_icmp .ge 16, 3) := by decide +kernel
theorem dX15_has_10 : decode cX15_has 10 = .ok (.aload_n 0, 1) := by decide +kernel
theorem dX15_has_11 : decode cX15_has 11 = .ok (.getfield 261, 3) := by decide +kernel
theorem dX15_has_14 : decode cX15_has 14 = .ok (.iload_n 1, 1) := by decide +kernel
theorem dX15_has_15 : decode cX15_has 15 = .ok (.iaload, 1) := by decide +kernel
theorem dX15_has_16 : decode cX15_has 16 = .ok (.ifCond .le 7, 3) := by decide +kernel
theorem dX15_has_19 : decode cX15_has 19 = .ok (.iconst 1, 1) := by decide +kernel
theorem dX15_has_20 : decode cX15_has 20 = .ok (.goto 4, 3) := by decide +kernel
theorem dX15_has_23 : decode cX15_has 23 = .ok (.iconst 0, 1) := by decide +kernel
theorem dX15_has_24 : decode cX15_has 24 = .ok (.ireturn, 1) := by decide +kernel
set_option maxRecDepth 20000 in
theorem moX15_has_24 {o : Int32 × Hp} {h : Hp} {t0 : Int32} (hE : sX15_has_24 h  t0 = some o) : Le h o.2 := by
  obtain ⟨g_1, hE⟩ := gd_e hE
  exact le_some2 hE
set_option maxRecDepth 20000 in
theorem moX15_has_23 {o : Int32 × Hp} {h : Hp} (hE : sX15_has_23 h  = some o) : Le h o.2 := by
  exact moX15_has_24 hE
set_option maxRecDepth 20000 in
theorem moX15_has {o : Int32 × Hp} {h : Hp} {x0 : Nat} {x1 : Int32} (hE : sX15_has h x0 x1 = some o) : Le h o.2 := by
  rcases br_e hE with ⟨_, hE⟩ | ⟨_, hE⟩
  · exact moX15_has_23 hE
  · rcases br_e hE with ⟨_, hE⟩ | ⟨_, hE⟩
    · exact moX15_has_23 hE
    · obtain ⟨r_3, er_3, hE⟩ := cl_e hE
      obtain ⟨g_4, hE⟩ := gd_e hE
      rcases br_e hE with ⟨_, hE⟩ | ⟨_, hE⟩
      · exact moX15_has_23 hE
      · exact moX15_has_24 hE
set_option maxRecDepth 20000 in
theorem bX15_has_24 {p : Program} {l : Launch} {e : Env} {s : State} {m : MethodId} {args : Array Value} {below : List Frame} {meth : Method} {c : Code} {X : Ec} {h0 : Hp} {o : Int32 × Hp} (C : Cx X p s m args meth c RX15 cX15_has 2 (some .boolean) "has") {h : Hp} {t0 : Int32} {H : Heap} {locs : List Loc} (hkm : Km h0 h) (hW : Wx X h H) (hZ : va_S (aA (eB X)) s.heap H locs) (ls : Array Slot) (hl : lv_has ls 2 []) (hE : sX15_has_24 h  t0 = some o) : W p l e (rm 0 0) s m args below meth c H locs 0 0 (MQ below (QI X h0 o.1 o.2) args s 0 0 (aA (eB X))) (F0 m 24 ls [.int t0]) := by
  obtain ⟨g_1, hE⟩ := gd_e hE
  exact x_iret C rfl (narB g_1) hW hZ hkm hE dX15_has_24
set_option maxRecDepth 20000 in
theorem bX15_has_23 {p : Program} {l : Launch} {e : Env} {s : State} {m : MethodId} {args : Array Value} {below : List Frame} {meth : Method} {c : Code} {X : Ec} {h0 : Hp} {o : Int32 × Hp} (C : Cx X p s m args meth c RX15 cX15_has 2 (some .boolean) "has") {h : Hp} {H : Heap} {locs : List Loc} (hkm : Km h0 h) (hW : Wx X h H) (hZ : va_S (aA (eB X)) s.heap H locs) (ls : Array Slot) (hl : lv_has ls 2 []) (hE : sX15_has_23 h  = some o) : W p l e (rm 0 0) s m args below meth c H locs 0 0 (MQ below (QI X h0 o.1 o.2) args s 0 0 (aA (eB X))) (F0 m 23 ls []) := by
  refine lv_iconst (v := (0 : Int32)) C.1 C.2.1 dX15_has_23 (by decide) ?_
  exact bX15_has_24 C hkm hW hZ _ (lv_sub hl [] rfl) hE
set_option maxRecDepth 20000 in
theorem ct_X15_has (l : Launch) (X : Ec) {h : Hp} {x0 : Nat} {x1 : Int32} {o : Int32 × Hp} (k_x0 : hK h x0 = 15) (hE : sX15_has h x0 x1 = some o) : MetI l yX15_has cX15_has 2 (some .boolean) 0 0 X [.ref x0, .int x1] h o := by
  refine x_met (by decide) (Nat.le_of_ble_eq_true rfl) ?_
  intro p e s m below meth c ls C hl hW hZ
  have hl : lv_has ls 2 [(0, .ref x0), (1, .int x1)] := hl
  have hkm : Km h h := Km.rf h
  refine lv_iload_n C.1 C.2.1 dX15_has_0 rfl (lv_at hl 1 rfl) ?_
  refine lv_if_lt (tgt := 23) C.1 C.2.1 dX15_has_1 (by decide) (fun c_1 => ?_) (fun c_1 => ?_)
  · have hE := br_p hE c_1
    exact bX15_has_23 C hkm hW hZ _ (lv_sub hl [] rfl) hE
  · have hE := br_n hE c_1
    refine lv_iload_n C.1 C.2.1 dX15_has_4 rfl (lv_at hl 1 rfl) ?_
    refine lv_bipush (v := (60 : Int32)) C.1 C.2.1 dX15_has_5 (by decide) ?_
    refine lv_icmp_ge (tgt := 23) C.1 C.2.1 dX15_has_7 (by decide) (fun c_2 => ?_) (fun c_2 => ?_)
    · have hE := br_p hE c_2
      exact bX15_has_23 C hkm hW hZ _ (lv_sub hl [] rfl) hE
    · have hE := br_n hE c_2
      refine lv_aload_n C.1 C.2.1 dX15_has_10 rfl (lv_at hl 0 rfl) ?_
      obtain ⟨r_3, er_3, hE⟩ := cl_e hE
      refine gf_X15_261 C hW k_x0 er_3 dX15_has_11 (fun k_r_3 => ?_)
      refine lv_iload_n C.1 C.2.1 dX15_has_14 rfl (lv_at hl 1 rfl) ?_
      obtain ⟨g_4, hE⟩ := gd_e hE
      refine y_iald C hW k_r_3 g_4 dX15_has_15 ?_
      refine lv_if_le (tgt := 23) C.1 C.2.1 dX15_has_16 (by decide) (fun c_5 => ?_) (fun c_5 => ?_)
      · have hE := br_p hE c_5
        exact bX15_has_23 C hkm hW hZ _ (lv_sub hl [] rfl) hE
      · have hE := br_n hE c_5
        refine lv_iconst (v := (1 : Int32)) C.1 C.2.1 dX15_has_19 (by decide) ?_
        refine lv_goto (tgt := 24) C.1 C.2.1 dX15_has_20 (by decide) ?_
        exact bX15_has_24 C hkm hW hZ _ (lv_sub hl [] rfl) hE
set_option maxRecDepth 100000 in
theorem ms_160 : Cond.selects RX15 yX15_has yX15_has ∈ W0 := w0_in (List.mem_append_left _ (List.mem_of_getElem? (i := 160) rfl)) rfl
set_option maxRecDepth 100000 in
theorem m_2467 : Cond.methodLink RX15 486 yX15_has ∈ W0 := w0_in (List.mem_append_right _ (List.mem_of_getElem? (i := 2467) rfl)) rfl
set_option maxRecDepth 100000 in
theorem m_2469 : Cond.instanceMethod yX15_has ∈ W0 := w0_in (List.mem_append_right _ (List.mem_of_getElem? (i := 2469) rfl)) rfl
set_option maxRecDepth 100000 in
theorem m_2470 : Cond.code yX15_has cX15_has 2 (some .boolean) ∈ W0 := w0_in (List.mem_append_right _ (List.mem_of_getElem? (i := 2470) rfl)) rfl
theorem cw_X15_486 : cwd RX15 486 yX15_has cX15_has 2 (some .boolean) false 1 := ⟨m_2470, m_2467, m_19, ⟨m_2469, ms_160⟩, by decide, by decide, by decide +kernel⟩
theorem dX15_drop_0 : decode cX15_drop 0 = .ok (.aload_n 0, 1) := by decide +kernel
theorem dX15_drop_1 : decode cX15_drop 1 = .ok (.iload_n 1, 1) := by decide +kernel
theorem dX15_drop_2 : decode cX15_drop 2 = .ok (.invokevirtual 486, 3) := by decide +kernel
theorem dX15_drop_5 : decode cX15_drop 5 = .ok (.ifCond .ne 6, 3) := by decide +kernel
theorem dX15_drop_8 : decode cX15_drop 8 = .ok (.bipush (-102), 2) := by decide +kernel
theorem dX15_drop_10 : decode cX15_drop 10 = .ok (.ireturn, 1) := by decide +kernel
theorem dX15_drop_11 : decode cX15_drop 11 = .ok (.aload_n 0, 1) := by decide +kernel
theorem dX15_drop_12 : decode cX15_drop 12 = .ok (.getfield 261, 3) := by decide +kernel
theorem dX15_drop_15 : decode cX15_drop 15 = .ok (.iload_n 1, 1) := by decide +kernel
theorem dX15_drop_16 : decode cX15_drop 16 = .ok (.iconst 0, 1) := by decide +kernel
theorem dX15_drop_17 : decode cX15_drop 17 = .ok (.iastore, 1) := by decide +kernel
theorem dX15_drop_18 : decode cX15_drop 18 = .ok (.iconst 1, 1) := by decide +kernel
theorem dX15_drop_19 : decode cX15_drop 19 = .ok (.ireturn, 1) := by decide +kernel
set_option maxRecDepth 20000 in
theorem moX15_drop {o : Int32 × Hp} {h : Hp} {x0 : Nat} {x1 : Int32} (hE : sX15_drop h x0 x1 = some o) : Le h o.2 := by
  obtain ⟨o_1, eo_1, hE⟩ := cl_e hE
  refine (moX15_has eo_1).tr ?_
  rcases br_e hE with ⟨_, hE⟩ | ⟨_, hE⟩
  · exact le_some2 hE
  · obtain ⟨r_3, er_3, hE⟩ := cl_e hE
    obtain ⟨g_4, hE⟩ := gd_e hE
    obtain ⟨h_5, eh_5, hE⟩ := nm_e2 hE
    refine (le_I eh_5).tr ?_
    exact le_some2 hE
set_option maxRecDepth 20000 in
theorem ct_X15_drop (l : Launch) (X : Ec) {h : Hp} {x0 : Nat} {x1 : Int32} {o : Int32 × Hp} (k_x0 : hK h x0 = 15) (hE : sX15_drop h x0 x1 = some o) : MetI l yX15_drop cX15_drop 2 (some .int) 1 21 X [.ref x0, .int x1] h o := by
  refine x_met (by decide) (Nat.le_of_ble_eq_true rfl) ?_
  intro p e s m below meth c ls C hl hW hZ
  have hl : lv_has ls 2 [(0, .ref x0), (1, .int x1)] := hl
  have hkm : Km h h := Km.rf h
  refine lv_aload_n C.1 C.2.1 dX15_drop_0 rfl (lv_at hl 0 rfl) ?_
  refine lv_iload_n C.1 C.2.1 dX15_drop_1 rfl (lv_at hl 1 rfl) ?_
  obtain ⟨o_1, eo_1, hE⟩ := cl_e hE
  refine x_kI (o := o_1) (z_runV (As := [.int x1]) (rest := []) C (ct_X15_has l X k_x0 eo_1) cw_X15_486 hW hZ k_x0 (by decide) rfl rfl rfl hl.1 (Nat.le_of_ble_eq_true rfl) rfl dX15_drop_2 ⟨Nat.le_of_ble_eq_true rfl, Nat.le_of_ble_eq_true rfl⟩ ⟨Nat.le_refl _, Nat.le_refl _⟩) hZ (fun _ _ hW km hZ => ?_)
  replace hkm := hkm.tr km
  replace k_x0 := km.at k_x0 (by decide)
  refine lv_if_ne (tgt := 11) C.1 C.2.1 dX15_drop_5 (by decide) (fun c_2 => ?_) (fun c_2 => ?_)
  · have hE := br_n hE c_2
    refine lv_aload_n C.1 C.2.1 dX15_drop_11 rfl (lv_at hl 0 rfl) ?_
    obtain ⟨r_3, er_3, hE⟩ := cl_e hE
    refine gf_X15_261 C hW k_x0 er_3 dX15_drop_12 (fun k_r_3 => ?_)
    refine lv_iload_n C.1 C.2.1 dX15_drop_15 rfl (lv_at hl 1 rfl) ?_
    refine lv_iconst (v := (0 : Int32)) C.1 C.2.1 dX15_drop_16 (by decide) ?_
    obtain ⟨g_4, hE⟩ := gd_e hE
    obtain ⟨h_5, eh_5, hE⟩ := nm_e2 hE
    refine y_iast C hW hZ k_r_3 g_4 eh_5 dX15_drop_17 (fun _ _ hW km hZ => ?_)
    replace hkm := hkm.tr km
    replace k_x0 := km.at k_x0 (by decide)
    refine lv_iconst (v := (1 : Int32)) C.1 C.2.1 dX15_drop_18 (by decide) ?_
    exact x_iret C rfl rfl hW hZ hkm hE dX15_drop_19
  · have hE := br_p hE c_2
    refine lv_bipush (v := (-102 : Int32)) C.1 C.2.1 dX15_drop_8 (by decide) ?_
    exact x_iret C rfl rfl hW hZ hkm hE dX15_drop_10
section
variable {p : Program} {l : Launch} {e : Env} {R : Room} {s : State} {m : MethodId} {args : Array Value} {below : List Frame} {meth : Method} {c : Code} {H : Heap} {locs : List Loc} {cells slots : Nat} {Q : State → Prop}
variable {cc : ByteArray} {pc : Nat} {ls : Array Slot} {rest : List Value} {X : Ec} {h h1 : Hp} {nL : Nat} {rt : Option FieldType} {mn : String}
theorem pf_X15_11 {a : Nat} {v : Int32} (C : Cx X p s m args meth c RX15 cc nL rt mn) (hW : Wx X h H) (hZ : va_S (aA (eB X)) s.heap H locs) (ha : hK h a = 15) (eh : h1 = wI h a 3 v) (hdg : decode cc pc = .ok (.putfield 11, 3)) (kk : ∀ (H1 : Heap) (locs1 : List Loc), Wx X h1 H1 → Km h h1 → va_S (aA (eB X)) s.heap H1 locs1 → W p l e R s m args below meth c H1 locs1 cells slots Q (F0 m (pc + 3) ls rest)) : W p l e R s m args below meth c H locs cells slots Q (F0 m pc ls (.int v :: .ref a :: rest)) :=
  y_puti (ty := .int) C hW hZ ha i_X15 tyX15 tyX15_ok nmX15 (by decide) rfl rfl (by decide) m_2114 rfl (by decide +kernel) rfl rfl rfl eh hdg kk
theorem gf_X15_257 {a r : Nat} (C : Cx X p s m args meth c RX15 cc nL rt mn) (hW : Wx X h H) (ha : hK h a = 15) (hr : hR h a 14 = some r) (hdg : decode cc pc = .ok (.getfield 257, 3)) (kk : hK h r = 21 → W p l e R s m args below meth c H locs cells slots Q (F0 m (pc + 3) ls (.ref r :: rest))) : W p l e R s m args below meth c H locs cells slots Q (F0 m pc ls (.ref a :: rest)) :=
  y_getr C hW ha i_X15 (by decide) rfl (by decide) m_2125 rfl rfl hr hdg kk
end
theorem dX15_write_0 : decode cX15_write 0 = .ok (.aload_n 0, 1) := by decide +kernel
theorem dX15_write_1 : decode cX15_write 1 = .ok (.iload_n 1, 1) := by decide +kernel
theorem dX15_write_2 : decode cX15_write 2 = .ok (.invokevirtual 486, 3) := by decide +kernel
theorem dX15_write_5 : decode cX15_write 5 = .ok (.ifCond .ne 6, 3) := by decide +kernel
theorem dX15_write_8 : decode cX15_write 8 = .ok (.bipush (-102), 2) := by decide +kernel
theorem dX15_write_10 : decode cX15_write 10 = .ok (.ireturn, 1) := by decide +kernel
theorem dX15_write_11 : decode cX15_write 11 = .ok (.aload_n 0, 1) := by decide +kernel
theorem dX15_write_12 : decode cX15_write 12 = .ok (.iconst 0, 1) := by decide +kernel
theorem dX15_write_13 : decode cX15_write 13 = .ok (.putfield 11, 3) := by decide +kernel
theorem dX15_write_16 : decode cX15_write 16 = .ok (.aload_n 0, 1) := by decide +kernel
theorem dX15_write_17 : decode cX15_write 17 = .ok (.aload_n 0, 1) := by decide +kernel
theorem dX15_write_18 : decode cX15_write 18 = .ok (.getfield 257, 3) := by decide +kernel
theorem dX15_write_21 : decode cX15_write 21 = .ok (.iload_n 1, 1) := by decide +kernel
theorem dX15_write_22 : decode cX15_write 22 = .ok (.aaload, 1) := by decide +kernel
set_option maxRecDepth 20000 in
theorem moX15_write {o : Int32 × Hp} {h : Hp} {x0 : Nat} {x1 : Int32} (hE : sX15_write h x0 x1 = some o) : Le h o.2 := by
  obtain ⟨o_1, eo_1, hE⟩ := cl_e hE
  refine (moX15_has eo_1).tr ?_
  rcases br_e hE with ⟨_, hE⟩ | ⟨_, hE⟩
  · exact le_some2 hE
  · obtain ⟨h_3, eh_3, hE⟩ := nm_e2 hE
    refine (le_I eh_3).tr ?_
    obtain ⟨r_4, er_4, hE⟩ := cl_e hE
    cases hE
set_option maxRecDepth 20000 in
theorem ct_X15_write (l : Launch) (X : Ec) {h : Hp} {x0 : Nat} {x1 : Int32} {o : Int32 × Hp} (k_x0 : hK h x0 = 15) (hE : sX15_write h x0 x1 = some o) : MetI l yX15_write cX15_write 2 (some .int) 1 21 X [.ref x0, .int x1] h o := by
  refine x_met (by decide) (Nat.le_of_ble_eq_true rfl) ?_
  intro p e s m below meth c ls C hl hW hZ
  have hl : lv_has ls 2 [(0, .ref x0), (1, .int x1)] := hl
  have hkm : Km h h := Km.rf h
  refine lv_aload_n C.1 C.2.1 dX15_write_0 rfl (lv_at hl 0 rfl) ?_
  refine lv_iload_n C.1 C.2.1 dX15_write_1 rfl (lv_at hl 1 rfl) ?_
  obtain ⟨o_1, eo_1, hE⟩ := cl_e hE
  refine x_kI (o := o_1) (z_runV (As := [.int x1]) (rest := []) C (ct_X15_has l X k_x0 eo_1) cw_X15_486 hW hZ k_x0 (by decide) rfl rfl rfl hl.1 (Nat.le_of_ble_eq_true rfl) rfl dX15_write_2 ⟨Nat.le_of_ble_eq_true rfl, Nat.le_of_ble_eq_true rfl⟩ ⟨Nat.le_refl _, Nat.le_refl _⟩) hZ (fun _ _ hW km hZ => ?_)
  replace hkm := hkm.tr km
  replace k_x0 := km.at k_x0 (by decide)
  refine lv_if_ne (tgt := 11) C.1 C.2.1 dX15_write_5 (by decide) (fun c_2 => ?_) (fun c_2 => ?_)
  · have hE := br_n hE c_2
    refine lv_aload_n C.1 C.2.1 dX15_write_11 rfl (lv_at hl 0 rfl) ?_
    refine lv_iconst (v := (0 : Int32)) C.1 C.2.1 dX15_write_12 (by decide) ?_
    obtain ⟨h_3, eh_3, hE⟩ := nm_e2 hE
    refine pf_X15_11 C hW hZ k_x0 eh_3 dX15_write_13 (fun _ _ hW km hZ => ?_)
    replace hkm := hkm.tr km
    replace k_x0 := km.at k_x0 (by decide)
    refine lv_aload_n C.1 C.2.1 dX15_write_16 rfl (lv_at hl 0 rfl) ?_
    refine lv_aload_n C.1 C.2.1 dX15_write_17 rfl (lv_at hl 0 rfl) ?_
    obtain ⟨r_4, er_4, hE⟩ := cl_e hE
    refine gf_X15_257 C hW k_x0 er_4 dX15_write_18 (fun k_r_4 => ?_)
    refine lv_iload_n C.1 C.2.1 dX15_write_21 rfl (lv_at hl 1 rfl) ?_
    cases hE
  · have hE := br_p hE c_2
    refine lv_bipush (v := (-102 : Int32)) C.1 C.2.1 dX15_write_8 (by decide) ?_
    exact x_iret C rfl rfl hW hZ hkm hE dX15_write_10
theorem dX15_same_0 : decode cX15_same 0 = .ok (.aload_n 0, 1) := by decide +kernel
theorem dX15_same_1 : decode cX15_same 1 = .ok (.iload_n 1, 1) := by decide +kernel
theorem dX15_same_2 : decode cX15_same 2 = .ok (.invokevirtual 486, 3) := by decide +kernel
theorem dX15_same_5 : decode cX15_same 5 = .ok (.ifCond .eq 34, 3) := by decide +kernel
theorem dX15_same_8 : decode cX15_same 8 = .ok (.aload_n 0, 1) := by decide +kernel
theorem dX15_same_9 : decode cX15_same 9 = .ok (.iload_n 2, 1) := by decide +kernel
theorem dX15_same_10 : decode cX15_same 10 = .ok (.invokevirtual 486, 3) := by decide +kernel
theorem dX15_same_13 : decode cX15_same 13 = .ok (.ifCond .eq 26, 3) := by decide +kernel
theorem dX15_same_16 : decode cX15_same 16 = .ok (.aload_n 0, 1) := by decide +kernel
theorem dX15_same_17 : decode cX15_same 17 = .ok (.aload_n 0, 1) := by decide +kernel
theorem dX15_same_18 : decode cX15_same 18 = .ok (.getfield 257, 3) := by decide +kernel
theorem dX15_same_21 : decode cX15_same 21 = .ok (.iload_n 1, 1) := by decide +kernel
theorem dX15_same_22 : decode cX15_same 22 = .ok (.aaload, 1) := by decide +kernel
theorem dX15_same_39 : decode cX15_same 39 = .ok (.iconst 0, 1) := by decide +kernel
theorem dX15_same_40 : decode cX15_same 40 = .ok (.ireturn, 1) := by decide +kernel
set_option maxRecDepth 20000 in
theorem moX15_same_40 {o : Int32 × Hp} {h : Hp} {t0 : Int32} (hE : sX15_same_40 h  t0 = some o) : Le h o.2 := by
  obtain ⟨g_1, hE⟩ := gd_e hE
  exact le_some2 hE
set_option maxRecDepth 20000 in
theorem moX15_same_39 {o : Int32 × Hp} {h : Hp} (hE : sX15_same_39 h  = some o) : Le h o.2 := by
  exact moX15_same_40 hE
set_option maxRecDepth 20000 in
theorem moX15_same {o : Int32 × Hp} {h : Hp} {x0 : Nat} {x1 : Int32} {x2 : Int32} (hE : sX15_same h x0 x1 x2 = some o) : Le h o.2 := by
  obtain ⟨o_1, eo_1, hE⟩ := cl_e hE
  refine (moX15_has eo_1).tr ?_
  rcases br_e hE with ⟨_, hE⟩ | ⟨_, hE⟩
  · exact moX15_same_39 hE
  · obtain ⟨o_3, eo_3, hE⟩ := cl_e hE
    refine (moX15_has eo_3).tr ?_
    rcases br_e hE with ⟨_, hE⟩ | ⟨_, hE⟩
    · exact moX15_same_39 hE
    · obtain ⟨r_5, er_5, hE⟩ := cl_e hE
      cases hE
set_option maxRecDepth 20000 in
theorem bX15_same_40 {p : Program} {l : Launch} {e : Env} {s : State} {m : MethodId} {args : Array Value} {below : List Frame} {meth : Method} {c : Code} {X : Ec} {h0 : Hp} {o : Int32 × Hp} (C : Cx X p s m args meth c RX15 cX15_same 3 (some .boolean) "same") {h : Hp} {t0 : Int32} {H : Heap} {locs : List Loc} (hkm : Km h0 h) (hW : Wx X h H) (hZ : va_S (aA (eB X)) s.heap H locs) (ls : Array Slot) (hl : lv_has ls 3 []) (hE : sX15_same_40 h  t0 = some o) : W p l e (rm 1 21) s m args below meth c H locs 0 0 (MQ below (QI X h0 o.1 o.2) args s 0 0 (aA (eB X))) (F0 m 40 ls [.int t0]) := by
  obtain ⟨g_1, hE⟩ := gd_e hE
  exact x_iret C rfl (narB g_1) hW hZ hkm hE dX15_same_40
set_option maxRecDepth 20000 in
theorem bX15_same_39 {p : Program} {l : Launch} {e : Env} {s : State} {m : MethodId} {args : Array Value} {below : List Frame} {meth : Method} {c : Code} {X : Ec} {h0 : Hp} {o : Int32 × Hp} (C : Cx X p s m args meth c RX15 cX15_same 3 (some .boolean) "same") {h : Hp} {H : Heap} {locs : List Loc} (hkm : Km h0 h) (hW : Wx X h H) (hZ : va_S (aA (eB X)) s.heap H locs) (ls : Array Slot) (hl : lv_has ls 3 []) (hE : sX15_same_39 h  = some o) : W p l e (rm 1 21) s m args below meth c H locs 0 0 (MQ below (QI X h0 o.1 o.2) args s 0 0 (aA (eB X))) (F0 m 39 ls []) := by
  refine lv_iconst (v := (0 : Int32)) C.1 C.2.1 dX15_same_39 (by decide) ?_
  exact bX15_same_40 C hkm hW hZ _ (lv_sub hl [] rfl) hE
set_option maxRecDepth 20000 in
theorem ct_X15_same (l : Launch) (X : Ec) {h : Hp} {x0 : Nat} {x1 : Int32} {x2 : Int32} {o : Int32 × Hp} (k_x0 : hK h x0 = 15) (hE : sX15_same h x0 x1 x2 = some o) : MetI l yX15_same cX15_same 3 (some .boolean) 1 21 X [.ref x0, .int x1, .int x2] h o := by
  refine x_met (by decide) (Nat.le_of_ble_eq_true rfl) ?_
  intro p e s m below meth c ls C hl hW hZ
  have hl : lv_has ls 3 [(0, .ref x0), (1, .int x1), (2, .int x2)] := hl
  have hkm : Km h h := Km.rf h
  refine lv_aload_n C.1 C.2.1 dX15_same_0 rfl (lv_at hl 0 rfl) ?_
  refine lv_iload_n C.1 C.2.1 dX15_same_1 rfl (lv_at hl 1 rfl) ?_
  obtain ⟨o_1, eo_1, hE⟩ := cl_e hE
  refine x_kI (o := o_1) (z_runV (As := [.int x1]) (rest := []) C (ct_X15_has l X k_x0 eo_1) cw_X15_486 hW hZ k_x0 (by decide) rfl rfl rfl hl.1 (Nat.le_of_ble_eq_true rfl) rfl dX15_same_2 ⟨Nat.le_of_ble_eq_true rfl, Nat.le_of_ble_eq_true rfl⟩ ⟨Nat.le_refl _, Nat.le_refl _⟩) hZ (fun _ _ hW km hZ => ?_)
  replace hkm := hkm.tr km
  replace k_x0 := km.at k_x0 (by decide)
  refine lv_if_eq (tgt := 39) C.1 C.2.1 dX15_same_5 (by decide) (fun c_2 => ?_) (fun c_2 => ?_)
  · have hE := br_p hE c_2
    exact bX15_same_39 C hkm hW hZ _ (lv_sub hl [] rfl) hE
  · have hE := br_n hE c_2
    refine lv_aload_n C.1 C.2.1 dX15_same_8 rfl (lv_at hl 0 rfl) ?_
    refine lv_iload_n C.1 C.2.1 dX15_same_9 rfl (lv_at hl 2 rfl) ?_
    obtain ⟨o_3, eo_3, hE⟩ := cl_e hE
    refine x_kI (o := o_3) (z_runV (As := [.int x2]) (rest := []) C (ct_X15_has l X k_x0 eo_3) cw_X15_486 hW hZ k_x0 (by decide) rfl rfl rfl hl.1 (Nat.le_of_ble_eq_true rfl) rfl dX15_same_10 ⟨Nat.le_of_ble_eq_true rfl, Nat.le_of_ble_eq_true rfl⟩ ⟨Nat.le_refl _, Nat.le_refl _⟩) hZ (fun _ _ hW km hZ => ?_)
    replace hkm := hkm.tr km
    replace k_x0 := km.at k_x0 (by decide)
    refine lv_if_eq (tgt := 39) C.1 C.2.1 dX15_same_13 (by decide) (fun c_4 => ?_) (fun c_4 => ?_)
    · have hE := br_p hE c_4
      exact bX15_same_39 C hkm hW hZ _ (lv_sub hl [] rfl) hE
    · have hE := br_n hE c_4
      refine lv_aload_n C.1 C.2.1 dX15_same_16 rfl (lv_at hl 0 rfl) ?_
      refine lv_aload_n C.1 C.2.1 dX15_same_17 rfl (lv_at hl 0 rfl) ?_
      obtain ⟨r_5, er_5, hE⟩ := cl_e hE
      refine gf_X15_257 C hW k_x0 er_5 dX15_same_18 (fun k_r_5 => ?_)
      refine lv_iload_n C.1 C.2.1 dX15_same_21 rfl (lv_at hl 1 rfl) ?_
      cases hE
section
variable {p : Program} {l : Launch} {e : Env} {R : Room} {s : State} {m : MethodId} {args : Array Value} {below : List Frame} {meth : Method} {c : Code} {H : Heap} {locs : List Loc} {cells slots : Nat} {Q : State → Prop}
variable {cc : ByteArray} {pc : Nat} {ls : Array Slot} {rest : List Value} {X : Ec} {h h1 : Hp} {nL : Nat} {rt : Option FieldType} {mn : String}
theorem gf_X15_384 {a : Nat} (C : Cx X p s m args meth c RX15 cc nL rt mn) (hW : Wx X h H) (ha : hK h a = 15) (hdg : decode cc pc = .ok (.getfield 384, 3)) (kk : W p l e R s m args below meth c H locs cells slots Q (F0 m (pc + 3) ls (.int (hI h a 13) :: rest))) : W p l e R s m args below meth c H locs cells slots Q (F0 m pc ls (.ref a :: rest)) :=
  y_geti C hW ha i_X15 (by decide) rfl (by decide) m_2124 rfl hdg kk
end
theorem dX15_at_0 : decode cX15_at 0 = .ok (.iload_n 2, 1) := by decide +kernel
theorem dX15_at_1 : decode cX15_at 1 = .ok (.ifCond .lt 11, 3) := by decide +kernel
theorem dX15_at_4 : decode cX15_at 4 = .ok (.iload_n 2, 1) := by decide +kernel
theorem dX15_at_5 : decode cX15_at 5 = .ok (.aload_n 0, 1) := by decide +kernel
theorem dX15_at_6 : decode cX15_at 6 = .ok (.getfield 384, 3) := by decide +kernel
theorem dX15_at_9 : decode cX15_at 9 = .ok (.if_icmp .lt 8, 3) := by decide +kernel
theorem dX15_at_12 : decode cX15_at 12 = .ok (.bipush (-101), 2) := by decide +kernel
theorem dX15_at_14 : decode cX15_at 14 = .ok (.goto 47, 3) := by decide +kernel
theorem dX15_at_17 : decode cX15_at 17 = .ok (.aload_n 0, 1) := by decide +kernel
theorem dX15_at_18 : decode cX15_at 18 = .ok (.iload_n 1, 1) := by decide +kernel
theorem dX15_at_19 : decode cX15_at 19 = .ok (.invokevirtual 486, 3) := by decide +kernel
theorem dX15_at_22 : decode cX15_at 22 = .ok (.ifCond .ne 8, 3) := by decide +kernel
theorem dX15_at_25 : decode cX15_at 25 = .ok (.bipush (-102), 2) := by decide +kernel
theorem dX15_at_27 : decode cX15_at 27 = .ok (.goto 34, 3) := by decide +kernel
theorem dX15_at_30 : decode cX15_at 30 = .ok (.aload_n 0, 1) := by decide +kernel
theorem dX15_at_31 : decode cX15_at 31 = .ok (.getfield 257, 3) := by decide +kernel
theorem dX15_at_34 : decode cX15_at 34 = .ok (.iload_n 1, 1) := by decide +kernel
theorem dX15_at_35 : decode cX15_at 35 = .ok (.aaload, 1) := by decide +kernel
theorem dX15_at_61 : decode cX15_at 61 = .ok (.ireturn, 1) := by decide +kernel
set_option maxRecDepth 20000 in
theorem moX15_at_61 {o : Int32 × Hp} {h : Hp} {t0 : Int32} (hE : sX15_at_61 h  t0 = some o) : Le h o.2 := by
  exact le_some2 hE
set_option maxRecDepth 20000 in
theorem moX15_at_12 {o : Int32 × Hp} {h : Hp} (hE : sX15_at_12 h  = some o) : Le h o.2 := by
  exact moX15_at_61 hE
set_option maxRecDepth 20000 in
theorem moX15_at {o : Int32 × Hp} {h : Hp} {x0 : Nat} {x1 : Int32} {x2 : Int32} (hE : sX15_at h x0 x1 x2 = some o) : Le h o.2 := by
  rcases br_e hE with ⟨_, hE⟩ | ⟨_, hE⟩
  · exact moX15_at_12 hE
  · rcases br_e hE with ⟨_, hE⟩ | ⟨_, hE⟩
    · obtain ⟨o_3, eo_3, hE⟩ := cl_e hE
      refine (moX15_has eo_3).tr ?_
      rcases br_e hE with ⟨_, hE⟩ | ⟨_, hE⟩
      · exact moX15_at_61 hE
      · obtain ⟨r_5, er_5, hE⟩ := cl_e hE
        cases hE
    · exact moX15_at_12 hE
set_option maxRecDepth 20000 in
theorem bX15_at_61 {p : Program} {l : Launch} {e : Env} {s : State} {m : MethodId} {args : Array Value} {below : List Frame} {meth : Method} {c : Code} {X : Ec} {h0 : Hp} {o : Int32 × Hp} (C : Cx X p s m args meth c RX15 cX15_at 3 (some .int) "at") {h : Hp} {t0 : Int32} {H : Heap} {locs : List Loc} (hkm : Km h0 h) (hW : Wx X h H) (hZ : va_S (aA (eB X)) s.heap H locs) (ls : Array Slot) (hl : lv_has ls 3 []) (hE : sX15_at_61 h  t0 = some o) : W p l e (rm 1 21) s m args below meth c H locs 0 0 (MQ below (QI X h0 o.1 o.2) args s 0 0 (aA (eB X))) (F0 m 61 ls [.int t0]) := by
  exact x_iret C rfl rfl hW hZ hkm hE dX15_at_61
set_option maxRecDepth 20000 in
theorem bX15_at_12 {p : Program} {l : Launch} {e : Env} {s : State} {m : MethodId} {args : Array Value} {below : List Frame} {meth : Method} {c : Code} {X : Ec} {h0 : Hp} {o : Int32 × Hp} (C : Cx X p s m args meth c RX15 cX15_at 3 (some .int) "at") {h : Hp} {H : Heap} {locs : List Loc} (hkm : Km h0 h) (hW : Wx X h H) (hZ : va_S (aA (eB X)) s.heap H locs) (ls : Array Slot) (hl : lv_has ls 3 []) (hE : sX15_at_12 h  = some o) : W p l e (rm 1 21) s m args below meth c H locs 0 0 (MQ below (QI X h0 o.1 o.2) args s 0 0 (aA (eB X))) (F0 m 12 ls []) := by
  refine lv_bipush (v := (-101 : Int32)) C.1 C.2.1 dX15_at_12 (by decide) ?_
  refine lv_goto (tgt := 61) C.1 C.2.1 dX15_at_14 (by decide) ?_
  exact bX15_at_61 C hkm hW hZ _ (lv_sub hl [] rfl) hE
set_option maxRecDepth 20000 in
theorem ct_X15_at (l : Launch) (X : Ec) {h : Hp} {x0 : Nat} {x1 : Int32} {x2 : Int32} {o : Int32 × Hp} (k_x0 : hK h x0 = 15) (hE : sX15_at h x0 x1 x2 = some o) : MetI l yX15_at cX15_at 3 (some .int) 1 21 X [.ref x0, .int x1, .int x2] h o := by
  refine x_met (by decide) (Nat.le_of_ble_eq_true rfl) ?_
  intro p e s m below meth c ls C hl hW hZ
  have hl : lv_has ls 3 [(0, .ref x0), (1, .int x1), (2, .int x2)] := hl
  have hkm : Km h h := Km.rf h
  refine lv_iload_n C.1 C.2.1 dX15_at_0 rfl (lv_at hl 2 rfl) ?_
  refine lv_if_lt (tgt := 12) C.1 C.2.1 dX15_at_1 (by decide) (fun c_1 => ?_) (fun c_1 => ?_)
  · have hE := br_p hE c_1
    exact bX15_at_12 C hkm hW hZ _ (lv_sub hl [] rfl) hE
  · have hE := br_n hE c_1
    refine lv_iload_n C.1 C.2.1 dX15_at_4 rfl (lv_at hl 2 rfl) ?_
    refine lv_aload_n C.1 C.2.1 dX15_at_5 rfl (lv_at hl 0 rfl) ?_
    refine gf_X15_384 C hW k_x0 dX15_at_6 ?_
    refine lv_icmp_lt (tgt := 17) C.1 C.2.1 dX15_at_9 (by decide) (fun c_2 => ?_) (fun c_2 => ?_)
    · have hE := br_p hE c_2
      refine lv_aload_n C.1 C.2.1 dX15_at_17 rfl (lv_at hl 0 rfl) ?_
      refine lv_iload_n C.1 C.2.1 dX15_at_18 rfl (lv_at hl 1 rfl) ?_
      obtain ⟨o_3, eo_3, hE⟩ := cl_e hE
      refine x_kI (o := o_3) (z_runV (As := [.int x1]) (rest := []) C (ct_X15_has l X k_x0 eo_3) cw_X15_486 hW hZ k_x0 (by decide) rfl rfl rfl hl.1 (Nat.le_of_ble_eq_true rfl) rfl dX15_at_19 ⟨Nat.le_of_ble_eq_true rfl, Nat.le_of_ble_eq_true rfl⟩ ⟨Nat.le_refl _, Nat.le_refl _⟩) hZ (fun _ _ hW km hZ => ?_)
      replace hkm := hkm.tr km
      replace k_x0 := km.at k_x0 (by decide)
      refine lv_if_ne (tgt := 30) C.1 C.2.1 dX15_at_22 (by decide) (fun c_4 => ?_) (fun c_4 => ?_)
      · have hE := br_n hE c_4
        refine lv_aload_n C.1 C.2.1 dX15_at_30 rfl (lv_at hl 0 rfl) ?_
        obtain ⟨r_5, er_5, hE⟩ := cl_e hE
        refine gf_X15_257 C hW k_x0 er_5 dX15_at_31 (fun k_r_5 => ?_)
        refine lv_iload_n C.1 C.2.1 dX15_at_34 rfl (lv_at hl 1 rfl) ?_
        cases hE
      · have hE := br_p hE c_4
        refine lv_bipush (v := (-102 : Int32)) C.1 C.2.1 dX15_at_25 (by decide) ?_
        refine lv_goto (tgt := 61) C.1 C.2.1 dX15_at_27 (by decide) ?_
        exact bX15_at_61 C hkm hW hZ _ (lv_sub hl [] rfl) hE
    · have hE := br_n hE c_2
      exact bX15_at_12 C hkm hW hZ _ (lv_sub hl [] rfl) hE
theorem dX15_figure_0 : decode cX15_figure 0 = .ok (.iload_n 2, 1) := by decide +kernel
theorem dX15_figure_1 : decode cX15_figure 1 = .ok (.ifCond .lt 9, 3) := by decide +kernel
theorem dX15_figure_4 : decode cX15_figure 4 = .ok (.iload_n 2, 1) := by decide +kernel
theorem dX15_figure_5 : decode cX15_figure 5 = .ok (.bipush 8, 2) := by decide +kernel
theorem dX15_figure_7 : decode cX15_figure 7 = .ok (.if_icmp .le 6, 3) := by decide +kernel
theorem dX15_figure_10 : decode cX15_figure 10 = .ok (.bipush (-101), 2) := by decide +kernel
theorem dX15_figure_12 : decode cX15_figure 12 = .ok (.ireturn, 1) := by decide +kernel
theorem dX15_figure_13 : decode cX15_figure 13 = .ok (.aload_n 0, 1) := by decide +kernel
theorem dX15_figure_14 : decode cX15_figure 14 = .ok (.iload_n 1, 1) := by decide +kernel
theorem dX15_figure_15 : decode cX15_figure 15 = .ok (.invokevirtual 486, 3) := by decide +kernel
theorem dX15_figure_18 : decode cX15_figure 18 = .ok (.ifCond .ne 6, 3) := by decide +kernel
theorem dX15_figure_21 : decode cX15_figure 21 = .ok (.bipush (-102), 2) := by decide +kernel
theorem dX15_figure_23 : decode cX15_figure 23 = .ok (.ireturn, 1) := by decide +kernel
theorem dX15_figure_24 : decode cX15_figure 24 = .ok (.aload_n 0, 1) := by decide +kernel
theorem dX15_figure_25 : decode cX15_figure 25 = .ok (.getfield 257, 3) := by decide +kernel
theorem dX15_figure_28 : decode cX15_figure 28 = .ok (.iload_n 1, 1) := by decide +kernel
theorem dX15_figure_29 : decode cX15_figure 29 = .ok (.aaload, 1) := by decide +kernel
set_option maxRecDepth 20000 in
theorem moX15_figure_10 {o : Int32 × Hp} {F : Nat} {h : Hp} (hE : sX15_figure_10 F h  = some o) : Le h o.2 := by
  exact le_some2 hE
set_option maxRecDepth 20000 in
theorem moX15_figure_18 {o : Int32 × Hp} {F : Nat} {h : Hp} {x0 : Nat} {x1 : Int32} {x2 : Int32} {t0 : Int32} (hE : sX15_figure_18 F h x0 x1 x2 t0 = some o) : Le h o.2 := by
  rcases br_e hE with ⟨_, hE⟩ | ⟨_, hE⟩
  · exact le_some2 hE
  · obtain ⟨r_2, er_2, hE⟩ := cl_e hE
    cases hE
set_option maxRecDepth 20000 in
theorem moX15_figure {o : Int32 × Hp} {F : Nat} {h : Hp} {x0 : Nat} {x1 : Int32} {x2 : Int32} (hE : sX15_figure F h x0 x1 x2 = some o) : Le h o.2 := by
  rcases br_e hE with ⟨_, hE⟩ | ⟨_, hE⟩
  · exact moX15_figure_10 hE
  · rcases br_e hE with ⟨_, hE⟩ | ⟨_, hE⟩
    · obtain ⟨o_3, eo_3, hE⟩ := cl_e hE
      refine (moX15_has eo_3).tr ?_
      exact moX15_figure_18 hE
    · exact moX15_figure_10 hE
set_option maxRecDepth 20000 in
theorem bX15_figure_10 {p : Program} {l : Launch} {e : Env} {s : State} {m : MethodId} {args : Array Value} {below : List Frame} {meth : Method} {c : Code} {X : Ec} {h0 : Hp} {o : Int32 × Hp} {F : Nat} (C : Cx X p s m args meth c RX15 cX15_figure 6 (some .int) "figure") {h : Hp} {H : Heap} {locs : List Loc} (hkl : Kl h0 h) (hW : Wx X h H) (hZ : va_S (aA (eB X)) s.heap H locs) (ls : Array Slot) (hl : lv_has ls 6 []) (hE : sX15_figure_10 F h  = some o) : W p l e (rmA 1 21 h0 o.2) s m args below meth c H locs (hS h - hS h0) (hL h - hL h0) (MQ below (QIA X h0 o.1 o.2) args s (hS o.2 - hS h0) (hL o.2 - hL h0) (aA (eB X))) (F0 m 10 ls []) := by
  refine lv_bipush (v := (-101 : Int32)) C.1 C.2.1 dX15_figure_10 (by decide) ?_
  exact x_iretA C rfl rfl hW hZ hkl hE dX15_figure_12
set_option maxRecDepth 20000 in
theorem bX15_figure_18 {p : Program} {l : Launch} {e : Env} {s : State} {m : MethodId} {args : Array Value} {below : List Frame} {meth : Method} {c : Code} {X : Ec} {h0 : Hp} {o : Int32 × Hp} {F : Nat} (C : Cx X p s m args meth c RX15 cX15_figure 6 (some .int) "figure") {h : Hp} {x0 : Nat} {x1 : Int32} {x2 : Int32} {t0 : Int32} {H : Heap} {locs : List Loc} (k_x0 : hK h x0 = 15) (hkl : Kl h0 h) (hW : Wx X h H) (hZ : va_S (aA (eB X)) s.heap H locs) (ls : Array Slot) (hl : lv_has ls 6 [(0, .ref x0), (1, .int x1), (2, .int x2)]) (hE : sX15_figure_18 F h x0 x1 x2 t0 = some o) : W p l e (rmA 1 21 h0 o.2) s m args below meth c H locs (hS h - hS h0) (hL h - hL h0) (MQ below (QIA X h0 o.1 o.2) args s (hS o.2 - hS h0) (hL o.2 - hL h0) (aA (eB X))) (F0 m 18 ls [.int t0]) := by
  refine lv_if_ne (tgt := 24) C.1 C.2.1 dX15_figure_18 (by decide) (fun c_1 => ?_) (fun c_1 => ?_)
  · have hE := br_n hE c_1
    refine lv_aload_n C.1 C.2.1 dX15_figure_24 rfl (lv_at hl 0 rfl) ?_
    obtain ⟨r_2, er_2, hE⟩ := cl_e hE
    refine gf_X15_257 C hW k_x0 er_2 dX15_figure_25 (fun k_r_2 => ?_)
    refine lv_iload_n C.1 C.2.1 dX15_figure_28 rfl (lv_at hl 1 rfl) ?_
    cases hE
  · have hE := br_p hE c_1
    refine lv_bipush (v := (-102 : Int32)) C.1 C.2.1 dX15_figure_21 (by decide) ?_
    exact x_iretA C rfl rfl hW hZ hkl hE dX15_figure_23
set_option maxRecDepth 20000 in
theorem ct_X15_figure (l : Launch) (X : Ec) (F : Nat) {h : Hp} {x0 : Nat} {x1 : Int32} {x2 : Int32} {o : Int32 × Hp} (k_x0 : hK h x0 = 15) (hE : sX15_figure F h x0 x1 x2 = some o) : MetIA l yX15_figure cX15_figure 6 (some .int) 1 21 X [.ref x0, .int x1, .int x2] h o := by
  refine x_metA (oh := o.2) (by decide) (Nat.le_of_ble_eq_true rfl) ?_
  intro p e s m below meth c ls C hl hW hZ
  have hl : lv_has ls 6 [(0, .ref x0), (1, .int x1), (2, .int x2)] := hl
  have hkl : Kl h h := Kl.rf h
  refine lv_iload_n C.1 C.2.1 dX15_figure_0 rfl (lv_at hl 2 rfl) ?_
  refine lv_if_lt (tgt := 10) C.1 C.2.1 dX15_figure_1 (by decide) (fun c_1 => ?_) (fun c_1 => ?_)
  · have hE := br_p hE c_1
    exact bX15_figure_10 C hkl hW hZ _ (lv_sub hl [] rfl) hE
  · have hE := br_n hE c_1
    refine lv_iload_n C.1 C.2.1 dX15_figure_4 rfl (lv_at hl 2 rfl) ?_
    refine lv_bipush (v := (8 : Int32)) C.1 C.2.1 dX15_figure_5 (by decide) ?_
    refine lv_icmp_le (tgt := 13) C.1 C.2.1 dX15_figure_7 (by decide) (fun c_2 => ?_) (fun c_2 => ?_)
    · have hE := br_p hE c_2
      refine lv_aload_n C.1 C.2.1 dX15_figure_13 rfl (lv_at hl 0 rfl) ?_
      refine lv_iload_n C.1 C.2.1 dX15_figure_14 rfl (lv_at hl 1 rfl) ?_
      obtain ⟨o_3, eo_3, hE⟩ := cl_e hE
      have m1 := moX15_has eo_3
      have m2 := moX15_figure_18 hE
      refine x_kI (o := o_3) (z_runV (As := [.int x1]) (rest := []) C (ct_X15_has l X k_x0 eo_3) cw_X15_486 hW hZ k_x0 (by decide) rfl rfl rfl hl.1 (Nat.le_of_ble_eq_true rfl) rfl dX15_figure_15 ⟨Nat.le_of_ble_eq_true rfl, Nat.le_of_ble_eq_true rfl⟩ (rm_ok0 hkl m1 m2)) hZ (fun _ _ hW km hZ => ?_)
      replace hkl := hkl.tr km.l
      refine x_wc km ?_
      replace k_x0 := km.at k_x0 (by decide)
      exact bX15_figure_18 C k_x0 hkl hW hZ _ (lv_sub hl [0, 1, 2] rfl) hE
    · have hE := br_n hE c_2
      exact bX15_figure_10 C hkl hW hZ _ (lv_sub hl [] rfl) hE
theorem dX15_attacked_0 : decode cX15_attacked 0 = .ok (.iload_n 2, 1) := by decide +kernel
theorem dX15_attacked_1 : decode cX15_attacked 1 = .ok (.ifCond .lt 20, 3) := by decide +kernel
theorem dX15_attacked_4 : decode cX15_attacked 4 = .ok (.iload_n 2, 1) := by decide +kernel
theorem dX15_attacked_5 : decode cX15_attacked 5 = .ok (.aload_n 0, 1) := by decide +kernel
theorem dX15_attacked_6 : decode cX15_attacked 6 = .ok (.getfield 384, 3) := by decide +kernel
theorem dX15_attacked_9 : decode cX15_attacked 9 = .ok (.if_icmp .ge 12, 3) := by decide +kernel
theorem dX15_attacked_12 : decode cX15_attacked 12 = .ok (.iload_n 3, 1) := by decide +kernel
theorem dX15_attacked_13 : decode cX15_attacked 13 = .ok (.ifCond .lt 8, 3) := by decide +kernel
theorem dX15_attacked_16 : decode cX15_attacked 16 = .ok (.iload_n 3, 1) := by decide +kernel
theorem dX15_attacked_17 : decode cX15_attacked 17 = .ok (.iconst 1, 1) := by decide +kernel
theorem dX15_attacked_18 : decode cX15_attacked 18 = .ok (.if_icmp .le 6, 3) := by decide +kernel
theorem dX15_attacked_21 : decode cX15_attacked 21 = .ok (.bipush (-101), 2) := by decide +kernel
theorem dX15_attacked_23 : decode cX15_attacked 23 = .ok (.ireturn, 1) := by decide +kernel
theorem dX15_attacked_24 : decode cX15_attacked 24 = .ok (.aload_n 0, 1) := by decide +kernel
theorem dX15_attacked_25 : decode cX15_attacked 25 = .ok (.iload_n 1, 1) := by decide +kernel
theorem dX15_attacked_26 : decode cX15_attacked 26 = .ok (.invokevirtual 486, 3) := by decide +kernel
theorem dX15_attacked_29 : decode cX15_attacked 29 = .ok (.ifCond .ne 8, 3) := by decide +kernel
theorem dX15_attacked_32 : decode cX15_attacked 32 = .ok (.bipush (-102), 2) := by decide +kernel
theorem dX15_attacked_34 : decode cX15_attacked 34 = .ok (.goto 23, 3) := by decide +kernel
theorem dX15_attacked_37 : decode cX15_attacked 37 = .ok (.aload_n 0, 1) := by decide +kernel
theorem dX15_attacked_38 : decode cX15_attacked 38 = .ok (.aload_n 0, 1) := by decide +kernel
theorem dX15_attacked_39 : decode cX15_attacked 39 = .ok (.getfield 257, 3) := by decide +kernel
theorem dX15_attacked_42 : decode cX15_attacked 42 = .ok (.iload_n 1, 1) := by decide +kernel
theorem dX15_attacked_43 : decode cX15_attacked 43 = .ok (.aaload, 1) := by decide +kernel
theorem dX15_attacked_57 : decode cX15_attacked 57 = .ok (.ireturn, 1) := by decide +kernel
set_option maxRecDepth 20000 in
theorem moX15_attacked_21 {o : Int32 × Hp} {h : Hp} (hE : sX15_attacked_21 h  = some o) : Le h o.2 := by
  exact le_some2 hE
set_option maxRecDepth 20000 in
theorem moX15_attacked_57 {o : Int32 × Hp} {h : Hp} {t0 : Int32} (hE : sX15_attacked_57 h  t0 = some o) : Le h o.2 := by
  exact le_some2 hE
set_option maxRecDepth 20000 in
theorem moX15_attacked {o : Int32 × Hp} {h : Hp} {x0 : Nat} {x1 : Int32} {x2 : Int32} {x3 : Int32} (hE : sX15_attacked h x0 x1 x2 x3 = some o) : Le h o.2 := by
  rcases br_e hE with ⟨_, hE⟩ | ⟨_, hE⟩
  · exact moX15_attacked_21 hE
  · rcases br_e hE with ⟨_, hE⟩ | ⟨_, hE⟩
    · exact moX15_attacked_21 hE
    · rcases br_e hE with ⟨_, hE⟩ | ⟨_, hE⟩
      · exact moX15_attacked_21 hE
      · rcases br_e hE with ⟨_, hE⟩ | ⟨_, hE⟩
        · obtain ⟨o_5, eo_5, hE⟩ := cl_e hE
          refine (moX15_has eo_5).tr ?_
          rcases br_e hE with ⟨_, hE⟩ | ⟨_, hE⟩
          · exact moX15_attacked_57 hE
          · obtain ⟨r_7, er_7, hE⟩ := cl_e hE
            cases hE
        · exact moX15_attacked_21 hE
set_option maxRecDepth 20000 in
theorem bX15_attacked_21 {p : Program} {l : Launch} {e : Env} {s : State} {m : MethodId} {args : Array Value} {below : List Frame} {meth : Method} {c : Code} {X : Ec} {h0 : Hp} {o : Int32 × Hp} (C : Cx X p s m args meth c RX15 cX15_attacked 4 (some .int) "attacked") {h : Hp} {H : Heap} {locs : List Loc} (hkm : Km h0 h) (hW : Wx X h H) (hZ : va_S (aA (eB X)) s.heap H locs) (ls : Array Slot) (hl : lv_has ls 4 []) (hE : sX15_attacked_21 h  = some o) : W p l e (rm 1 21) s m args below meth c H locs 0 0 (MQ below (QI X h0 o.1 o.2) args s 0 0 (aA (eB X))) (F0 m 21 ls []) := by
  refine lv_bipush (v := (-101 : Int32)) C.1 C.2.1 dX15_attacked_21 (by decide) ?_
  exact x_iret C rfl rfl hW hZ hkm hE dX15_attacked_23
set_option maxRecDepth 20000 in
theorem bX15_attacked_57 {p : Program} {l : Launch} {e : Env} {s : State} {m : MethodId} {args : Array Value} {below : List Frame} {meth : Method} {c : Code} {X : Ec} {h0 : Hp} {o : Int32 × Hp} (C : Cx X p s m args meth c RX15 cX15_attacked 4 (some .int) "attacked") {h : Hp} {t0 : Int32} {H : Heap} {locs : List Loc} (hkm : Km h0 h) (hW : Wx X h H) (hZ : va_S (aA (eB X)) s.heap H locs) (ls : Array Slot) (hl : lv_has ls 4 []) (hE : sX15_attacked_57 h  t0 = some o) : W p l e (rm 1 21) s m args below meth c H locs 0 0 (MQ below (QI X h0 o.1 o.2) args s 0 0 (aA (eB X))) (F0 m 57 ls [.int t0]) := by
  exact x_iret C rfl rfl hW hZ hkm hE dX15_attacked_57
set_option maxRecDepth 20000 in
theorem ct_X15_attacked (l : Launch) (X : Ec) {h : Hp} {x0 : Nat} {x1 : Int32} {x2 : Int32} {x3 : Int32} {o : Int32 × Hp} (k_x0 : hK h x0 = 15) (hE : sX15_attacked h x0 x1 x2 x3 = some o) : MetI l yX15_attacked cX15_attacked 4 (some .int) 1 21 X [.ref x0, .int x1, .int x2, .int x3] h o := by
  refine x_met (by decide) (Nat.le_of_ble_eq_true rfl) ?_
  intro p e s m below meth c ls C hl hW hZ
  have hl : lv_has ls 4 [(0, .ref x0), (1, .int x1), (2, .int x2), (3, .int x3)] := hl
  have hkm : Km h h := Km.rf h
  refine lv_iload_n C.1 C.2.1 dX15_attacked_0 rfl (lv_at hl 2 rfl) ?_
  refine lv_if_lt (tgt := 21) C.1 C.2.1 dX15_attacked_1 (by decide) (fun c_1 => ?_) (fun c_1 => ?_)
  · have hE := br_p hE c_1
    exact bX15_attacked_21 C hkm hW hZ _ (lv_sub hl [] rfl) hE
  · have hE := br_n hE c_1
    refine lv_iload_n C.1 C.2.1 dX15_attacked_4 rfl (lv_at hl 2 rfl) ?_
    refine lv_aload_n C.1 C.2.1 dX15_attacked_5 rfl (lv_at hl 0 rfl) ?_
    refine gf_X15_384 C hW k_x0 dX15_attacked_6 ?_
    refine lv_icmp_ge (tgt := 21) C.1 C.2.1 dX15_attacked_9 (by decide) (fun c_2 => ?_) (fun c_2 => ?_)
    · have hE := br_p hE c_2
      exact bX15_attacked_21 C hkm hW hZ _ (lv_sub hl [] rfl) hE
    · have hE := br_n hE c_2
      refine lv_iload_n C.1 C.2.1 dX15_attacked_12 rfl (lv_at hl 3 rfl) ?_
      refine lv_if_lt (tgt := 21) C.1 C.2.1 dX15_attacked_13 (by decide) (fun c_3 => ?_) (fun c_3 => ?_)
      · have hE := br_p hE c_3
        exact bX15_attacked_21 C hkm hW hZ _ (lv_sub hl [] rfl) hE
      · have hE := br_n hE c_3
        refine lv_iload_n C.1 C.2.1 dX15_attacked_16 rfl (lv_at hl 3 rfl) ?_
        refine lv_iconst (v := (1 : Int32)) C.1 C.2.1 dX15_attacked_17 (by decide) ?_
        refine lv_icmp_le (tgt := 24) C.1 C.2.1 dX15_attacked_18 (by decide) (fun c_4 => ?_) (fun c_4 => ?_)
        · have hE := br_p hE c_4
          refine lv_aload_n C.1 C.2.1 dX15_attacked_24 rfl (lv_at hl 0 rfl) ?_
          refine lv_iload_n C.1 C.2.1 dX15_attacked_25 rfl (lv_at hl 1 rfl) ?_
          obtain ⟨o_5, eo_5, hE⟩ := cl_e hE
          refine x_kI (o := o_5) (z_runV (As := [.int x1]) (rest := []) C (ct_X15_has l X k_x0 eo_5) cw_X15_486 hW hZ k_x0 (by decide) rfl rfl rfl hl.1 (Nat.le_of_ble_eq_true rfl) rfl dX15_attacked_26 ⟨Nat.le_of_ble_eq_true rfl, Nat.le_of_ble_eq_true rfl⟩ ⟨Nat.le_refl _, Nat.le_refl _⟩) hZ (fun _ _ hW km hZ => ?_)
          replace hkm := hkm.tr km
          replace k_x0 := km.at k_x0 (by decide)
          refine lv_if_ne (tgt := 37) C.1 C.2.1 dX15_attacked_29 (by decide) (fun c_6 => ?_) (fun c_6 => ?_)
          · have hE := br_n hE c_6
            refine lv_aload_n C.1 C.2.1 dX15_attacked_37 rfl (lv_at hl 0 rfl) ?_
            refine lv_aload_n C.1 C.2.1 dX15_attacked_38 rfl (lv_at hl 0 rfl) ?_
            obtain ⟨r_7, er_7, hE⟩ := cl_e hE
            refine gf_X15_257 C hW k_x0 er_7 dX15_attacked_39 (fun k_r_7 => ?_)
            refine lv_iload_n C.1 C.2.1 dX15_attacked_42 rfl (lv_at hl 1 rfl) ?_
            cases hE
          · have hE := br_p hE c_6
            refine lv_bipush (v := (-102 : Int32)) C.1 C.2.1 dX15_attacked_32 (by decide) ?_
            refine lv_goto (tgt := 57) C.1 C.2.1 dX15_attacked_34 (by decide) ?_
            exact bX15_attacked_57 C hkm hW hZ _ (lv_sub hl [] rfl) hE
        · have hE := br_n hE c_4
          exact bX15_attacked_21 C hkm hW hZ _ (lv_sub hl [] rfl) hE
theorem dX15_moves_0 : decode cX15_moves 0 = .ok (.aload_n 0, 1) := by decide +kernel
theorem dX15_moves_1 : decode cX15_moves 1 = .ok (.iload_n 1, 1) := by decide +kernel
theorem dX15_moves_2 : decode cX15_moves 2 = .ok (.invokevirtual 486, 3) := by decide +kernel
theorem dX15_moves_5 : decode cX15_moves 5 = .ok (.ifCond .ne 6, 3) := by decide +kernel
theorem dX15_moves_8 : decode cX15_moves 8 = .ok (.bipush (-102), 2) := by decide +kernel
theorem dX15_moves_10 : decode cX15_moves 10 = .ok (.ireturn, 1) := by decide +kernel
theorem dX15_moves_11 : decode cX15_moves 11 = .ok (.aload_n 0, 1) := by decide +kernel
theorem dX15_moves_12 : decode cX15_moves 12 = .ok (.aload_n 0, 1) := by decide +kernel
theorem dX15_moves_13 : decode cX15_moves 13 = .ok (.getfield 257, 3) := by decide +kernel
theorem dX15_moves_16 : decode cX15_moves 16 = .ok (.iload_n 1, 1) := by decide +kernel
theorem dX15_moves_17 : decode cX15_moves 17 = .ok (.aaload, 1) := by decide +kernel
set_option maxRecDepth 20000 in
theorem moX15_moves {o : Int32 × Hp} {h : Hp} {x0 : Nat} {x1 : Int32} (hE : sX15_moves h x0 x1 = some o) : Le h o.2 := by
  obtain ⟨o_1, eo_1, hE⟩ := cl_e hE
  refine (moX15_has eo_1).tr ?_
  rcases br_e hE with ⟨_, hE⟩ | ⟨_, hE⟩
  · exact le_some2 hE
  · obtain ⟨r_3, er_3, hE⟩ := cl_e hE
    cases hE
set_option maxRecDepth 20000 in
theorem ct_X15_moves (l : Launch) (X : Ec) {h : Hp} {x0 : Nat} {x1 : Int32} {o : Int32 × Hp} (k_x0 : hK h x0 = 15) (hE : sX15_moves h x0 x1 = some o) : MetI l yX15_moves cX15_moves 2 (some .int) 1 21 X [.ref x0, .int x1] h o := by
  refine x_met (by decide) (Nat.le_of_ble_eq_true rfl) ?_
  intro p e s m below meth c ls C hl hW hZ
  have hl : lv_has ls 2 [(0, .ref x0), (1, .int x1)] := hl
  have hkm : Km h h := Km.rf h
  refine lv_aload_n C.1 C.2.1 dX15_moves_0 rfl (lv_at hl 0 rfl) ?_
  refine lv_iload_n C.1 C.2.1 dX15_moves_1 rfl (lv_at hl 1 rfl) ?_
  obtain ⟨o_1, eo_1, hE⟩ := cl_e hE
  refine x_kI (o := o_1) (z_runV (As := [.int x1]) (rest := []) C (ct_X15_has l X k_x0 eo_1) cw_X15_486 hW hZ k_x0 (by decide) rfl rfl rfl hl.1 (Nat.le_of_ble_eq_true rfl) rfl dX15_moves_2 ⟨Nat.le_of_ble_eq_true rfl, Nat.le_of_ble_eq_true rfl⟩ ⟨Nat.le_refl _, Nat.le_refl _⟩) hZ (fun _ _ hW km hZ => ?_)
  replace hkm := hkm.tr km
  replace k_x0 := km.at k_x0 (by decide)
  refine lv_if_ne (tgt := 11) C.1 C.2.1 dX15_moves_5 (by decide) (fun c_2 => ?_) (fun c_2 => ?_)
  · have hE := br_n hE c_2
    refine lv_aload_n C.1 C.2.1 dX15_moves_11 rfl (lv_at hl 0 rfl) ?_
    refine lv_aload_n C.1 C.2.1 dX15_moves_12 rfl (lv_at hl 0 rfl) ?_
    obtain ⟨r_3, er_3, hE⟩ := cl_e hE
    refine gf_X15_257 C hW k_x0 er_3 dX15_moves_13 (fun k_r_3 => ?_)
    refine lv_iload_n C.1 C.2.1 dX15_moves_16 rfl (lv_at hl 1 rfl) ?_
    cases hE
  · have hE := br_p hE c_2
    refine lv_bipush (v := (-102 : Int32)) C.1 C.2.1 dX15_moves_8 (by decide) ?_
    exact x_iret C rfl rfl hW hZ hkm hE dX15_moves_10
set_option maxRecDepth 100000 in
theorem n_1948 : Cond.fieldLinkNest RX15 575 (TX13 0).1 (TX13 0).2.1 (TX13 0).2.2.1 "GameRulesModel" ∈ tables_1 := List.mem_of_getElem? (i := 1948) rfl
set_option maxRecDepth 100000 in
theorem n_1950 : Cond.fieldLinkNest RX15 597 (TX13 1).1 (TX13 1).2.1 (TX13 1).2.2.1 "GameRulesModel" ∈ tables_1 := List.mem_of_getElem? (i := 1950) rfl
set_option maxRecDepth 100000 in
theorem n_1952 : Cond.fieldLinkNest RX15 598 (TX13 2).1 (TX13 2).2.1 (TX13 2).2.2.1 "GameRulesModel" ∈ tables_1 := List.mem_of_getElem? (i := 1952) rfl
set_option maxRecDepth 100000 in
theorem n_1954 : Cond.fieldLinkNest RX15 600 (TX13 3).1 (TX13 3).2.1 (TX13 3).2.2.1 "GameRulesModel" ∈ tables_1 := List.mem_of_getElem? (i := 1954) rfl
set_option maxRecDepth 100000 in
theorem n_1956 : Cond.fieldLinkNest RX15 612 (TX13 4).1 (TX13 4).2.1 (TX13 4).2.2.1 "GameRulesModel" ∈ tables_1 := List.mem_of_getElem? (i := 1956) rfl
set_option maxRecDepth 100000 in
theorem n_1958 : Cond.fieldLinkNest RX15 605 (TX13 5).1 (TX13 5).2.1 (TX13 5).2.2.1 "GameRulesModel" ∈ tables_1 := List.mem_of_getElem? (i := 1958) rfl
set_option maxRecDepth 100000 in
theorem n_1960 : Cond.fieldLinkNest RX15 602 (TX13 6).1 (TX13 6).2.1 (TX13 6).2.2.1 "GameRulesModel" ∈ tables_1 := List.mem_of_getElem? (i := 1960) rfl
set_option maxRecDepth 100000 in
theorem m_2598 : Cond.instanceMethod yX15_moves ∈ W0 := w0_in (List.mem_append_right _ (List.mem_of_getElem? (i := 2598) rfl)) rfl
set_option maxRecDepth 100000 in
theorem m_2599 : Cond.selects RX15 yX15_moves yX15_moves ∈ W0 := w0_in (List.mem_append_right _ (List.mem_of_getElem? (i := 2599) rfl)) rfl
set_option maxRecDepth 100000 in
theorem m_2600 : Cond.code yX15_moves cX15_moves 2 (some .int) ∈ W0 := w0_in (List.mem_append_right _ (List.mem_of_getElem? (i := 2600) rfl)) rfl
set_option maxRecDepth 100000 in
theorem m_2605 : Cond.methodLink RX15 668 yX15_moves ∈ W0 := w0_in (List.mem_append_right _ (List.mem_of_getElem? (i := 2605) rfl)) rfl
section
variable {p : Program} {l : Launch} {e : Env} {R : Room} {s : State} {m : MethodId} {args : Array Value} {below : List Frame} {meth : Method} {c : Code} {H : Heap} {locs : List Loc} {cells slots : Nat} {Q : State → Prop}
variable {cc : ByteArray} {pc : Nat} {ls : Array Slot} {rest : List Value} {X : Ec} {h h1 : Hp} {nL : Nat} {rt : Option FieldType} {mn : String}
theorem gf_X15_288 {a r : Nat} (C : Cx X p s m args meth c RX15 cc nL rt mn) (hW : Wx X h H) (ha : hK h a = 15) (hr : hR h a 30 = some r) (hdg : decode cc pc = .ok (.getfield 288, 3)) (kk : hK h r = 13 → W p l e R s m args below meth c H locs cells slots Q (F0 m (pc + 3) ls (.ref r :: rest))) : W p l e R s m args below meth c H locs cells slots Q (F0 m pc ls (.ref a :: rest)) :=
  y_getr C hW ha i_X15 (by decide) rfl (by decide) m_2141 rfl rfl hr hdg kk
theorem gf_X15_575 {a : Nat} (C : Cx X p s m args meth c RX15 cc nL rt mn) (hW : Wx X h H) (ha : hK h a = 13) (hdg : decode cc pc = .ok (.getfield 575, 3)) (kk : W p l e R s m args below meth c H locs cells slots Q (F0 m (pc + 3) ls (.int (hI h a 0) :: rest))) : W p l e R s m args below meth c H locs cells slots Q (F0 m pc ls (.ref a :: rest)) :=
  y_getiN C hW ha i_X13 (by decide) rfl (by decide) n_1948 rfl hdg kk
theorem gf_X15_602 {a r : Nat} (C : Cx X p s m args meth c RX15 cc nL rt mn) (hW : Wx X h H) (ha : hK h a = 13) (hr : hR h a 6 = some r) (hdg : decode cc pc = .ok (.getfield 602, 3)) (kk : hK h r = 17 → W p l e R s m args below meth c H locs cells slots Q (F0 m (pc + 3) ls (.ref r :: rest))) : W p l e R s m args below meth c H locs cells slots Q (F0 m pc ls (.ref a :: rest)) :=
  y_getrN C hW ha i_X13 (by decide) rfl (by decide) n_1960 rfl rfl hr hdg kk
theorem gf_X15_605 {a r : Nat} (C : Cx X p s m args meth c RX15 cc nL rt mn) (hW : Wx X h H) (ha : hK h a = 13) (hr : hR h a 5 = some r) (hdg : decode cc pc = .ok (.getfield 605, 3)) (kk : hK h r = 17 → W p l e R s m args below meth c H locs cells slots Q (F0 m (pc + 3) ls (.ref r :: rest))) : W p l e R s m args below meth c H locs cells slots Q (F0 m pc ls (.ref a :: rest)) :=
  y_getrN C hW ha i_X13 (by decide) rfl (by decide) n_1958 rfl rfl hr hdg kk
theorem gf_X15_612 {a r : Nat} (C : Cx X p s m args meth c RX15 cc nL rt mn) (hW : Wx X h H) (ha : hK h a = 13) (hr : hR h a 4 = some r) (hdg : decode cc pc = .ok (.getfield 612, 3)) (kk : hK h r = 17 → W p l e R s m args below meth c H locs cells slots Q (F0 m (pc + 3) ls (.ref r :: rest))) : W p l e R s m args below meth c H locs cells slots Q (F0 m pc ls (.ref a :: rest)) :=
  y_getrN C hW ha i_X13 (by decide) rfl (by decide) n_1956 rfl rfl hr hdg kk
theorem gf_X15_600 {a r : Nat} (C : Cx X p s m args meth c RX15 cc nL rt mn) (hW : Wx X h H) (ha : hK h a = 13) (hr : hR h a 3 = some r) (hdg : decode cc pc = .ok (.getfield 600, 3)) (kk : hK h r = 17 → W p l e R s m args below meth c H locs cells slots Q (F0 m (pc + 3) ls (.ref r :: rest))) : W p l e R s m args below meth c H locs cells slots Q (F0 m pc ls (.ref a :: rest)) :=
  y_getrN C hW ha i_X13 (by decide) rfl (by decide) n_1954 rfl rfl hr hdg kk
theorem gf_X15_598 {a r : Nat} (C : Cx X p s m args meth c RX15 cc nL rt mn) (hW : Wx X h H) (ha : hK h a = 13) (hr : hR h a 2 = some r) (hdg : decode cc pc = .ok (.getfield 598, 3)) (kk : hK h r = 17 → W p l e R s m args below meth c H locs cells slots Q (F0 m (pc + 3) ls (.ref r :: rest))) : W p l e R s m args below meth c H locs cells slots Q (F0 m pc ls (.ref a :: rest)) :=
  y_getrN C hW ha i_X13 (by decide) rfl (by decide) n_1952 rfl rfl hr hdg kk
theorem gf_X15_597 {a r : Nat} (C : Cx X p s m args meth c RX15 cc nL rt mn) (hW : Wx X h H) (ha : hK h a = 13) (hr : hR h a 1 = some r) (hdg : decode cc pc = .ok (.getfield 597, 3)) (kk : hK h r = 17 → W p l e R s m args below meth c H locs cells slots Q (F0 m (pc + 3) ls (.ref r :: rest))) : W p l e R s m args below meth c H locs cells slots Q (F0 m pc ls (.ref a :: rest)) :=
  y_getrN C hW ha i_X13 (by decide) rfl (by decide) n_1950 rfl rfl hr hdg kk
end
theorem cw_X15_668 : cwd RX15 668 yX15_moves cX15_moves 2 (some .int) false 1 := ⟨m_2600, m_2605, m_19, ⟨m_2598, m_2599⟩, by decide, by decide, by decide +kernel⟩
theorem dX15_move_0 : decode cX15_move 0 = .ok (.iload_n 3, 1) := by decide +kernel
theorem dX15_move_1 : decode cX15_move 1 = .ok (.ifCond .lt 8, 3) := by decide +kernel
theorem dX15_move_4 : decode cX15_move 4 = .ok (.iload_n 3, 1) := by decide +kernel
theorem dX15_move_5 : decode cX15_move 5 = .ok (.iconst 5, 1) := by decide +kernel
theorem dX15_move_6 : decode cX15_move 6 = .ok (.if_icmp .le 6, 3) := by decide +kernel
theorem dX15_move_9 : decode cX15_move 9 = .ok (.bipush (-101), 2) := by decide +kernel
theorem dX15_move_11 : decode cX15_move 11 = .ok (.ireturn, 1) := by decide +kernel
theorem dX15_move_12 : decode cX15_move 12 = .ok (.aload_n 0, 1) := by decide +kernel
theorem dX15_move_13 : decode cX15_move 13 = .ok (.iload_n 1, 1) := by decide +kernel
theorem dX15_move_14 : decode cX15_move 14 = .ok (.invokevirtual 668, 3) := by decide +kernel
theorem dX15_move_17 : decode cX15_move 17 = .ok (.bipush (-102), 2) := by decide +kernel
theorem dX15_move_19 : decode cX15_move 19 = .ok (.if_icmp .eq 18, 3) := by decide +kernel
theorem dX15_move_22 : decode cX15_move 22 = .ok (.iload_n 2, 1) := by decide +kernel
theorem dX15_move_23 : decode cX15_move 23 = .ok (.ifCond .lt 14, 3) := by decide +kernel
theorem dX15_move_26 : decode cX15_move 26 = .ok (.iload_n 2, 1) := by decide +kernel
theorem dX15_move_27 : decode cX15_move 27 = .ok (.aload_n 0, 1) := by decide +kernel
theorem dX15_move_28 : decode cX15_move 28 = .ok (.getfield 288, 3) := by decide +kernel
theorem dX15_move_31 : decode cX15_move 31 = .ok (.getfield 575, 3) := by decide +kernel
theorem dX15_move_34 : decode cX15_move 34 = .ok (.if_icmp .lt 6, 3) := by decide +kernel
theorem dX15_move_37 : decode cX15_move 37 = .ok (.bipush (-102), 2) := by decide +kernel
theorem dX15_move_39 : decode cX15_move 39 = .ok (.ireturn, 1) := by decide +kernel
theorem dX15_move_40 : decode cX15_move 40 = .ok (.iload_n 3, 1) := by decide +kernel
theorem dX15_move_41 : decode cX15_move 41 = .ok (.ifCond .ne 15, 3) := by decide +kernel
theorem dX15_move_44 : decode cX15_move 44 = .ok (.aload_n 0, 1) := by decide +kernel
theorem dX15_move_45 : decode cX15_move 45 = .ok (.getfield 288, 3) := by decide +kernel
theorem dX15_move_48 : decode cX15_move 48 = .ok (.getfield 597, 3) := by decide +kernel
theorem dX15_move_51 : decode cX15_move 51 = .ok (.iload_n 2, 1) := by decide +kernel
theorem dX15_move_52 : decode cX15_move 52 = .ok (.iaload, 1) := by decide +kernel
theorem dX15_move_53 : decode cX15_move 53 = .ok (.goto 80, 3) := by decide +kernel
theorem dX15_move_56 : decode cX15_move 56 = .ok (.iload_n 3, 1) := by decide +kernel
theorem dX15_move_57 : decode cX15_move 57 = .ok (.iconst 1, 1) := by decide +kernel
theorem dX15_move_58 : decode cX15_move 58 = .ok (.if_icmp .ne 15, 3) := by decide +kernel
theorem dX15_move_61 : decode cX15_move 61 = .ok (.aload_n 0, 1) := by decide +kernel
theorem dX15_move_62 : decode cX15_move 62 = .ok (.getfield 288, 3) := by decide +kernel
theorem dX15_move_65 : decode cX15_move 65 = .ok (.getfield 598, 3) := by decide +kernel
theorem dX15_move_68 : decode cX15_move 68 = .ok (.iload_n 2, 1) := by decide +kernel
theorem dX15_move_69 : decode cX15_move 69 = .ok (.iaload, 1) := by decide +kernel
theorem dX15_move_70 : decode cX15_move 70 = .ok (.goto 63, 3) := by decide +kernel
theorem dX15_move_73 : decode cX15_move 73 = .ok (.iload_n 3, 1) := by decide +kernel
theorem dX15_move_74 : decode cX15_move 74 = .ok (.iconst 2, 1) := by decide +kernel
theorem dX15_move_75 : decode cX15_move 75 = .ok (.if_icmp .ne 15, 3) := by decide +kernel
theorem dX15_move_78 : decode cX15_move 78 = .ok (.aload_n 0, 1) := by decide +kernel
theorem dX15_move_79 : decode cX15_move 79 = .ok (.getfield 288, 3) := by decide +kernel
theorem dX15_move_82 : decode cX15_move 82 = .ok (.getfield 600, 3) := by decide +kernel
theorem dX15_move_85 : decode cX15_move 85 = .ok (.iload_n 2, 1) := by decide +kernel
theorem dX15_move_86 : decode cX15_move 86 = .ok (.iaload, 1) := by decide +kernel
theorem dX15_move_87 : decode cX15_move 87 = .ok (.goto 46, 3) := by decide +kernel
theorem dX15_move_90 : decode cX15_move 90 = .ok (.iload_n 3, 1) := by decide +kernel
theorem dX15_move_91 : decode cX15_move 91 = .ok (.iconst 3, 1) := by decide +kernel
theorem dX15_move_92 : decode cX15_move 92 = .ok (.if_icmp .ne 15, 3) := by decide +kernel
theorem dX15_move_95 : decode cX15_move 95 = .ok (.aload_n 0, 1) := by decide +kernel
theorem dX15_move_96 : decode cX15_move 96 = .ok (.getfield 288, 3) := by decide +kernel
theorem dX15_move_99 : decode cX15_move 99 = .ok (.getfield 612, 3) := by decide +kernel
theorem dX15_move_102 : decode cX15_move 102 = .ok (.iload_n 2, 1) := by decide +kernel
theorem dX15_move_103 : decode cX15_move 103 = .ok (.iaload, 1) := by decide +kernel
theorem dX15_move_104 : decode cX15_move 104 = .ok (.goto 29, 3) := by decide +kernel
theorem dX15_move_107 : decode cX15_move 107 = .ok (.iload_n 3, 1) := by decide +kernel
theorem dX15_move_108 : decode cX15_move 108 = .ok (.iconst 4, 1) := by decide +kernel
theorem dX15_move_109 : decode cX15_move 109 = .ok (.if_icmp .ne 15, 3) := by decide +kernel
theorem dX15_move_112 : decode cX15_move 112 = .ok (.aload_n 0, 1) := by decide +kernel
theorem dX15_move_113 : decode cX15_move 113 = .ok (.getfield 288, 3) := by decide +kernel
theorem dX15_move_116 : decode cX15_move 116 = .ok (.getfield 605, 3) := by decide +kernel
theorem dX15_move_119 : decode cX15_move 119 = .ok (.iload_n 2, 1) := by decide +kernel
theorem dX15_move_120 : decode cX15_move 120 = .ok (.iaload, 1) := by decide +kernel
theorem dX15_move_121 : decode cX15_move 121 = .ok (.goto 12, 3) := by decide +kernel
theorem dX15_move_124 : decode cX15_move 124 = .ok (.aload_n 0, 1) := by decide +kernel
theorem dX15_move_125 : decode cX15_move 125 = .ok (.getfield 288, 3) := by decide +kernel
theorem dX15_move_128 : decode cX15_move 128 = .ok (.getfield 602, 3) := by decide +kernel
theorem dX15_move_131 : decode cX15_move 131 = .ok (.iload_n 2, 1) := by decide +kernel
theorem dX15_move_132 : decode cX15_move 132 = .ok (.iaload, 1) := by decide +kernel
theorem dX15_move_133 : decode cX15_move 133 = .ok (.ireturn, 1) := by decide +kernel
set_option maxRecDepth 20000 in
theorem moX15_move_9 {o : Int32 × Hp} {h : Hp} (hE : sX15_move_9 h  = some o) : Le h o.2 := by
  exact le_some2 hE
set_option maxRecDepth 20000 in
theorem moX15_move_37 {o : Int32 × Hp} {h : Hp} (hE : sX15_move_37 h  = some o) : Le h o.2 := by
  exact le_some2 hE
set_option maxRecDepth 20000 in
theorem moX15_move_133 {o : Int32 × Hp} {h : Hp} {t0 : Int32} (hE : sX15_move_133 h  t0 = some o) : Le h o.2 := by
  exact le_some2 hE
set_option maxRecDepth 20000 in
theorem moX15_move {o : Int32 × Hp} {h : Hp} {x0 : Nat} {x1 : Int32} {x2 : Int32} {x3 : Int32} (hE : sX15_move h x0 x1 x2 x3 = some o) : Le h o.2 := by
  rcases br_e hE with ⟨_, hE⟩ | ⟨_, hE⟩
  · exact moX15_move_9 hE
  · rcases br_e hE with ⟨_, hE⟩ | ⟨_, hE⟩
    · obtain ⟨o_3, eo_3, hE⟩ := cl_e hE
      refine (moX15_moves eo_3).tr ?_
      rcases br_e hE with ⟨_, hE⟩ | ⟨_, hE⟩
      · exact moX15_move_37 hE
      · rcases br_e hE with ⟨_, hE⟩ | ⟨_, hE⟩
        · exact moX15_move_37 hE
        · obtain ⟨r_6, er_6, hE⟩ := cl_e hE
          rcases br_e hE with ⟨_, hE⟩ | ⟨_, hE⟩
          · rcases br_e hE with ⟨_, hE⟩ | ⟨_, hE⟩
            · obtain ⟨r_28, er_28, hE⟩ := cl_e hE
              obtain ⟨r_29, er_29, hE⟩ := cl_e hE
              obtain ⟨g_30, hE⟩ := gd_e hE
              exact moX15_move_133 hE
            · rcases br_e hE with ⟨_, hE⟩ | ⟨_, hE⟩
              · obtain ⟨r_25, er_25, hE⟩ := cl_e hE
                obtain ⟨r_26, er_26, hE⟩ := cl_e hE
                obtain ⟨g_27, hE⟩ := gd_e hE
                exact moX15_move_133 hE
              · rcases br_e hE with ⟨_, hE⟩ | ⟨_, hE⟩
                · obtain ⟨r_22, er_22, hE⟩ := cl_e hE
                  obtain ⟨r_23, er_23, hE⟩ := cl_e hE
                  obtain ⟨g_24, hE⟩ := gd_e hE
                  exact moX15_move_133 hE
                · rcases br_e hE with ⟨_, hE⟩ | ⟨_, hE⟩
                  · obtain ⟨r_19, er_19, hE⟩ := cl_e hE
                    obtain ⟨r_20, er_20, hE⟩ := cl_e hE
                    obtain ⟨g_21, hE⟩ := gd_e hE
                    exact moX15_move_133 hE
                  · rcases br_e hE with ⟨_, hE⟩ | ⟨_, hE⟩
                    · obtain ⟨r_16, er_16, hE⟩ := cl_e hE
                      obtain ⟨r_17, er_17, hE⟩ := cl_e hE
                      obtain ⟨g_18, hE⟩ := gd_e hE
                      exact moX15_move_133 hE
                    · obtain ⟨r_13, er_13, hE⟩ := cl_e hE
                      obtain ⟨r_14, er_14, hE⟩ := cl_e hE
                      obtain ⟨g_15, hE⟩ := gd_e hE
                      exact moX15_move_133 hE
          · exact moX15_move_37 hE
    · exact moX15_move_9 hE
set_option maxRecDepth 20000 in
theorem bX15_move_9 {p : Program} {l : Launch} {e : Env} {s : State} {m : MethodId} {args : Array Value} {below : List Frame} {meth : Method} {c : Code} {X : Ec} {h0 : Hp} {o : Int32 × Hp} (C : Cx X p s m args meth c RX15 cX15_move 4 (some .int) "move") {h : Hp} {H : Heap} {locs : List Loc} (hkm : Km h0 h) (hW : Wx X h H) (hZ : va_S (aA (eB X)) s.heap H locs) (ls : Array Slot) (hl : lv_has ls 4 []) (hE : sX15_move_9 h  = some o) : W p l e (rm 2 42) s m args below meth c H locs 0 0 (MQ below (QI X h0 o.1 o.2) args s 0 0 (aA (eB X))) (F0 m 9 ls []) := by
  refine lv_bipush (v := (-101 : Int32)) C.1 C.2.1 dX15_move_9 (by decide) ?_
  exact x_iret C rfl rfl hW hZ hkm hE dX15_move_11
set_option maxRecDepth 20000 in
theorem bX15_move_37 {p : Program} {l : Launch} {e : Env} {s : State} {m : MethodId} {args : Array Value} {below : List Frame} {meth : Method} {c : Code} {X : Ec} {h0 : Hp} {o : Int32 × Hp} (C : Cx X p s m args meth c RX15 cX15_move 4 (some .int) "move") {h : Hp} {H : Heap} {locs : List Loc} (hkm : Km h0 h) (hW : Wx X h H) (hZ : va_S (aA (eB X)) s.heap H locs) (ls : Array Slot) (hl : lv_has ls 4 []) (hE : sX15_move_37 h  = some o) : W p l e (rm 2 42) s m args below meth c H locs 0 0 (MQ below (QI X h0 o.1 o.2) args s 0 0 (aA (eB X))) (F0 m 37 ls []) := by
  refine lv_bipush (v := (-102 : Int32)) C.1 C.2.1 dX15_move_37 (by decide) ?_
  exact x_iret C rfl rfl hW hZ hkm hE dX15_move_39
set_option maxRecDepth 20000 in
theorem bX15_move_133 {p : Program} {l : Launch} {e : Env} {s : State} {m : MethodId} {args : Array Value} {below : List Frame} {meth : Method} {c : Code} {X : Ec} {h0 : Hp} {o : Int32 × Hp} (C : Cx X p s m args meth c RX15 cX15_move 4 (some .int) "move") {h : Hp} {t0 : Int32} {H : Heap} {locs : List Loc} (hkm : Km h0 h) (hW : Wx X h H) (hZ : va_S (aA (eB X)) s.heap H locs) (ls : Array Slot) (hl : lv_has ls 4 []) (hE : sX15_move_133 h  t0 = some o) : W p l e (rm 2 42) s m args below meth c H locs 0 0 (MQ below (QI X h0 o.1 o.2) args s 0 0 (aA (eB X))) (F0 m 133 ls [.int t0]) := by
  exact x_iret C rfl rfl hW hZ hkm hE dX15_move_133
set_option maxRecDepth 20000 in
theorem ct_X15_move (l : Launch) (X : Ec) {h : Hp} {x0 : Nat} {x1 : Int32} {x2 : Int32} {x3 : Int32} {o : Int32 × Hp} (k_x0 : hK h x0 = 15) (hE : sX15_move h x0 x1 x2 x3 = some o) : MetI l yX15_move cX15_move 4 (some .int) 2 42 X [.ref x0, .int x1, .int x2, .int x3] h o := by
  refine x_met (by decide) (Nat.le_of_ble_eq_true rfl) ?_
  intro p e s m below meth c ls C hl hW hZ
  have hl : lv_has ls 4 [(0, .ref x0), (1, .int x1), (2, .int x2), (3, .int x3)] := hl
  have hkm : Km h h := Km.rf h
  refine lv_iload_n C.1 C.2.1 dX15_move_0 rfl (lv_at hl 3 rfl) ?_
  refine lv_if_lt (tgt := 9) C.1 C.2.1 dX15_move_1 (by decide) (fun c_1 => ?_) (fun c_1 => ?_)
  · have hE := br_p hE c_1
    exact bX15_move_9 C hkm hW hZ _ (lv_sub hl [] rfl) hE
  · have hE := br_n hE c_1
    refine lv_iload_n C.1 C.2.1 dX15_move_4 rfl (lv_at hl 3 rfl) ?_
    refine lv_iconst (v := (5 : Int32)) C.1 C.2.1 dX15_move_5 (by decide) ?_
    refine lv_icmp_le (tgt := 12) C.1 C.2.1 dX15_move_6 (by decide) (fun c_2 => ?_) (fun c_2 => ?_)
    · have hE := br_p hE c_2
      refine lv_aload_n C.1 C.2.1 dX15_move_12 rfl (lv_at hl 0 rfl) ?_
      refine lv_iload_n C.1 C.2.1 dX15_move_13 rfl (lv_at hl 1 rfl) ?_
      obtain ⟨o_3, eo_3, hE⟩ := cl_e hE
      refine x_kI (o := o_3) (z_runV (As := [.int x1]) (rest := []) C (ct_X15_moves l X k_x0 eo_3) cw_X15_668 hW hZ k_x0 (by decide) rfl rfl rfl hl.1 (Nat.le_of_ble_eq_true rfl) rfl dX15_move_14 ⟨Nat.le_of_ble_eq_true rfl, Nat.le_of_ble_eq_true rfl⟩ ⟨Nat.le_refl _, Nat.le_refl _⟩) hZ (fun _ _ hW km hZ => ?_)
      replace hkm := hkm.tr km
      replace k_x0 := km.at k_x0 (by decide)
      refine lv_bipush (v := (-102 : Int32)) C.1 C.2.1 dX15_move_17 (by decide) ?_
      refine lv_icmp_eq (tgt := 37) C.1 C.2.1 dX15_move_19 (by decide) (fun c_4 => ?_) (fun c_4 => ?_)
      · have hE := br_p hE c_4
        exact bX15_move_37 C hkm hW hZ _ (lv_sub hl [] rfl) hE
      · have hE := br_n hE c_4
        refine lv_iload_n C.1 C.2.1 dX15_move_22 rfl (lv_at hl 2 rfl) ?_
        refine lv_if_lt (tgt := 37) C.1 C.2.1 dX15_move_23 (by decide) (fun c_5 => ?_) (fun c_5 => ?_)
        · have hE := br_p hE c_5
          exact bX15_move_37 C hkm hW hZ _ (lv_sub hl [] rfl) hE
        · have hE := br_n hE c_5
          refine lv_iload_n C.1 C.2.1 dX15_move_26 rfl (lv_at hl 2 rfl) ?_
          refine lv_aload_n C.1 C.2.1 dX15_move_27 rfl (lv_at hl 0 rfl) ?_
          obtain ⟨r_6, er_6, hE⟩ := cl_e hE
          refine gf_X15_288 C hW k_x0 er_6 dX15_move_28 (fun k_r_6 => ?_)
          refine gf_X15_575 C hW k_r_6 dX15_move_31 ?_
          refine lv_icmp_lt (tgt := 40) C.1 C.2.1 dX15_move_34 (by decide) (fun c_7 => ?_) (fun c_7 => ?_)
          · have hE := br_p hE c_7
            refine lv_iload_n C.1 C.2.1 dX15_move_40 rfl (lv_at hl 3 rfl) ?_
            refine lv_if_ne (tgt := 56) C.1 C.2.1 dX15_move_41 (by decide) (fun c_8 => ?_) (fun c_8 => ?_)
            · have hE := br_n hE c_8
              refine lv_iload_n C.1 C.2.1 dX15_move_56 rfl (lv_at hl 3 rfl) ?_
              refine lv_iconst (v := (1 : Int32)) C.1 C.2.1 dX15_move_57 (by decide) ?_
              refine lv_icmp_ne (tgt := 73) C.1 C.2.1 dX15_move_58 (by decide) (fun c_9 => ?_) (fun c_9 => ?_)
              · have hE := br_n hE c_9
                refine lv_iload_n C.1 C.2.1 dX15_move_73 rfl (lv_at hl 3 rfl) ?_
                refine lv_iconst (v := (2 : Int32)) C.1 C.2.1 dX15_move_74 (by decide) ?_
                refine lv_icmp_ne (tgt := 90) C.1 C.2.1 dX15_move_75 (by decide) (fun c_10 => ?_) (fun c_10 => ?_)
                · have hE := br_n hE c_10
                  refine lv_iload_n C.1 C.2.1 dX15_move_90 rfl (lv_at hl 3 rfl) ?_
                  refine lv_iconst (v := (3 : Int32)) C.1 C.2.1 dX15_move_91 (by decide) ?_
                  refine lv_icmp_ne (tgt := 107) C.1 C.2.1 dX15_move_92 (by decide) (fun c_11 => ?_) (fun c_11 => ?_)
                  · have hE := br_n hE c_11
                    refine lv_iload_n C.1 C.2.1 dX15_move_107 rfl (lv_at hl 3 rfl) ?_
                    refine lv_iconst (v := (4 : Int32)) C.1 C.2.1 dX15_move_108 (by decide) ?_
                    refine lv_icmp_ne (tgt := 124) C.1 C.2.1 dX15_move_109 (by decide) (fun c_12 => ?_) (fun c_12 => ?_)
                    · have hE := br_n hE c_12
                      refine lv_aload_n C.1 C.2.1 dX15_move_124 rfl (lv_at hl 0 rfl) ?_
                      obtain ⟨r_13, er_13, hE⟩ := cl_e hE
                      refine gf_X15_288 C hW k_x0 er_13 dX15_move_125 (fun k_r_13 => ?_)
                      obtain ⟨r_14, er_14, hE⟩ := cl_e hE
                      refine gf_X15_602 C hW k_r_13 er_14 dX15_move_128 (fun k_r_14 => ?_)
                      refine lv_iload_n C.1 C.2.1 dX15_move_131 rfl (lv_at hl 2 rfl) ?_
                      obtain ⟨g_15, hE⟩ := gd_e hE
                      refine y_iald C hW k_r_14 g_15 dX15_move_132 ?_
                      exact bX15_move_133 C hkm hW hZ _ (lv_sub hl [] rfl) hE
                    · have hE := br_p hE c_12
                      refine lv_aload_n C.1 C.2.1 dX15_move_112 rfl (lv_at hl 0 rfl) ?_
                      obtain ⟨r_16, er_16, hE⟩ := cl_e hE
                      refine gf_X15_288 C hW k_x0 er_16 dX15_move_113 (fun k_r_16 => ?_)
                      obtain ⟨r_17, er_17, hE⟩ := cl_e hE
                      refine gf_X15_605 C hW k_r_16 er_17 dX15_move_116 (fun k_r_17 => ?_)
                      refine lv_iload_n C.1 C.2.1 dX15_move_119 rfl (lv_at hl 2 rfl) ?_
                      obtain ⟨g_18, hE⟩ := gd_e hE
                      refine y_iald C hW k_r_17 g_18 dX15_move_120 ?_
                      refine lv_goto (tgt := 133) C.1 C.2.1 dX15_move_121 (by decide) ?_
                      exact bX15_move_133 C hkm hW hZ _ (lv_sub hl [] rfl) hE
                  · have hE := br_p hE c_11
                    refine lv_aload_n C.1 C.2.1 dX15_move_95 rfl (lv_at hl 0 rfl) ?_
                    obtain ⟨r_19, er_19, hE⟩ := cl_e hE
                    refine gf_X15_288 C hW k_x0 er_19 dX15_move_96 (fun k_r_19 => ?_)
                    obtain ⟨r_20, er_20, hE⟩ := cl_e hE
                    refine gf_X15_612 C hW k_r_19 er_20 dX15_move_99 (fun k_r_20 => ?_)
                    refine lv_iload_n C.1 C.2.1 dX15_move_102 rfl (lv_at hl 2 rfl) ?_
                    obtain ⟨g_21, hE⟩ := gd_e hE
                    refine y_iald C hW k_r_20 g_21 dX15_move_103 ?_
                    refine lv_goto (tgt := 133) C.1 C.2.1 dX15_move_104 (by decide) ?_
                    exact bX15_move_133 C hkm hW hZ _ (lv_sub hl [] rfl) hE
                · have hE := br_p hE c_10
                  refine lv_aload_n C.1 C.2.1 dX15_move_78 rfl (lv_at hl 0 rfl) ?_
                  obtain ⟨r_22, er_22, hE⟩ := cl_e hE
                  refine gf_X15_288 C hW k_x0 er_22 dX15_move_79 (fun k_r_22 => ?_)
                  obtain ⟨r_23, er_23, hE⟩ := cl_e hE
                  refine gf_X15_600 C hW k_r_22 er_23 dX15_move_82 (fun k_r_23 => ?_)
                  refine lv_iload_n C.1 C.2.1 dX15_move_85 rfl (lv_at hl 2 rfl) ?_
                  obtain ⟨g_24, hE⟩ := gd_e hE
                  refine y_iald C hW k_r_23 g_24 dX15_move_86 ?_
                  refine lv_goto (tgt := 133) C.1 C.2.1 dX15_move_87 (by decide) ?_
                  exact bX15_move_133 C hkm hW hZ _ (lv_sub hl [] rfl) hE
              · have hE := br_p hE c_9
                refine lv_aload_n C.1 C.2.1 dX15_move_61 rfl (lv_at hl 0 rfl) ?_
                obtain ⟨r_25, er_25, hE⟩ := cl_e hE
                refine gf_X15_288 C hW k_x0 er_25 dX15_move_62 (fun k_r_25 => ?_)
                obtain ⟨r_26, er_26, hE⟩ := cl_e hE
                refine gf_X15_598 C hW k_r_25 er_26 dX15_move_65 (fun k_r_26 => ?_)
                refine lv_iload_n C.1 C.2.1 dX15_move_68 rfl (lv_at hl 2 rfl) ?_
                obtain ⟨g_27, hE⟩ := gd_e hE
                refine y_iald C hW k_r_26 g_27 dX15_move_69 ?_
                refine lv_goto (tgt := 133) C.1 C.2.1 dX15_move_70 (by decide) ?_
                exact bX15_move_133 C hkm hW hZ _ (lv_sub hl [] rfl) hE
            · have hE := br_p hE c_8
              refine lv_aload_n C.1 C.2.1 dX15_move_44 rfl (lv_at hl 0 rfl) ?_
              obtain ⟨r_28, er_28, hE⟩ := cl_e hE
              refine gf_X15_288 C hW k_x0 er_28 dX15_move_45 (fun k_r_28 => ?_)
              obtain ⟨r_29, er_29, hE⟩ := cl_e hE
              refine gf_X15_597 C hW k_r_28 er_29 dX15_move_48 (fun k_r_29 => ?_)
              refine lv_iload_n C.1 C.2.1 dX15_move_51 rfl (lv_at hl 2 rfl) ?_
              obtain ⟨g_30, hE⟩ := gd_e hE
              refine y_iald C hW k_r_29 g_30 dX15_move_52 ?_
              refine lv_goto (tgt := 133) C.1 C.2.1 dX15_move_53 (by decide) ?_
              exact bX15_move_133 C hkm hW hZ _ (lv_sub hl [] rfl) hE
          · have hE := br_n hE c_7
            exact bX15_move_37 C hkm hW hZ _ (lv_sub hl [] rfl) hE
    · have hE := br_n hE c_2
      exact bX15_move_9 C hkm hW hZ _ (lv_sub hl [] rfl) hE
theorem dX15_go_0 : decode cX15_go 0 = .ok (.aload_n 0, 1) := by decide +kernel
theorem dX15_go_1 : decode cX15_go 1 = .ok (.iload_n 1, 1) := by decide +kernel
theorem dX15_go_2 : decode cX15_go 2 = .ok (.invokevirtual 668, 3) := by decide +kernel
theorem dX15_go_5 : decode cX15_go 5 = .ok (.bipush (-102), 2) := by decide +kernel
theorem dX15_go_7 : decode cX15_go 7 = .ok (.if_icmp .eq 18, 3) := by decide +kernel
theorem dX15_go_10 : decode cX15_go 10 = .ok (.iload_n 2, 1) := by decide +kernel
theorem dX15_go_11 : decode cX15_go 11 = .ok (.ifCond .lt 14, 3) := by decide +kernel
theorem dX15_go_14 : decode cX15_go 14 = .ok (.iload_n 2, 1) := by decide +kernel
theorem dX15_go_15 : decode cX15_go 15 = .ok (.aload_n 0, 1) := by decide +kernel
theorem dX15_go_16 : decode cX15_go 16 = .ok (.getfield 288, 3) := by decide +kernel
theorem dX15_go_19 : decode cX15_go 19 = .ok (.getfield 575, 3) := by decide +kernel
theorem dX15_go_22 : decode cX15_go 22 = .ok (.if_icmp .lt 6, 3) := by decide +kernel
theorem dX15_go_25 : decode cX15_go 25 = .ok (.bipush (-102), 2) := by decide +kernel
theorem dX15_go_27 : decode cX15_go 27 = .ok (.ireturn, 1) := by decide +kernel
theorem dX15_go_28 : decode cX15_go 28 = .ok (.aload_n 0, 1) := by decide +kernel
theorem dX15_go_29 : decode cX15_go 29 = .ok (.invokevirtual 402, 3) := by decide +kernel
theorem dX15_go_32 : decode cX15_go 32 = .ok (.iconst (-1), 1) := by decide +kernel
theorem dX15_go_33 : decode cX15_go 33 = .ok (.if_icmp .ne 6, 3) := by decide +kernel
theorem dX15_go_36 : decode cX15_go 36 = .ok (.bipush (-104), 2) := by decide +kernel
theorem dX15_go_38 : decode cX15_go 38 = .ok (.ireturn, 1) := by decide +kernel
theorem dX15_go_39 : decode cX15_go 39 = .ok (.aload_n 0, 1) := by decide +kernel
theorem dX15_go_40 : decode cX15_go 40 = .ok (.aload_n 0, 1) := by decide +kernel
theorem dX15_go_41 : decode cX15_go 41 = .ok (.getfield 257, 3) := by decide +kernel
theorem dX15_go_44 : decode cX15_go 44 = .ok (.iload_n 1, 1) := by decide +kernel
theorem dX15_go_45 : decode cX15_go 45 = .ok (.aaload, 1) := by decide +kernel
set_option maxRecDepth 20000 in
theorem moX15_go_25 {o : Int32 × Hp} {F : Nat} {h : Hp} (hE : sX15_go_25 F h  = some o) : Le h o.2 := by
  exact le_some2 hE
set_option maxRecDepth 20000 in
theorem moX15_go_32 {o : Int32 × Hp} {F : Nat} {h : Hp} {x0 : Nat} {x1 : Int32} {x2 : Int32} {t0 : Int32} (hE : sX15_go_32 F h x0 x1 x2 t0 = some o) : Le h o.2 := by
  rcases br_e hE with ⟨_, hE⟩ | ⟨_, hE⟩
  · exact le_some2 hE
  · obtain ⟨r_2, er_2, hE⟩ := cl_e hE
    cases hE
set_option maxRecDepth 20000 in
theorem moX15_go_5 {o : Int32 × Hp} {F : Nat} {h : Hp} {x0 : Nat} {x1 : Int32} {x2 : Int32} {t0 : Int32} (hE : sX15_go_5 F h x0 x1 x2 t0 = some o) : Le h o.2 := by
  rcases br_e hE with ⟨_, hE⟩ | ⟨_, hE⟩
  · exact moX15_go_25 hE
  · rcases br_e hE with ⟨_, hE⟩ | ⟨_, hE⟩
    · exact moX15_go_25 hE
    · obtain ⟨r_3, er_3, hE⟩ := cl_e hE
      rcases br_e hE with ⟨_, hE⟩ | ⟨_, hE⟩
      · obtain ⟨o_5, eo_5, hE⟩ := cl_e hE
        refine (moX15_freePlace eo_5).tr ?_
        exact moX15_go_32 hE
      · exact moX15_go_25 hE
set_option maxRecDepth 20000 in
theorem moX15_go {o : Int32 × Hp} {F : Nat} {h : Hp} {x0 : Nat} {x1 : Int32} {x2 : Int32} (hE : sX15_go F h x0 x1 x2 = some o) : Le h o.2 := by
  obtain ⟨o_1, eo_1, hE⟩ := cl_e hE
  refine (moX15_moves eo_1).tr ?_
  exact moX15_go_5 hE
set_option maxRecDepth 20000 in
theorem bX15_go_25 {p : Program} {l : Launch} {e : Env} {s : State} {m : MethodId} {args : Array Value} {below : List Frame} {meth : Method} {c : Code} {X : Ec} {h0 : Hp} {o : Int32 × Hp} {F : Nat} (C : Cx X p s m args meth c RX15 cX15_go 3 (some .int) "go") {h : Hp} {H : Heap} {locs : List Loc} (hkl : Kl h0 h) (hW : Wx X h H) (hZ : va_S (aA (eB X)) s.heap H locs) (ls : Array Slot) (hl : lv_has ls 3 []) (hE : sX15_go_25 F h  = some o) : W p l e (rmA 2 42 h0 o.2) s m args below meth c H locs (hS h - hS h0) (hL h - hL h0) (MQ below (QIA X h0 o.1 o.2) args s (hS o.2 - hS h0) (hL o.2 - hL h0) (aA (eB X))) (F0 m 25 ls []) := by
  refine lv_bipush (v := (-102 : Int32)) C.1 C.2.1 dX15_go_25 (by decide) ?_
  exact x_iretA C rfl rfl hW hZ hkl hE dX15_go_27
set_option maxRecDepth 20000 in
theorem bX15_go_32 {p : Program} {l : Launch} {e : Env} {s : State} {m : MethodId} {args : Array Value} {below : List Frame} {meth : Method} {c : Code} {X : Ec} {h0 : Hp} {o : Int32 × Hp} {F : Nat} (C : Cx X p s m args meth c RX15 cX15_go 3 (some .int) "go") {h : Hp} {x0 : Nat} {x1 : Int32} {x2 : Int32} {t0 : Int32} {H : Heap} {locs : List Loc} (k_x0 : hK h x0 = 15) (hkl : Kl h0 h) (hW : Wx X h H) (hZ : va_S (aA (eB X)) s.heap H locs) (ls : Array Slot) (hl : lv_has ls 3 [(0, .ref x0), (1, .int x1), (2, .int x2)]) (hE : sX15_go_32 F h x0 x1 x2 t0 = some o) : W p l e (rmA 2 42 h0 o.2) s m args below meth c H locs (hS h - hS h0) (hL h - hL h0) (MQ below (QIA X h0 o.1 o.2) args s (hS o.2 - hS h0) (hL o.2 - hL h0) (aA (eB X))) (F0 m 32 ls [.int t0]) := by
  refine lv_iconst (v := (-1 : Int32)) C.1 C.2.1 dX15_go_32 (by decide) ?_
  refine lv_icmp_ne (tgt := 39) C.1 C.2.1 dX15_go_33 (by decide) (fun c_1 => ?_) (fun c_1 => ?_)
  · have hE := br_n hE c_1
    refine lv_aload_n C.1 C.2.1 dX15_go_39 rfl (lv_at hl 0 rfl) ?_
    refine lv_aload_n C.1 C.2.1 dX15_go_40 rfl (lv_at hl 0 rfl) ?_
    obtain ⟨r_2, er_2, hE⟩ := cl_e hE
    refine gf_X15_257 C hW k_x0 er_2 dX15_go_41 (fun k_r_2 => ?_)
    refine lv_iload_n C.1 C.2.1 dX15_go_44 rfl (lv_at hl 1 rfl) ?_
    cases hE
  · have hE := br_p hE c_1
    refine lv_bipush (v := (-104 : Int32)) C.1 C.2.1 dX15_go_36 (by decide) ?_
    exact x_iretA C rfl rfl hW hZ hkl hE dX15_go_38
set_option maxRecDepth 20000 in
theorem bX15_go_5 {p : Program} {l : Launch} {e : Env} {s : State} {m : MethodId} {args : Array Value} {below : List Frame} {meth : Method} {c : Code} {X : Ec} {h0 : Hp} {o : Int32 × Hp} {F : Nat} (C : Cx X p s m args meth c RX15 cX15_go 3 (some .int) "go") {h : Hp} {x0 : Nat} {x1 : Int32} {x2 : Int32} {t0 : Int32} {H : Heap} {locs : List Loc} (k_x0 : hK h x0 = 15) (hkl : Kl h0 h) (hW : Wx X h H) (hZ : va_S (aA (eB X)) s.heap H locs) (ls : Array Slot) (hl : lv_has ls 3 [(0, .ref x0), (1, .int x1), (2, .int x2)]) (hE : sX15_go_5 F h x0 x1 x2 t0 = some o) : W p l e (rmA 2 42 h0 o.2) s m args below meth c H locs (hS h - hS h0) (hL h - hL h0) (MQ below (QIA X h0 o.1 o.2) args s (hS o.2 - hS h0) (hL o.2 - hL h0) (aA (eB X))) (F0 m 5 ls [.int t0]) := by
  refine lv_bipush (v := (-102 : Int32)) C.1 C.2.1 dX15_go_5 (by decide) ?_
  refine lv_icmp_eq (tgt := 25) C.1 C.2.1 dX15_go_7 (by decide) (fun c_1 => ?_) (fun c_1 => ?_)
  · have hE := br_p hE c_1
    exact bX15_go_25 C hkl hW hZ _ (lv_sub hl [] rfl) hE
  · have hE := br_n hE c_1
    refine lv_iload_n C.1 C.2.1 dX15_go_10 rfl (lv_at hl 2 rfl) ?_
    refine lv_if_lt (tgt := 25) C.1 C.2.1 dX15_go_11 (by decide) (fun c_2 => ?_) (fun c_2 => ?_)
    · have hE := br_p hE c_2
      exact bX15_go_25 C hkl hW hZ _ (lv_sub hl [] rfl) hE
    · have hE := br_n hE c_2
      refine lv_iload_n C.1 C.2.1 dX15_go_14 rfl (lv_at hl 2 rfl) ?_
      refine lv_aload_n C.1 C.2.1 dX15_go_15 rfl (lv_at hl 0 rfl) ?_
      obtain ⟨r_3, er_3, hE⟩ := cl_e hE
      refine gf_X15_288 C hW k_x0 er_3 dX15_go_16 (fun k_r_3 => ?_)
      refine gf_X15_575 C hW k_r_3 dX15_go_19 ?_
      refine lv_icmp_lt (tgt := 28) C.1 C.2.1 dX15_go_22 (by decide) (fun c_4 => ?_) (fun c_4 => ?_)
      · have hE := br_p hE c_4
        refine lv_aload_n C.1 C.2.1 dX15_go_28 rfl (lv_at hl 0 rfl) ?_
        obtain ⟨o_5, eo_5, hE⟩ := cl_e hE
        have m1 := moX15_freePlace eo_5
        have m2 := moX15_go_32 hE
        refine x_kI (o := o_5) (z_runV (As := []) (rest := []) C (ct_X15_freePlace l X F k_x0 eo_5) cw_X15_402 hW hZ k_x0 (by decide) rfl rfl rfl hl.1 (Nat.le_of_ble_eq_true rfl) rfl dX15_go_29 ⟨Nat.le_of_ble_eq_true rfl, Nat.le_of_ble_eq_true rfl⟩ (rm_ok0 hkl m1 m2)) hZ (fun _ _ hW km hZ => ?_)
        replace hkl := hkl.tr km.l
        refine x_wc km ?_
        replace k_x0 := km.at k_x0 (by decide)
        exact bX15_go_32 C k_x0 hkl hW hZ _ (lv_sub hl [0, 1, 2] rfl) hE
      · have hE := br_n hE c_4
        exact bX15_go_25 C hkl hW hZ _ (lv_sub hl [] rfl) hE
set_option maxRecDepth 20000 in
theorem ct_X15_go (l : Launch) (X : Ec) (F : Nat) {h : Hp} {x0 : Nat} {x1 : Int32} {x2 : Int32} {o : Int32 × Hp} (k_x0 : hK h x0 = 15) (hE : sX15_go F h x0 x1 x2 = some o) : MetIA l yX15_go cX15_go 3 (some .int) 2 42 X [.ref x0, .int x1, .int x2] h o := by
  refine x_metA (oh := o.2) (by decide) (Nat.le_of_ble_eq_true rfl) ?_
  intro p e s m below meth c ls C hl hW hZ
  have hl : lv_has ls 3 [(0, .ref x0), (1, .int x1), (2, .int x2)] := hl
  have hkl : Kl h h := Kl.rf h
  refine lv_aload_n C.1 C.2.1 dX15_go_0 rfl (lv_at hl 0 rfl) ?_
  refine lv_iload_n C.1 C.2.1 dX15_go_1 rfl (lv_at hl 1 rfl) ?_
  obtain ⟨o_1, eo_1, hE⟩ := cl_e hE
  have m1 := moX15_moves eo_1
  have m2 := moX15_go_5 hE
  refine x_kI (o := o_1) (z_runV (As := [.int x1]) (rest := []) C (ct_X15_moves l X k_x0 eo_1) cw_X15_668 hW hZ k_x0 (by decide) rfl rfl rfl hl.1 (Nat.le_of_ble_eq_true rfl) rfl dX15_go_2 ⟨Nat.le_of_ble_eq_true rfl, Nat.le_of_ble_eq_true rfl⟩ (rm_ok0 hkl m1 m2)) hZ (fun _ _ hW km hZ => ?_)
  replace hkl := hkl.tr km.l
  refine x_wc km ?_
  replace k_x0 := km.at k_x0 (by decide)
  exact bX15_go_5 C k_x0 hkl hW hZ _ (lv_sub hl [0, 1, 2] rfl) hE
theorem dX15_rows_0 : decode cX15_rows 0 = .ok (.iload_n 2, 1) := by decide +kernel
theorem dX15_rows_1 : decode cX15_rows 1 = .ok (.ifCond .lt 9, 3) := by decide +kernel
theorem dX15_rows_4 : decode cX15_rows 4 = .ok (.iload_n 2, 1) := by decide +kernel
theorem dX15_rows_5 : decode cX15_rows 5 = .ok (.bipush 6, 2) := by decide +kernel
theorem dX15_rows_7 : decode cX15_rows 7 = .ok (.if_icmp .le 6, 3) := by decide +kernel
theorem dX15_rows_10 : decode cX15_rows 10 = .ok (.bipush (-101), 2) := by decide +kernel
theorem dX15_rows_12 : decode cX15_rows 12 = .ok (.ireturn, 1) := by decide +kernel
theorem dX15_rows_13 : decode cX15_rows 13 = .ok (.aload_n 0, 1) := by decide +kernel
theorem dX15_rows_14 : decode cX15_rows 14 = .ok (.iload_n 1, 1) := by decide +kernel
theorem dX15_rows_15 : decode cX15_rows 15 = .ok (.invokevirtual 486, 3) := by decide +kernel
theorem dX15_rows_18 : decode cX15_rows 18 = .ok (.ifCond .ne 6, 3) := by decide +kernel
theorem dX15_rows_21 : decode cX15_rows 21 = .ok (.bipush (-102), 2) := by decide +kernel
theorem dX15_rows_23 : decode cX15_rows 23 = .ok (.ireturn, 1) := by decide +kernel
theorem dX15_rows_24 : decode cX15_rows 24 = .ok (.aload_n 0, 1) := by decide +kernel
theorem dX15_rows_25 : decode cX15_rows 25 = .ok (.aload_n 0, 1) := by decide +kernel
theorem dX15_rows_26 : decode cX15_rows 26 = .ok (.getfield 257, 3) := by decide +kernel
theorem dX15_rows_29 : decode cX15_rows 29 = .ok (.iload_n 1, 1) := by decide +kernel
theorem dX15_rows_30 : decode cX15_rows 30 = .ok (.aaload, 1) := by decide +kernel
set_option maxRecDepth 20000 in
theorem moX15_rows_10 {o : Int32 × Hp} {h : Hp} (hE : sX15_rows_10 h  = some o) : Le h o.2 := by
  exact le_some2 hE
set_option maxRecDepth 20000 in
theorem moX15_rows_18 {o : Int32 × Hp} {h : Hp} {x0 : Nat} {x1 : Int32} {x2 : Int32} {t0 : Int32} (hE : sX15_rows_18 h x0 x1 x2 t0 = some o) : Le h o.2 := by
  rcases br_e hE with ⟨_, hE⟩ | ⟨_, hE⟩
  · exact le_some2 hE
  · obtain ⟨r_2, er_2, hE⟩ := cl_e hE
    cases hE
set_option maxRecDepth 20000 in
theorem moX15_rows {o : Int32 × Hp} {h : Hp} {x0 : Nat} {x1 : Int32} {x2 : Int32} (hE : sX15_rows h x0 x1 x2 = some o) : Le h o.2 := by
  rcases br_e hE with ⟨_, hE⟩ | ⟨_, hE⟩
  · exact moX15_rows_10 hE
  · rcases br_e hE with ⟨_, hE⟩ | ⟨_, hE⟩
    · obtain ⟨o_3, eo_3, hE⟩ := cl_e hE
      refine (moX15_has eo_3).tr ?_
      exact moX15_rows_18 hE
    · exact moX15_rows_10 hE
set_option maxRecDepth 20000 in
theorem bX15_rows_10 {p : Program} {l : Launch} {e : Env} {s : State} {m : MethodId} {args : Array Value} {below : List Frame} {meth : Method} {c : Code} {X : Ec} {h0 : Hp} {o : Int32 × Hp} (C : Cx X p s m args meth c RX15 cX15_rows 3 (some .int) "rows") {h : Hp} {H : Heap} {locs : List Loc} (hkl : Kl h0 h) (hW : Wx X h H) (hZ : va_S (aA (eB X)) s.heap H locs) (ls : Array Slot) (hl : lv_has ls 3 []) (hE : sX15_rows_10 h  = some o) : W p l e (rmA 1 21 h0 o.2) s m args below meth c H locs (hS h - hS h0) (hL h - hL h0) (MQ below (QIA X h0 o.1 o.2) args s (hS o.2 - hS h0) (hL o.2 - hL h0) (aA (eB X))) (F0 m 10 ls []) := by
  refine lv_bipush (v := (-101 : Int32)) C.1 C.2.1 dX15_rows_10 (by decide) ?_
  exact x_iretA C rfl rfl hW hZ hkl hE dX15_rows_12
set_option maxRecDepth 20000 in
theorem bX15_rows_18 {p : Program} {l : Launch} {e : Env} {s : State} {m : MethodId} {args : Array Value} {below : List Frame} {meth : Method} {c : Code} {X : Ec} {h0 : Hp} {o : Int32 × Hp} (C : Cx X p s m args meth c RX15 cX15_rows 3 (some .int) "rows") {h : Hp} {x0 : Nat} {x1 : Int32} {x2 : Int32} {t0 : Int32} {H : Heap} {locs : List Loc} (k_x0 : hK h x0 = 15) (hkl : Kl h0 h) (hW : Wx X h H) (hZ : va_S (aA (eB X)) s.heap H locs) (ls : Array Slot) (hl : lv_has ls 3 [(0, .ref x0), (1, .int x1), (2, .int x2)]) (hE : sX15_rows_18 h x0 x1 x2 t0 = some o) : W p l e (rmA 1 21 h0 o.2) s m args below meth c H locs (hS h - hS h0) (hL h - hL h0) (MQ below (QIA X h0 o.1 o.2) args s (hS o.2 - hS h0) (hL o.2 - hL h0) (aA (eB X))) (F0 m 18 ls [.int t0]) := by
  refine lv_if_ne (tgt := 24) C.1 C.2.1 dX15_rows_18 (by decide) (fun c_1 => ?_) (fun c_1 => ?_)
  · have hE := br_n hE c_1
    refine lv_aload_n C.1 C.2.1 dX15_rows_24 rfl (lv_at hl 0 rfl) ?_
    refine lv_aload_n C.1 C.2.1 dX15_rows_25 rfl (lv_at hl 0 rfl) ?_
    obtain ⟨r_2, er_2, hE⟩ := cl_e hE
    refine gf_X15_257 C hW k_x0 er_2 dX15_rows_26 (fun k_r_2 => ?_)
    refine lv_iload_n C.1 C.2.1 dX15_rows_29 rfl (lv_at hl 1 rfl) ?_
    cases hE
  · have hE := br_p hE c_1
    refine lv_bipush (v := (-102 : Int32)) C.1 C.2.1 dX15_rows_21 (by decide) ?_
    exact x_iretA C rfl rfl hW hZ hkl hE dX15_rows_23
set_option maxRecDepth 20000 in
theorem ct_X15_rows (l : Launch) (X : Ec) {h : Hp} {x0 : Nat} {x1 : Int32} {x2 : Int32} {o : Int32 × Hp} (k_x0 : hK h x0 = 15) (hE : sX15_rows h x0 x1 x2 = some o) : MetIA l yX15_rows cX15_rows 3 (some .int) 1 21 X [.ref x0, .int x1, .int x2] h o := by
  refine x_metA (oh := o.2) (by decide) (Nat.le_of_ble_eq_true rfl) ?_
  intro p e s m below meth c ls C hl hW hZ
  have hl : lv_has ls 3 [(0, .ref x0), (1, .int x1), (2, .int x2)] := hl
  have hkl : Kl h h := Kl.rf h
  refine lv_iload_n C.1 C.2.1 dX15_rows_0 rfl (lv_at hl 2 rfl) ?_
  refine lv_if_lt (tgt := 10) C.1 C.2.1 dX15_rows_1 (by decide) (fun c_1 => ?_) (fun c_1 => ?_)
  · have hE := br_p hE c_1
    exact bX15_rows_10 C hkl hW hZ _ (lv_sub hl [] rfl) hE
  · have hE := br_n hE c_1
    refine lv_iload_n C.1 C.2.1 dX15_rows_4 rfl (lv_at hl 2 rfl) ?_
    refine lv_bipush (v := (6 : Int32)) C.1 C.2.1 dX15_rows_5 (by decide) ?_
    refine lv_icmp_le (tgt := 13) C.1 C.2.1 dX15_rows_7 (by decide) (fun c_2 => ?_) (fun c_2 => ?_)
    · have hE := br_p hE c_2
      refine lv_aload_n C.1 C.2.1 dX15_rows_13 rfl (lv_at hl 0 rfl) ?_
      refine lv_iload_n C.1 C.2.1 dX15_rows_14 rfl (lv_at hl 1 rfl) ?_
      obtain ⟨o_3, eo_3, hE⟩ := cl_e hE
      have m1 := moX15_has eo_3
      have m2 := moX15_rows_18 hE
      refine x_kI (o := o_3) (z_runV (As := [.int x1]) (rest := []) C (ct_X15_has l X k_x0 eo_3) cw_X15_486 hW hZ k_x0 (by decide) rfl rfl rfl hl.1 (Nat.le_of_ble_eq_true rfl) rfl dX15_rows_15 ⟨Nat.le_of_ble_eq_true rfl, Nat.le_of_ble_eq_true rfl⟩ (rm_ok0 hkl m1 m2)) hZ (fun _ _ hW km hZ => ?_)
      replace hkl := hkl.tr km.l
      refine x_wc km ?_
      replace k_x0 := km.at k_x0 (by decide)
      exact bX15_rows_18 C k_x0 hkl hW hZ _ (lv_sub hl [0, 1, 2] rfl) hE
    · have hE := br_n hE c_2
      exact bX15_rows_10 C hkl hW hZ _ (lv_sub hl [] rfl) hE
theorem dX15_ended_0 : decode cX15_ended 0 = .ok (.aload_n 0, 1) := by decide +kernel
theorem dX15_ended_1 : decode cX15_ended 1 = .ok (.iload_n 1, 1) := by decide +kernel
theorem dX15_ended_2 : decode cX15_ended 2 = .ok (.invokevirtual 668, 3) := by decide +kernel
theorem dX15_ended_5 : decode cX15_ended 5 = .ok (.bipush (-102), 2) := by decide +kernel
theorem dX15_ended_7 : decode cX15_ended 7 = .ok (.if_icmp .ne 8, 3) := by decide +kernel
theorem dX15_ended_10 : decode cX15_ended 10 = .ok (.bipush (-102), 2) := by decide +kernel
theorem dX15_ended_12 : decode cX15_ended 12 = .ok (.goto 20, 3) := by decide +kernel
theorem dX15_ended_15 : decode cX15_ended 15 = .ok (.aload_n 0, 1) := by decide +kernel
theorem dX15_ended_16 : decode cX15_ended 16 = .ok (.aload_n 0, 1) := by decide +kernel
theorem dX15_ended_17 : decode cX15_ended 17 = .ok (.getfield 257, 3) := by decide +kernel
theorem dX15_ended_20 : decode cX15_ended 20 = .ok (.iload_n 1, 1) := by decide +kernel
theorem dX15_ended_21 : decode cX15_ended 21 = .ok (.aaload, 1) := by decide +kernel
theorem dX15_ended_32 : decode cX15_ended 32 = .ok (.ireturn, 1) := by decide +kernel
set_option maxRecDepth 20000 in
theorem moX15_ended_32 {o : Int32 × Hp} {h : Hp} {t0 : Int32} (hE : sX15_ended_32 h  t0 = some o) : Le h o.2 := by
  exact le_some2 hE
set_option maxRecDepth 20000 in
theorem moX15_ended {o : Int32 × Hp} {h : Hp} {x0 : Nat} {x1 : Int32} (hE : sX15_ended h x0 x1 = some o) : Le h o.2 := by
  obtain ⟨o_1, eo_1, hE⟩ := cl_e hE
  refine (moX15_moves eo_1).tr ?_
  rcases br_e hE with ⟨_, hE⟩ | ⟨_, hE⟩
  · exact moX15_ended_32 hE
  · obtain ⟨r_3, er_3, hE⟩ := cl_e hE
    cases hE
set_option maxRecDepth 20000 in
theorem bX15_ended_32 {p : Program} {l : Launch} {e : Env} {s : State} {m : MethodId} {args : Array Value} {below : List Frame} {meth : Method} {c : Code} {X : Ec} {h0 : Hp} {o : Int32 × Hp} (C : Cx X p s m args meth c RX15 cX15_ended 2 (some .int) "ended") {h : Hp} {t0 : Int32} {H : Heap} {locs : List Loc} (hkm : Km h0 h) (hW : Wx X h H) (hZ : va_S (aA (eB X)) s.heap H locs) (ls : Array Slot) (hl : lv_has ls 2 []) (hE : sX15_ended_32 h  t0 = some o) : W p l e (rm 2 42) s m args below meth c H locs 0 0 (MQ below (QI X h0 o.1 o.2) args s 0 0 (aA (eB X))) (F0 m 32 ls [.int t0]) := by
  exact x_iret C rfl rfl hW hZ hkm hE dX15_ended_32
set_option maxRecDepth 20000 in
theorem ct_X15_ended (l : Launch) (X : Ec) {h : Hp} {x0 : Nat} {x1 : Int32} {o : Int32 × Hp} (k_x0 : hK h x0 = 15) (hE : sX15_ended h x0 x1 = some o) : MetI l yX15_ended cX15_ended 2 (some .int) 2 42 X [.ref x0, .int x1] h o := by
  refine x_met (by decide) (Nat.le_of_ble_eq_true rfl) ?_
  intro p e s m below meth c ls C hl hW hZ
  have hl : lv_has ls 2 [(0, .ref x0), (1, .int x1)] := hl
  have hkm : Km h h := Km.rf h
  refine lv_aload_n C.1 C.2.1 dX15_ended_0 rfl (lv_at hl 0 rfl) ?_
  refine lv_iload_n C.1 C.2.1 dX15_ended_1 rfl (lv_at hl 1 rfl) ?_
  obtain ⟨o_1, eo_1, hE⟩ := cl_e hE
  refine x_kI (o := o_1) (z_runV (As := [.int x1]) (rest := []) C (ct_X15_moves l X k_x0 eo_1) cw_X15_668 hW hZ k_x0 (by decide) rfl rfl rfl hl.1 (Nat.le_of_ble_eq_true rfl) rfl dX15_ended_2 ⟨Nat.le_of_ble_eq_true rfl, Nat.le_of_ble_eq_true rfl⟩ ⟨Nat.le_refl _, Nat.le_refl _⟩) hZ (fun _ _ hW km hZ => ?_)
  replace hkm := hkm.tr km
  replace k_x0 := km.at k_x0 (by decide)
  refine lv_bipush (v := (-102 : Int32)) C.1 C.2.1 dX15_ended_5 (by decide) ?_
  refine lv_icmp_ne (tgt := 15) C.1 C.2.1 dX15_ended_7 (by decide) (fun c_2 => ?_) (fun c_2 => ?_)
  · have hE := br_n hE c_2
    refine lv_aload_n C.1 C.2.1 dX15_ended_15 rfl (lv_at hl 0 rfl) ?_
    refine lv_aload_n C.1 C.2.1 dX15_ended_16 rfl (lv_at hl 0 rfl) ?_
    obtain ⟨r_3, er_3, hE⟩ := cl_e hE
    refine gf_X15_257 C hW k_x0 er_3 dX15_ended_17 (fun k_r_3 => ?_)
    refine lv_iload_n C.1 C.2.1 dX15_ended_20 rfl (lv_at hl 1 rfl) ?_
    cases hE
  · have hE := br_p hE c_2
    refine lv_bipush (v := (-102 : Int32)) C.1 C.2.1 dX15_ended_10 (by decide) ?_
    refine lv_goto (tgt := 32) C.1 C.2.1 dX15_ended_12 (by decide) ?_
    exact bX15_ended_32 C hkm hW hZ _ (lv_sub hl [] rfl) hE
theorem dX15_result_0 : decode cX15_result 0 = .ok (.aload_n 0, 1) := by decide +kernel
theorem dX15_result_1 : decode cX15_result 1 = .ok (.iload_n 1, 1) := by decide +kernel
theorem dX15_result_2 : decode cX15_result 2 = .ok (.invokevirtual 668, 3) := by decide +kernel
theorem dX15_result_5 : decode cX15_result 5 = .ok (.bipush (-102), 2) := by decide +kernel
theorem dX15_result_7 : decode cX15_result 7 = .ok (.if_icmp .ne 8, 3) := by decide +kernel
theorem dX15_result_10 : decode cX15_result 10 = .ok (.bipush (-102), 2) := by decide +kernel
theorem dX15_result_12 : decode cX15_result 12 = .ok (.goto 31, 3) := by decide +kernel
theorem dX15_result_15 : decode cX15_result 15 = .ok (.aload_n 0, 1) := by decide +kernel
theorem dX15_result_16 : decode cX15_result 16 = .ok (.aload_n 0, 1) := by decide +kernel
theorem dX15_result_17 : decode cX15_result 17 = .ok (.getfield 257, 3) := by decide +kernel
theorem dX15_result_20 : decode cX15_result 20 = .ok (.iload_n 1, 1) := by decide +kernel
theorem dX15_result_21 : decode cX15_result 21 = .ok (.aaload, 1) := by decide +kernel
theorem dX15_result_43 : decode cX15_result 43 = .ok (.ireturn, 1) := by decide +kernel
set_option maxRecDepth 20000 in
theorem moX15_result_43 {o : Int32 × Hp} {h : Hp} {t0 : Int32} (hE : sX15_result_43 h  t0 = some o) : Le h o.2 := by
  exact le_some2 hE
set_option maxRecDepth 20000 in
theorem moX15_result {o : Int32 × Hp} {h : Hp} {x0 : Nat} {x1 : Int32} (hE : sX15_result h x0 x1 = some o) : Le h o.2 := by
  obtain ⟨o_1, eo_1, hE⟩ := cl_e hE
  refine (moX15_moves eo_1).tr ?_
  rcases br_e hE with ⟨_, hE⟩ | ⟨_, hE⟩
  · exact moX15_result_43 hE
  · obtain ⟨r_3, er_3, hE⟩ := cl_e hE
    cases hE
set_option maxRecDepth 20000 in
theorem bX15_result_43 {p : Program} {l : Launch} {e : Env} {s : State} {m : MethodId} {args : Array Value} {below : List Frame} {meth : Method} {c : Code} {X : Ec} {h0 : Hp} {o : Int32 × Hp} (C : Cx X p s m args meth c RX15 cX15_result 2 (some .int) "result") {h : Hp} {t0 : Int32} {H : Heap} {locs : List Loc} (hkm : Km h0 h) (hW : Wx X h H) (hZ : va_S (aA (eB X)) s.heap H locs) (ls : Array Slot) (hl : lv_has ls 2 []) (hE : sX15_result_43 h  t0 = some o) : W p l e (rm 2 42) s m args below meth c H locs 0 0 (MQ below (QI X h0 o.1 o.2) args s 0 0 (aA (eB X))) (F0 m 43 ls [.int t0]) := by
  exact x_iret C rfl rfl hW hZ hkm hE dX15_result_43
set_option maxRecDepth 20000 in
theorem ct_X15_result (l : Launch) (X : Ec) {h : Hp} {x0 : Nat} {x1 : Int32} {o : Int32 × Hp} (k_x0 : hK h x0 = 15) (hE : sX15_result h x0 x1 = some o) : MetI l yX15_result cX15_result 2 (some .int) 2 42 X [.ref x0, .int x1] h o := by
  refine x_met (by decide) (Nat.le_of_ble_eq_true rfl) ?_
  intro p e s m below meth c ls C hl hW hZ
  have hl : lv_has ls 2 [(0, .ref x0), (1, .int x1)] := hl
  have hkm : Km h h := Km.rf h
  refine lv_aload_n C.1 C.2.1 dX15_result_0 rfl (lv_at hl 0 rfl) ?_
  refine lv_iload_n C.1 C.2.1 dX15_result_1 rfl (lv_at hl 1 rfl) ?_
  obtain ⟨o_1, eo_1, hE⟩ := cl_e hE
  refine x_kI (o := o_1) (z_runV (As := [.int x1]) (rest := []) C (ct_X15_moves l X k_x0 eo_1) cw_X15_668 hW hZ k_x0 (by decide) rfl rfl rfl hl.1 (Nat.le_of_ble_eq_true rfl) rfl dX15_result_2 ⟨Nat.le_of_ble_eq_true rfl, Nat.le_of_ble_eq_true rfl⟩ ⟨Nat.le_refl _, Nat.le_refl _⟩) hZ (fun _ _ hW km hZ => ?_)
  replace hkm := hkm.tr km
  replace k_x0 := km.at k_x0 (by decide)
  refine lv_bipush (v := (-102 : Int32)) C.1 C.2.1 dX15_result_5 (by decide) ?_
  refine lv_icmp_ne (tgt := 15) C.1 C.2.1 dX15_result_7 (by decide) (fun c_2 => ?_) (fun c_2 => ?_)
  · have hE := br_n hE c_2
    refine lv_aload_n C.1 C.2.1 dX15_result_15 rfl (lv_at hl 0 rfl) ?_
    refine lv_aload_n C.1 C.2.1 dX15_result_16 rfl (lv_at hl 0 rfl) ?_
    obtain ⟨r_3, er_3, hE⟩ := cl_e hE
    refine gf_X15_257 C hW k_x0 er_3 dX15_result_17 (fun k_r_3 => ?_)
    refine lv_iload_n C.1 C.2.1 dX15_result_20 rfl (lv_at hl 1 rfl) ?_
    cases hE
  · have hE := br_p hE c_2
    refine lv_bipush (v := (-102 : Int32)) C.1 C.2.1 dX15_result_10 (by decide) ?_
    refine lv_goto (tgt := 43) C.1 C.2.1 dX15_result_12 (by decide) ?_
    exact bX15_result_43 C hkm hW hZ _ (lv_sub hl [] rfl) hE
theorem dX15_say__0 : decode cX15_say_ 0 = .ok (.aload_n 0, 1) := by decide +kernel
theorem dX15_say__1 : decode cX15_say_ 1 = .ok (.iload_n 1, 1) := by decide +kernel
theorem dX15_say__2 : decode cX15_say_ 2 = .ok (.invokevirtual 668, 3) := by decide +kernel
theorem dX15_say__5 : decode cX15_say_ 5 = .ok (.bipush (-102), 2) := by decide +kernel
theorem dX15_say__7 : decode cX15_say_ 7 = .ok (.if_icmp .eq 18, 3) := by decide +kernel
theorem dX15_say__10 : decode cX15_say_ 10 = .ok (.iload_n 2, 1) := by decide +kernel
theorem dX15_say__11 : decode cX15_say_ 11 = .ok (.ifCond .lt 14, 3) := by decide +kernel
theorem dX15_say__14 : decode cX15_say_ 14 = .ok (.iload_n 2, 1) := by decide +kernel
theorem dX15_say__15 : decode cX15_say_ 15 = .ok (.aload_n 0, 1) := by decide +kernel
theorem dX15_say__16 : decode cX15_say_ 16 = .ok (.getfield 288, 3) := by decide +kernel
theorem dX15_say__19 : decode cX15_say_ 19 = .ok (.getfield 575, 3) := by decide +kernel
theorem dX15_say__22 : decode cX15_say_ 22 = .ok (.if_icmp .lt 6, 3) := by decide +kernel
theorem dX15_say__25 : decode cX15_say_ 25 = .ok (.bipush (-102), 2) := by decide +kernel
theorem dX15_say__27 : decode cX15_say_ 27 = .ok (.ireturn, 1) := by decide +kernel
theorem dX15_say__28 : decode cX15_say_ 28 = .ok (.aload_n 0, 1) := by decide +kernel
theorem dX15_say__29 : decode cX15_say_ 29 = .ok (.aload_n 0, 1) := by decide +kernel
theorem dX15_say__30 : decode cX15_say_ 30 = .ok (.getfield 257, 3) := by decide +kernel
theorem dX15_say__33 : decode cX15_say_ 33 = .ok (.iload_n 1, 1) := by decide +kernel
theorem dX15_say__34 : decode cX15_say_ 34 = .ok (.aaload, 1) := by decide +kernel
set_option maxRecDepth 20000 in
theorem moX15_say__25 {o : Int32 × Hp} {h : Hp} (hE : sX15_say__25 h  = some o) : Le h o.2 := by
  exact le_some2 hE
set_option maxRecDepth 20000 in
theorem moX15_say_ {o : Int32 × Hp} {h : Hp} {x0 : Nat} {x1 : Int32} {x2 : Int32} (hE : sX15_say_ h x0 x1 x2 = some o) : Le h o.2 := by
  obtain ⟨o_1, eo_1, hE⟩ := cl_e hE
  refine (moX15_moves eo_1).tr ?_
  rcases br_e hE with ⟨_, hE⟩ | ⟨_, hE⟩
  · exact moX15_say__25 hE
  · rcases br_e hE with ⟨_, hE⟩ | ⟨_, hE⟩
    · exact moX15_say__25 hE
    · obtain ⟨r_4, er_4, hE⟩ := cl_e hE
      rcases br_e hE with ⟨_, hE⟩ | ⟨_, hE⟩
      · obtain ⟨r_6, er_6, hE⟩ := cl_e hE
        cases hE
      · exact moX15_say__25 hE
set_option maxRecDepth 20000 in
theorem bX15_say__25 {p : Program} {l : Launch} {e : Env} {s : State} {m : MethodId} {args : Array Value} {below : List Frame} {meth : Method} {c : Code} {X : Ec} {h0 : Hp} {o : Int32 × Hp} (C : Cx X p s m args meth c RX15 cX15_say_ 3 (some .int) "say") {h : Hp} {H : Heap} {locs : List Loc} (hkm : Km h0 h) (hW : Wx X h H) (hZ : va_S (aA (eB X)) s.heap H locs) (ls : Array Slot) (hl : lv_has ls 3 []) (hE : sX15_say__25 h  = some o) : W p l e (rm 2 42) s m args below meth c H locs 0 0 (MQ below (QI X h0 o.1 o.2) args s 0 0 (aA (eB X))) (F0 m 25 ls []) := by
  refine lv_bipush (v := (-102 : Int32)) C.1 C.2.1 dX15_say__25 (by decide) ?_
  exact x_iret C rfl rfl hW hZ hkm hE dX15_say__27
set_option maxRecDepth 20000 in
theorem ct_X15_say_ (l : Launch) (X : Ec) {h : Hp} {x0 : Nat} {x1 : Int32} {x2 : Int32} {o : Int32 × Hp} (k_x0 : hK h x0 = 15) (hE : sX15_say_ h x0 x1 x2 = some o) : MetI l yX15_say_ cX15_say_ 3 (some .int) 2 42 X [.ref x0, .int x1, .int x2] h o := by
  refine x_met (by decide) (Nat.le_of_ble_eq_true rfl) ?_
  intro p e s m below meth c ls C hl hW hZ
  have hl : lv_has ls 3 [(0, .ref x0), (1, .int x1), (2, .int x2)] := hl
  have hkm : Km h h := Km.rf h
  refine lv_aload_n C.1 C.2.1 dX15_say__0 rfl (lv_at hl 0 rfl) ?_
  refine lv_iload_n C.1 C.2.1 dX15_say__1 rfl (lv_at hl 1 rfl) ?_
  obtain ⟨o_1, eo_1, hE⟩ := cl_e hE
  refine x_kI (o := o_1) (z_runV (As := [.int x1]) (rest := []) C (ct_X15_moves l X k_x0 eo_1) cw_X15_668 hW hZ k_x0 (by decide) rfl rfl rfl hl.1 (Nat.le_of_ble_eq_true rfl) rfl dX15_say__2 ⟨Nat.le_of_ble_eq_true rfl, Nat.le_of_ble_eq_true rfl⟩ ⟨Nat.le_refl _, Nat.le_refl _⟩) hZ (fun _ _ hW km hZ => ?_)
  replace hkm := hkm.tr km
  replace k_x0 := km.at k_x0 (by decide)
  refine lv_bipush (v := (-102 : Int32)) C.1 C.2.1 dX15_say__5 (by decide) ?_
  refine lv_icmp_eq (tgt := 25) C.1 C.2.1 dX15_say__7 (by decide) (fun c_2 => ?_) (fun c_2 => ?_)
  · have hE := br_p hE c_2
    exact bX15_say__25 C hkm hW hZ _ (lv_sub hl [] rfl) hE
  · have hE := br_n hE c_2
    refine lv_iload_n C.1 C.2.1 dX15_say__10 rfl (lv_at hl 2 rfl) ?_
    refine lv_if_lt (tgt := 25) C.1 C.2.1 dX15_say__11 (by decide) (fun c_3 => ?_) (fun c_3 => ?_)
    · have hE := br_p hE c_3
      exact bX15_say__25 C hkm hW hZ _ (lv_sub hl [] rfl) hE
    · have hE := br_n hE c_3
      refine lv_iload_n C.1 C.2.1 dX15_say__14 rfl (lv_at hl 2 rfl) ?_
      refine lv_aload_n C.1 C.2.1 dX15_say__15 rfl (lv_at hl 0 rfl) ?_
      obtain ⟨r_4, er_4, hE⟩ := cl_e hE
      refine gf_X15_288 C hW k_x0 er_4 dX15_say__16 (fun k_r_4 => ?_)
      refine gf_X15_575 C hW k_r_4 dX15_say__19 ?_
      refine lv_icmp_lt (tgt := 28) C.1 C.2.1 dX15_say__22 (by decide) (fun c_5 => ?_) (fun c_5 => ?_)
      · have hE := br_p hE c_5
        refine lv_aload_n C.1 C.2.1 dX15_say__28 rfl (lv_at hl 0 rfl) ?_
        refine lv_aload_n C.1 C.2.1 dX15_say__29 rfl (lv_at hl 0 rfl) ?_
        obtain ⟨r_6, er_6, hE⟩ := cl_e hE
        refine gf_X15_257 C hW k_x0 er_6 dX15_say__30 (fun k_r_6 => ?_)
        refine lv_iload_n C.1 C.2.1 dX15_say__33 rfl (lv_at hl 1 rfl) ?_
        cases hE
      · have hE := br_n hE c_5
        exact bX15_say__25 C hkm hW hZ _ (lv_sub hl [] rfl) hE
