set_option maxRecDepth 100000 in
theorem m_278 : Cond.fieldLink RX6 75 (TX3 0).1 (TX3 0).2.1 (TX3 0).2.2.1 ∈ W0 := w0_in (List.mem_append_right _ (List.mem_of_getElem? (i := 278) rfl)) rfl
section
variable {p : Program} {l : Launch} {e : Env} {R : Room} {s : State} {m : MethodId} {args : Array Value} {below : List Frame} {meth : Method} {c : Code} {H : Heap} {locs : List Loc} {cells slots : Nat} {Q : State → Prop}
variable {cc : ByteArray} {pc : Nat} {ls : Array Slot} {rest : List Value} {X : Ec} {h h1 : Hp} {nL : Nat} {rt : Option FieldType} {mn : String}
theorem gf_X6_75 {a r : Nat} (C : Cx X p s m args meth c RX6 cc nL rt mn) (hW : Wx X h H) (ha : hK h a = 3) (hr : hR h a 0 = some r) (hdg : decode cc pc = .ok (.getfield 75, 3)) (kk : hK h r = 16 → W p l e R s m args below meth c H locs cells slots Q (F0 m (pc + 3) ls (.ref r :: rest))) : W p l e R s m args below meth c H locs cells slots Q (F0 m pc ls (.ref a :: rest)) :=
  y_getr C hW ha i_X3 (by decide) rfl (by decide) m_278 rfl rfl hr hdg kk
end
theorem dX6_standsOn_0 : decode cX6_standsOn 0 = .ok (.iload_n 2, 1) := by decide +kernel
theorem dX6_standsOn_1 : decode cX6_standsOn 1 = .ok (.iload_n 1, 1) := by decide +kernel
theorem dX6_standsOn_2 : decode cX6_standsOn 2 = .ok (.bipush 63, 2) := by decide +kernel
theorem dX6_standsOn_4 : decode cX6_standsOn 4 = .ok (.iand, 1) := by decide +kernel
theorem dX6_standsOn_5 : decode cX6_standsOn 5 = .ok (.if_icmp .ne 21, 3) := by decide +kernel
theorem dX6_standsOn_8 : decode cX6_standsOn 8 = .ok (.iconst 2, 1) := by decide +kernel
theorem dX6_standsOn_9 : decode cX6_standsOn 9 = .ok (.iload_n 1, 1) := by decide +kernel
theorem dX6_standsOn_10 : decode cX6_standsOn 10 = .ok (.bipush 12, 2) := by decide +kernel
theorem dX6_standsOn_12 : decode cX6_standsOn 12 = .ok (.ishr, 1) := by decide +kernel
theorem dX6_standsOn_13 : decode cX6_standsOn 13 = .ok (.bipush 15, 2) := by decide +kernel
theorem dX6_standsOn_15 : decode cX6_standsOn 15 = .ok (.iand, 1) := by decide +kernel
theorem dX6_standsOn_16 : decode cX6_standsOn 16 = .ok (.imul, 1) := by decide +kernel
theorem dX6_standsOn_17 : decode cX6_standsOn 17 = .ok (.aload_n 0, 1) := by decide +kernel
theorem dX6_standsOn_18 : decode cX6_standsOn 18 = .ok (.getfield 12, 3) := by decide +kernel
theorem dX6_standsOn_21 : decode cX6_standsOn 21 = .ok (.getfield 52, 3) := by decide +kernel
theorem dX6_standsOn_24 : decode cX6_standsOn 24 = .ok (.iadd, 1) := by decide +kernel
theorem dX6_standsOn_25 : decode cX6_standsOn 25 = .ok (.ireturn, 1) := by decide +kernel
theorem dX6_standsOn_26 : decode cX6_standsOn 26 = .ok (.iload_n 2, 1) := by decide +kernel
theorem dX6_standsOn_27 : decode cX6_standsOn 27 = .ok (.iload_n 1, 1) := by decide +kernel
theorem dX6_standsOn_28 : decode cX6_standsOn 28 = .ok (.bipush 6, 2) := by decide +kernel
theorem dX6_standsOn_30 : decode cX6_standsOn 30 = .ok (.ishr, 1) := by decide +kernel
theorem dX6_standsOn_31 : decode cX6_standsOn 31 = .ok (.bipush 63, 2) := by decide +kernel
theorem dX6_standsOn_33 : decode cX6_standsOn 33 = .ok (.iand, 1) := by decide +kernel
theorem dX6_standsOn_34 : decode cX6_standsOn 34 = .ok (.if_icmp .ne 11, 3) := by decide +kernel
theorem dX6_standsOn_37 : decode cX6_standsOn 37 = .ok (.aload_n 0, 1) := by decide +kernel
theorem dX6_standsOn_38 : decode cX6_standsOn 38 = .ok (.iload_n 1, 1) := by decide +kernel
theorem dX6_standsOn_39 : decode cX6_standsOn 39 = .ok (.invokevirtual 135, 3) := by decide +kernel
theorem dX6_standsOn_42 : decode cX6_standsOn 42 = .ok (.goto 12, 3) := by decide +kernel
theorem dX6_standsOn_45 : decode cX6_standsOn 45 = .ok (.aload_n 0, 1) := by decide +kernel
theorem dX6_standsOn_46 : decode cX6_standsOn 46 = .ok (.getfield 12, 3) := by decide +kernel
theorem dX6_standsOn_49 : decode cX6_standsOn 49 = .ok (.getfield 75, 3) := by decide +kernel
theorem dX6_standsOn_52 : decode cX6_standsOn 52 = .ok (.iload_n 2, 1) := by decide +kernel
theorem dX6_standsOn_53 : decode cX6_standsOn 53 = .ok (.baload, 1) := by decide +kernel
theorem dX6_standsOn_54 : decode cX6_standsOn 54 = .ok (.ireturn, 1) := by decide +kernel
set_option maxRecDepth 20000 in
theorem moX6_standsOn_54 {o : Int32 × Hp} {h : Hp} {t0 : Int32} (hE : sX6_standsOn_54 h  t0 = some o) : Le h o.2 := by
  exact le_some2 hE
set_option maxRecDepth 20000 in
theorem moX6_standsOn {o : Int32 × Hp} {h : Hp} {x0 : Nat} {x1 : Int32} {x2 : Int32} (hE : sX6_standsOn h x0 x1 x2 = some o) : Le h o.2 := by
  rcases br_e hE with ⟨_, hE⟩ | ⟨_, hE⟩
  · obtain ⟨r_7, er_7, hE⟩ := cl_e hE
    exact le_some2 hE
  · rcases br_e hE with ⟨_, hE⟩ | ⟨_, hE⟩
    · obtain ⟨o_6, eo_6, hE⟩ := cl_e hE
      refine (moX6_takenIn eo_6).tr ?_
      exact moX6_standsOn_54 hE
    · obtain ⟨r_3, er_3, hE⟩ := cl_e hE
      obtain ⟨r_4, er_4, hE⟩ := cl_e hE
      obtain ⟨g_5, hE⟩ := gd_e hE
      exact moX6_standsOn_54 hE
set_option maxRecDepth 20000 in
theorem bX6_standsOn_54 {p : Program} {l : Launch} {e : Env} {s : State} {m : MethodId} {args : Array Value} {below : List Frame} {meth : Method} {c : Code} {X : Ec} {h0 : Hp} {o : Int32 × Hp} (C : Cx X p s m args meth c RX6 cX6_standsOn 3 (some .int) "standsOn") {h : Hp} {t0 : Int32} {H : Heap} {locs : List Loc} (hkm : Km h0 h) (hW : Wx X h H) (hZ : va_S (aA (eB X)) s.heap H locs) (ls : Array Slot) (hl : lv_has ls 3 []) (hE : sX6_standsOn_54 h  t0 = some o) : W p l e (rm 1 22) s m args below meth c H locs 0 0 (MQ below (QI X h0 o.1 o.2) args s 0 0 (aA (eB X))) (F0 m 54 ls [.int t0]) := by
  exact x_iret C rfl rfl hW hZ hkm hE dX6_standsOn_54
set_option maxRecDepth 20000 in
theorem ct_X6_standsOn (l : Launch) (X : Ec) {h : Hp} {x0 : Nat} {x1 : Int32} {x2 : Int32} {o : Int32 × Hp} (k_x0 : hK h x0 = 6) (hE : sX6_standsOn h x0 x1 x2 = some o) : MetI l yX6_standsOn cX6_standsOn 3 (some .int) 1 22 X [.ref x0, .int x1, .int x2] h o := by
  refine x_met (by decide) (Nat.le_of_ble_eq_true rfl) ?_
  intro p e s m below meth c ls C hl hW hZ
  have hl : lv_has ls 3 [(0, .ref x0), (1, .int x1), (2, .int x2)] := hl
  have hkm : Km h h := Km.rf h
  refine lv_iload_n C.1 C.2.1 dX6_standsOn_0 rfl (lv_at hl 2 rfl) ?_
  refine lv_iload_n C.1 C.2.1 dX6_standsOn_1 rfl (lv_at hl 1 rfl) ?_
  refine lv_bipush (v := (63 : Int32)) C.1 C.2.1 dX6_standsOn_2 (by decide) ?_
  refine lv_iand C.1 C.2.1 dX6_standsOn_4 ?_
  refine lv_icmp_ne (tgt := 26) C.1 C.2.1 dX6_standsOn_5 (by decide) (fun c_1 => ?_) (fun c_1 => ?_)
  · have hE := br_n hE c_1
    refine lv_iload_n C.1 C.2.1 dX6_standsOn_26 rfl (lv_at hl 2 rfl) ?_
    refine lv_iload_n C.1 C.2.1 dX6_standsOn_27 rfl (lv_at hl 1 rfl) ?_
    refine lv_bipush (v := (6 : Int32)) C.1 C.2.1 dX6_standsOn_28 (by decide) ?_
    refine lv_ishr C.1 C.2.1 dX6_standsOn_30 ?_
    refine lv_bipush (v := (63 : Int32)) C.1 C.2.1 dX6_standsOn_31 (by decide) ?_
    refine lv_iand C.1 C.2.1 dX6_standsOn_33 ?_
    refine lv_icmp_ne (tgt := 45) C.1 C.2.1 dX6_standsOn_34 (by decide) (fun c_2 => ?_) (fun c_2 => ?_)
    · have hE := br_n hE c_2
      refine lv_aload_n C.1 C.2.1 dX6_standsOn_45 rfl (lv_at hl 0 rfl) ?_
      obtain ⟨r_3, er_3, hE⟩ := cl_e hE
      refine gf_X6_12 C hW k_x0 er_3 dX6_standsOn_46 (fun k_r_3 => ?_)
      obtain ⟨r_4, er_4, hE⟩ := cl_e hE
      refine gf_X6_75 C hW k_r_3 er_4 dX6_standsOn_49 (fun k_r_4 => ?_)
      refine lv_iload_n C.1 C.2.1 dX6_standsOn_52 rfl (lv_at hl 2 rfl) ?_
      obtain ⟨g_5, hE⟩ := gd_e hE
      refine y_bald C hW k_r_4 g_5 dX6_standsOn_53 ?_
      exact bX6_standsOn_54 C hkm hW hZ _ (lv_sub hl [] rfl) hE
    · have hE := br_p hE c_2
      refine lv_aload_n C.1 C.2.1 dX6_standsOn_37 rfl (lv_at hl 0 rfl) ?_
      refine lv_iload_n C.1 C.2.1 dX6_standsOn_38 rfl (lv_at hl 1 rfl) ?_
      obtain ⟨o_6, eo_6, hE⟩ := cl_e hE
      refine x_kI (o := o_6) (z_runV (As := [.int x1]) (rest := []) C (ct_X6_takenIn l X k_x0 eo_6) cw_X6_135 hW hZ k_x0 (by decide) rfl rfl rfl hl.1 (Nat.le_of_ble_eq_true rfl) rfl dX6_standsOn_39 ⟨Nat.le_of_ble_eq_true rfl, Nat.le_of_ble_eq_true rfl⟩ ⟨Nat.le_refl _, Nat.le_refl _⟩) hZ (fun _ _ hW km hZ => ?_)
      replace hkm := hkm.tr km
      replace k_x0 := km.at k_x0 (by decide)
      refine lv_goto (tgt := 54) C.1 C.2.1 dX6_standsOn_42 (by decide) ?_
      exact bX6_standsOn_54 C hkm hW hZ _ (lv_sub hl [] rfl) hE
  · have hE := br_p hE c_1
    refine lv_iconst (v := (2 : Int32)) C.1 C.2.1 dX6_standsOn_8 (by decide) ?_
    refine lv_iload_n C.1 C.2.1 dX6_standsOn_9 rfl (lv_at hl 1 rfl) ?_
    refine lv_bipush (v := (12 : Int32)) C.1 C.2.1 dX6_standsOn_10 (by decide) ?_
    refine lv_ishr C.1 C.2.1 dX6_standsOn_12 ?_
    refine lv_bipush (v := (15 : Int32)) C.1 C.2.1 dX6_standsOn_13 (by decide) ?_
    refine lv_iand C.1 C.2.1 dX6_standsOn_15 ?_
    refine lv_imul C.1 C.2.1 dX6_standsOn_16 ?_
    refine lv_aload_n C.1 C.2.1 dX6_standsOn_17 rfl (lv_at hl 0 rfl) ?_
    obtain ⟨r_7, er_7, hE⟩ := cl_e hE
    refine gf_X6_12 C hW k_x0 er_7 dX6_standsOn_18 (fun k_r_7 => ?_)
    refine gf_X6_52 C hW k_r_7 dX6_standsOn_21 ?_
    refine lv_iadd C.1 C.2.1 dX6_standsOn_24 ?_
    exact x_iret C rfl rfl hW hZ hkm hE dX6_standsOn_25
set_option maxRecDepth 100000 in
theorem m_144 : Cond.fieldLink RX6 164 (TX1 20).1 (TX1 20).2.1 (TX1 20).2.2.1 ∈ W0 := w0_in (List.mem_append_right _ (List.mem_of_getElem? (i := 144) rfl)) rfl
section
variable {p : Program} {l : Launch} {e : Env} {R : Room} {s : State} {m : MethodId} {args : Array Value} {below : List Frame} {meth : Method} {c : Code} {H : Heap} {locs : List Loc} {cells slots : Nat} {Q : State → Prop}
variable {cc : ByteArray} {pc : Nat} {ls : Array Slot} {rest : List Value} {X : Ec} {h h1 : Hp} {nL : Nat} {rt : Option FieldType} {mn : String}
theorem gf_X6_164 {a r : Nat} (C : Cx X p s m args meth c RX6 cc nL rt mn) (hW : Wx X h H) (ha : hK h a = 1) (hr : hR h a 20 = some r) (hdg : decode cc pc = .ok (.getfield 164, 3)) (kk : hK h r = 17 → W p l e R s m args below meth c H locs cells slots Q (F0 m (pc + 3) ls (.ref r :: rest))) : W p l e R s m args below meth c H locs cells slots Q (F0 m pc ls (.ref a :: rest)) :=
  y_getr C hW ha i_X1 (by decide) rfl (by decide) m_144 rfl rfl hr hdg kk
end
theorem dX6_isWrittenFirst_0 : decode cX6_isWrittenFirst 0 = .ok (.aload_n 0, 1) := by decide +kernel
theorem dX6_isWrittenFirst_1 : decode cX6_isWrittenFirst 1 = .ok (.getfield 25, 3) := by decide +kernel
theorem dX6_isWrittenFirst_4 : decode cX6_isWrittenFirst 4 = .ok (.getfield 164, 3) := by decide +kernel
theorem dX6_isWrittenFirst_7 : decode cX6_isWrittenFirst 7 = .ok (.iload_n 1, 1) := by decide +kernel
theorem dX6_isWrittenFirst_8 : decode cX6_isWrittenFirst 8 = .ok (.iaload, 1) := by decide +kernel
theorem dX6_isWrittenFirst_9 : decode cX6_isWrittenFirst 9 = .ok (.aload_n 0, 1) := by decide +kernel
theorem dX6_isWrittenFirst_10 : decode cX6_isWrittenFirst 10 = .ok (.getfield 25, 3) := by decide +kernel
theorem dX6_isWrittenFirst_13 : decode cX6_isWrittenFirst 13 = .ok (.getfield 164, 3) := by decide +kernel
theorem dX6_isWrittenFirst_16 : decode cX6_isWrittenFirst 16 = .ok (.iload_n 2, 1) := by decide +kernel
theorem dX6_isWrittenFirst_17 : decode cX6_isWrittenFirst 17 = .ok (.iaload, 1) := by decide +kernel
theorem dX6_isWrittenFirst_18 : decode cX6_isWrittenFirst 18 = .ok (.if_icmp .gt 29, 3) := by decide +kernel
theorem dX6_isWrittenFirst_21 : decode cX6_isWrittenFirst 21 = .ok (.aload_n 0, 1) := by decide +kernel
theorem dX6_isWrittenFirst_22 : decode cX6_isWrittenFirst 22 = .ok (.getfield 25, 3) := by decide +kernel
theorem dX6_isWrittenFirst_25 : decode cX6_isWrittenFirst 25 = .ok (.getfield 164, 3) := by decide +kernel
theorem dX6_isWrittenFirst_28 : decode cX6_isWrittenFirst 28 = .ok (.iload_n 1, 1) := by decide +kernel
theorem dX6_isWrittenFirst_29 : decode cX6_isWrittenFirst 29 = .ok (.iaload, 1) := by decide +kernel
theorem dX6_isWrittenFirst_30 : decode cX6_isWrittenFirst 30 = .ok (.aload_n 0, 1) := by decide +kernel
theorem dX6_isWrittenFirst_31 : decode cX6_isWrittenFirst 31 = .ok (.getfield 25, 3) := by decide +kernel
theorem dX6_isWrittenFirst_34 : decode cX6_isWrittenFirst 34 = .ok (.getfield 164, 3) := by decide +kernel
theorem dX6_isWrittenFirst_37 : decode cX6_isWrittenFirst 37 = .ok (.iload_n 2, 1) := by decide +kernel
theorem dX6_isWrittenFirst_38 : decode cX6_isWrittenFirst 38 = .ok (.iaload, 1) := by decide +kernel
theorem dX6_isWrittenFirst_39 : decode cX6_isWrittenFirst 39 = .ok (.if_icmp .ne 12, 3) := by decide +kernel
theorem dX6_isWrittenFirst_42 : decode cX6_isWrittenFirst 42 = .ok (.iload_n 1, 1) := by decide +kernel
theorem dX6_isWrittenFirst_43 : decode cX6_isWrittenFirst 43 = .ok (.iload_n 2, 1) := by decide +kernel
theorem dX6_isWrittenFirst_44 : decode cX6_isWrittenFirst 44 = .ok (.if_icmp .ge 7, 3) := by decide +kernel
theorem dX6_isWrittenFirst_47 : decode cX6_isWrittenFirst 47 = .ok (.iconst 1, 1) := by decide +kernel
theorem dX6_isWrittenFirst_48 : decode cX6_isWrittenFirst 48 = .ok (.goto 4, 3) := by decide +kernel
theorem dX6_isWrittenFirst_51 : decode cX6_isWrittenFirst 51 = .ok (.iconst 0, 1) := by decide +kernel
theorem dX6_isWrittenFirst_52 : decode cX6_isWrittenFirst 52 = .ok (.ireturn, 1) := by decide +kernel
set_option maxRecDepth 20000 in
theorem moX6_isWrittenFirst_52 {o : Int32 × Hp} {h : Hp} {t0 : Int32} (hE : sX6_isWrittenFirst_52 h  t0 = some o) : Le h o.2 := by
  obtain ⟨g_1, hE⟩ := gd_e hE
  exact le_some2 hE
set_option maxRecDepth 20000 in
theorem moX6_isWrittenFirst_47 {o : Int32 × Hp} {h : Hp} (hE : sX6_isWrittenFirst_47 h  = some o) : Le h o.2 := by
  exact moX6_isWrittenFirst_52 hE
set_option maxRecDepth 20000 in
theorem moX6_isWrittenFirst_51 {o : Int32 × Hp} {h : Hp} (hE : sX6_isWrittenFirst_51 h  = some o) : Le h o.2 := by
  exact moX6_isWrittenFirst_52 hE
set_option maxRecDepth 20000 in
theorem moX6_isWrittenFirst {o : Int32 × Hp} {h : Hp} {x0 : Nat} {x1 : Int32} {x2 : Int32} (hE : sX6_isWrittenFirst h x0 x1 x2 = some o) : Le h o.2 := by
  obtain ⟨r_1, er_1, hE⟩ := cl_e hE
  obtain ⟨r_2, er_2, hE⟩ := cl_e hE
  obtain ⟨g_3, hE⟩ := gd_e hE
  obtain ⟨r_4, er_4, hE⟩ := cl_e hE
  obtain ⟨r_5, er_5, hE⟩ := cl_e hE
  obtain ⟨g_6, hE⟩ := gd_e hE
  rcases br_e hE with ⟨_, hE⟩ | ⟨_, hE⟩
  · exact moX6_isWrittenFirst_47 hE
  · obtain ⟨r_8, er_8, hE⟩ := cl_e hE
    obtain ⟨r_9, er_9, hE⟩ := cl_e hE
    obtain ⟨g_10, hE⟩ := gd_e hE
    obtain ⟨r_11, er_11, hE⟩ := cl_e hE
    obtain ⟨r_12, er_12, hE⟩ := cl_e hE
    obtain ⟨g_13, hE⟩ := gd_e hE
    rcases br_e hE with ⟨_, hE⟩ | ⟨_, hE⟩
    · rcases br_e hE with ⟨_, hE⟩ | ⟨_, hE⟩
      · exact moX6_isWrittenFirst_51 hE
      · exact moX6_isWrittenFirst_47 hE
    · exact moX6_isWrittenFirst_51 hE
set_option maxRecDepth 20000 in
theorem bX6_isWrittenFirst_52 {p : Program} {l : Launch} {e : Env} {s : State} {m : MethodId} {args : Array Value} {below : List Frame} {meth : Method} {c : Code} {X : Ec} {h0 : Hp} {o : Int32 × Hp} (C : Cx X p s m args meth c RX6 cX6_isWrittenFirst 3 (some .boolean) "isWrittenFirst") {h : Hp} {t0 : Int32} {H : Heap} {locs : List Loc} (hkm : Km h0 h) (hW : Wx X h H) (hZ : va_S (aA (eB X)) s.heap H locs) (ls : Array Slot) (hl : lv_has ls 3 []) (hE : sX6_isWrittenFirst_52 h  t0 = some o) : W p l e (rm 0 0) s m args below meth c H locs 0 0 (MQ below (QI X h0 o.1 o.2) args s 0 0 (aA (eB X))) (F0 m 52 ls [.int t0]) := by
  obtain ⟨g_1, hE⟩ := gd_e hE
  exact x_iret C rfl (narB g_1) hW hZ hkm hE dX6_isWrittenFirst_52
set_option maxRecDepth 20000 in
theorem bX6_isWrittenFirst_47 {p : Program} {l : Launch} {e : Env} {s : State} {m : MethodId} {args : Array Value} {below : List Frame} {meth : Method} {c : Code} {X : Ec} {h0 : Hp} {o : Int32 × Hp} (C : Cx X p s m args meth c RX6 cX6_isWrittenFirst 3 (some .boolean) "isWrittenFirst") {h : Hp} {H : Heap} {locs : List Loc} (hkm : Km h0 h) (hW : Wx X h H) (hZ : va_S (aA (eB X)) s.heap H locs) (ls : Array Slot) (hl : lv_has ls 3 []) (hE : sX6_isWrittenFirst_47 h  = some o) : W p l e (rm 0 0) s m args below meth c H locs 0 0 (MQ below (QI X h0 o.1 o.2) args s 0 0 (aA (eB X))) (F0 m 47 ls []) := by
  refine lv_iconst (v := (1 : Int32)) C.1 C.2.1 dX6_isWrittenFirst_47 (by decide) ?_
  refine lv_goto (tgt := 52) C.1 C.2.1 dX6_isWrittenFirst_48 (by decide) ?_
  exact bX6_isWrittenFirst_52 C hkm hW hZ _ (lv_sub hl [] rfl) hE
set_option maxRecDepth 20000 in
theorem bX6_isWrittenFirst_51 {p : Program} {l : Launch} {e : Env} {s : State} {m : MethodId} {args : Array Value} {below : List Frame} {meth : Method} {c : Code} {X : Ec} {h0 : Hp} {o : Int32 × Hp} (C : Cx X p s m args meth c RX6 cX6_isWrittenFirst 3 (some .boolean) "isWrittenFirst") {h : Hp} {H : Heap} {locs : List Loc} (hkm : Km h0 h) (hW : Wx X h H) (hZ : va_S (aA (eB X)) s.heap H locs) (ls : Array Slot) (hl : lv_has ls 3 []) (hE : sX6_isWrittenFirst_51 h  = some o) : W p l e (rm 0 0) s m args below meth c H locs 0 0 (MQ below (QI X h0 o.1 o.2) args s 0 0 (aA (eB X))) (F0 m 51 ls []) := by
  refine lv_iconst (v := (0 : Int32)) C.1 C.2.1 dX6_isWrittenFirst_51 (by decide) ?_
  exact bX6_isWrittenFirst_52 C hkm hW hZ _ (lv_sub hl [] rfl) hE
set_option maxRecDepth 20000 in
theorem ct_X6_isWrittenFirst (l : Launch) (X : Ec) {h : Hp} {x0 : Nat} {x1 : Int32} {x2 : Int32} {o : Int32 × Hp} (k_x0 : hK h x0 = 6) (hE : sX6_isWrittenFirst h x0 x1 x2 = some o) : MetI l yX6_isWrittenFirst cX6_isWrittenFirst 3 (some .boolean) 0 0 X [.ref x0, .int x1, .int x2] h o := by
  refine x_met (by decide) (Nat.le_of_ble_eq_true rfl) ?_
  intro p e s m below meth c ls C hl hW hZ
  have hl : lv_has ls 3 [(0, .ref x0), (1, .int x1), (2, .int x2)] := hl
  have hkm : Km h h := Km.rf h
  refine lv_aload_n C.1 C.2.1 dX6_isWrittenFirst_0 rfl (lv_at hl 0 rfl) ?_
  obtain ⟨r_1, er_1, hE⟩ := cl_e hE
  refine gf_X6_25 C hW k_x0 er_1 dX6_isWrittenFirst_1 (fun k_r_1 => ?_)
  obtain ⟨r_2, er_2, hE⟩ := cl_e hE
  refine gf_X6_164 C hW k_r_1 er_2 dX6_isWrittenFirst_4 (fun k_r_2 => ?_)
  refine lv_iload_n C.1 C.2.1 dX6_isWrittenFirst_7 rfl (lv_at hl 1 rfl) ?_
  obtain ⟨g_3, hE⟩ := gd_e hE
  refine y_iald C hW k_r_2 g_3 dX6_isWrittenFirst_8 ?_
  refine lv_aload_n C.1 C.2.1 dX6_isWrittenFirst_9 rfl (lv_at hl 0 rfl) ?_
  obtain ⟨r_4, er_4, hE⟩ := cl_e hE
  refine gf_X6_25 C hW k_x0 er_4 dX6_isWrittenFirst_10 (fun k_r_4 => ?_)
  obtain ⟨r_5, er_5, hE⟩ := cl_e hE
  refine gf_X6_164 C hW k_r_4 er_5 dX6_isWrittenFirst_13 (fun k_r_5 => ?_)
  refine lv_iload_n C.1 C.2.1 dX6_isWrittenFirst_16 rfl (lv_at hl 2 rfl) ?_
  obtain ⟨g_6, hE⟩ := gd_e hE
  refine y_iald C hW k_r_5 g_6 dX6_isWrittenFirst_17 ?_
  refine lv_icmp_gt (tgt := 47) C.1 C.2.1 dX6_isWrittenFirst_18 (by decide) (fun c_7 => ?_) (fun c_7 => ?_)
  · have hE := br_p hE c_7
    exact bX6_isWrittenFirst_47 C hkm hW hZ _ (lv_sub hl [] rfl) hE
  · have hE := br_n hE c_7
    refine lv_aload_n C.1 C.2.1 dX6_isWrittenFirst_21 rfl (lv_at hl 0 rfl) ?_
    obtain ⟨r_8, er_8, hE⟩ := cl_e hE
    refine gf_X6_25 C hW k_x0 er_8 dX6_isWrittenFirst_22 (fun k_r_8 => ?_)
    obtain ⟨r_9, er_9, hE⟩ := cl_e hE
    refine gf_X6_164 C hW k_r_8 er_9 dX6_isWrittenFirst_25 (fun k_r_9 => ?_)
    refine lv_iload_n C.1 C.2.1 dX6_isWrittenFirst_28 rfl (lv_at hl 1 rfl) ?_
    obtain ⟨g_10, hE⟩ := gd_e hE
    refine y_iald C hW k_r_9 g_10 dX6_isWrittenFirst_29 ?_
    refine lv_aload_n C.1 C.2.1 dX6_isWrittenFirst_30 rfl (lv_at hl 0 rfl) ?_
    obtain ⟨r_11, er_11, hE⟩ := cl_e hE
    refine gf_X6_25 C hW k_x0 er_11 dX6_isWrittenFirst_31 (fun k_r_11 => ?_)
    obtain ⟨r_12, er_12, hE⟩ := cl_e hE
    refine gf_X6_164 C hW k_r_11 er_12 dX6_isWrittenFirst_34 (fun k_r_12 => ?_)
    refine lv_iload_n C.1 C.2.1 dX6_isWrittenFirst_37 rfl (lv_at hl 2 rfl) ?_
    obtain ⟨g_13, hE⟩ := gd_e hE
    refine y_iald C hW k_r_12 g_13 dX6_isWrittenFirst_38 ?_
    refine lv_icmp_ne (tgt := 51) C.1 C.2.1 dX6_isWrittenFirst_39 (by decide) (fun c_14 => ?_) (fun c_14 => ?_)
    · have hE := br_n hE c_14
      exact bX6_isWrittenFirst_51 C hkm hW hZ _ (lv_sub hl [] rfl) hE
    · have hE := br_p hE c_14
      refine lv_iload_n C.1 C.2.1 dX6_isWrittenFirst_42 rfl (lv_at hl 1 rfl) ?_
      refine lv_iload_n C.1 C.2.1 dX6_isWrittenFirst_43 rfl (lv_at hl 2 rfl) ?_
      refine lv_icmp_ge (tgt := 51) C.1 C.2.1 dX6_isWrittenFirst_44 (by decide) (fun c_15 => ?_) (fun c_15 => ?_)
      · have hE := br_p hE c_15
        exact bX6_isWrittenFirst_51 C hkm hW hZ _ (lv_sub hl [] rfl) hE
      · have hE := br_n hE c_15
        exact bX6_isWrittenFirst_47 C hkm hW hZ _ (lv_sub hl [] rfl) hE
set_option maxRecDepth 100000 in
theorem ms_88 : Cond.selects RX6 yX6_isWrittenFirst yX6_isWrittenFirst ∈ W0 := w0_in (List.mem_append_left _ (List.mem_of_getElem? (i := 88) rfl)) rfl
set_option maxRecDepth 100000 in
theorem ms_87 : Cond.selects RX6 yX6_standsOn yX6_standsOn ∈ W0 := w0_in (List.mem_append_left _ (List.mem_of_getElem? (i := 87) rfl)) rfl
set_option maxRecDepth 100000 in
theorem m_138 : Cond.fieldLink RX6 161 (TX1 19).1 (TX1 19).2.1 (TX1 19).2.2.1 ∈ W0 := w0_in (List.mem_append_right _ (List.mem_of_getElem? (i := 138) rfl)) rfl
set_option maxRecDepth 100000 in
theorem m_1568 : Cond.methodLink RX6 151 yX6_standsOn ∈ W0 := w0_in (List.mem_append_right _ (List.mem_of_getElem? (i := 1568) rfl)) rfl
set_option maxRecDepth 100000 in
theorem m_1570 : Cond.instanceMethod yX6_standsOn ∈ W0 := w0_in (List.mem_append_right _ (List.mem_of_getElem? (i := 1570) rfl)) rfl
set_option maxRecDepth 100000 in
theorem m_1571 : Cond.code yX6_standsOn cX6_standsOn 3 (some .int) ∈ W0 := w0_in (List.mem_append_right _ (List.mem_of_getElem? (i := 1571) rfl)) rfl
set_option maxRecDepth 100000 in
theorem m_1572 : Cond.methodLink RX6 155 yX6_isWrittenFirst ∈ W0 := w0_in (List.mem_append_right _ (List.mem_of_getElem? (i := 1572) rfl)) rfl
set_option maxRecDepth 100000 in
theorem m_1574 : Cond.instanceMethod yX6_isWrittenFirst ∈ W0 := w0_in (List.mem_append_right _ (List.mem_of_getElem? (i := 1574) rfl)) rfl
set_option maxRecDepth 100000 in
theorem m_1575 : Cond.code yX6_isWrittenFirst cX6_isWrittenFirst 3 (some .boolean) ∈ W0 := w0_in (List.mem_append_right _ (List.mem_of_getElem? (i := 1575) rfl)) rfl
set_option maxRecDepth 100000 in
theorem m_1576 : Cond.methodLink RX6 158 yX1_letterOf ∈ W0 := w0_in (List.mem_append_right _ (List.mem_of_getElem? (i := 1576) rfl)) rfl
section
variable {p : Program} {l : Launch} {e : Env} {R : Room} {s : State} {m : MethodId} {args : Array Value} {below : List Frame} {meth : Method} {c : Code} {H : Heap} {locs : List Loc} {cells slots : Nat} {Q : State → Prop}
variable {cc : ByteArray} {pc : Nat} {ls : Array Slot} {rest : List Value} {X : Ec} {h h1 : Hp} {nL : Nat} {rt : Option FieldType} {mn : String}
theorem gf_X6_161 {a r : Nat} (C : Cx X p s m args meth c RX6 cc nL rt mn) (hW : Wx X h H) (ha : hK h a = 1) (hr : hR h a 19 = some r) (hdg : decode cc pc = .ok (.getfield 161, 3)) (kk : hK h r = 17 → W p l e R s m args below meth c H locs cells slots Q (F0 m (pc + 3) ls (.ref r :: rest))) : W p l e R s m args below meth c H locs cells slots Q (F0 m pc ls (.ref a :: rest)) :=
  y_getr C hW ha i_X1 (by decide) rfl (by decide) m_138 rfl rfl hr hdg kk
end
theorem cw_X6_151 : cwd RX6 151 yX6_standsOn cX6_standsOn 3 (some .int) false 2 := ⟨m_1571, m_1568, m_12, ⟨m_1570, ms_87⟩, by decide, by decide, by decide +kernel⟩
theorem cw_X6_155 : cwd RX6 155 yX6_isWrittenFirst cX6_isWrittenFirst 3 (some .boolean) false 2 := ⟨m_1575, m_1572, m_12, ⟨m_1574, ms_88⟩, by decide, by decide, by decide +kernel⟩
theorem cw_X6_158 : cwd RX6 158 yX1_letterOf cX1_letterOf 3 (some .int) false 1 := ⟨m_1104, m_1576, m_4, ⟨m_1102, m_1103⟩, by decide, by decide, by decide +kernel⟩
theorem dX6_comesFirst_0 : decode cX6_comesFirst 0 = .ok (.iconst (-1), 1) := by decide +kernel
theorem dX6_comesFirst_1 : decode cX6_comesFirst 1 = .ok (.istore_n 3, 1) := by decide +kernel
theorem dX6_comesFirst_2 : decode cX6_comesFirst 2 = .ok (.iconst 0, 1) := by decide +kernel
theorem dX6_comesFirst_3 : decode cX6_comesFirst 3 = .ok (.istore 4, 2) := by decide +kernel
theorem dX6_comesFirst_5 : decode cX6_comesFirst 5 = .ok (.iload 4, 2) := by decide +kernel
theorem dX6_comesFirst_7 : decode cX6_comesFirst 7 = .ok (.iconst 4, 1) := by decide +kernel
theorem dX6_comesFirst_8 : decode cX6_comesFirst 8 = .ok (.if_icmp .ge 80, 3) := by decide +kernel
theorem dX6_comesFirst_11 : decode cX6_comesFirst 11 = .ok (.iload 4, 2) := by decide +kernel
theorem dX6_comesFirst_13 : decode cX6_comesFirst 13 = .ok (.iconst 2, 1) := by decide +kernel
theorem dX6_comesFirst_14 : decode cX6_comesFirst 14 = .ok (.if_icmp .ge 7, 3) := by decide +kernel
theorem dX6_comesFirst_17 : decode cX6_comesFirst 17 = .ok (.iload_n 1, 1) := by decide +kernel
theorem dX6_comesFirst_18 : decode cX6_comesFirst 18 = .ok (.goto 4, 3) := by decide +kernel
theorem dX6_comesFirst_21 : decode cX6_comesFirst 21 = .ok (.iload_n 2, 1) := by decide +kernel
theorem dX6_comesFirst_22 : decode cX6_comesFirst 22 = .ok (.bipush 6, 2) := by decide +kernel
theorem dX6_comesFirst_24 : decode cX6_comesFirst 24 = .ok (.iload 4, 2) := by decide +kernel
theorem dX6_comesFirst_26 : decode cX6_comesFirst 26 = .ok (.iconst 1, 1) := by decide +kernel
theorem dX6_comesFirst_27 : decode cX6_comesFirst 27 = .ok (.iand, 1) := by decide +kernel
theorem dX6_comesFirst_28 : decode cX6_comesFirst 28 = .ok (.imul, 1) := by decide +kernel
theorem dX6_comesFirst_29 : decode cX6_comesFirst 29 = .ok (.ishr, 1) := by decide +kernel
theorem dX6_comesFirst_30 : decode cX6_comesFirst 30 = .ok (.bipush 63, 2) := by decide +kernel
theorem dX6_comesFirst_32 : decode cX6_comesFirst 32 = .ok (.iand, 1) := by decide +kernel
theorem dX6_comesFirst_33 : decode cX6_comesFirst 33 = .ok (.istore 5, 2) := by decide +kernel
theorem dX6_comesFirst_35 : decode cX6_comesFirst 35 = .ok (.aload_n 0, 1) := by decide +kernel
theorem dX6_comesFirst_36 : decode cX6_comesFirst 36 = .ok (.iload_n 1, 1) := by decide +kernel
theorem dX6_comesFirst_37 : decode cX6_comesFirst 37 = .ok (.iload 5, 2) := by decide +kernel
theorem dX6_comesFirst_39 : decode cX6_comesFirst 39 = .ok (.invokevirtual 151, 3) := by decide +kernel
theorem dX6_comesFirst_42 : decode cX6_comesFirst 42 = .ok (.aload_n 0, 1) := by decide +kernel
theorem dX6_comesFirst_43 : decode cX6_comesFirst 43 = .ok (.iload_n 2, 1) := by decide +kernel
theorem dX6_comesFirst_44 : decode cX6_comesFirst 44 = .ok (.iload 5, 2) := by decide +kernel
theorem dX6_comesFirst_46 : decode cX6_comesFirst 46 = .ok (.invokevirtual 151, 3) := by decide +kernel
theorem dX6_comesFirst_49 : decode cX6_comesFirst 49 = .ok (.if_icmp .eq 7, 3) := by decide +kernel
theorem dX6_comesFirst_52 : decode cX6_comesFirst 52 = .ok (.iconst 1, 1) := by decide +kernel
theorem dX6_comesFirst_53 : decode cX6_comesFirst 53 = .ok (.goto 4, 3) := by decide +kernel
theorem dX6_comesFirst_56 : decode cX6_comesFirst 56 = .ok (.iconst 0, 1) := by decide +kernel
theorem dX6_comesFirst_57 : decode cX6_comesFirst 57 = .ok (.istore 6, 2) := by decide +kernel
theorem dX6_comesFirst_59 : decode cX6_comesFirst 59 = .ok (.iload 6, 2) := by decide +kernel
theorem dX6_comesFirst_61 : decode cX6_comesFirst 61 = .ok (.ifCond .eq 21, 3) := by decide +kernel
theorem dX6_comesFirst_64 : decode cX6_comesFirst 64 = .ok (.iload_n 3, 1) := by decide +kernel
theorem dX6_comesFirst_65 : decode cX6_comesFirst 65 = .ok (.iconst (-1), 1) := by decide +kernel
theorem dX6_comesFirst_66 : decode cX6_comesFirst 66 = .ok (.if_icmp .eq 13, 3) := by decide +kernel
theorem dX6_comesFirst_69 : decode cX6_comesFirst 69 = .ok (.aload_n 0, 1) := by decide +kernel
theorem dX6_comesFirst_70 : decode cX6_comesFirst 70 = .ok (.iload 5, 2) := by decide +kernel
theorem dX6_comesFirst_72 : decode cX6_comesFirst 72 = .ok (.iload_n 3, 1) := by decide +kernel
theorem dX6_comesFirst_73 : decode cX6_comesFirst 73 = .ok (.invokevirtual 155, 3) := by decide +kernel
theorem dX6_comesFirst_76 : decode cX6_comesFirst 76 = .ok (.ifCond .eq 6, 3) := by decide +kernel
theorem dX6_comesFirst_79 : decode cX6_comesFirst 79 = .ok (.iload 5, 2) := by decide +kernel
theorem dX6_comesFirst_81 : decode cX6_comesFirst 81 = .ok (.istore_n 3, 1) := by decide +kernel
theorem dX6_comesFirst_82 : decode cX6_comesFirst 82 = .ok (.iinc 4 1, 3) := by decide +kernel
theorem dX6_comesFirst_85 : decode cX6_comesFirst 85 = .ok (.goto (-80), 3) := by decide +kernel
theorem dX6_comesFirst_88 : decode cX6_comesFirst 88 = .ok (.iload_n 3, 1) := by decide +kernel
theorem dX6_comesFirst_89 : decode cX6_comesFirst 89 = .ok (.iconst (-1), 1) := by decide +kernel
theorem dX6_comesFirst_90 : decode cX6_comesFirst 90 = .ok (.if_icmp .ne 5, 3) := by decide +kernel
theorem dX6_comesFirst_93 : decode cX6_comesFirst 93 = .ok (.iconst 0, 1) := by decide +kernel
theorem dX6_comesFirst_94 : decode cX6_comesFirst 94 = .ok (.ireturn, 1) := by decide +kernel
theorem dX6_comesFirst_95 : decode cX6_comesFirst 95 = .ok (.aload_n 0, 1) := by decide +kernel
theorem dX6_comesFirst_96 : decode cX6_comesFirst 96 = .ok (.iload_n 1, 1) := by decide +kernel
theorem dX6_comesFirst_97 : decode cX6_comesFirst 97 = .ok (.iload_n 3, 1) := by decide +kernel
theorem dX6_comesFirst_98 : decode cX6_comesFirst 98 = .ok (.invokevirtual 151, 3) := by decide +kernel
theorem dX6_comesFirst_101 : decode cX6_comesFirst 101 = .ok (.istore 4, 2) := by decide +kernel
theorem dX6_comesFirst_103 : decode cX6_comesFirst 103 = .ok (.aload_n 0, 1) := by decide +kernel
theorem dX6_comesFirst_104 : decode cX6_comesFirst 104 = .ok (.iload_n 2, 1) := by decide +kernel
theorem dX6_comesFirst_105 : decode cX6_comesFirst 105 = .ok (.iload_n 3, 1) := by decide +kernel
theorem dX6_comesFirst_106 : decode cX6_comesFirst 106 = .ok (.invokevirtual 151, 3) := by decide +kernel
theorem dX6_comesFirst_109 : decode cX6_comesFirst 109 = .ok (.istore 5, 2) := by decide +kernel
theorem dX6_comesFirst_111 : decode cX6_comesFirst 111 = .ok (.iload 4, 2) := by decide +kernel
theorem dX6_comesFirst_113 : decode cX6_comesFirst 113 = .ok (.iconst (-1), 1) := by decide +kernel
theorem dX6_comesFirst_114 : decode cX6_comesFirst 114 = .ok (.if_icmp .eq 36, 3) := by decide +kernel
theorem dX6_comesFirst_117 : decode cX6_comesFirst 117 = .ok (.iload 5, 2) := by decide +kernel
theorem dX6_comesFirst_119 : decode cX6_comesFirst 119 = .ok (.iconst (-1), 1) := by decide +kernel
theorem dX6_comesFirst_120 : decode cX6_comesFirst 120 = .ok (.if_icmp .eq 30, 3) := by decide +kernel
theorem dX6_comesFirst_123 : decode cX6_comesFirst 123 = .ok (.aload_n 0, 1) := by decide +kernel
theorem dX6_comesFirst_124 : decode cX6_comesFirst 124 = .ok (.getfield 25, 3) := by decide +kernel
theorem dX6_comesFirst_127 : decode cX6_comesFirst 127 = .ok (.iload 4, 2) := by decide +kernel
theorem dX6_comesFirst_129 : decode cX6_comesFirst 129 = .ok (.invokevirtual 158, 3) := by decide +kernel
theorem dX6_comesFirst_132 : decode cX6_comesFirst 132 = .ok (.aload_n 0, 1) := by decide +kernel
theorem dX6_comesFirst_133 : decode cX6_comesFirst 133 = .ok (.getfield 25, 3) := by decide +kernel
theorem dX6_comesFirst_136 : decode cX6_comesFirst 136 = .ok (.iload 5, 2) := by decide +kernel
theorem dX6_comesFirst_138 : decode cX6_comesFirst 138 = .ok (.invokevirtual 158, 3) := by decide +kernel
theorem dX6_comesFirst_141 : decode cX6_comesFirst 141 = .ok (.if_icmp .ge 7, 3) := by decide +kernel
theorem dX6_comesFirst_144 : decode cX6_comesFirst 144 = .ok (.iconst 1, 1) := by decide +kernel
theorem dX6_comesFirst_145 : decode cX6_comesFirst 145 = .ok (.goto 4, 3) := by decide +kernel
theorem dX6_comesFirst_148 : decode cX6_comesFirst 148 = .ok (.iconst 0, 1) := by decide +kernel
theorem dX6_comesFirst_149 : decode cX6_comesFirst 149 = .ok (.ireturn, 1) := by decide +kernel
theorem dX6_comesFirst_150 : decode cX6_comesFirst 150 = .ok (.aload_n 0, 1) := by decide +kernel
theorem dX6_comesFirst_151 : decode cX6_comesFirst 151 = .ok (.getfield 25, 3) := by decide +kernel
theorem dX6_comesFirst_154 : decode cX6_comesFirst 154 = .ok (.getfield 161, 3) := by decide +kernel
theorem dX6_comesFirst_157 : decode cX6_comesFirst 157 = .ok (.iload_n 3, 1) := by decide +kernel
theorem dX6_comesFirst_158 : decode cX6_comesFirst 158 = .ok (.iaload, 1) := by decide +kernel
theorem dX6_comesFirst_159 : decode cX6_comesFirst 159 = .ok (.ifCond .le 19, 3) := by decide +kernel
theorem dX6_comesFirst_162 : decode cX6_comesFirst 162 = .ok (.aload_n 0, 1) := by decide +kernel
theorem dX6_comesFirst_163 : decode cX6_comesFirst 163 = .ok (.iload_n 1, 1) := by decide +kernel
theorem dX6_comesFirst_164 : decode cX6_comesFirst 164 = .ok (.iload_n 3, 1) := by decide +kernel
theorem dX6_comesFirst_165 : decode cX6_comesFirst 165 = .ok (.iconst 1, 1) := by decide +kernel
theorem dX6_comesFirst_166 : decode cX6_comesFirst 166 = .ok (.isub, 1) := by decide +kernel
theorem dX6_comesFirst_167 : decode cX6_comesFirst 167 = .ok (.invokevirtual 151, 3) := by decide +kernel
theorem dX6_comesFirst_170 : decode cX6_comesFirst 170 = .ok (.iconst (-1), 1) := by decide +kernel
theorem dX6_comesFirst_171 : decode cX6_comesFirst 171 = .ok (.if_icmp .ne 7, 3) := by decide +kernel
theorem dX6_comesFirst_174 : decode cX6_comesFirst 174 = .ok (.iconst 1, 1) := by decide +kernel
theorem dX6_comesFirst_175 : decode cX6_comesFirst 175 = .ok (.goto 4, 3) := by decide +kernel
theorem dX6_comesFirst_178 : decode cX6_comesFirst 178 = .ok (.iconst 0, 1) := by decide +kernel
theorem dX6_comesFirst_179 : decode cX6_comesFirst 179 = .ok (.istore 6, 2) := by decide +kernel
theorem dX6_comesFirst_181 : decode cX6_comesFirst 181 = .ok (.iload 4, 2) := by decide +kernel
theorem dX6_comesFirst_183 : decode cX6_comesFirst 183 = .ok (.iconst (-1), 1) := by decide +kernel
theorem dX6_comesFirst_184 : decode cX6_comesFirst 184 = .ok (.if_icmp .ne 7, 3) := by decide +kernel
theorem dX6_comesFirst_187 : decode cX6_comesFirst 187 = .ok (.iconst 1, 1) := by decide +kernel
theorem dX6_comesFirst_188 : decode cX6_comesFirst 188 = .ok (.goto 4, 3) := by decide +kernel
theorem dX6_comesFirst_191 : decode cX6_comesFirst 191 = .ok (.iconst 0, 1) := by decide +kernel
theorem dX6_comesFirst_192 : decode cX6_comesFirst 192 = .ok (.iload 6, 2) := by decide +kernel
theorem dX6_comesFirst_194 : decode cX6_comesFirst 194 = .ok (.if_icmp .eq 7, 3) := by decide +kernel
theorem dX6_comesFirst_197 : decode cX6_comesFirst 197 = .ok (.iconst 1, 1) := by decide +kernel
theorem dX6_comesFirst_198 : decode cX6_comesFirst 198 = .ok (.goto 4, 3) := by decide +kernel
theorem dX6_comesFirst_201 : decode cX6_comesFirst 201 = .ok (.iconst 0, 1) := by decide +kernel
theorem dX6_comesFirst_202 : decode cX6_comesFirst 202 = .ok (.ireturn, 1) := by decide +kernel
set_option maxRecDepth 20000 in
theorem moX6_comesFirst_202 {o : Int32 × Hp} {F : Nat} {h : Hp} {t0 : Int32} (hE : sX6_comesFirst_202 F h  t0 = some o) : Le h o.2 := by
  obtain ⟨g_1, hE⟩ := gd_e hE
  exact le_some2 hE
set_option maxRecDepth 20000 in
theorem moX6_comesFirst_192 {o : Int32 × Hp} {F : Nat} {h : Hp} {x6 : Int32} {t0 : Int32} (hE : sX6_comesFirst_192 F h x6 t0 = some o) : Le h o.2 := by
  rcases br_e hE with ⟨_, hE⟩ | ⟨_, hE⟩
  · exact moX6_comesFirst_202 hE
  · exact moX6_comesFirst_202 hE
set_option maxRecDepth 20000 in
theorem moX6_comesFirst_179 {o : Int32 × Hp} {F : Nat} {h : Hp} {x4 : Int32} {t0 : Int32} (hE : sX6_comesFirst_179 F h x4 t0 = some o) : Le h o.2 := by
  rcases br_e hE with ⟨_, hE⟩ | ⟨_, hE⟩
  · exact moX6_comesFirst_192 hE
  · exact moX6_comesFirst_192 hE
set_option maxRecDepth 20000 in
theorem moX6_comesFirst_178 {o : Int32 × Hp} {F : Nat} {h : Hp} {x4 : Int32} (hE : sX6_comesFirst_178 F h x4 = some o) : Le h o.2 := by
  exact moX6_comesFirst_179 hE
set_option maxRecDepth 20000 in
theorem moX6_comesFirst_150 {o : Int32 × Hp} {F : Nat} {h : Hp} {x0 : Nat} {x1 : Int32} {x3 : Int32} {x4 : Int32} (hE : sX6_comesFirst_150 F h x0 x1 x3 x4 = some o) : Le h o.2 := by
  obtain ⟨r_1, er_1, hE⟩ := cl_e hE
  obtain ⟨r_2, er_2, hE⟩ := cl_e hE
  obtain ⟨g_3, hE⟩ := gd_e hE
  rcases br_e hE with ⟨_, hE⟩ | ⟨_, hE⟩
  · exact moX6_comesFirst_178 hE
  · obtain ⟨o_5, eo_5, hE⟩ := cl_e hE
    refine (moX6_standsOn eo_5).tr ?_
    rcases br_e hE with ⟨_, hE⟩ | ⟨_, hE⟩
    · exact moX6_comesFirst_179 hE
    · exact moX6_comesFirst_178 hE
set_option maxRecDepth 20000 in
theorem moX6_comesFirst_149 {o : Int32 × Hp} {F : Nat} {h : Hp} {t0 : Int32} (hE : sX6_comesFirst_149 F h  t0 = some o) : Le h o.2 := by
  obtain ⟨g_1, hE⟩ := gd_e hE
  exact le_some2 hE
set_option maxRecDepth 20000 in
theorem moX6_comesFirst_82 {o : Int32 × Hp} {k_5 : Hp → Nat → Int32 → Int32 → Int32 → Int32 → Option (Int32 × Hp)} {F : Nat} (mk_5 : ∀ (h : Hp) (x0 : Nat) (x1 : Int32) (x2 : Int32) (x3 : Int32) (x4 : Int32), k_5 h x0 x1 x2 x3 x4 = some o → Le h o.2) {h : Hp} {x0 : Nat} {x1 : Int32} {x2 : Int32} {x3 : Int32} {x4 : Int32} (hE : sX6_comesFirst_82 F k_5 h x0 x1 x2 x3 x4 = some o) : Le h o.2 := by
  obtain ⟨v_1, ev_1, hE⟩ := nm_e2 hE
  exact mk_5 _ _ _ _ _ _ hE
set_option maxRecDepth 20000 in
theorem moX6_comesFirst_79 {o : Int32 × Hp} {k_5 : Hp → Nat → Int32 → Int32 → Int32 → Int32 → Option (Int32 × Hp)} {F : Nat} (mk_5 : ∀ (h : Hp) (x0 : Nat) (x1 : Int32) (x2 : Int32) (x3 : Int32) (x4 : Int32), k_5 h x0 x1 x2 x3 x4 = some o → Le h o.2) {h : Hp} {x0 : Nat} {x1 : Int32} {x2 : Int32} {x4 : Int32} {x5 : Int32} (hE : sX6_comesFirst_79 F k_5 h x0 x1 x2 x4 x5 = some o) : Le h o.2 := by
  exact moX6_comesFirst_82 mk_5 hE
set_option maxRecDepth 20000 in
theorem moX6_comesFirst_57 {o : Int32 × Hp} {k_5 : Hp → Nat → Int32 → Int32 → Int32 → Int32 → Option (Int32 × Hp)} {F : Nat} (mk_5 : ∀ (h : Hp) (x0 : Nat) (x1 : Int32) (x2 : Int32) (x3 : Int32) (x4 : Int32), k_5 h x0 x1 x2 x3 x4 = some o → Le h o.2) {h : Hp} {x0 : Nat} {x1 : Int32} {x2 : Int32} {x3 : Int32} {x4 : Int32} {x5 : Int32} {t0 : Int32} (hE : sX6_comesFirst_57 F k_5 h x0 x1 x2 x3 x4 x5 t0 = some o) : Le h o.2 := by
  rcases br_e hE with ⟨_, hE⟩ | ⟨_, hE⟩
  · exact moX6_comesFirst_82 mk_5 hE
  · rcases br_e hE with ⟨_, hE⟩ | ⟨_, hE⟩
    · exact moX6_comesFirst_79 mk_5 hE
    · obtain ⟨o_3, eo_3, hE⟩ := cl_e hE
      refine (moX6_isWrittenFirst eo_3).tr ?_
      rcases br_e hE with ⟨_, hE⟩ | ⟨_, hE⟩
      · exact moX6_comesFirst_82 mk_5 hE
      · exact moX6_comesFirst_79 mk_5 hE
set_option maxRecDepth 20000 in
theorem moX6_comesFirst_22 {o : Int32 × Hp} {k_5 : Hp → Nat → Int32 → Int32 → Int32 → Int32 → Option (Int32 × Hp)} {F : Nat} (mk_5 : ∀ (h : Hp) (x0 : Nat) (x1 : Int32) (x2 : Int32) (x3 : Int32) (x4 : Int32), k_5 h x0 x1 x2 x3 x4 = some o → Le h o.2) {h : Hp} {x0 : Nat} {x1 : Int32} {x2 : Int32} {x3 : Int32} {x4 : Int32} {t0 : Int32} (hE : sX6_comesFirst_22 F k_5 h x0 x1 x2 x3 x4 t0 = some o) : Le h o.2 := by
  obtain ⟨v_1, ev_1, hE⟩ := nm_e2 hE
  obtain ⟨o_2, eo_2, hE⟩ := cl_e hE
  refine (moX6_standsOn eo_2).tr ?_
  obtain ⟨o_3, eo_3, hE⟩ := cl_e hE
  refine (moX6_standsOn eo_3).tr ?_
  rcases br_e hE with ⟨_, hE⟩ | ⟨_, hE⟩
  · exact moX6_comesFirst_57 mk_5 hE
  · exact moX6_comesFirst_57 mk_5 hE
set_option maxRecDepth 20000 in
theorem moX6_comesFirst_5 {o : Int32 × Hp} {F : Nat} : ∀ (f : Nat) {h : Hp} {x0 : Nat} {x1 : Int32} {x2 : Int32} {x3 : Int32} {x4 : Int32}, sX6_comesFirst_5 F f h x0 x1 x2 x3 x4 = some o → Le h o.2 := by
  intro f
  induction f with
  | zero =>
    intro h x0 x1 x2 x3 x4 hE
    rw [sX6_comesFirst_5] at hE
    cases hE
  | succ f ih =>
    intro h x0 x1 x2 x3 x4 hE
    rw [sX6_comesFirst_5] at hE
    have mk_5 : ∀ (h : Hp) (x0 : Nat) (x1 : Int32) (x2 : Int32) (x3 : Int32) (x4 : Int32), sX6_comesFirst_5 F f h x0 x1 x2 x3 x4 = some o → Le h o.2 := fun h x0 x1 x2 x3 x4 hE => ih hE
    rcases br_e hE with ⟨_, hE⟩ | ⟨_, hE⟩
    · rcases br_e hE with ⟨_, hE⟩ | ⟨_, hE⟩
      · exact le_some2 hE
      · obtain ⟨o_3, eo_3, hE⟩ := cl_e hE
        refine (moX6_standsOn eo_3).tr ?_
        obtain ⟨o_4, eo_4, hE⟩ := cl_e hE
        refine (moX6_standsOn eo_4).tr ?_
        rcases br_e hE with ⟨_, hE⟩ | ⟨_, hE⟩
        · exact moX6_comesFirst_150 hE
        · rcases br_e hE with ⟨_, hE⟩ | ⟨_, hE⟩
          · exact moX6_comesFirst_150 hE
          · obtain ⟨r_7, er_7, hE⟩ := cl_e hE
            obtain ⟨o_8, eo_8, hE⟩ := cl_e hE
            refine (moX1_letterOf eo_8).tr ?_
            obtain ⟨r_9, er_9, hE⟩ := cl_e hE
            obtain ⟨o_10, eo_10, hE⟩ := cl_e hE
            refine (moX1_letterOf eo_10).tr ?_
            rcases br_e hE with ⟨_, hE⟩ | ⟨_, hE⟩
            · exact moX6_comesFirst_149 hE
            · exact moX6_comesFirst_149 hE
    · rcases br_e hE with ⟨_, hE⟩ | ⟨_, hE⟩
      · exact moX6_comesFirst_22 mk_5 hE
      · exact moX6_comesFirst_22 mk_5 hE
set_option maxRecDepth 20000 in
theorem moX6_comesFirst {o : Int32 × Hp} {F : Nat} {h : Hp} {x0 : Nat} {x1 : Int32} {x2 : Int32} (hE : sX6_comesFirst F h x0 x1 x2 = some o) : Le h o.2 := by
  exact moX6_comesFirst_5 _ hE
set_option maxRecDepth 20000 in
theorem bX6_comesFirst_202 {p : Program} {l : Launch} {e : Env} {s : State} {m : MethodId} {args : Array Value} {below : List Frame} {meth : Method} {c : Code} {X : Ec} {h0 : Hp} {o : Int32 × Hp} {F : Nat} (C : Cx X p s m args meth c RX6 cX6_comesFirst 7 (some .boolean) "comesFirst") {h : Hp} {t0 : Int32} {H : Heap} {locs : List Loc} (hkm : Km h0 h) (hW : Wx X h H) (hZ : va_S (aA (eB X)) s.heap H locs) (ls : Array Slot) (hl : lv_has ls 7 []) (hE : sX6_comesFirst_202 F h  t0 = some o) : W p l e (rm 2 44) s m args below meth c H locs 0 0 (MQ below (QI X h0 o.1 o.2) args s 0 0 (aA (eB X))) (F0 m 202 ls [.int t0]) := by
  obtain ⟨g_1, hE⟩ := gd_e hE
  exact x_iret C rfl (narB g_1) hW hZ hkm hE dX6_comesFirst_202
set_option maxRecDepth 20000 in
theorem bX6_comesFirst_192 {p : Program} {l : Launch} {e : Env} {s : State} {m : MethodId} {args : Array Value} {below : List Frame} {meth : Method} {c : Code} {X : Ec} {h0 : Hp} {o : Int32 × Hp} {F : Nat} (C : Cx X p s m args meth c RX6 cX6_comesFirst 7 (some .boolean) "comesFirst") {h : Hp} {x6 : Int32} {t0 : Int32} {H : Heap} {locs : List Loc} (hkm : Km h0 h) (hW : Wx X h H) (hZ : va_S (aA (eB X)) s.heap H locs) (ls : Array Slot) (hl : lv_has ls 7 [(6, .int x6)]) (hE : sX6_comesFirst_192 F h x6 t0 = some o) : W p l e (rm 2 44) s m args below meth c H locs 0 0 (MQ below (QI X h0 o.1 o.2) args s 0 0 (aA (eB X))) (F0 m 192 ls [.int t0]) := by
  refine lv_iload C.1 C.2.1 dX6_comesFirst_192 (lv_at hl 0 rfl) ?_
  refine lv_icmp_eq (tgt := 201) C.1 C.2.1 dX6_comesFirst_194 (by decide) (fun c_1 => ?_) (fun c_1 => ?_)
  · have hE := br_p hE c_1
    refine lv_iconst (v := (0 : Int32)) C.1 C.2.1 dX6_comesFirst_201 (by decide) ?_
    exact bX6_comesFirst_202 C hkm hW hZ _ (lv_sub hl [] rfl) hE
  · have hE := br_n hE c_1
    refine lv_iconst (v := (1 : Int32)) C.1 C.2.1 dX6_comesFirst_197 (by decide) ?_
    refine lv_goto (tgt := 202) C.1 C.2.1 dX6_comesFirst_198 (by decide) ?_
    exact bX6_comesFirst_202 C hkm hW hZ _ (lv_sub hl [] rfl) hE
set_option maxRecDepth 20000 in
theorem bX6_comesFirst_179 {p : Program} {l : Launch} {e : Env} {s : State} {m : MethodId} {args : Array Value} {below : List Frame} {meth : Method} {c : Code} {X : Ec} {h0 : Hp} {o : Int32 × Hp} {F : Nat} (C : Cx X p s m args meth c RX6 cX6_comesFirst 7 (some .boolean) "comesFirst") {h : Hp} {x4 : Int32} {t0 : Int32} {H : Heap} {locs : List Loc} (hkm : Km h0 h) (hW : Wx X h H) (hZ : va_S (aA (eB X)) s.heap H locs) (ls : Array Slot) (hl : lv_has ls 7 [(4, .int x4)]) (hE : sX6_comesFirst_179 F h x4 t0 = some o) : W p l e (rm 2 44) s m args below meth c H locs 0 0 (MQ below (QI X h0 o.1 o.2) args s 0 0 (aA (eB X))) (F0 m 179 ls [.int t0]) := by
  refine lv_istore (lv' := [(6, .int t0), (4, .int x4)]) C.1 C.2.1 dX6_comesFirst_179 hl (by decide) rfl (fun ls hl => ?_)
  refine lv_iload C.1 C.2.1 dX6_comesFirst_181 (lv_at hl 1 rfl) ?_
  refine lv_iconst (v := (-1 : Int32)) C.1 C.2.1 dX6_comesFirst_183 (by decide) ?_
  refine lv_icmp_ne (tgt := 191) C.1 C.2.1 dX6_comesFirst_184 (by decide) (fun c_1 => ?_) (fun c_1 => ?_)
  · have hE := br_n hE c_1
    refine lv_iconst (v := (0 : Int32)) C.1 C.2.1 dX6_comesFirst_191 (by decide) ?_
    exact bX6_comesFirst_192 C hkm hW hZ _ (lv_sub hl [0] rfl) hE
  · have hE := br_p hE c_1
    refine lv_iconst (v := (1 : Int32)) C.1 C.2.1 dX6_comesFirst_187 (by decide) ?_
    refine lv_goto (tgt := 192) C.1 C.2.1 dX6_comesFirst_188 (by decide) ?_
    exact bX6_comesFirst_192 C hkm hW hZ _ (lv_sub hl [0] rfl) hE
set_option maxRecDepth 20000 in
theorem bX6_comesFirst_178 {p : Program} {l : Launch} {e : Env} {s : State} {m : MethodId} {args : Array Value} {below : List Frame} {meth : Method} {c : Code} {X : Ec} {h0 : Hp} {o : Int32 × Hp} {F : Nat} (C : Cx X p s m args meth c RX6 cX6_comesFirst 7 (some .boolean) "comesFirst") {h : Hp} {x4 : Int32} {H : Heap} {locs : List Loc} (hkm : Km h0 h) (hW : Wx X h H) (hZ : va_S (aA (eB X)) s.heap H locs) (ls : Array Slot) (hl : lv_has ls 7 [(4, .int x4)]) (hE : sX6_comesFirst_178 F h x4 = some o) : W p l e (rm 2 44) s m args below meth c H locs 0 0 (MQ below (QI X h0 o.1 o.2) args s 0 0 (aA (eB X))) (F0 m 178 ls []) := by
  refine lv_iconst (v := (0 : Int32)) C.1 C.2.1 dX6_comesFirst_178 (by decide) ?_
  exact bX6_comesFirst_179 C hkm hW hZ _ (lv_sub hl [0] rfl) hE
set_option maxRecDepth 20000 in
theorem bX6_comesFirst_150 {p : Program} {l : Launch} {e : Env} {s : State} {m : MethodId} {args : Array Value} {below : List Frame} {meth : Method} {c : Code} {X : Ec} {h0 : Hp} {o : Int32 × Hp} {F : Nat} (C : Cx X p s m args meth c RX6 cX6_comesFirst 7 (some .boolean) "comesFirst") {h : Hp} {x0 : Nat} {x1 : Int32} {x3 : Int32} {x4 : Int32} {H : Heap} {locs : List Loc} (k_x0 : hK h x0 = 6) (hkm : Km h0 h) (hW : Wx X h H) (hZ : va_S (aA (eB X)) s.heap H locs) (ls : Array Slot) (hl : lv_has ls 7 [(0, .ref x0), (1, .int x1), (3, .int x3), (4, .int x4)]) (hE : sX6_comesFirst_150 F h x0 x1 x3 x4 = some o) : W p l e (rm 2 44) s m args below meth c H locs 0 0 (MQ below (QI X h0 o.1 o.2) args s 0 0 (aA (eB X))) (F0 m 150 ls []) := by
  refine lv_aload_n C.1 C.2.1 dX6_comesFirst_150 rfl (lv_at hl 0 rfl) ?_
  obtain ⟨r_1, er_1, hE⟩ := cl_e hE
  refine gf_X6_25 C hW k_x0 er_1 dX6_comesFirst_151 (fun k_r_1 => ?_)
  obtain ⟨r_2, er_2, hE⟩ := cl_e hE
  refine gf_X6_161 C hW k_r_1 er_2 dX6_comesFirst_154 (fun k_r_2 => ?_)
  refine lv_iload_n C.1 C.2.1 dX6_comesFirst_157 rfl (lv_at hl 2 rfl) ?_
  obtain ⟨g_3, hE⟩ := gd_e hE
  refine y_iald C hW k_r_2 g_3 dX6_comesFirst_158 ?_
  refine lv_if_le (tgt := 178) C.1 C.2.1 dX6_comesFirst_159 (by decide) (fun c_4 => ?_) (fun c_4 => ?_)
  · have hE := br_p hE c_4
    exact bX6_comesFirst_178 C hkm hW hZ _ (lv_sub hl [3] rfl) hE
  · have hE := br_n hE c_4
    refine lv_aload_n C.1 C.2.1 dX6_comesFirst_162 rfl (lv_at hl 0 rfl) ?_
    refine lv_iload_n C.1 C.2.1 dX6_comesFirst_163 rfl (lv_at hl 1 rfl) ?_
    refine lv_iload_n C.1 C.2.1 dX6_comesFirst_164 rfl (lv_at hl 2 rfl) ?_
    refine lv_iconst (v := (1 : Int32)) C.1 C.2.1 dX6_comesFirst_165 (by decide) ?_
    refine lv_isub C.1 C.2.1 dX6_comesFirst_166 ?_
    obtain ⟨o_5, eo_5, hE⟩ := cl_e hE
    refine x_kI (o := o_5) (z_runV (As := [.int x1, .int (x3 - (1 : Int32))]) (rest := []) C (ct_X6_standsOn l X k_x0 eo_5) cw_X6_151 hW hZ k_x0 (by decide) rfl rfl rfl hl.1 (Nat.le_of_ble_eq_true rfl) rfl dX6_comesFirst_167 ⟨Nat.le_of_ble_eq_true rfl, Nat.le_of_ble_eq_true rfl⟩ ⟨Nat.le_refl _, Nat.le_refl _⟩) hZ (fun _ _ hW km hZ => ?_)
    replace hkm := hkm.tr km
    replace k_x0 := km.at k_x0 (by decide)
    refine lv_iconst (v := (-1 : Int32)) C.1 C.2.1 dX6_comesFirst_170 (by decide) ?_
    refine lv_icmp_ne (tgt := 178) C.1 C.2.1 dX6_comesFirst_171 (by decide) (fun c_6 => ?_) (fun c_6 => ?_)
    · have hE := br_n hE c_6
      exact bX6_comesFirst_178 C hkm hW hZ _ (lv_sub hl [3] rfl) hE
    · have hE := br_p hE c_6
      refine lv_iconst (v := (1 : Int32)) C.1 C.2.1 dX6_comesFirst_174 (by decide) ?_
      refine lv_goto (tgt := 179) C.1 C.2.1 dX6_comesFirst_175 (by decide) ?_
      exact bX6_comesFirst_179 C hkm hW hZ _ (lv_sub hl [3] rfl) hE
set_option maxRecDepth 20000 in
theorem bX6_comesFirst_149 {p : Program} {l : Launch} {e : Env} {s : State} {m : MethodId} {args : Array Value} {below : List Frame} {meth : Method} {c : Code} {X : Ec} {h0 : Hp} {o : Int32 × Hp} {F : Nat} (C : Cx X p s m args meth c RX6 cX6_comesFirst 7 (some .boolean) "comesFirst") {h : Hp} {t0 : Int32} {H : Heap} {locs : List Loc} (hkm : Km h0 h) (hW : Wx X h H) (hZ : va_S (aA (eB X)) s.heap H locs) (ls : Array Slot) (hl : lv_has ls 7 []) (hE : sX6_comesFirst_149 F h  t0 = some o) : W p l e (rm 2 44) s m args below meth c H locs 0 0 (MQ below (QI X h0 o.1 o.2) args s 0 0 (aA (eB X))) (F0 m 149 ls [.int t0]) := by
  obtain ⟨g_1, hE⟩ := gd_e hE
  exact x_iret C rfl (narB g_1) hW hZ hkm hE dX6_comesFirst_149
set_option maxRecDepth 20000 in
theorem bX6_comesFirst_82 {p : Program} {l : Launch} {e : Env} {s : State} {m : MethodId} {args : Array Value} {below : List Frame} {meth : Method} {c : Code} {X : Ec} {h0 : Hp} {o : Int32 × Hp} {k_5 : Hp → Nat → Int32 → Int32 → Int32 → Int32 → Option (Int32 × Hp)} {F : Nat} (C : Cx X p s m args meth c RX6 cX6_comesFirst 7 (some .boolean) "comesFirst") (hk_5 : ∀ (h : Hp) (x0 : Nat) (x1 : Int32) (x2 : Int32) (x3 : Int32) (x4 : Int32) (H : Heap) (locs : List Loc), hK h x0 = 6 → Km h0 h → Wx X h H → va_S (aA (eB X)) s.heap H locs → ∀ (ls : Array Slot), lv_has ls 7 [(0, .ref x0), (1, .int x1), (2, .int x2), (3, .int x3), (4, .int x4)] → k_5 h x0 x1 x2 x3 x4 = some o → W p l e (rm 2 44) s m args below meth c H locs 0 0 (MQ below (QI X h0 o.1 o.2) args s 0 0 (aA (eB X))) (F0 m 5 ls [])) {h : Hp} {x0 : Nat} {x1 : Int32} {x2 : Int32} {x3 : Int32} {x4 : Int32} {H : Heap} {locs : List Loc} (k_x0 : hK h x0 = 6) (hkm : Km h0 h) (hW : Wx X h H) (hZ : va_S (aA (eB X)) s.heap H locs) (ls : Array Slot) (hl : lv_has ls 7 [(0, .ref x0), (1, .int x1), (2, .int x2), (3, .int x3), (4, .int x4)]) (hE : sX6_comesFirst_82 F k_5 h x0 x1 x2 x3 x4 = some o) : W p l e (rm 2 44) s m args below meth c H locs 0 0 (MQ below (QI X h0 o.1 o.2) args s 0 0 (aA (eB X))) (F0 m 82 ls []) := by
  obtain ⟨v_1, ev_1, hE⟩ := nm_e2 hE
  refine lv_iinc (v := v_1) (lv' := [(4, .int v_1), (0, .ref x0), (1, .int x1), (2, .int x2), (3, .int x3)]) C.1 C.2.1 dX6_comesFirst_82 hl (k := 4) rfl (by rw [ev_1]; rfl) (by decide) rfl (fun ls hl => ?_)
  refine lv_goto (tgt := 5) C.1 C.2.1 dX6_comesFirst_85 (by decide) ?_
  exact hk_5 _ _ _ _ _ _ _ _ k_x0 hkm hW hZ _ (lv_sub hl [1, 2, 3, 4, 0] rfl) hE
set_option maxRecDepth 20000 in
theorem bX6_comesFirst_79 {p : Program} {l : Launch} {e : Env} {s : State} {m : MethodId} {args : Array Value} {below : List Frame} {meth : Method} {c : Code} {X : Ec} {h0 : Hp} {o : Int32 × Hp} {k_5 : Hp → Nat → Int32 → Int32 → Int32 → Int32 → Option (Int32 × Hp)} {F : Nat} (C : Cx X p s m args meth c RX6 cX6_comesFirst 7 (some .boolean) "comesFirst") (hk_5 : ∀ (h : Hp) (x0 : Nat) (x1 : Int32) (x2 : Int32) (x3 : Int32) (x4 : Int32) (H : Heap) (locs : List Loc), hK h x0 = 6 → Km h0 h → Wx X h H → va_S (aA (eB X)) s.heap H locs → ∀ (ls : Array Slot), lv_has ls 7 [(0, .ref x0), (1, .int x1), (2, .int x2), (3, .int x3), (4, .int x4)] → k_5 h x0 x1 x2 x3 x4 = some o → W p l e (rm 2 44) s m args below meth c H locs 0 0 (MQ below (QI X h0 o.1 o.2) args s 0 0 (aA (eB X))) (F0 m 5 ls [])) {h : Hp} {x0 : Nat} {x1 : Int32} {x2 : Int32} {x4 : Int32} {x5 : Int32} {H : Heap} {locs : List Loc} (k_x0 : hK h x0 = 6) (hkm : Km h0 h) (hW : Wx X h H) (hZ : va_S (aA (eB X)) s.heap H locs) (ls : Array Slot) (hl : lv_has ls 7 [(0, .ref x0), (1, .int x1), (2, .int x2), (4, .int x4), (5, .int x5)]) (hE : sX6_comesFirst_79 F k_5 h x0 x1 x2 x4 x5 = some o) : W p l e (rm 2 44) s m args below meth c H locs 0 0 (MQ below (QI X h0 o.1 o.2) args s 0 0 (aA (eB X))) (F0 m 79 ls []) := by
  refine lv_iload C.1 C.2.1 dX6_comesFirst_79 (lv_at hl 4 rfl) ?_
  refine lv_istore_n (lv' := [(3, .int x5), (0, .ref x0), (1, .int x1), (2, .int x2), (4, .int x4), (5, .int x5)]) C.1 C.2.1 dX6_comesFirst_81 rfl hl (by decide) rfl (fun ls hl => ?_)
  exact bX6_comesFirst_82 C hk_5 k_x0 hkm hW hZ _ (lv_sub hl [1, 2, 3, 0, 4] rfl) hE
set_option maxRecDepth 20000 in
theorem bX6_comesFirst_57 {p : Program} {l : Launch} {e : Env} {s : State} {m : MethodId} {args : Array Value} {below : List Frame} {meth : Method} {c : Code} {X : Ec} {h0 : Hp} {o : Int32 × Hp} {k_5 : Hp → Nat → Int32 → Int32 → Int32 → Int32 → Option (Int32 × Hp)} {F : Nat} (C : Cx X p s m args meth c RX6 cX6_comesFirst 7 (some .boolean) "comesFirst") (hk_5 : ∀ (h : Hp) (x0 : Nat) (x1 : Int32) (x2 : Int32) (x3 : Int32) (x4 : Int32) (H : Heap) (locs : List Loc), hK h x0 = 6 → Km h0 h → Wx X h H → va_S (aA (eB X)) s.heap H locs → ∀ (ls : Array Slot), lv_has ls 7 [(0, .ref x0), (1, .int x1), (2, .int x2), (3, .int x3), (4, .int x4)] → k_5 h x0 x1 x2 x3 x4 = some o → W p l e (rm 2 44) s m args below meth c H locs 0 0 (MQ below (QI X h0 o.1 o.2) args s 0 0 (aA (eB X))) (F0 m 5 ls [])) {h : Hp} {x0 : Nat} {x1 : Int32} {x2 : Int32} {x3 : Int32} {x4 : Int32} {x5 : Int32} {t0 : Int32} {H : Heap} {locs : List Loc} (k_x0 : hK h x0 = 6) (hkm : Km h0 h) (hW : Wx X h H) (hZ : va_S (aA (eB X)) s.heap H locs) (ls : Array Slot) (hl : lv_has ls 7 [(0, .ref x0), (1, .int x1), (2, .int x2), (3, .int x3), (4, .int x4), (5, .int x5)]) (hE : sX6_comesFirst_57 F k_5 h x0 x1 x2 x3 x4 x5 t0 = some o) : W p l e (rm 2 44) s m args below meth c H locs 0 0 (MQ below (QI X h0 o.1 o.2) args s 0 0 (aA (eB X))) (F0 m 57 ls [.int t0]) := by
  refine lv_istore (lv' := [(6, .int t0), (0, .ref x0), (1, .int x1), (2, .int x2), (3, .int x3), (4, .int x4), (5, .int x5)]) C.1 C.2.1 dX6_comesFirst_57 hl (by decide) rfl (fun ls hl => ?_)
  refine lv_iload C.1 C.2.1 dX6_comesFirst_59 (lv_at hl 0 rfl) ?_
  refine lv_if_eq (tgt := 82) C.1 C.2.1 dX6_comesFirst_61 (by decide) (fun c_1 => ?_) (fun c_1 => ?_)
  · have hE := br_p hE c_1
    exact bX6_comesFirst_82 C hk_5 k_x0 hkm hW hZ _ (lv_sub hl [1, 2, 3, 4, 5] rfl) hE
  · have hE := br_n hE c_1
    refine lv_iload_n C.1 C.2.1 dX6_comesFirst_64 rfl (lv_at hl 4 rfl) ?_
    refine lv_iconst (v := (-1 : Int32)) C.1 C.2.1 dX6_comesFirst_65 (by decide) ?_
    refine lv_icmp_eq (tgt := 79) C.1 C.2.1 dX6_comesFirst_66 (by decide) (fun c_2 => ?_) (fun c_2 => ?_)
    · have hE := br_p hE c_2
      exact bX6_comesFirst_79 C hk_5 k_x0 hkm hW hZ _ (lv_sub hl [1, 2, 3, 5, 6] rfl) hE
    · have hE := br_n hE c_2
      refine lv_aload_n C.1 C.2.1 dX6_comesFirst_69 rfl (lv_at hl 1 rfl) ?_
      refine lv_iload C.1 C.2.1 dX6_comesFirst_70 (lv_at hl 6 rfl) ?_
      refine lv_iload_n C.1 C.2.1 dX6_comesFirst_72 rfl (lv_at hl 4 rfl) ?_
      obtain ⟨o_3, eo_3, hE⟩ := cl_e hE
      refine x_kI (o := o_3) (z_runV (As := [.int x5, .int x3]) (rest := []) C (ct_X6_isWrittenFirst l X k_x0 eo_3) cw_X6_155 hW hZ k_x0 (by decide) rfl rfl rfl hl.1 (Nat.le_of_ble_eq_true rfl) rfl dX6_comesFirst_73 ⟨Nat.le_of_ble_eq_true rfl, Nat.le_of_ble_eq_true rfl⟩ ⟨Nat.le_refl _, Nat.le_refl _⟩) hZ (fun _ _ hW km hZ => ?_)
      replace hkm := hkm.tr km
      replace k_x0 := km.at k_x0 (by decide)
      refine lv_if_eq (tgt := 82) C.1 C.2.1 dX6_comesFirst_76 (by decide) (fun c_4 => ?_) (fun c_4 => ?_)
      · have hE := br_p hE c_4
        exact bX6_comesFirst_82 C hk_5 k_x0 hkm hW hZ _ (lv_sub hl [1, 2, 3, 4, 5] rfl) hE
      · have hE := br_n hE c_4
        exact bX6_comesFirst_79 C hk_5 k_x0 hkm hW hZ _ (lv_sub hl [1, 2, 3, 5, 6] rfl) hE
set_option maxRecDepth 20000 in
theorem bX6_comesFirst_22 {p : Program} {l : Launch} {e : Env} {s : State} {m : MethodId} {args : Array Value} {below : List Frame} {meth : Method} {c : Code} {X : Ec} {h0 : Hp} {o : Int32 × Hp} {k_5 : Hp → Nat → Int32 → Int32 → Int32 → Int32 → Option (Int32 × Hp)} {F : Nat} (C : Cx X p s m args meth c RX6 cX6_comesFirst 7 (some .boolean) "comesFirst") (hk_5 : ∀ (h : Hp) (x0 : Nat) (x1 : Int32) (x2 : Int32) (x3 : Int32) (x4 : Int32) (H : Heap) (locs : List Loc), hK h x0 = 6 → Km h0 h → Wx X h H → va_S (aA (eB X)) s.heap H locs → ∀ (ls : Array Slot), lv_has ls 7 [(0, .ref x0), (1, .int x1), (2, .int x2), (3, .int x3), (4, .int x4)] → k_5 h x0 x1 x2 x3 x4 = some o → W p l e (rm 2 44) s m args below meth c H locs 0 0 (MQ below (QI X h0 o.1 o.2) args s 0 0 (aA (eB X))) (F0 m 5 ls [])) {h : Hp} {x0 : Nat} {x1 : Int32} {x2 : Int32} {x3 : Int32} {x4 : Int32} {t0 : Int32} {H : Heap} {locs : List Loc} (k_x0 : hK h x0 = 6) (hkm : Km h0 h) (hW : Wx X h H) (hZ : va_S (aA (eB X)) s.heap H locs) (ls : Array Slot) (hl : lv_has ls 7 [(0, .ref x0), (1, .int x1), (2, .int x2), (3, .int x3), (4, .int x4)]) (hE : sX6_comesFirst_22 F k_5 h x0 x1 x2 x3 x4 t0 = some o) : W p l e (rm 2 44) s m args below meth c H locs 0 0 (MQ below (QI X h0 o.1 o.2) args s 0 0 (aA (eB X))) (F0 m 22 ls [.int t0]) := by
  refine lv_bipush (v := (6 : Int32)) C.1 C.2.1 dX6_comesFirst_22 (by decide) ?_
  refine lv_iload C.1 C.2.1 dX6_comesFirst_24 (lv_at hl 4 rfl) ?_
  refine lv_iconst (v := (1 : Int32)) C.1 C.2.1 dX6_comesFirst_26 (by decide) ?_
  refine lv_iand C.1 C.2.1 dX6_comesFirst_27 ?_
  refine lv_imul C.1 C.2.1 dX6_comesFirst_28 ?_
  refine lv_ishr C.1 C.2.1 dX6_comesFirst_29 ?_
  refine lv_bipush (v := (63 : Int32)) C.1 C.2.1 dX6_comesFirst_30 (by decide) ?_
  refine lv_iand C.1 C.2.1 dX6_comesFirst_32 ?_
  obtain ⟨v_1, ev_1, hE⟩ := nm_e2 hE
  refine x_nmI ev_1 ?_
  refine lv_istore (lv' := [(5, .int v_1), (0, .ref x0), (1, .int x1), (2, .int x2), (3, .int x3), (4, .int x4)]) C.1 C.2.1 dX6_comesFirst_33 hl (by decide) rfl (fun ls hl => ?_)
  refine lv_aload_n C.1 C.2.1 dX6_comesFirst_35 rfl (lv_at hl 1 rfl) ?_
  refine lv_iload_n C.1 C.2.1 dX6_comesFirst_36 rfl (lv_at hl 2 rfl) ?_
  refine lv_iload C.1 C.2.1 dX6_comesFirst_37 (lv_at hl 0 rfl) ?_
  obtain ⟨o_2, eo_2, hE⟩ := cl_e hE
  refine x_kI (o := o_2) (z_runV (As := [.int x1, .int v_1]) (rest := []) C (ct_X6_standsOn l X k_x0 eo_2) cw_X6_151 hW hZ k_x0 (by decide) rfl rfl rfl hl.1 (Nat.le_of_ble_eq_true rfl) rfl dX6_comesFirst_39 ⟨Nat.le_of_ble_eq_true rfl, Nat.le_of_ble_eq_true rfl⟩ ⟨Nat.le_refl _, Nat.le_refl _⟩) hZ (fun _ _ hW km hZ => ?_)
  replace hkm := hkm.tr km
  replace k_x0 := km.at k_x0 (by decide)
  refine lv_aload_n C.1 C.2.1 dX6_comesFirst_42 rfl (lv_at hl 1 rfl) ?_
  refine lv_iload_n C.1 C.2.1 dX6_comesFirst_43 rfl (lv_at hl 3 rfl) ?_
  refine lv_iload C.1 C.2.1 dX6_comesFirst_44 (lv_at hl 0 rfl) ?_
  obtain ⟨o_3, eo_3, hE⟩ := cl_e hE
  refine x_kI (o := o_3) (z_runV (As := [.int x2, .int v_1]) (rest := [.int o_2.1]) C (ct_X6_standsOn l X k_x0 eo_3) cw_X6_151 hW hZ k_x0 (by decide) rfl rfl rfl hl.1 (Nat.le_of_ble_eq_true rfl) rfl dX6_comesFirst_46 ⟨Nat.le_of_ble_eq_true rfl, Nat.le_of_ble_eq_true rfl⟩ ⟨Nat.le_refl _, Nat.le_refl _⟩) hZ (fun _ _ hW km hZ => ?_)
  replace hkm := hkm.tr km
  replace k_x0 := km.at k_x0 (by decide)
  refine lv_icmp_eq (tgt := 56) C.1 C.2.1 dX6_comesFirst_49 (by decide) (fun c_4 => ?_) (fun c_4 => ?_)
  · have hE := br_p hE c_4
    refine lv_iconst (v := (0 : Int32)) C.1 C.2.1 dX6_comesFirst_56 (by decide) ?_
    exact bX6_comesFirst_57 C hk_5 k_x0 hkm hW hZ _ (lv_sub hl [1, 2, 3, 4, 5, 0] rfl) hE
  · have hE := br_n hE c_4
    refine lv_iconst (v := (1 : Int32)) C.1 C.2.1 dX6_comesFirst_52 (by decide) ?_
    refine lv_goto (tgt := 57) C.1 C.2.1 dX6_comesFirst_53 (by decide) ?_
    exact bX6_comesFirst_57 C hk_5 k_x0 hkm hW hZ _ (lv_sub hl [1, 2, 3, 4, 5, 0] rfl) hE
set_option maxRecDepth 20000 in
theorem bX6_comesFirst_5 {p : Program} {l : Launch} {e : Env} {s : State} {m : MethodId} {args : Array Value} {below : List Frame} {meth : Method} {c : Code} {X : Ec} {h0 : Hp} {o : Int32 × Hp} {F : Nat} (C : Cx X p s m args meth c RX6 cX6_comesFirst 7 (some .boolean) "comesFirst") : ∀ (f : Nat) {h : Hp} {x0 : Nat} {x1 : Int32} {x2 : Int32} {x3 : Int32} {x4 : Int32} {H : Heap} {locs : List Loc} (k_x0 : hK h x0 = 6), Km h0 h → Wx X h H → va_S (aA (eB X)) s.heap H locs → ∀ (ls : Array Slot), lv_has ls 7 [(0, .ref x0), (1, .int x1), (2, .int x2), (3, .int x3), (4, .int x4)] → sX6_comesFirst_5 F f h x0 x1 x2 x3 x4 = some o → W p l e (rm 2 44) s m args below meth c H locs 0 0 (MQ below (QI X h0 o.1 o.2) args s 0 0 (aA (eB X))) (F0 m 5 ls []) := by
  intro f
  induction f with
  | zero =>
    intro h x0 x1 x2 x3 x4 H locs k_x0 hkm hW hZ ls hl hE
    rw [sX6_comesFirst_5] at hE
    cases hE
  | succ f ih =>
    intro h x0 x1 x2 x3 x4 H locs k_x0 hkm hW hZ ls hl hE
    rw [sX6_comesFirst_5] at hE
    have hk_5 : ∀ (h : Hp) (x0 : Nat) (x1 : Int32) (x2 : Int32) (x3 : Int32) (x4 : Int32) (H : Heap) (locs : List Loc), hK h x0 = 6 → Km h0 h → Wx X h H → va_S (aA (eB X)) s.heap H locs → ∀ (ls : Array Slot), lv_has ls 7 [(0, .ref x0), (1, .int x1), (2, .int x2), (3, .int x3), (4, .int x4)] → sX6_comesFirst_5 F f h x0 x1 x2 x3 x4 = some o → W p l e (rm 2 44) s m args below meth c H locs 0 0 (MQ below (QI X h0 o.1 o.2) args s 0 0 (aA (eB X))) (F0 m 5 ls []) := fun h x0 x1 x2 x3 x4 H locs k_x0 a b c ls hl hE => ih k_x0 a b c ls hl hE
    refine lv_iload C.1 C.2.1 dX6_comesFirst_5 (lv_at hl 4 rfl) ?_
    refine lv_iconst (v := (4 : Int32)) C.1 C.2.1 dX6_comesFirst_7 (by decide) ?_
    refine lv_icmp_ge (tgt := 88) C.1 C.2.1 dX6_comesFirst_8 (by decide) (fun c_1 => ?_) (fun c_1 => ?_)
    · have hE := br_p hE c_1
      refine lv_iload_n C.1 C.2.1 dX6_comesFirst_88 rfl (lv_at hl 3 rfl) ?_
      refine lv_iconst (v := (-1 : Int32)) C.1 C.2.1 dX6_comesFirst_89 (by decide) ?_
      refine lv_icmp_ne (tgt := 95) C.1 C.2.1 dX6_comesFirst_90 (by decide) (fun c_2 => ?_) (fun c_2 => ?_)
      · have hE := br_n hE c_2
        refine lv_aload_n C.1 C.2.1 dX6_comesFirst_95 rfl (lv_at hl 0 rfl) ?_
        refine lv_iload_n C.1 C.2.1 dX6_comesFirst_96 rfl (lv_at hl 1 rfl) ?_
        refine lv_iload_n C.1 C.2.1 dX6_comesFirst_97 rfl (lv_at hl 3 rfl) ?_
        obtain ⟨o_3, eo_3, hE⟩ := cl_e hE
        refine x_kI (o := o_3) (z_runV (As := [.int x1, .int x3]) (rest := []) C (ct_X6_standsOn l X k_x0 eo_3) cw_X6_151 hW hZ k_x0 (by decide) rfl rfl rfl hl.1 (Nat.le_of_ble_eq_true rfl) rfl dX6_comesFirst_98 ⟨Nat.le_of_ble_eq_true rfl, Nat.le_of_ble_eq_true rfl⟩ ⟨Nat.le_refl _, Nat.le_refl _⟩) hZ (fun _ _ hW km hZ => ?_)
        replace hkm := hkm.tr km
        replace k_x0 := km.at k_x0 (by decide)
        refine lv_istore (lv' := [(4, .int o_3.1), (0, .ref x0), (1, .int x1), (2, .int x2), (3, .int x3)]) C.1 C.2.1 dX6_comesFirst_101 hl (by decide) rfl (fun ls hl => ?_)
        refine lv_aload_n C.1 C.2.1 dX6_comesFirst_103 rfl (lv_at hl 1 rfl) ?_
        refine lv_iload_n C.1 C.2.1 dX6_comesFirst_104 rfl (lv_at hl 3 rfl) ?_
        refine lv_iload_n C.1 C.2.1 dX6_comesFirst_105 rfl (lv_at hl 4 rfl) ?_
        obtain ⟨o_4, eo_4, hE⟩ := cl_e hE
        refine x_kI (o := o_4) (z_runV (As := [.int x2, .int x3]) (rest := []) C (ct_X6_standsOn l X k_x0 eo_4) cw_X6_151 hW hZ k_x0 (by decide) rfl rfl rfl hl.1 (Nat.le_of_ble_eq_true rfl) rfl dX6_comesFirst_106 ⟨Nat.le_of_ble_eq_true rfl, Nat.le_of_ble_eq_true rfl⟩ ⟨Nat.le_refl _, Nat.le_refl _⟩) hZ (fun _ _ hW km hZ => ?_)
        replace hkm := hkm.tr km
        replace k_x0 := km.at k_x0 (by decide)
        refine lv_istore (lv' := [(5, .int o_4.1), (4, .int o_3.1), (0, .ref x0), (1, .int x1), (2, .int x2), (3, .int x3)]) C.1 C.2.1 dX6_comesFirst_109 hl (by decide) rfl (fun ls hl => ?_)
        refine lv_iload C.1 C.2.1 dX6_comesFirst_111 (lv_at hl 1 rfl) ?_
        refine lv_iconst (v := (-1 : Int32)) C.1 C.2.1 dX6_comesFirst_113 (by decide) ?_
        refine lv_icmp_eq (tgt := 150) C.1 C.2.1 dX6_comesFirst_114 (by decide) (fun c_5 => ?_) (fun c_5 => ?_)
        · have hE := br_p hE c_5
          exact bX6_comesFirst_150 C k_x0 hkm hW hZ _ (lv_sub hl [2, 3, 5, 1] rfl) hE
        · have hE := br_n hE c_5
          refine lv_iload C.1 C.2.1 dX6_comesFirst_117 (lv_at hl 0 rfl) ?_
          refine lv_iconst (v := (-1 : Int32)) C.1 C.2.1 dX6_comesFirst_119 (by decide) ?_
          refine lv_icmp_eq (tgt := 150) C.1 C.2.1 dX6_comesFirst_120 (by decide) (fun c_6 => ?_) (fun c_6 => ?_)
          · have hE := br_p hE c_6
            exact bX6_comesFirst_150 C k_x0 hkm hW hZ _ (lv_sub hl [2, 3, 5, 1] rfl) hE
          · have hE := br_n hE c_6
            refine lv_aload_n C.1 C.2.1 dX6_comesFirst_123 rfl (lv_at hl 2 rfl) ?_
            obtain ⟨r_7, er_7, hE⟩ := cl_e hE
            refine gf_X6_25 C hW k_x0 er_7 dX6_comesFirst_124 (fun k_r_7 => ?_)
            refine lv_iload C.1 C.2.1 dX6_comesFirst_127 (lv_at hl 1 rfl) ?_
            obtain ⟨o_8, eo_8, hE⟩ := cl_e hE
            refine x_kI (o := o_8) (z_runV (As := [.int o_3.1]) (rest := []) C (ct_X1_letterOf l X k_r_7 eo_8) cw_X6_158 hW hZ k_r_7 (by decide) rfl rfl rfl hl.1 (Nat.le_of_ble_eq_true rfl) rfl dX6_comesFirst_129 ⟨Nat.le_of_ble_eq_true rfl, Nat.le_of_ble_eq_true rfl⟩ ⟨Nat.le_refl _, Nat.le_refl _⟩) hZ (fun _ _ hW km hZ => ?_)
            replace hkm := hkm.tr km
            replace k_x0 := km.at k_x0 (by decide)
            refine lv_aload_n C.1 C.2.1 dX6_comesFirst_132 rfl (lv_at hl 2 rfl) ?_
            obtain ⟨r_9, er_9, hE⟩ := cl_e hE
            refine gf_X6_25 C hW k_x0 er_9 dX6_comesFirst_133 (fun k_r_9 => ?_)
            refine lv_iload C.1 C.2.1 dX6_comesFirst_136 (lv_at hl 0 rfl) ?_
            obtain ⟨o_10, eo_10, hE⟩ := cl_e hE
            refine x_kI (o := o_10) (z_runV (As := [.int o_4.1]) (rest := [.int o_8.1]) C (ct_X1_letterOf l X k_r_9 eo_10) cw_X6_158 hW hZ k_r_9 (by decide) rfl rfl rfl hl.1 (Nat.le_of_ble_eq_true rfl) rfl dX6_comesFirst_138 ⟨Nat.le_of_ble_eq_true rfl, Nat.le_of_ble_eq_true rfl⟩ ⟨Nat.le_refl _, Nat.le_refl _⟩) hZ (fun _ _ hW km hZ => ?_)
            replace hkm := hkm.tr km
            replace k_x0 := km.at k_x0 (by decide)
            refine lv_icmp_ge (tgt := 148) C.1 C.2.1 dX6_comesFirst_141 (by decide) (fun c_11 => ?_) (fun c_11 => ?_)
            · have hE := br_p hE c_11
              refine lv_iconst (v := (0 : Int32)) C.1 C.2.1 dX6_comesFirst_148 (by decide) ?_
              exact bX6_comesFirst_149 C hkm hW hZ _ (lv_sub hl [] rfl) hE
            · have hE := br_n hE c_11
              refine lv_iconst (v := (1 : Int32)) C.1 C.2.1 dX6_comesFirst_144 (by decide) ?_
              refine lv_goto (tgt := 149) C.1 C.2.1 dX6_comesFirst_145 (by decide) ?_
              exact bX6_comesFirst_149 C hkm hW hZ _ (lv_sub hl [] rfl) hE
      · have hE := br_p hE c_2
        refine lv_iconst (v := (0 : Int32)) C.1 C.2.1 dX6_comesFirst_93 (by decide) ?_
        exact x_iret C rfl (by decide) hW hZ hkm hE dX6_comesFirst_94
    · have hE := br_n hE c_1
      refine lv_iload C.1 C.2.1 dX6_comesFirst_11 (lv_at hl 4 rfl) ?_
      refine lv_iconst (v := (2 : Int32)) C.1 C.2.1 dX6_comesFirst_13 (by decide) ?_
      refine lv_icmp_ge (tgt := 21) C.1 C.2.1 dX6_comesFirst_14 (by decide) (fun c_12 => ?_) (fun c_12 => ?_)
      · have hE := br_p hE c_12
        refine lv_iload_n C.1 C.2.1 dX6_comesFirst_21 rfl (lv_at hl 2 rfl) ?_
        exact bX6_comesFirst_22 C hk_5 k_x0 hkm hW hZ _ (lv_sub hl [0, 1, 2, 3, 4] rfl) hE
      · have hE := br_n hE c_12
        refine lv_iload_n C.1 C.2.1 dX6_comesFirst_17 rfl (lv_at hl 1 rfl) ?_
        refine lv_goto (tgt := 22) C.1 C.2.1 dX6_comesFirst_18 (by decide) ?_
        exact bX6_comesFirst_22 C hk_5 k_x0 hkm hW hZ _ (lv_sub hl [0, 1, 2, 3, 4] rfl) hE
set_option maxRecDepth 20000 in
theorem ct_X6_comesFirst (l : Launch) (X : Ec) (F : Nat) {h : Hp} {x0 : Nat} {x1 : Int32} {x2 : Int32} {o : Int32 × Hp} (k_x0 : hK h x0 = 6) (hE : sX6_comesFirst F h x0 x1 x2 = some o) : MetI l yX6_comesFirst cX6_comesFirst 7 (some .boolean) 2 44 X [.ref x0, .int x1, .int x2] h o := by
  refine x_met (by decide) (Nat.le_of_ble_eq_true rfl) ?_
  intro p e s m below meth c ls C hl hW hZ
  have hl : lv_has ls 7 [(0, .ref x0), (1, .int x1), (2, .int x2)] := hl
  have hkm : Km h h := Km.rf h
  refine lv_iconst (v := (-1 : Int32)) C.1 C.2.1 dX6_comesFirst_0 (by decide) ?_
  refine lv_istore_n (lv' := [(3, .int (-1 : Int32)), (0, .ref x0), (1, .int x1), (2, .int x2)]) C.1 C.2.1 dX6_comesFirst_1 rfl hl (by decide) rfl (fun ls hl => ?_)
  refine lv_iconst (v := (0 : Int32)) C.1 C.2.1 dX6_comesFirst_2 (by decide) ?_
  refine lv_istore (lv' := [(4, .int (0 : Int32)), (3, .int (-1 : Int32)), (0, .ref x0), (1, .int x1), (2, .int x2)]) C.1 C.2.1 dX6_comesFirst_3 hl (by decide) rfl (fun ls hl => ?_)
  exact bX6_comesFirst_5 C F k_x0 hkm hW hZ _ (lv_sub hl [2, 3, 4, 1, 0] rfl) hE
set_option maxRecDepth 100000 in
theorem ms_86 : Cond.selects RX6 yX6_comesFirst yX6_comesFirst ∈ W0 := w0_in (List.mem_append_left _ (List.mem_of_getElem? (i := 86) rfl)) rfl
set_option maxRecDepth 100000 in
theorem m_429 : Cond.fieldLink RX6 37 (TX6 6).1 (TX6 6).2.1 (TX6 6).2.2.1 ∈ W0 := w0_in (List.mem_append_right _ (List.mem_of_getElem? (i := 429) rfl)) rfl
set_option maxRecDepth 100000 in
theorem m_431 : Cond.fieldLink RX6 41 (TX6 7).1 (TX6 7).2.1 (TX6 7).2.2.1 ∈ W0 := w0_in (List.mem_append_right _ (List.mem_of_getElem? (i := 431) rfl)) rfl
set_option maxRecDepth 100000 in
theorem m_1564 : Cond.methodLink RX6 142 yX6_comesFirst ∈ W0 := w0_in (List.mem_append_right _ (List.mem_of_getElem? (i := 1564) rfl)) rfl
set_option maxRecDepth 100000 in
theorem m_1566 : Cond.instanceMethod yX6_comesFirst ∈ W0 := w0_in (List.mem_append_right _ (List.mem_of_getElem? (i := 1566) rfl)) rfl
set_option maxRecDepth 100000 in
theorem m_1567 : Cond.code yX6_comesFirst cX6_comesFirst 7 (some .boolean) ∈ W0 := w0_in (List.mem_append_right _ (List.mem_of_getElem? (i := 1567) rfl)) rfl
set_option maxRecDepth 100000 in
theorem m_1577 : Cond.methodLink RX6 145 arraycopyName ∈ W0 := w0_in (List.mem_append_right _ (List.mem_of_getElem? (i := 1577) rfl)) rfl
section
variable {p : Program} {l : Launch} {e : Env} {R : Room} {s : State} {m : MethodId} {args : Array Value} {below : List Frame} {meth : Method} {c : Code} {H : Heap} {locs : List Loc} {cells slots : Nat} {Q : State → Prop}
variable {cc : ByteArray} {pc : Nat} {ls : Array Slot} {rest : List Value} {X : Ec} {h h1 : Hp} {nL : Nat} {rt : Option FieldType} {mn : String}
theorem gf_X6_21 {a r : Nat} (C : Cx X p s m args meth c RX6 cc nL rt mn) (hW : Wx X h H) (ha : hK h a = 6) (hr : hR h a 5 = some r) (hdg : decode cc pc = .ok (.getfield 21, 3)) (kk : hK h r = 17 → W p l e R s m args below meth c H locs cells slots Q (F0 m (pc + 3) ls (.ref r :: rest))) : W p l e R s m args below meth c H locs cells slots Q (F0 m pc ls (.ref a :: rest)) :=
  y_getr C hW ha i_X6 (by decide) rfl (by decide) m_428 rfl rfl hr hdg kk
theorem gf_X6_37 {a : Nat} (C : Cx X p s m args meth c RX6 cc nL rt mn) (hW : Wx X h H) (ha : hK h a = 6) (hdg : decode cc pc = .ok (.getfield 37, 3)) (kk : W p l e R s m args below meth c H locs cells slots Q (F0 m (pc + 3) ls (.int (hI h a 6) :: rest))) : W p l e R s m args below meth c H locs cells slots Q (F0 m pc ls (.ref a :: rest)) :=
  y_geti C hW ha i_X6 (by decide) rfl (by decide) m_429 rfl hdg kk
theorem pf_X6_37 {a : Nat} {v : Int32} (C : Cx X p s m args meth c RX6 cc nL rt mn) (hW : Wx X h H) (hZ : va_S (aA (eB X)) s.heap H locs) (ha : hK h a = 6) (eh : h1 = wI h a 6 v) (hdg : decode cc pc = .ok (.putfield 37, 3)) (kk : ∀ (H1 : Heap) (locs1 : List Loc), Wx X h1 H1 → Km h h1 → va_S (aA (eB X)) s.heap H1 locs1 → W p l e R s m args below meth c H1 locs1 cells slots Q (F0 m (pc + 3) ls rest)) : W p l e R s m args below meth c H locs cells slots Q (F0 m pc ls (.int v :: .ref a :: rest)) :=
  y_puti (ty := .int) C hW hZ ha i_X6 tyX6 tyX6_ok nmX6 (by decide) rfl rfl (by decide) m_429 rfl (by decide +kernel) rfl rfl rfl eh hdg kk
theorem pf_X6_41 {a : Nat} {v : Int32} (C : Cx X p s m args meth c RX6 cc nL rt mn) (hW : Wx X h H) (hZ : va_S (aA (eB X)) s.heap H locs) (ha : hK h a = 6) (hn : narrow .boolean (.int v) = .int v) (eh : h1 = wI h a 7 v) (hdg : decode cc pc = .ok (.putfield 41, 3)) (kk : ∀ (H1 : Heap) (locs1 : List Loc), Wx X h1 H1 → Km h h1 → va_S (aA (eB X)) s.heap H1 locs1 → W p l e R s m args below meth c H1 locs1 cells slots Q (F0 m (pc + 3) ls rest)) : W p l e R s m args below meth c H locs cells slots Q (F0 m pc ls (.int v :: .ref a :: rest)) :=
  y_puti (ty := .boolean) C hW hZ ha i_X6 tyX6 tyX6_ok nmX6 (by decide) rfl rfl (by decide) m_431 rfl (by decide +kernel) rfl hn (fitZ hn) eh hdg kk
end
theorem cw_X6_142 : cwd RX6 142 yX6_comesFirst cX6_comesFirst 7 (some .boolean) false 2 := ⟨m_1567, m_1564, m_12, ⟨m_1566, ms_86⟩, by decide, by decide, by decide +kernel⟩
theorem dX6_keep_0 : decode cX6_keep 0 = .ok (.aload_n 0, 1) := by decide +kernel
theorem dX6_keep_1 : decode cX6_keep 1 = .ok (.getfield 37, 3) := by decide +kernel
theorem dX6_keep_4 : decode cX6_keep 4 = .ok (.sipush 3000, 3) := by decide +kernel
theorem dX6_keep_7 : decode cX6_keep 7 = .ok (.if_icmp .lt 9, 3) := by decide +kernel
theorem dX6_keep_10 : decode cX6_keep 10 = .ok (.aload_n 0, 1) := by decide +kernel
theorem dX6_keep_11 : decode cX6_keep 11 = .ok (.iconst 1, 1) := by decide +kernel
theorem dX6_keep_12 : decode cX6_keep 12 = .ok (.putfield 41, 3) := by decide +kernel
theorem dX6_keep_15 : decode cX6_keep 15 = .ok (.return_, 1) := by decide +kernel
theorem dX6_keep_16 : decode cX6_keep 16 = .ok (.iconst 0, 1) := by decide +kernel
theorem dX6_keep_17 : decode cX6_keep 17 = .ok (.istore_n 2, 1) := by decide +kernel
theorem dX6_keep_18 : decode cX6_keep 18 = .ok (.aload_n 0, 1) := by decide +kernel
theorem dX6_keep_19 : decode cX6_keep 19 = .ok (.getfield 37, 3) := by decide +kernel
theorem dX6_keep_22 : decode cX6_keep 22 = .ok (.istore_n 3, 1) := by decide +kernel
theorem dX6_keep_23 : decode cX6_keep 23 = .ok (.iload_n 2, 1) := by decide +kernel
theorem dX6_keep_24 : decode cX6_keep 24 = .ok (.iload_n 3, 1) := by decide +kernel
theorem dX6_keep_25 : decode cX6_keep 25 = .ok (.if_icmp .ge 39, 3) := by decide +kernel
theorem dX6_keep_28 : decode cX6_keep 28 = .ok (.iload_n 2, 1) := by decide +kernel
theorem dX6_keep_29 : decode cX6_keep 29 = .ok (.iload_n 3, 1) := by decide +kernel
theorem dX6_keep_30 : decode cX6_keep 30 = .ok (.iadd, 1) := by decide +kernel
theorem dX6_keep_31 : decode cX6_keep 31 = .ok (.iconst 1, 1) := by decide +kernel
theorem dX6_keep_32 : decode cX6_keep 32 = .ok (.ishr, 1) := by decide +kernel
theorem dX6_keep_33 : decode cX6_keep 33 = .ok (.istore 4, 2) := by decide +kernel
theorem dX6_keep_35 : decode cX6_keep 35 = .ok (.aload_n 0, 1) := by decide +kernel
theorem dX6_keep_36 : decode cX6_keep 36 = .ok (.aload_n 0, 1) := by decide +kernel
theorem dX6_keep_37 : decode cX6_keep 37 = .ok (.getfield 21, 3) := by decide +kernel
theorem dX6_keep_40 : decode cX6_keep 40 = .ok (.iload 4, 2) := by decide +kernel
theorem dX6_keep_42 : decode cX6_keep 42 = .ok (.iaload, 1) := by decide +kernel
theorem dX6_keep_43 : decode cX6_keep 43 = .ok (.iload_n 1, 1) := by decide +kernel
theorem dX6_keep_44 : decode cX6_keep 44 = .ok (.invokevirtual 142, 3) := by decide +kernel
theorem dX6_keep_47 : decode cX6_keep 47 = .ok (.ifCond .eq 11, 3) := by decide +kernel
theorem dX6_keep_50 : decode cX6_keep 50 = .ok (.iload 4, 2) := by decide +kernel
theorem dX6_keep_52 : decode cX6_keep 52 = .ok (.iconst 1, 1) := by decide +kernel
theorem dX6_keep_53 : decode cX6_keep 53 = .ok (.iadd, 1) := by decide +kernel
theorem dX6_keep_54 : decode cX6_keep 54 = .ok (.istore_n 2, 1) := by decide +kernel
theorem dX6_keep_55 : decode cX6_keep 55 = .ok (.goto 6, 3) := by decide +kernel
theorem dX6_keep_58 : decode cX6_keep 58 = .ok (.iload 4, 2) := by decide +kernel
theorem dX6_keep_60 : decode cX6_keep 60 = .ok (.istore_n 3, 1) := by decide +kernel
theorem dX6_keep_61 : decode cX6_keep 61 = .ok (.goto (-38), 3) := by decide +kernel
theorem dX6_keep_64 : decode cX6_keep 64 = .ok (.aload_n 0, 1) := by decide +kernel
theorem dX6_keep_65 : decode cX6_keep 65 = .ok (.getfield 21, 3) := by decide +kernel
theorem dX6_keep_68 : decode cX6_keep 68 = .ok (.iload_n 2, 1) := by decide +kernel
theorem dX6_keep_69 : decode cX6_keep 69 = .ok (.aload_n 0, 1) := by decide +kernel
theorem dX6_keep_70 : decode cX6_keep 70 = .ok (.getfield 21, 3) := by decide +kernel
theorem dX6_keep_73 : decode cX6_keep 73 = .ok (.iload_n 2, 1) := by decide +kernel
theorem dX6_keep_74 : decode cX6_keep 74 = .ok (.iconst 1, 1) := by decide +kernel
theorem dX6_keep_75 : decode cX6_keep 75 = .ok (.iadd, 1) := by decide +kernel
theorem dX6_keep_76 : decode cX6_keep 76 = .ok (.aload_n 0, 1) := by decide +kernel
theorem dX6_keep_77 : decode cX6_keep 77 = .ok (.getfield 37, 3) := by decide +kernel
theorem dX6_keep_80 : decode cX6_keep 80 = .ok (.iload_n 2, 1) := by decide +kernel
theorem dX6_keep_81 : decode cX6_keep 81 = .ok (.isub, 1) := by decide +kernel
theorem dX6_keep_82 : decode cX6_keep 82 = .ok (.invokestatic 145, 3) := by decide +kernel
theorem dX6_keep_85 : decode cX6_keep 85 = .ok (.aload_n 0, 1) := by decide +kernel
theorem dX6_keep_86 : decode cX6_keep 86 = .ok (.getfield 21, 3) := by decide +kernel
theorem dX6_keep_89 : decode cX6_keep 89 = .ok (.iload_n 2, 1) := by decide +kernel
theorem dX6_keep_90 : decode cX6_keep 90 = .ok (.iload_n 1, 1) := by decide +kernel
theorem dX6_keep_91 : decode cX6_keep 91 = .ok (.iastore, 1) := by decide +kernel
theorem dX6_keep_92 : decode cX6_keep 92 = .ok (.aload_n 0, 1) := by decide +kernel
theorem dX6_keep_93 : decode cX6_keep 93 = .ok (.dup, 1) := by decide +kernel
theorem dX6_keep_94 : decode cX6_keep 94 = .ok (.getfield 37, 3) := by decide +kernel
theorem dX6_keep_97 : decode cX6_keep 97 = .ok (.iconst 1, 1) := by decide +kernel
theorem dX6_keep_98 : decode cX6_keep 98 = .ok (.iadd, 1) := by decide +kernel
theorem dX6_keep_99 : decode cX6_keep 99 = .ok (.putfield 37, 3) := by decide +kernel
theorem dX6_keep_102 : decode cX6_keep 102 = .ok (.return_, 1) := by decide +kernel
set_option maxRecDepth 20000 in
theorem moX6_keep_61 {o : Hp} {k_23 : Hp → Nat → Int32 → Int32 → Int32 → Option (Hp)} {F : Nat} (mk_23 : ∀ (h : Hp) (x0 : Nat) (x1 : Int32) (x2 : Int32) (x3 : Int32), k_23 h x0 x1 x2 x3 = some o → Le h o) {h : Hp} {x0 : Nat} {x1 : Int32} {x2 : Int32} {x3 : Int32} (hE : sX6_keep_61 F k_23 h x0 x1 x2 x3 = some o) : Le h o := by
  exact mk_23 _ _ _ _ _ hE
set_option maxRecDepth 20000 in
theorem moX6_keep_23 {o : Hp} {F : Nat} : ∀ (f : Nat) {h : Hp} {x0 : Nat} {x1 : Int32} {x2 : Int32} {x3 : Int32}, sX6_keep_23 F f h x0 x1 x2 x3 = some o → Le h o := by
  intro f
  induction f with
  | zero =>
    intro h x0 x1 x2 x3 hE
    rw [sX6_keep_23] at hE
    cases hE
  | succ f ih =>
    intro h x0 x1 x2 x3 hE
    rw [sX6_keep_23] at hE
    have mk_23 : ∀ (h : Hp) (x0 : Nat) (x1 : Int32) (x2 : Int32) (x3 : Int32), sX6_keep_23 F f h x0 x1 x2 x3 = some o → Le h o := fun h x0 x1 x2 x3 hE => ih hE
    rcases br_e hE with ⟨_, hE⟩ | ⟨_, hE⟩
    · obtain ⟨r_2, er_2, hE⟩ := cl_e hE
      obtain ⟨r_3, er_3, hE⟩ := cl_e hE
      obtain ⟨g_4, hE⟩ := gd_e hE
      obtain ⟨g_5, hE⟩ := gd_e hE
      obtain ⟨g_6, hE⟩ := gd_e hE
      obtain ⟨g_7, hE⟩ := gd_e hE
      obtain ⟨g_8, hE⟩ := gd_e hE
      obtain ⟨h_9, eh_9, hE⟩ := nm_e2 hE
      refine (le_cI eh_9).tr ?_
      obtain ⟨r_10, er_10, hE⟩ := cl_e hE
      obtain ⟨g_11, hE⟩ := gd_e hE
      obtain ⟨h_12, eh_12, hE⟩ := nm_e2 hE
      refine (le_I eh_12).tr ?_
      obtain ⟨h_13, eh_13, hE⟩ := nm_e2 hE
      refine (le_I eh_13).tr ?_
      exact le_some1 hE
    · obtain ⟨v_14, ev_14, hE⟩ := nm_e2 hE
      obtain ⟨r_15, er_15, hE⟩ := cl_e hE
      obtain ⟨g_16, hE⟩ := gd_e hE
      obtain ⟨o_17, eo_17, hE⟩ := cl_e hE
      refine (moX6_comesFirst eo_17).tr ?_
      rcases br_e hE with ⟨_, hE⟩ | ⟨_, hE⟩
      · exact moX6_keep_61 mk_23 hE
      · obtain ⟨v_19, ev_19, hE⟩ := nm_e2 hE
        exact moX6_keep_61 mk_23 hE
set_option maxRecDepth 20000 in
theorem moX6_keep {o : Hp} {F : Nat} {h : Hp} {x0 : Nat} {x1 : Int32} (hE : sX6_keep F h x0 x1 = some o) : Le h o := by
  rcases br_e hE with ⟨_, hE⟩ | ⟨_, hE⟩
  · obtain ⟨v_2, ev_2, hE⟩ := nm_e2 hE
    exact moX6_keep_23 _ hE
  · obtain ⟨h_3, eh_3, hE⟩ := nm_e2 hE
    refine (le_I eh_3).tr ?_
    exact le_some1 hE
set_option maxRecDepth 20000 in
theorem bX6_keep_61 {p : Program} {l : Launch} {e : Env} {s : State} {m : MethodId} {args : Array Value} {below : List Frame} {meth : Method} {c : Code} {X : Ec} {h0 : Hp} {o : Hp} {k_23 : Hp → Nat → Int32 → Int32 → Int32 → Option (Hp)} {F : Nat} (C : Cx X p s m args meth c RX6 cX6_keep 5 none "keep") (hk_23 : ∀ (h : Hp) (x0 : Nat) (x1 : Int32) (x2 : Int32) (x3 : Int32) (H : Heap) (locs : List Loc), hK h x0 = 6 → Km h0 h → Wx X h H → va_S (aA (eB X)) s.heap H locs → ∀ (ls : Array Slot), lv_has ls 5 [(0, .ref x0), (1, .int x1), (2, .int x2), (3, .int x3)] → k_23 h x0 x1 x2 x3 = some o → W p l e (rm 3 70) s m args below meth c H locs 0 0 (MQ below (QV X h0 o) args s 0 0 (aA (eB X))) (F0 m 23 ls [])) {h : Hp} {x0 : Nat} {x1 : Int32} {x2 : Int32} {x3 : Int32} {H : Heap} {locs : List Loc} (k_x0 : hK h x0 = 6) (hkm : Km h0 h) (hW : Wx X h H) (hZ : va_S (aA (eB X)) s.heap H locs) (ls : Array Slot) (hl : lv_has ls 5 [(0, .ref x0), (1, .int x1), (2, .int x2), (3, .int x3)]) (hE : sX6_keep_61 F k_23 h x0 x1 x2 x3 = some o) : W p l e (rm 3 70) s m args below meth c H locs 0 0 (MQ below (QV X h0 o) args s 0 0 (aA (eB X))) (F0 m 61 ls []) := by
  refine lv_goto (tgt := 23) C.1 C.2.1 dX6_keep_61 (by decide) ?_
  exact hk_23 _ _ _ _ _ _ _ k_x0 hkm hW hZ _ (lv_sub hl [0, 1, 2, 3] rfl) hE
set_option maxRecDepth 20000 in
theorem bX6_keep_23 {p : Program} {l : Launch} {e : Env} {s : State} {m : MethodId} {args : Array Value} {below : List Frame} {meth : Method} {c : Code} {X : Ec} {h0 : Hp} {o : Hp} {F : Nat} (C : Cx X p s m args meth c RX6 cX6_keep 5 none "keep") : ∀ (f : Nat) {h : Hp} {x0 : Nat} {x1 : Int32} {x2 : Int32} {x3 : Int32} {H : Heap} {locs : List Loc} (k_x0 : hK h x0 = 6), Km h0 h → Wx X h H → va_S (aA (eB X)) s.heap H locs → ∀ (ls : Array Slot), lv_has ls 5 [(0, .ref x0), (1, .int x1), (2, .int x2), (3, .int x3)] → sX6_keep_23 F f h x0 x1 x2 x3 = some o → W p l e (rm 3 70) s m args below meth c H locs 0 0 (MQ below (QV X h0 o) args s 0 0 (aA (eB X))) (F0 m 23 ls []) := by
  intro f
  induction f with
  | zero =>
    intro h x0 x1 x2 x3 H locs k_x0 hkm hW hZ ls hl hE
    rw [sX6_keep_23] at hE
    cases hE
  | succ f ih =>
    intro h x0 x1 x2 x3 H locs k_x0 hkm hW hZ ls hl hE
    rw [sX6_keep_23] at hE
    have hk_23 : ∀ (h : Hp) (x0 : Nat) (x1 : Int32) (x2 : Int32) (x3 : Int32) (H : Heap) (locs : List Loc), hK h x0 = 6 → Km h0 h → Wx X h H → va_S (aA (eB X)) s.heap H locs → ∀ (ls : Array Slot), lv_has ls 5 [(0, .ref x0), (1, .int x1), (2, .int x2), (3, .int x3)] → sX6_keep_23 F f h x0 x1 x2 x3 = some o → W p l e (rm 3 70) s m args below meth c H locs 0 0 (MQ below (QV X h0 o) args s 0 0 (aA (eB X))) (F0 m 23 ls []) := fun h x0 x1 x2 x3 H locs k_x0 a b c ls hl hE => ih k_x0 a b c ls hl hE
    refine lv_iload_n C.1 C.2.1 dX6_keep_23 rfl (lv_at hl 2 rfl) ?_
    refine lv_iload_n C.1 C.2.1 dX6_keep_24 rfl (lv_at hl 3 rfl) ?_
    refine lv_icmp_ge (tgt := 64) C.1 C.2.1 dX6_keep_25 (by decide) (fun c_1 => ?_) (fun c_1 => ?_)
    · have hE := br_p hE c_1
      refine lv_aload_n C.1 C.2.1 dX6_keep_64 rfl (lv_at hl 0 rfl) ?_
      obtain ⟨r_2, er_2, hE⟩ := cl_e hE
      refine gf_X6_21 C hW k_x0 er_2 dX6_keep_65 (fun k_r_2 => ?_)
      refine lv_iload_n C.1 C.2.1 dX6_keep_68 rfl (lv_at hl 2 rfl) ?_
      refine lv_aload_n C.1 C.2.1 dX6_keep_69 rfl (lv_at hl 0 rfl) ?_
      obtain ⟨r_3, er_3, hE⟩ := cl_e hE
      refine gf_X6_21 C hW k_x0 er_3 dX6_keep_70 (fun k_r_3 => ?_)
      refine lv_iload_n C.1 C.2.1 dX6_keep_73 rfl (lv_at hl 2 rfl) ?_
      refine lv_iconst (v := (1 : Int32)) C.1 C.2.1 dX6_keep_74 (by decide) ?_
      refine lv_iadd C.1 C.2.1 dX6_keep_75 ?_
      refine lv_aload_n C.1 C.2.1 dX6_keep_76 rfl (lv_at hl 0 rfl) ?_
      refine gf_X6_37 C hW k_x0 dX6_keep_77 ?_
      refine lv_iload_n C.1 C.2.1 dX6_keep_80 rfl (lv_at hl 2 rfl) ?_
      refine lv_isub C.1 C.2.1 dX6_keep_81 ?_
      obtain ⟨g_4, hE⟩ := gd_e hE
      obtain ⟨g_5, hE⟩ := gd_e hE
      obtain ⟨g_6, hE⟩ := gd_e hE
      obtain ⟨g_7, hE⟩ := gd_e hE
      obtain ⟨g_8, hE⟩ := gd_e hE
      obtain ⟨h_9, eh_9, hE⟩ := nm_e2 hE
      refine y_cpyI (ty := .int) C hW hZ hl.1 m_1577 m_1235 m_1234 m_23 k_r_2 k_r_3 (Or.inr (Or.inl ⟨rfl, rfl⟩)) g_4 g_5 g_6 g_7 g_8 (fun _ _ => rfl) (Nat.le_of_ble_eq_true rfl) (Nat.le_of_ble_eq_true rfl) eh_9 dX6_keep_82 (fun _ _ hW km hZ => ?_)
      replace hkm := hkm.tr km
      replace k_x0 := km.at k_x0 (by decide)
      refine lv_aload_n C.1 C.2.1 dX6_keep_85 rfl (lv_at hl 0 rfl) ?_
      obtain ⟨r_10, er_10, hE⟩ := cl_e hE
      refine gf_X6_21 C hW k_x0 er_10 dX6_keep_86 (fun k_r_10 => ?_)
      refine lv_iload_n C.1 C.2.1 dX6_keep_89 rfl (lv_at hl 2 rfl) ?_
      refine lv_iload_n C.1 C.2.1 dX6_keep_90 rfl (lv_at hl 1 rfl) ?_
      obtain ⟨g_11, hE⟩ := gd_e hE
      obtain ⟨h_12, eh_12, hE⟩ := nm_e2 hE
      refine y_iast C hW hZ k_r_10 g_11 eh_12 dX6_keep_91 (fun _ _ hW km hZ => ?_)
      replace hkm := hkm.tr km
      replace k_x0 := km.at k_x0 (by decide)
      refine lv_aload_n C.1 C.2.1 dX6_keep_92 rfl (lv_at hl 0 rfl) ?_
      refine lv_dup C.1 C.2.1 dX6_keep_93 rfl ?_
      refine gf_X6_37 C hW k_x0 dX6_keep_94 ?_
      refine lv_iconst (v := (1 : Int32)) C.1 C.2.1 dX6_keep_97 (by decide) ?_
      refine lv_iadd C.1 C.2.1 dX6_keep_98 ?_
      obtain ⟨h_13, eh_13, hE⟩ := nm_e2 hE
      refine pf_X6_37 C hW hZ k_x0 eh_13 dX6_keep_99 (fun _ _ hW km hZ => ?_)
      replace hkm := hkm.tr km
      replace k_x0 := km.at k_x0 (by decide)
      exact x_vret C rfl hW hZ hkm hE dX6_keep_102
    · have hE := br_n hE c_1
      refine lv_iload_n C.1 C.2.1 dX6_keep_28 rfl (lv_at hl 2 rfl) ?_
      refine lv_iload_n C.1 C.2.1 dX6_keep_29 rfl (lv_at hl 3 rfl) ?_
      refine lv_iadd C.1 C.2.1 dX6_keep_30 ?_
      refine lv_iconst (v := (1 : Int32)) C.1 C.2.1 dX6_keep_31 (by decide) ?_
      refine lv_ishr C.1 C.2.1 dX6_keep_32 ?_
      obtain ⟨v_14, ev_14, hE⟩ := nm_e2 hE
      refine x_nmI ev_14 ?_
      refine lv_istore (lv' := [(4, .int v_14), (0, .ref x0), (1, .int x1), (2, .int x2), (3, .int x3)]) C.1 C.2.1 dX6_keep_33 hl (by decide) rfl (fun ls hl => ?_)
      refine lv_aload_n C.1 C.2.1 dX6_keep_35 rfl (lv_at hl 1 rfl) ?_
      refine lv_aload_n C.1 C.2.1 dX6_keep_36 rfl (lv_at hl 1 rfl) ?_
      obtain ⟨r_15, er_15, hE⟩ := cl_e hE
      refine gf_X6_21 C hW k_x0 er_15 dX6_keep_37 (fun k_r_15 => ?_)
      refine lv_iload C.1 C.2.1 dX6_keep_40 (lv_at hl 0 rfl) ?_
      obtain ⟨g_16, hE⟩ := gd_e hE
      refine y_iald C hW k_r_15 g_16 dX6_keep_42 ?_
      refine lv_iload_n C.1 C.2.1 dX6_keep_43 rfl (lv_at hl 2 rfl) ?_
      obtain ⟨o_17, eo_17, hE⟩ := cl_e hE
      refine x_kI (o := o_17) (z_runV (As := [.int (hI h r_15 v_14.toNatClampNeg), .int x1]) (rest := []) C (ct_X6_comesFirst l X F k_x0 eo_17) cw_X6_142 hW hZ k_x0 (by decide) rfl rfl rfl hl.1 (Nat.le_of_ble_eq_true rfl) rfl dX6_keep_44 ⟨Nat.le_of_ble_eq_true rfl, Nat.le_of_ble_eq_true rfl⟩ ⟨Nat.le_refl _, Nat.le_refl _⟩) hZ (fun _ _ hW km hZ => ?_)
      replace hkm := hkm.tr km
      replace k_x0 := km.at k_x0 (by decide)
      refine lv_if_eq (tgt := 58) C.1 C.2.1 dX6_keep_47 (by decide) (fun c_18 => ?_) (fun c_18 => ?_)
      · have hE := br_p hE c_18
        refine lv_iload C.1 C.2.1 dX6_keep_58 (lv_at hl 0 rfl) ?_
        refine lv_istore_n (lv' := [(3, .int v_14), (4, .int v_14), (0, .ref x0), (1, .int x1), (2, .int x2)]) C.1 C.2.1 dX6_keep_60 rfl hl (by decide) rfl (fun ls hl => ?_)
        exact bX6_keep_61 C hk_23 k_x0 hkm hW hZ _ (lv_sub hl [2, 3, 4, 0] rfl) hE
      · have hE := br_n hE c_18
        refine lv_iload C.1 C.2.1 dX6_keep_50 (lv_at hl 0 rfl) ?_
        refine lv_iconst (v := (1 : Int32)) C.1 C.2.1 dX6_keep_52 (by decide) ?_
        refine lv_iadd C.1 C.2.1 dX6_keep_53 ?_
        obtain ⟨v_19, ev_19, hE⟩ := nm_e2 hE
        refine x_nmI ev_19 ?_
        refine lv_istore_n (lv' := [(2, .int v_19), (4, .int v_14), (0, .ref x0), (1, .int x1), (3, .int x3)]) C.1 C.2.1 dX6_keep_54 rfl hl (by decide) rfl (fun ls hl => ?_)
        refine lv_goto (tgt := 61) C.1 C.2.1 dX6_keep_55 (by decide) ?_
        exact bX6_keep_61 C hk_23 k_x0 hkm hW hZ _ (lv_sub hl [2, 3, 0, 4] rfl) hE
set_option maxRecDepth 20000 in
theorem ct_X6_keep (l : Launch) (X : Ec) (F : Nat) {h : Hp} {x0 : Nat} {x1 : Int32} {o : Hp} (k_x0 : hK h x0 = 6) (hE : sX6_keep F h x0 x1 = some o) : MetV l yX6_keep cX6_keep 5 none 3 70 X [.ref x0, .int x1] h o := by
  refine x_met (by decide) (Nat.le_of_ble_eq_true rfl) ?_
  intro p e s m below meth c ls C hl hW hZ
  have hl : lv_has ls 5 [(0, .ref x0), (1, .int x1)] := hl
  have hkm : Km h h := Km.rf h
  refine lv_aload_n C.1 C.2.1 dX6_keep_0 rfl (lv_at hl 0 rfl) ?_
  refine gf_X6_37 C hW k_x0 dX6_keep_1 ?_
  refine lv_sipush (v := (3000 : Int32)) C.1 C.2.1 dX6_keep_4 (by decide) ?_
  refine lv_icmp_lt (tgt := 16) C.1 C.2.1 dX6_keep_7 (by decide) (fun c_1 => ?_) (fun c_1 => ?_)
  · have hE := br_p hE c_1
    refine lv_iconst (v := (0 : Int32)) C.1 C.2.1 dX6_keep_16 (by decide) ?_
    refine lv_istore_n (lv' := [(2, .int (0 : Int32)), (0, .ref x0), (1, .int x1)]) C.1 C.2.1 dX6_keep_17 rfl hl (by decide) rfl (fun ls hl => ?_)
    refine lv_aload_n C.1 C.2.1 dX6_keep_18 rfl (lv_at hl 1 rfl) ?_
    refine gf_X6_37 C hW k_x0 dX6_keep_19 ?_
    obtain ⟨v_2, ev_2, hE⟩ := nm_e2 hE
    refine x_nmI ev_2 ?_
    refine lv_istore_n (lv' := [(3, .int v_2), (2, .int (0 : Int32)), (0, .ref x0), (1, .int x1)]) C.1 C.2.1 dX6_keep_22 rfl hl (by decide) rfl (fun ls hl => ?_)
    exact bX6_keep_23 C F k_x0 hkm hW hZ _ (lv_sub hl [2, 3, 1, 0] rfl) hE
  · have hE := br_n hE c_1
    refine lv_aload_n C.1 C.2.1 dX6_keep_10 rfl (lv_at hl 0 rfl) ?_
    refine lv_iconst (v := (1 : Int32)) C.1 C.2.1 dX6_keep_11 (by decide) ?_
    obtain ⟨h_3, eh_3, hE⟩ := nm_e2 hE
    refine pf_X6_41 C hW hZ k_x0 (by decide) eh_3 dX6_keep_12 (fun _ _ hW km hZ => ?_)
    replace hkm := hkm.tr km
    replace k_x0 := km.at k_x0 (by decide)
    exact x_vret C rfl hW hZ hkm hE dX6_keep_15
set_option maxRecDepth 100000 in
theorem ms_85 : Cond.selects RX6 yX6_keep yX6_keep ∈ W0 := w0_in (List.mem_append_left _ (List.mem_of_getElem? (i := 85) rfl)) rfl
set_option maxRecDepth 100000 in
theorem ms_84 : Cond.selects RX6 yX6_isBefore yX6_isBefore ∈ W0 := w0_in (List.mem_append_left _ (List.mem_of_getElem? (i := 84) rfl)) rfl
set_option maxRecDepth 100000 in
theorem ms_82 : Cond.selects RX6 yX6_lay yX6_lay ∈ W0 := w0_in (List.mem_append_left _ (List.mem_of_getElem? (i := 82) rfl)) rfl
set_option maxRecDepth 100000 in
theorem m_80 : Cond.fieldLink RX6 83 (TX1 3).1 (TX1 3).2.1 (TX1 3).2.2.1 ∈ W0 := w0_in (List.mem_append_right _ (List.mem_of_getElem? (i := 80) rfl)) rfl
set_option maxRecDepth 100000 in
theorem n_1529 : Cond.methodLinkNest RX6 71 yX11_lowest "GameRules" ∈ tables_1 := List.mem_of_getElem? (i := 1529) rfl
set_option maxRecDepth 100000 in
theorem m_1534 : Cond.methodLink RX6 96 yX3_occupied ∈ W0 := w0_in (List.mem_append_right _ (List.mem_of_getElem? (i := 1534) rfl)) rfl
set_option maxRecDepth 100000 in
theorem m_1535 : Cond.methodLink RX6 100 yX10_origins ∈ W0 := w0_in (List.mem_append_right _ (List.mem_of_getElem? (i := 1535) rfl)) rfl
set_option maxRecDepth 100000 in
theorem m_1536 : Cond.instanceMethod yX10_origins ∈ W0 := w0_in (List.mem_append_right _ (List.mem_of_getElem? (i := 1536) rfl)) rfl
set_option maxRecDepth 100000 in
theorem m_1537 : Cond.selects RX10 yX10_origins yX10_origins ∈ W0 := w0_in (List.mem_append_right _ (List.mem_of_getElem? (i := 1537) rfl)) rfl
set_option maxRecDepth 100000 in
theorem m_1538 : Cond.code yX10_origins cX10_origins 18 (some .long) ∈ W0 := w0_in (List.mem_append_right _ (List.mem_of_getElem? (i := 1538) rfl)) rfl
set_option maxRecDepth 100000 in
theorem m_1543 : Cond.methodLink RX6 106 yX6_lay ∈ W0 := w0_in (List.mem_append_right _ (List.mem_of_getElem? (i := 1543) rfl)) rfl
set_option maxRecDepth 100000 in
theorem m_1545 : Cond.instanceMethod yX6_lay ∈ W0 := w0_in (List.mem_append_right _ (List.mem_of_getElem? (i := 1545) rfl)) rfl
set_option maxRecDepth 100000 in
theorem m_1546 : Cond.code yX6_lay cX6_lay 3 none ∈ W0 := w0_in (List.mem_append_right _ (List.mem_of_getElem? (i := 1546) rfl)) rfl
set_option maxRecDepth 100000 in
theorem m_1552 : Cond.methodLink RX6 110 yX6_isBefore ∈ W0 := w0_in (List.mem_append_right _ (List.mem_of_getElem? (i := 1552) rfl)) rfl
set_option maxRecDepth 100000 in
theorem m_1554 : Cond.instanceMethod yX6_isBefore ∈ W0 := w0_in (List.mem_append_right _ (List.mem_of_getElem? (i := 1554) rfl)) rfl
set_option maxRecDepth 100000 in
theorem m_1555 : Cond.code yX6_isBefore cX6_isBefore 3 (some .boolean) ∈ W0 := w0_in (List.mem_append_right _ (List.mem_of_getElem? (i := 1555) rfl)) rfl
set_option maxRecDepth 100000 in
theorem m_1560 : Cond.methodLink RX6 113 yX6_keep ∈ W0 := w0_in (List.mem_append_right _ (List.mem_of_getElem? (i := 1560) rfl)) rfl
set_option maxRecDepth 100000 in
theorem m_1562 : Cond.instanceMethod yX6_keep ∈ W0 := w0_in (List.mem_append_right _ (List.mem_of_getElem? (i := 1562) rfl)) rfl
set_option maxRecDepth 100000 in
theorem m_1563 : Cond.code yX6_keep cX6_keep 5 none ∈ W0 := w0_in (List.mem_append_right _ (List.mem_of_getElem? (i := 1563) rfl)) rfl
section
variable {p : Program} {l : Launch} {e : Env} {R : Room} {s : State} {m : MethodId} {args : Array Value} {below : List Frame} {meth : Method} {c : Code} {H : Heap} {locs : List Loc} {cells slots : Nat} {Q : State → Prop}
variable {cc : ByteArray} {pc : Nat} {ls : Array Slot} {rest : List Value} {X : Ec} {h h1 : Hp} {nL : Nat} {rt : Option FieldType} {mn : String}
theorem gf_X6_41 {a : Nat} (C : Cx X p s m args meth c RX6 cc nL rt mn) (hW : Wx X h H) (ha : hK h a = 6) (hdg : decode cc pc = .ok (.getfield 41, 3)) (kk : W p l e R s m args below meth c H locs cells slots Q (F0 m (pc + 3) ls (.int (hI h a 7) :: rest))) : W p l e R s m args below meth c H locs cells slots Q (F0 m pc ls (.ref a :: rest)) :=
  y_geti C hW ha i_X6 (by decide) rfl (by decide) m_431 rfl hdg kk
theorem gf_X6_29 {a r : Nat} (C : Cx X p s m args meth c RX6 cc nL rt mn) (hW : Wx X h H) (ha : hK h a = 6) (hr : hR h a 1 = some r) (hdg : decode cc pc = .ok (.getfield 29, 3)) (kk : hK h r = 10 → W p l e R s m args below meth c H locs cells slots Q (F0 m (pc + 3) ls (.ref r :: rest))) : W p l e R s m args below meth c H locs cells slots Q (F0 m pc ls (.ref a :: rest)) :=
  y_getr C hW ha i_X6 (by decide) rfl (by decide) m_424 rfl rfl hr hdg kk
theorem gf_X6_83 {a : Nat} (C : Cx X p s m args meth c RX6 cc nL rt mn) (hW : Wx X h H) (ha : hK h a = 1) (hdg : decode cc pc = .ok (.getfield 83, 3)) (kk : W p l e R s m args below meth c H locs cells slots Q (F0 m (pc + 3) ls (.int (hI h a 3) :: rest))) : W p l e R s m args below meth c H locs cells slots Q (F0 m pc ls (.ref a :: rest)) :=
  y_geti C hW ha i_X1 (by decide) rfl (by decide) m_80 rfl hdg kk
end
theorem cw_X6_106 : cwd RX6 106 yX6_lay cX6_lay 3 none false 2 := ⟨m_1546, m_1543, m_12, ⟨m_1545, ms_82⟩, by decide, by decide, by decide +kernel⟩
theorem cw_X6_110 : cwd RX6 110 yX6_isBefore cX6_isBefore 3 (some .boolean) false 1 := ⟨m_1555, m_1552, m_12, ⟨m_1554, ms_84⟩, by decide, by decide, by decide +kernel⟩
theorem cw_X6_113 : cwd RX6 113 yX6_keep cX6_keep 5 none false 1 := ⟨m_1563, m_1560, m_12, ⟨m_1562, ms_85⟩, by decide, by decide, by decide +kernel⟩
theorem cn_X6_71 : cwn RX6 71 "GameRules" yX11_lowest cX11_lowest 2 (some .int) true 1 := ⟨m_1022, n_1529, m_1, m_1021, by decide, by decide, by decide +kernel⟩
theorem cw_X6_96 : cwd RX6 96 yX3_occupied cX3_occupied 1 (some .long) false 0 := ⟨m_1061, m_1534, m_8, ⟨m_1059, m_1060⟩, by decide, by decide, by decide +kernel⟩
theorem cw_X6_100 : cwd RX6 100 yX10_origins cX10_origins 18 (some .long) false 4 := ⟨m_1538, m_1535, m_6, ⟨m_1536, m_1537⟩, by decide, by decide, by decide +kernel⟩
theorem dX6_takeBack_0 : decode cX6_takeBack 0 = .ok (.iconst 2, 1) := by decide +kernel
theorem dX6_takeBack_1 : decode cX6_takeBack 1 = .ok (.iload_n 2, 1) := by decide +kernel
theorem dX6_takeBack_2 : decode cX6_takeBack 2 = .ok (.imul, 1) := by decide +kernel
theorem dX6_takeBack_3 : decode cX6_takeBack 3 = .ok (.aload_n 0, 1) := by decide +kernel
theorem dX6_takeBack_4 : decode cX6_takeBack 4 = .ok (.getfield 12, 3) := by decide +kernel
theorem dX6_takeBack_7 : decode cX6_takeBack 7 = .ok (.getfield 52, 3) := by decide +kernel
theorem dX6_takeBack_10 : decode cX6_takeBack 10 = .ok (.iadd, 1) := by decide +kernel
theorem dX6_takeBack_11 : decode cX6_takeBack 11 = .ok (.istore_n 3, 1) := by decide +kernel
theorem dX6_takeBack_12 : decode cX6_takeBack 12 = .ok (.iconst (-1), 1) := by decide +kernel
theorem dX6_takeBack_13 : decode cX6_takeBack 13 = .ok (.istore 4, 2) := by decide +kernel
theorem dX6_takeBack_15 : decode cX6_takeBack 15 = .ok (.iload 4, 2) := by decide +kernel
theorem dX6_takeBack_17 : decode cX6_takeBack 17 = .ok (.aload_n 0, 1) := by decide +kernel
theorem dX6_takeBack_18 : decode cX6_takeBack 18 = .ok (.getfield 25, 3) := by decide +kernel
theorem dX6_takeBack_21 : decode cX6_takeBack 21 = .ok (.getfield 83, 3) := by decide +kernel
theorem dX6_takeBack_24 : decode cX6_takeBack 24 = .ok (.if_icmp .ge 161, 3) := by decide +kernel
theorem dX6_takeBack_27 : decode cX6_takeBack 27 = .ok (.iload 4, 2) := by decide +kernel
theorem dX6_takeBack_29 : decode cX6_takeBack 29 = .ok (.iconst (-1), 1) := by decide +kernel
theorem dX6_takeBack_30 : decode cX6_takeBack 30 = .ok (.if_icmp .eq 18, 3) := by decide +kernel
theorem dX6_takeBack_33 : decode cX6_takeBack 33 = .ok (.iload 4, 2) := by decide +kernel
theorem dX6_takeBack_35 : decode cX6_takeBack 35 = .ok (.aload_n 0, 1) := by decide +kernel
theorem dX6_takeBack_36 : decode cX6_takeBack 36 = .ok (.getfield 25, 3) := by decide +kernel
theorem dX6_takeBack_39 : decode cX6_takeBack 39 = .ok (.getfield 93, 3) := by decide +kernel
theorem dX6_takeBack_42 : decode cX6_takeBack 42 = .ok (.if_icmp .ne 6, 3) := by decide +kernel
theorem dX6_takeBack_45 : decode cX6_takeBack 45 = .ok (.goto 134, 3) := by decide +kernel
theorem dX6_takeBack_48 : decode cX6_takeBack 48 = .ok (.aload_n 0, 1) := by decide +kernel
theorem dX6_takeBack_49 : decode cX6_takeBack 49 = .ok (.getfield 29, 3) := by decide +kernel
theorem dX6_takeBack_52 : decode cX6_takeBack 52 = .ok (.iload_n 3, 1) := by decide +kernel
theorem dX6_takeBack_53 : decode cX6_takeBack 53 = .ok (.iload_n 1, 1) := by decide +kernel
theorem dX6_takeBack_54 : decode cX6_takeBack 54 = .ok (.iload 4, 2) := by decide +kernel
theorem dX6_takeBack_56 : decode cX6_takeBack 56 = .ok (.iconst (-1), 1) := by decide +kernel
theorem dX6_takeBack_57 : decode cX6_takeBack 57 = .ok (.if_icmp .eq 7, 3) := by decide +kernel
theorem dX6_takeBack_60 : decode cX6_takeBack 60 = .ok (.iconst 1, 1) := by decide +kernel
theorem dX6_takeBack_61 : decode cX6_takeBack 61 = .ok (.goto 4, 3) := by decide +kernel
theorem dX6_takeBack_64 : decode cX6_takeBack 64 = .ok (.iconst 0, 1) := by decide +kernel
theorem dX6_takeBack_65 : decode cX6_takeBack 65 = .ok (.aload_n 0, 1) := by decide +kernel
theorem dX6_takeBack_66 : decode cX6_takeBack 66 = .ok (.getfield 12, 3) := by decide +kernel
theorem dX6_takeBack_69 : decode cX6_takeBack 69 = .ok (.invokevirtual 96, 3) := by decide +kernel
theorem dX6_takeBack_72 : decode cX6_takeBack 72 = .ok (.invokevirtual 100, 3) := by decide +kernel
theorem dX6_takeBack_75 : decode cX6_takeBack 75 = .ok (.lstore 5, 2) := by decide +kernel
theorem dX6_takeBack_77 : decode cX6_takeBack 77 = .ok (.iconst 0, 1) := by decide +kernel
theorem dX6_takeBack_78 : decode cX6_takeBack 78 = .ok (.istore 7, 2) := by decide +kernel
theorem dX6_takeBack_80 : decode cX6_takeBack 80 = .ok (.iload 7, 2) := by decide +kernel
theorem dX6_takeBack_82 : decode cX6_takeBack 82 = .ok (.bipush 64, 2) := by decide +kernel
theorem dX6_takeBack_84 : decode cX6_takeBack 84 = .ok (.if_icmp .ge 95, 3) := by decide +kernel
theorem dX6_takeBack_87 : decode cX6_takeBack 87 = .ok (.lload 5, 2) := by decide +kernel
theorem dX6_takeBack_89 : decode cX6_takeBack 89 = .ok (.lconst 0, 1) := by decide +kernel
theorem dX6_takeBack_90 : decode cX6_takeBack 90 = .ok (.lcmp, 1) := by decide +kernel
theorem dX6_takeBack_91 : decode cX6_takeBack 91 = .ok (.ifCond .eq 88, 3) := by decide +kernel
theorem dX6_takeBack_94 : decode cX6_takeBack 94 = .ok (.aload_n 0, 1) := by decide +kernel
theorem dX6_takeBack_95 : decode cX6_takeBack 95 = .ok (.getfield 41, 3) := by decide +kernel
theorem dX6_takeBack_98 : decode cX6_takeBack 98 = .ok (.ifCond .ne 81, 3) := by decide +kernel
theorem dX6_takeBack_101 : decode cX6_takeBack 101 = .ok (.lload 5, 2) := by decide +kernel
theorem dX6_takeBack_103 : decode cX6_takeBack 103 = .ok (.invokestatic 71, 3) := by decide +kernel
theorem dX6_takeBack_106 : decode cX6_takeBack 106 = .ok (.istore 8, 2) := by decide +kernel
theorem dX6_takeBack_108 : decode cX6_takeBack 108 = .ok (.lload 5, 2) := by decide +kernel
theorem dX6_takeBack_110 : decode cX6_takeBack 110 = .ok (.lload 5, 2) := by decide +kernel
theorem dX6_takeBack_112 : decode cX6_takeBack 112 = .ok (.lconst 1, 1) := by decide +kernel
theorem dX6_takeBack_113 : decode cX6_takeBack 113 = .ok (.lsub, 1) := by decide +kernel
theorem dX6_takeBack_114 : decode cX6_takeBack 114 = .ok (.land, 1) := by decide +kernel
theorem dX6_takeBack_115 : decode cX6_takeBack 115 = .ok (.lstore 5, 2) := by decide +kernel
theorem dX6_takeBack_117 : decode cX6_takeBack 117 = .ok (.iload 8, 2) := by decide +kernel
theorem dX6_takeBack_119 : decode cX6_takeBack 119 = .ok (.iload_n 1, 1) := by decide +kernel
theorem dX6_takeBack_120 : decode cX6_takeBack 120 = .ok (.bipush 6, 2) := by decide +kernel
theorem dX6_takeBack_122 : decode cX6_takeBack 122 = .ok (.ishl, 1) := by decide +kernel
theorem dX6_takeBack_123 : decode cX6_takeBack 123 = .ok (.ior, 1) := by decide +kernel
theorem dX6_takeBack_124 : decode cX6_takeBack 124 = .ok (.iload_n 2, 1) := by decide +kernel
theorem dX6_takeBack_125 : decode cX6_takeBack 125 = .ok (.bipush 12, 2) := by decide +kernel
theorem dX6_takeBack_127 : decode cX6_takeBack 127 = .ok (.ishl, 1) := by decide +kernel
theorem dX6_takeBack_128 : decode cX6_takeBack 128 = .ok (.ior, 1) := by decide +kernel
theorem dX6_takeBack_129 : decode cX6_takeBack 129 = .ok (.iload 4, 2) := by decide +kernel
theorem dX6_takeBack_131 : decode cX6_takeBack 131 = .ok (.iconst (-1), 1) := by decide +kernel
theorem dX6_takeBack_132 : decode cX6_takeBack 132 = .ok (.if_icmp .ne 8, 3) := by decide +kernel
theorem dX6_takeBack_135 : decode cX6_takeBack 135 = .ok (.bipush 15, 2) := by decide +kernel
theorem dX6_takeBack_137 : decode cX6_takeBack 137 = .ok (.goto 5, 3) := by decide +kernel
theorem dX6_takeBack_140 : decode cX6_takeBack 140 = .ok (.iload 4, 2) := by decide +kernel
theorem dX6_takeBack_142 : decode cX6_takeBack 142 = .ok (.bipush 16, 2) := by decide +kernel
theorem dX6_takeBack_144 : decode cX6_takeBack 144 = .ok (.ishl, 1) := by decide +kernel
theorem dX6_takeBack_145 : decode cX6_takeBack 145 = .ok (.ior, 1) := by decide +kernel
theorem dX6_takeBack_146 : decode cX6_takeBack 146 = .ok (.istore 9, 2) := by decide +kernel
theorem dX6_takeBack_148 : decode cX6_takeBack 148 = .ok (.aload_n 0, 1) := by decide +kernel
theorem dX6_takeBack_149 : decode cX6_takeBack 149 = .ok (.aload_n 0, 1) := by decide +kernel
theorem dX6_takeBack_150 : decode cX6_takeBack 150 = .ok (.getfield 18, 3) := by decide +kernel
theorem dX6_takeBack_153 : decode cX6_takeBack 153 = .ok (.iload 9, 2) := by decide +kernel
theorem dX6_takeBack_155 : decode cX6_takeBack 155 = .ok (.invokevirtual 106, 3) := by decide +kernel
theorem dX6_takeBack_158 : decode cX6_takeBack 158 = .ok (.aload_n 0, 1) := by decide +kernel
theorem dX6_takeBack_159 : decode cX6_takeBack 159 = .ok (.iload 4, 2) := by decide +kernel
theorem dX6_takeBack_161 : decode cX6_takeBack 161 = .ok (.invokevirtual 110, 3) := by decide +kernel
theorem dX6_takeBack_164 : decode cX6_takeBack 164 = .ok (.ifCond .eq 9, 3) := by decide +kernel
theorem dX6_takeBack_167 : decode cX6_takeBack 167 = .ok (.aload_n 0, 1) := by decide +kernel
theorem dX6_takeBack_168 : decode cX6_takeBack 168 = .ok (.iload 9, 2) := by decide +kernel
theorem dX6_takeBack_170 : decode cX6_takeBack 170 = .ok (.invokevirtual 113, 3) := by decide +kernel
theorem dX6_takeBack_173 : decode cX6_takeBack 173 = .ok (.iinc 7 1, 3) := by decide +kernel
theorem dX6_takeBack_176 : decode cX6_takeBack 176 = .ok (.goto (-96), 3) := by decide +kernel
theorem dX6_takeBack_179 : decode cX6_takeBack 179 = .ok (.iinc 4 1, 3) := by decide +kernel
theorem dX6_takeBack_182 : decode cX6_takeBack 182 = .ok (.goto (-167), 3) := by decide +kernel
theorem dX6_takeBack_185 : decode cX6_takeBack 185 = .ok (.return_, 1) := by decide +kernel
set_option maxRecDepth 20000 in
theorem moX6_takeBack_179 {o : Hp} {k_15 : Hp → Nat → Int32 → Int32 → Int32 → Int32 → Option (Hp)} {F : Nat} (mk_15 : ∀ (h : Hp) (x0 : Nat) (x1 : Int32) (x2 : Int32) (x3 : Int32) (x4 : Int32), k_15 h x0 x1 x2 x3 x4 = some o → Le h o) {h : Hp} {x0 : Nat} {x1 : Int32} {x2 : Int32} {x3 : Int32} {x4 : Int32} (hE : sX6_takeBack_179 F k_15 h x0 x1 x2 x3 x4 = some o) : Le h o := by
  obtain ⟨v_1, ev_1, hE⟩ := nm_e2 hE
  exact mk_15 _ _ _ _ _ _ hE
set_option maxRecDepth 20000 in
theorem moX6_takeBack_173 {o : Hp} {k_15 : Hp → Nat → Int32 → Int32 → Int32 → Int32 → Option (Hp)} {k_80 : Hp → Nat → Int32 → Int32 → Int32 → Int32 → Int64 → Int32 → Option (Hp)} {F : Nat} (mk_15 : ∀ (h : Hp) (x0 : Nat) (x1 : Int32) (x2 : Int32) (x3 : Int32) (x4 : Int32), k_15 h x0 x1 x2 x3 x4 = some o → Le h o) (mk_80 : ∀ (h : Hp) (x0 : Nat) (x1 : Int32) (x2 : Int32) (x3 : Int32) (x4 : Int32) (x5 : Int64) (x7 : Int32), k_80 h x0 x1 x2 x3 x4 x5 x7 = some o → Le h o) {h : Hp} {x0 : Nat} {x1 : Int32} {x2 : Int32} {x3 : Int32} {x4 : Int32} {x5 : Int64} {x7 : Int32} (hE : sX6_takeBack_173 F k_15 k_80 h x0 x1 x2 x3 x4 x5 x7 = some o) : Le h o := by
  obtain ⟨v_1, ev_1, hE⟩ := nm_e2 hE
  exact mk_80 _ _ _ _ _ _ _ _ hE
set_option maxRecDepth 20000 in
theorem moX6_takeBack_142 {o : Hp} {k_15 : Hp → Nat → Int32 → Int32 → Int32 → Int32 → Option (Hp)} {k_80 : Hp → Nat → Int32 → Int32 → Int32 → Int32 → Int64 → Int32 → Option (Hp)} {F : Nat} (mk_15 : ∀ (h : Hp) (x0 : Nat) (x1 : Int32) (x2 : Int32) (x3 : Int32) (x4 : Int32), k_15 h x0 x1 x2 x3 x4 = some o → Le h o) (mk_80 : ∀ (h : Hp) (x0 : Nat) (x1 : Int32) (x2 : Int32) (x3 : Int32) (x4 : Int32) (x5 : Int64) (x7 : Int32), k_80 h x0 x1 x2 x3 x4 x5 x7 = some o → Le h o) {h : Hp} {x0 : Nat} {x1 : Int32} {x2 : Int32} {x3 : Int32} {x4 : Int32} {x5 : Int64} {x7 : Int32} {t0 : Int32} {t1 : Int32} (hE : sX6_takeBack_142 F k_15 k_80 h x0 x1 x2 x3 x4 x5 x7 t0 t1 = some o) : Le h o := by
  obtain ⟨v_1, ev_1, hE⟩ := nm_e2 hE
  obtain ⟨r_2, er_2, hE⟩ := cl_e hE
  obtain ⟨o_3, eo_3, hE⟩ := cl_e hE
  refine (moX6_lay eo_3).tr ?_
  obtain ⟨o_4, eo_4, hE⟩ := cl_e hE
  refine (moX6_isBefore eo_4).tr ?_
  rcases br_e hE with ⟨_, hE⟩ | ⟨_, hE⟩
  · exact moX6_takeBack_173 mk_15 mk_80 hE
  · obtain ⟨o_6, eo_6, hE⟩ := cl_e hE
    refine (moX6_keep eo_6).tr ?_
    exact moX6_takeBack_173 mk_15 mk_80 hE
set_option maxRecDepth 20000 in
theorem moX6_takeBack_80 {o : Hp} {k_15 : Hp → Nat → Int32 → Int32 → Int32 → Int32 → Option (Hp)} {F : Nat} (mk_15 : ∀ (h : Hp) (x0 : Nat) (x1 : Int32) (x2 : Int32) (x3 : Int32) (x4 : Int32), k_15 h x0 x1 x2 x3 x4 = some o → Le h o) : ∀ (f : Nat) {h : Hp} {x0 : Nat} {x1 : Int32} {x2 : Int32} {x3 : Int32} {x4 : Int32} {x5 : Int64} {x7 : Int32}, sX6_takeBack_80 F k_15 f h x0 x1 x2 x3 x4 x5 x7 = some o → Le h o := by
  intro f
  induction f with
  | zero =>
    intro h x0 x1 x2 x3 x4 x5 x7 hE
    rw [sX6_takeBack_80] at hE
    cases hE
  | succ f ih =>
    intro h x0 x1 x2 x3 x4 x5 x7 hE
    rw [sX6_takeBack_80] at hE
    have mk_80 : ∀ (h : Hp) (x0 : Nat) (x1 : Int32) (x2 : Int32) (x3 : Int32) (x4 : Int32) (x5 : Int64) (x7 : Int32), sX6_takeBack_80 F k_15 f h x0 x1 x2 x3 x4 x5 x7 = some o → Le h o := fun h x0 x1 x2 x3 x4 x5 x7 hE => ih hE
    rcases br_e hE with ⟨_, hE⟩ | ⟨_, hE⟩
    · exact moX6_takeBack_179 mk_15 hE
    · rcases br_e hE with ⟨_, hE⟩ | ⟨_, hE⟩
      · exact moX6_takeBack_179 mk_15 hE
      · rcases br_e hE with ⟨_, hE⟩ | ⟨_, hE⟩
        · obtain ⟨o_4, eo_4, hE⟩ := cl_e hE
          refine (moX11_lowest eo_4).tr ?_
          obtain ⟨v_5, ev_5, hE⟩ := nm_e2 hE
          rcases br_e hE with ⟨_, hE⟩ | ⟨_, hE⟩
          · exact moX6_takeBack_142 mk_15 mk_80 hE
          · exact moX6_takeBack_142 mk_15 mk_80 hE
        · exact moX6_takeBack_179 mk_15 hE
set_option maxRecDepth 20000 in
theorem moX6_takeBack_65 {o : Hp} {k_15 : Hp → Nat → Int32 → Int32 → Int32 → Int32 → Option (Hp)} {F : Nat} (mk_15 : ∀ (h : Hp) (x0 : Nat) (x1 : Int32) (x2 : Int32) (x3 : Int32) (x4 : Int32), k_15 h x0 x1 x2 x3 x4 = some o → Le h o) {h : Hp} {x0 : Nat} {x1 : Int32} {x2 : Int32} {x3 : Int32} {x4 : Int32} {t0 : Int32} {t1 : Int32} {t2 : Int32} {t3 : Nat} (hE : sX6_takeBack_65 F k_15 h x0 x1 x2 x3 x4 t0 t1 t2 t3 = some o) : Le h o := by
  obtain ⟨r_1, er_1, hE⟩ := cl_e hE
  obtain ⟨o_2, eo_2, hE⟩ := cl_e hE
  refine (moX3_occupied eo_2).tr ?_
  obtain ⟨o_3, eo_3, hE⟩ := cl_e hE
  refine (moX10_origins eo_3).tr ?_
  exact moX6_takeBack_80 mk_15 _ hE
set_option maxRecDepth 20000 in
theorem moX6_takeBack_48 {o : Hp} {k_15 : Hp → Nat → Int32 → Int32 → Int32 → Int32 → Option (Hp)} {F : Nat} (mk_15 : ∀ (h : Hp) (x0 : Nat) (x1 : Int32) (x2 : Int32) (x3 : Int32) (x4 : Int32), k_15 h x0 x1 x2 x3 x4 = some o → Le h o) {h : Hp} {x0 : Nat} {x1 : Int32} {x2 : Int32} {x3 : Int32} {x4 : Int32} (hE : sX6_takeBack_48 F k_15 h x0 x1 x2 x3 x4 = some o) : Le h o := by
  obtain ⟨r_1, er_1, hE⟩ := cl_e hE
  rcases br_e hE with ⟨_, hE⟩ | ⟨_, hE⟩
  · exact moX6_takeBack_65 mk_15 hE
  · exact moX6_takeBack_65 mk_15 hE
set_option maxRecDepth 20000 in
theorem moX6_takeBack_15 {o : Hp} {F : Nat} : ∀ (f : Nat) {h : Hp} {x0 : Nat} {x1 : Int32} {x2 : Int32} {x3 : Int32} {x4 : Int32}, sX6_takeBack_15 F f h x0 x1 x2 x3 x4 = some o → Le h o := by
  intro f
  induction f with
  | zero =>
    intro h x0 x1 x2 x3 x4 hE
    rw [sX6_takeBack_15] at hE
    cases hE
  | succ f ih =>
    intro h x0 x1 x2 x3 x4 hE
    rw [sX6_takeBack_15] at hE
    have mk_15 : ∀ (h : Hp) (x0 : Nat) (x1 : Int32) (x2 : Int32) (x3 : Int32) (x4 : Int32), sX6_takeBack_15 F f h x0 x1 x2 x3 x4 = some o → Le h o := fun h x0 x1 x2 x3 x4 hE => ih hE
    obtain ⟨r_1, er_1, hE⟩ := cl_e hE
    rcases br_e hE with ⟨_, hE⟩ | ⟨_, hE⟩
    · exact le_some1 hE
    · rcases br_e hE with ⟨_, hE⟩ | ⟨_, hE⟩
      · exact moX6_takeBack_48 mk_15 hE
      · obtain ⟨r_4, er_4, hE⟩ := cl_e hE
        rcases br_e hE with ⟨_, hE⟩ | ⟨_, hE⟩
        · exact moX6_takeBack_179 mk_15 hE
        · exact moX6_takeBack_48 mk_15 hE
set_option maxRecDepth 20000 in
theorem moX6_takeBack {o : Hp} {F : Nat} {h : Hp} {x0 : Nat} {x1 : Int32} {x2 : Int32} (hE : sX6_takeBack F h x0 x1 x2 = some o) : Le h o := by
  obtain ⟨r_1, er_1, hE⟩ := cl_e hE
  obtain ⟨v_2, ev_2, hE⟩ := nm_e2 hE
  exact moX6_takeBack_15 _ hE
set_option maxRecDepth 20000 in
theorem bX6_takeBack_179 {p : Program} {l : Launch} {e : Env} {s : State} {m : MethodId} {args : Array Value} {below : List Frame} {meth : Method} {c : Code} {X : Ec} {h0 : Hp} {o : Hp} {k_15 : Hp → Nat → Int32 → Int32 → Int32 → Int32 → Option (Hp)} {F : Nat} (C : Cx X p s m args meth c RX6 cX6_takeBack 10 none "takeBack") (hk_15 : ∀ (h : Hp) (x0 : Nat) (x1 : Int32) (x2 : Int32) (x3 : Int32) (x4 : Int32) (H : Heap) (locs : List Loc), hK h x0 = 6 → Km h0 h → Wx X h H → va_S (aA (eB X)) s.heap H locs → ∀ (ls : Array Slot), lv_has ls 10 [(0, .ref x0), (1, .int x1), (2, .int x2), (3, .int x3), (4, .int x4)] → k_15 h x0 x1 x2 x3 x4 = some o → W p l e (rm 5 161) s m args below meth c H locs 0 0 (MQ below (QV X h0 o) args s 0 0 (aA (eB X))) (F0 m 15 ls [])) {h : Hp} {x0 : Nat} {x1 : Int32} {x2 : Int32} {x3 : Int32} {x4 : Int32} {H : Heap} {locs : List Loc} (k_x0 : hK h x0 = 6) (hkm : Km h0 h) (hW : Wx X h H) (hZ : va_S (aA (eB X)) s.heap H locs) (ls : Array Slot) (hl : lv_has ls 10 [(0, .ref x0), (1, .int x1), (2, .int x2), (3, .int x3), (4, .int x4)]) (hE : sX6_takeBack_179 F k_15 h x0 x1 x2 x3 x4 = some o) : W p l e (rm 5 161) s m args below meth c H locs 0 0 (MQ below (QV X h0 o) args s 0 0 (aA (eB X))) (F0 m 179 ls []) := by
  obtain ⟨v_1, ev_1, hE⟩ := nm_e2 hE
  refine lv_iinc (v := v_1) (lv' := [(4, .int v_1), (0, .ref x0), (1, .int x1), (2, .int x2), (3, .int x3)]) C.1 C.2.1 dX6_takeBack_179 hl (k := 4) rfl (by rw [ev_1]; rfl) (by decide) rfl (fun ls hl => ?_)
  refine lv_goto (tgt := 15) C.1 C.2.1 dX6_takeBack_182 (by decide) ?_
  exact hk_15 _ _ _ _ _ _ _ _ k_x0 hkm hW hZ _ (lv_sub hl [1, 2, 3, 4, 0] rfl) hE
set_option maxRecDepth 20000 in
theorem bX6_takeBack_173 {p : Program} {l : Launch} {e : Env} {s : State} {m : MethodId} {args : Array Value} {below : List Frame} {meth : Method} {c : Code} {X : Ec} {h0 : Hp} {o : Hp} {k_15 : Hp → Nat → Int32 → Int32 → Int32 → Int32 → Option (Hp)} {k_80 : Hp → Nat → Int32 → Int32 → Int32 → Int32 → Int64 → Int32 → Option (Hp)} {F : Nat} (C : Cx X p s m args meth c RX6 cX6_takeBack 10 none "takeBack") (hk_15 : ∀ (h : Hp) (x0 : Nat) (x1 : Int32) (x2 : Int32) (x3 : Int32) (x4 : Int32) (H : Heap) (locs : List Loc), hK h x0 = 6 → Km h0 h → Wx X h H → va_S (aA (eB X)) s.heap H locs → ∀ (ls : Array Slot), lv_has ls 10 [(0, .ref x0), (1, .int x1), (2, .int x2), (3, .int x3), (4, .int x4)] → k_15 h x0 x1 x2 x3 x4 = some o → W p l e (rm 5 161) s m args below meth c H locs 0 0 (MQ below (QV X h0 o) args s 0 0 (aA (eB X))) (F0 m 15 ls [])) (hk_80 : ∀ (h : Hp) (x0 : Nat) (x1 : Int32) (x2 : Int32) (x3 : Int32) (x4 : Int32) (x5 : Int64) (x7 : Int32) (H : Heap) (locs : List Loc), hK h x0 = 6 → Km h0 h → Wx X h H → va_S (aA (eB X)) s.heap H locs → ∀ (ls : Array Slot), lv_has ls 10 [(0, .ref x0), (1, .int x1), (2, .int x2), (3, .int x3), (4, .int x4), (5, .long x5), (7, .int x7)] → k_80 h x0 x1 x2 x3 x4 x5 x7 = some o → W p l e (rm 5 161) s m args below meth c H locs 0 0 (MQ below (QV X h0 o) args s 0 0 (aA (eB X))) (F0 m 80 ls [])) {h : Hp} {x0 : Nat} {x1 : Int32} {x2 : Int32} {x3 : Int32} {x4 : Int32} {x5 : Int64} {x7 : Int32} {H : Heap} {locs : List Loc} (k_x0 : hK h x0 = 6) (hkm : Km h0 h) (hW : Wx X h H) (hZ : va_S (aA (eB X)) s.heap H locs) (ls : Array Slot) (hl : lv_has ls 10 [(0, .ref x0), (1, .int x1), (2, .int x2), (3, .int x3), (4, .int x4), (5, .long x5), (7, .int x7)]) (hE : sX6_takeBack_173 F k_15 k_80 h x0 x1 x2 x3 x4 x5 x7 = some o) : W p l e (rm 5 161) s m args below meth c H locs 0 0 (MQ below (QV X h0 o) args s 0 0 (aA (eB X))) (F0 m 173 ls []) := by
  obtain ⟨v_1, ev_1, hE⟩ := nm_e2 hE
  refine lv_iinc (v := v_1) (lv' := [(7, .int v_1), (0, .ref x0), (1, .int x1), (2, .int x2), (3, .int x3), (4, .int x4), (5, .long x5)]) C.1 C.2.1 dX6_takeBack_173 hl (k := 6) rfl (by rw [ev_1]; rfl) (by decide) rfl (fun ls hl => ?_)
  refine lv_goto (tgt := 80) C.1 C.2.1 dX6_takeBack_176 (by decide) ?_
  exact hk_80 _ _ _ _ _ _ _ _ _ _ k_x0 hkm hW hZ _ (lv_sub hl [1, 2, 3, 4, 5, 6, 0] rfl) hE
set_option maxRecDepth 20000 in
theorem bX6_takeBack_142 {p : Program} {l : Launch} {e : Env} {s : State} {m : MethodId} {args : Array Value} {below : List Frame} {meth : Method} {c : Code} {X : Ec} {h0 : Hp} {o : Hp} {k_15 : Hp → Nat → Int32 → Int32 → Int32 → Int32 → Option (Hp)} {k_80 : Hp → Nat → Int32 → Int32 → Int32 → Int32 → Int64 → Int32 → Option (Hp)} {F : Nat} (C : Cx X p s m args meth c RX6 cX6_takeBack 10 none "takeBack") (hk_15 : ∀ (h : Hp) (x0 : Nat) (x1 : Int32) (x2 : Int32) (x3 : Int32) (x4 : Int32) (H : Heap) (locs : List Loc), hK h x0 = 6 → Km h0 h → Wx X h H → va_S (aA (eB X)) s.heap H locs → ∀ (ls : Array Slot), lv_has ls 10 [(0, .ref x0), (1, .int x1), (2, .int x2), (3, .int x3), (4, .int x4)] → k_15 h x0 x1 x2 x3 x4 = some o → W p l e (rm 5 161) s m args below meth c H locs 0 0 (MQ below (QV X h0 o) args s 0 0 (aA (eB X))) (F0 m 15 ls [])) (hk_80 : ∀ (h : Hp) (x0 : Nat) (x1 : Int32) (x2 : Int32) (x3 : Int32) (x4 : Int32) (x5 : Int64) (x7 : Int32) (H : Heap) (locs : List Loc), hK h x0 = 6 → Km h0 h → Wx X h H → va_S (aA (eB X)) s.heap H locs → ∀ (ls : Array Slot), lv_has ls 10 [(0, .ref x0), (1, .int x1), (2, .int x2), (3, .int x3), (4, .int x4), (5, .long x5), (7, .int x7)] → k_80 h x0 x1 x2 x3 x4 x5 x7 = some o → W p l e (rm 5 161) s m args below meth c H locs 0 0 (MQ below (QV X h0 o) args s 0 0 (aA (eB X))) (F0 m 80 ls [])) {h : Hp} {x0 : Nat} {x1 : Int32} {x2 : Int32} {x3 : Int32} {x4 : Int32} {x5 : Int64} {x7 : Int32} {t0 : Int32} {t1 : Int32} {H : Heap} {locs : List Loc} (k_x0 : hK h x0 = 6) (hkm : Km h0 h) (hW : Wx X h H) (hZ : va_S (aA (eB X)) s.heap H locs) (ls : Array Slot) (hl : lv_has ls 10 [(0, .ref x0), (1, .int x1), (2, .int x2), (3, .int x3), (4, .int x4), (5, .long x5), (7, .int x7)]) (hE : sX6_takeBack_142 F k_15 k_80 h x0 x1 x2 x3 x4 x5 x7 t0 t1 = some o) : W p l e (rm 5 161) s m args below meth c H locs 0 0 (MQ below (QV X h0 o) args s 0 0 (aA (eB X))) (F0 m 142 ls [.int t0, .int t1]) := by
  refine lv_bipush (v := (16 : Int32)) C.1 C.2.1 dX6_takeBack_142 (by decide) ?_
  refine lv_ishl C.1 C.2.1 dX6_takeBack_144 ?_
  refine lv_ior C.1 C.2.1 dX6_takeBack_145 ?_
  obtain ⟨v_1, ev_1, hE⟩ := nm_e2 hE
  refine x_nmI ev_1 ?_
  refine lv_istore (lv' := [(9, .int v_1), (0, .ref x0), (1, .int x1), (2, .int x2), (3, .int x3), (4, .int x4), (5, .long x5), (7, .int x7)]) C.1 C.2.1 dX6_takeBack_146 hl (by decide) rfl (fun ls hl => ?_)
  refine lv_aload_n C.1 C.2.1 dX6_takeBack_148 rfl (lv_at hl 1 rfl) ?_
  refine lv_aload_n C.1 C.2.1 dX6_takeBack_149 rfl (lv_at hl 1 rfl) ?_
  obtain ⟨r_2, er_2, hE⟩ := cl_e hE
  refine gf_X6_18 C hW k_x0 er_2 dX6_takeBack_150 (fun k_r_2 => ?_)
  refine lv_iload C.1 C.2.1 dX6_takeBack_153 (lv_at hl 0 rfl) ?_
  obtain ⟨o_3, eo_3, hE⟩ := cl_e hE
  refine x_kV (o := o_3) (z_runV (As := [.ref r_2, .int v_1]) (rest := []) C (ct_X6_lay l X F k_x0 k_r_2 eo_3) cw_X6_106 hW hZ k_x0 (by decide) rfl rfl rfl hl.1 (Nat.le_of_ble_eq_true rfl) rfl dX6_takeBack_155 ⟨Nat.le_of_ble_eq_true rfl, Nat.le_of_ble_eq_true rfl⟩ ⟨Nat.le_refl _, Nat.le_refl _⟩) hZ (fun _ _ hW km hZ => ?_)
  replace hkm := hkm.tr km
  replace k_x0 := km.at k_x0 (by decide)
  refine lv_aload_n C.1 C.2.1 dX6_takeBack_158 rfl (lv_at hl 1 rfl) ?_
  refine lv_iload C.1 C.2.1 dX6_takeBack_159 (lv_at hl 5 rfl) ?_
  obtain ⟨o_4, eo_4, hE⟩ := cl_e hE
  refine x_kI (o := o_4) (z_runV (As := [.int x4]) (rest := []) C (ct_X6_isBefore l X F k_x0 eo_4) cw_X6_110 hW hZ k_x0 (by decide) rfl rfl rfl hl.1 (Nat.le_of_ble_eq_true rfl) rfl dX6_takeBack_161 ⟨Nat.le_of_ble_eq_true rfl, Nat.le_of_ble_eq_true rfl⟩ ⟨Nat.le_refl _, Nat.le_refl _⟩) hZ (fun _ _ hW km hZ => ?_)
  replace hkm := hkm.tr km
  replace k_x0 := km.at k_x0 (by decide)
  refine lv_if_eq (tgt := 173) C.1 C.2.1 dX6_takeBack_164 (by decide) (fun c_5 => ?_) (fun c_5 => ?_)
  · have hE := br_p hE c_5
    exact bX6_takeBack_173 C hk_15 hk_80 k_x0 hkm hW hZ _ (lv_sub hl [1, 2, 3, 4, 5, 6, 7] rfl) hE
  · have hE := br_n hE c_5
    refine lv_aload_n C.1 C.2.1 dX6_takeBack_167 rfl (lv_at hl 1 rfl) ?_
    refine lv_iload C.1 C.2.1 dX6_takeBack_168 (lv_at hl 0 rfl) ?_
    obtain ⟨o_6, eo_6, hE⟩ := cl_e hE
    refine x_kV (o := o_6) (z_runV (As := [.int v_1]) (rest := []) C (ct_X6_keep l X F k_x0 eo_6) cw_X6_113 hW hZ k_x0 (by decide) rfl rfl rfl hl.1 (Nat.le_of_ble_eq_true rfl) rfl dX6_takeBack_170 ⟨Nat.le_of_ble_eq_true rfl, Nat.le_of_ble_eq_true rfl⟩ ⟨Nat.le_refl _, Nat.le_refl _⟩) hZ (fun _ _ hW km hZ => ?_)
    replace hkm := hkm.tr km
    replace k_x0 := km.at k_x0 (by decide)
    exact bX6_takeBack_173 C hk_15 hk_80 k_x0 hkm hW hZ _ (lv_sub hl [1, 2, 3, 4, 5, 6, 7] rfl) hE
set_option maxRecDepth 20000 in
theorem bX6_takeBack_80 {p : Program} {l : Launch} {e : Env} {s : State} {m : MethodId} {args : Array Value} {below : List Frame} {meth : Method} {c : Code} {X : Ec} {h0 : Hp} {o : Hp} {k_15 : Hp → Nat → Int32 → Int32 → Int32 → Int32 → Option (Hp)} {F : Nat} (C : Cx X p s m args meth c RX6 cX6_takeBack 10 none "takeBack") (hk_15 : ∀ (h : Hp) (x0 : Nat) (x1 : Int32) (x2 : Int32) (x3 : Int32) (x4 : Int32) (H : Heap) (locs : List Loc), hK h x0 = 6 → Km h0 h → Wx X h H → va_S (aA (eB X)) s.heap H locs → ∀ (ls : Array Slot), lv_has ls 10 [(0, .ref x0), (1, .int x1), (2, .int x2), (3, .int x3), (4, .int x4)] → k_15 h x0 x1 x2 x3 x4 = some o → W p l e (rm 5 161) s m args below meth c H locs 0 0 (MQ below (QV X h0 o) args s 0 0 (aA (eB X))) (F0 m 15 ls [])) : ∀ (f : Nat) {h : Hp} {x0 : Nat} {x1 : Int32} {x2 : Int32} {x3 : Int32} {x4 : Int32} {x5 : Int64} {x7 : Int32} {H : Heap} {locs : List Loc} (k_x0 : hK h x0 = 6), Km h0 h → Wx X h H → va_S (aA (eB X)) s.heap H locs → ∀ (ls : Array Slot), lv_has ls 10 [(0, .ref x0), (1, .int x1), (2, .int x2), (3, .int x3), (4, .int x4), (5, .long x5), (7, .int x7)] → sX6_takeBack_80 F k_15 f h x0 x1 x2 x3 x4 x5 x7 = some o → W p l e (rm 5 161) s m args below meth c H locs 0 0 (MQ below (QV X h0 o) args s 0 0 (aA (eB X))) (F0 m 80 ls []) := by
  intro f
  induction f with
  | zero =>
    intro h x0 x1 x2 x3 x4 x5 x7 H locs k_x0 hkm hW hZ ls hl hE
    rw [sX6_takeBack_80] at hE
    cases hE
  | succ f ih =>
    intro h x0 x1 x2 x3 x4 x5 x7 H locs k_x0 hkm hW hZ ls hl hE
    rw [sX6_takeBack_80] at hE
    have hk_80 : ∀ (h : Hp) (x0 : Nat) (x1 : Int32) (x2 : Int32) (x3 : Int32) (x4 : Int32) (x5 : Int64) (x7 : Int32) (H : Heap) (locs : List Loc), hK h x0 = 6 → Km h0 h → Wx X h H → va_S (aA (eB X)) s.heap H locs → ∀ (ls : Array Slot), lv_has ls 10 [(0, .ref x0), (1, .int x1), (2, .int x2), (3, .int x3), (4, .int x4), (5, .long x5), (7, .int x7)] → sX6_takeBack_80 F k_15 f h x0 x1 x2 x3 x4 x5 x7 = some o → W p l e (rm 5 161) s m args below meth c H locs 0 0 (MQ below (QV X h0 o) args s 0 0 (aA (eB X))) (F0 m 80 ls []) := fun h x0 x1 x2 x3 x4 x5 x7 H locs k_x0 a b c ls hl hE => ih k_x0 a b c ls hl hE
    refine lv_iload C.1 C.2.1 dX6_takeBack_80 (lv_at hl 6 rfl) ?_
    refine lv_bipush (v := (64 : Int32)) C.1 C.2.1 dX6_takeBack_82 (by decide) ?_
    refine lv_icmp_ge (tgt := 179) C.1 C.2.1 dX6_takeBack_84 (by decide) (fun c_1 => ?_) (fun c_1 => ?_)
    · have hE := br_p hE c_1
      exact bX6_takeBack_179 C hk_15 k_x0 hkm hW hZ _ (lv_sub hl [0, 1, 2, 3, 4] rfl) hE
    · have hE := br_n hE c_1
      refine lv_lload C.1 C.2.1 dX6_takeBack_87 (lv_at hl 5 rfl) ?_
      refine lv_lconst (v := (0 : Int64)) C.1 C.2.1 dX6_takeBack_89 (by decide) ?_
      refine W.lcmp C.1 C.2.1 dX6_takeBack_90 ?_
      refine lv_if_eq (tgt := 179) C.1 C.2.1 dX6_takeBack_91 (by decide) (fun c_2 => ?_) (fun c_2 => ?_)
      · have hE := br_p hE c_2
        exact bX6_takeBack_179 C hk_15 k_x0 hkm hW hZ _ (lv_sub hl [0, 1, 2, 3, 4] rfl) hE
      · have hE := br_n hE c_2
        refine lv_aload_n C.1 C.2.1 dX6_takeBack_94 rfl (lv_at hl 0 rfl) ?_
        refine gf_X6_41 C hW k_x0 dX6_takeBack_95 ?_
        refine lv_if_ne (tgt := 179) C.1 C.2.1 dX6_takeBack_98 (by decide) (fun c_3 => ?_) (fun c_3 => ?_)
        · have hE := br_n hE c_3
          exact bX6_takeBack_179 C hk_15 k_x0 hkm hW hZ _ (lv_sub hl [0, 1, 2, 3, 4] rfl) hE
        · have hE := br_p hE c_3
          refine lv_lload C.1 C.2.1 dX6_takeBack_101 (lv_at hl 5 rfl) ?_
          obtain ⟨o_4, eo_4, hE⟩ := cl_e hE
          refine x_kI (o := o_4) (x_runSN (As := [.long x5]) (rest := []) C (ct_X11_lowest l X eo_4) cn_X6_71 hW hZ rfl hl.1 (Nat.le_of_ble_eq_true rfl) rfl dX6_takeBack_103 ⟨Nat.le_of_ble_eq_true rfl, Nat.le_of_ble_eq_true rfl⟩ ⟨Nat.le_refl _, Nat.le_refl _⟩) hZ (fun _ _ hW km hZ => ?_)
          replace hkm := hkm.tr km
          replace k_x0 := km.at k_x0 (by decide)
          refine lv_istore (lv' := [(8, .int o_4.1), (0, .ref x0), (1, .int x1), (2, .int x2), (3, .int x3), (4, .int x4), (5, .long x5), (7, .int x7)]) C.1 C.2.1 dX6_takeBack_106 hl (by decide) rfl (fun ls hl => ?_)
          refine lv_lload C.1 C.2.1 dX6_takeBack_108 (lv_at hl 6 rfl) ?_
          refine lv_lload C.1 C.2.1 dX6_takeBack_110 (lv_at hl 6 rfl) ?_
          refine lv_lconst (v := (1 : Int64)) C.1 C.2.1 dX6_takeBack_112 (by decide) ?_
          refine lv_lsub C.1 C.2.1 dX6_takeBack_113 ?_
          refine lv_land C.1 C.2.1 dX6_takeBack_114 ?_
          obtain ⟨v_5, ev_5, hE⟩ := nm_e2 hE
          refine x_nmJ ev_5 ?_
          refine lv_lstore (lv' := [(5, .long v_5), (8, .int o_4.1), (0, .ref x0), (1, .int x1), (2, .int x2), (3, .int x3), (4, .int x4), (7, .int x7)]) C.1 C.2.1 dX6_takeBack_115 hl (by decide) rfl (fun ls hl => ?_)
          refine lv_iload C.1 C.2.1 dX6_takeBack_117 (lv_at hl 1 rfl) ?_
          refine lv_iload_n C.1 C.2.1 dX6_takeBack_119 rfl (lv_at hl 3 rfl) ?_
          refine lv_bipush (v := (6 : Int32)) C.1 C.2.1 dX6_takeBack_120 (by decide) ?_
          refine lv_ishl C.1 C.2.1 dX6_takeBack_122 ?_
          refine lv_ior C.1 C.2.1 dX6_takeBack_123 ?_
          refine lv_iload_n C.1 C.2.1 dX6_takeBack_124 rfl (lv_at hl 4 rfl) ?_
          refine lv_bipush (v := (12 : Int32)) C.1 C.2.1 dX6_takeBack_125 (by decide) ?_
          refine lv_ishl C.1 C.2.1 dX6_takeBack_127 ?_
          refine lv_ior C.1 C.2.1 dX6_takeBack_128 ?_
          refine lv_iload C.1 C.2.1 dX6_takeBack_129 (lv_at hl 6 rfl) ?_
          refine lv_iconst (v := (-1 : Int32)) C.1 C.2.1 dX6_takeBack_131 (by decide) ?_
          refine lv_icmp_ne (tgt := 140) C.1 C.2.1 dX6_takeBack_132 (by decide) (fun c_6 => ?_) (fun c_6 => ?_)
          · have hE := br_n hE c_6
            refine lv_iload C.1 C.2.1 dX6_takeBack_140 (lv_at hl 6 rfl) ?_
            exact bX6_takeBack_142 C hk_15 hk_80 k_x0 hkm hW hZ _ (lv_sub hl [2, 3, 4, 5, 6, 0, 7] rfl) hE
          · have hE := br_p hE c_6
            refine lv_bipush (v := (15 : Int32)) C.1 C.2.1 dX6_takeBack_135 (by decide) ?_
            refine lv_goto (tgt := 142) C.1 C.2.1 dX6_takeBack_137 (by decide) ?_
            exact bX6_takeBack_142 C hk_15 hk_80 k_x0 hkm hW hZ _ (lv_sub hl [2, 3, 4, 5, 6, 0, 7] rfl) hE
set_option maxRecDepth 20000 in
theorem bX6_takeBack_65 {p : Program} {l : Launch} {e : Env} {s : State} {m : MethodId} {args : Array Value} {below : List Frame} {meth : Method} {c : Code} {X : Ec} {h0 : Hp} {o : Hp} {k_15 : Hp → Nat → Int32 → Int32 → Int32 → Int32 → Option (Hp)} {F : Nat} (C : Cx X p s m args meth c RX6 cX6_takeBack 10 none "takeBack") (hk_15 : ∀ (h : Hp) (x0 : Nat) (x1 : Int32) (x2 : Int32) (x3 : Int32) (x4 : Int32) (H : Heap) (locs : List Loc), hK h x0 = 6 → Km h0 h → Wx X h H → va_S (aA (eB X)) s.heap H locs → ∀ (ls : Array Slot), lv_has ls 10 [(0, .ref x0), (1, .int x1), (2, .int x2), (3, .int x3), (4, .int x4)] → k_15 h x0 x1 x2 x3 x4 = some o → W p l e (rm 5 161) s m args below meth c H locs 0 0 (MQ below (QV X h0 o) args s 0 0 (aA (eB X))) (F0 m 15 ls [])) {h : Hp} {x0 : Nat} {x1 : Int32} {x2 : Int32} {x3 : Int32} {x4 : Int32} {t0 : Int32} {t1 : Int32} {t2 : Int32} {t3 : Nat} {H : Heap} {locs : List Loc} (k_x0 : hK h x0 = 6) (k_t3 : hK h t3 = 10) (hkm : Km h0 h) (hW : Wx X h H) (hZ : va_S (aA (eB X)) s.heap H locs) (ls : Array Slot) (hl : lv_has ls 10 [(0, .ref x0), (1, .int x1), (2, .int x2), (3, .int x3), (4, .int x4)]) (hE : sX6_takeBack_65 F k_15 h x0 x1 x2 x3 x4 t0 t1 t2 t3 = some o) : W p l e (rm 5 161) s m args below meth c H locs 0 0 (MQ below (QV X h0 o) args s 0 0 (aA (eB X))) (F0 m 65 ls [.int t0, .int t1, .int t2, .ref t3]) := by
  refine lv_aload_n C.1 C.2.1 dX6_takeBack_65 rfl (lv_at hl 0 rfl) ?_
  obtain ⟨r_1, er_1, hE⟩ := cl_e hE
  refine gf_X6_12 C hW k_x0 er_1 dX6_takeBack_66 (fun k_r_1 => ?_)
  obtain ⟨o_2, eo_2, hE⟩ := cl_e hE
  refine x_kJ (o := o_2) (z_runV (As := []) (rest := [.int t0, .int t1, .int t2, .ref t3]) C (ct_X3_occupied l X k_r_1 eo_2) cw_X6_96 hW hZ k_r_1 (by decide) rfl rfl rfl hl.1 (Nat.le_of_ble_eq_true rfl) rfl dX6_takeBack_69 ⟨Nat.le_of_ble_eq_true rfl, Nat.le_of_ble_eq_true rfl⟩ ⟨Nat.le_refl _, Nat.le_refl _⟩) hZ (fun _ _ hW km hZ => ?_)
  replace hkm := hkm.tr km
  replace k_x0 := km.at k_x0 (by decide)
  replace k_t3 := km.at k_t3 (by decide)
  obtain ⟨o_3, eo_3, hE⟩ := cl_e hE
  refine x_kJ (o := o_3) (z_runV (As := [.int t2, .int t1, .int t0, .long o_2.1]) (rest := []) C (ct_X10_origins l X F k_t3 eo_3) cw_X6_100 hW hZ k_t3 (by decide) rfl rfl rfl hl.1 (Nat.le_of_ble_eq_true rfl) rfl dX6_takeBack_72 ⟨Nat.le_of_ble_eq_true rfl, Nat.le_of_ble_eq_true rfl⟩ ⟨Nat.le_refl _, Nat.le_refl _⟩) hZ (fun _ _ hW km hZ => ?_)
  replace hkm := hkm.tr km
  replace k_x0 := km.at k_x0 (by decide)
  refine lv_lstore (lv' := [(5, .long o_3.1), (0, .ref x0), (1, .int x1), (2, .int x2), (3, .int x3), (4, .int x4)]) C.1 C.2.1 dX6_takeBack_75 hl (by decide) rfl (fun ls hl => ?_)
  refine lv_iconst (v := (0 : Int32)) C.1 C.2.1 dX6_takeBack_77 (by decide) ?_
  refine lv_istore (lv' := [(7, .int (0 : Int32)), (5, .long o_3.1), (0, .ref x0), (1, .int x1), (2, .int x2), (3, .int x3), (4, .int x4)]) C.1 C.2.1 dX6_takeBack_78 hl (by decide) rfl (fun ls hl => ?_)
  exact bX6_takeBack_80 C hk_15 F k_x0 hkm hW hZ _ (lv_sub hl [2, 3, 4, 5, 6, 1, 0] rfl) hE
set_option maxRecDepth 20000 in
theorem bX6_takeBack_48 {p : Program} {l : Launch} {e : Env} {s : State} {m : MethodId} {args : Array Value} {below : List Frame} {meth : Method} {c : Code} {X : Ec} {h0 : Hp} {o : Hp} {k_15 : Hp → Nat → Int32 → Int32 → Int32 → Int32 → Option (Hp)} {F : Nat} (C : Cx X p s m args meth c RX6 cX6_takeBack 10 none "takeBack") (hk_15 : ∀ (h : Hp) (x0 : Nat) (x1 : Int32) (x2 : Int32) (x3 : Int32) (x4 : Int32) (H : Heap) (locs : List Loc), hK h x0 = 6 → Km h0 h → Wx X h H → va_S (aA (eB X)) s.heap H locs → ∀ (ls : Array Slot), lv_has ls 10 [(0, .ref x0), (1, .int x1), (2, .int x2), (3, .int x3), (4, .int x4)] → k_15 h x0 x1 x2 x3 x4 = some o → W p l e (rm 5 161) s m args below meth c H locs 0 0 (MQ below (QV X h0 o) args s 0 0 (aA (eB X))) (F0 m 15 ls [])) {h : Hp} {x0 : Nat} {x1 : Int32} {x2 : Int32} {x3 : Int32} {x4 : Int32} {H : Heap} {locs : List Loc} (k_x0 : hK h x0 = 6) (hkm : Km h0 h) (hW : Wx X h H) (hZ : va_S (aA (eB X)) s.heap H locs) (ls : Array Slot) (hl : lv_has ls 10 [(0, .ref x0), (1, .int x1), (2, .int x2), (3, .int x3), (4, .int x4)]) (hE : sX6_takeBack_48 F k_15 h x0 x1 x2 x3 x4 = some o) : W p l e (rm 5 161) s m args below meth c H locs 0 0 (MQ below (QV X h0 o) args s 0 0 (aA (eB X))) (F0 m 48 ls []) := by
  refine lv_aload_n C.1 C.2.1 dX6_takeBack_48 rfl (lv_at hl 0 rfl) ?_
  obtain ⟨r_1, er_1, hE⟩ := cl_e hE
  refine gf_X6_29 C hW k_x0 er_1 dX6_takeBack_49 (fun k_r_1 => ?_)
  refine lv_iload_n C.1 C.2.1 dX6_takeBack_52 rfl (lv_at hl 3 rfl) ?_
  refine lv_iload_n C.1 C.2.1 dX6_takeBack_53 rfl (lv_at hl 1 rfl) ?_
  refine lv_iload C.1 C.2.1 dX6_takeBack_54 (lv_at hl 4 rfl) ?_
  refine lv_iconst (v := (-1 : Int32)) C.1 C.2.1 dX6_takeBack_56 (by decide) ?_
  refine lv_icmp_eq (tgt := 64) C.1 C.2.1 dX6_takeBack_57 (by decide) (fun c_2 => ?_) (fun c_2 => ?_)
  · have hE := br_p hE c_2
    refine lv_iconst (v := (0 : Int32)) C.1 C.2.1 dX6_takeBack_64 (by decide) ?_
    exact bX6_takeBack_65 C hk_15 k_x0 k_r_1 hkm hW hZ _ (lv_sub hl [0, 1, 2, 3, 4] rfl) hE
  · have hE := br_n hE c_2
    refine lv_iconst (v := (1 : Int32)) C.1 C.2.1 dX6_takeBack_60 (by decide) ?_
    refine lv_goto (tgt := 65) C.1 C.2.1 dX6_takeBack_61 (by decide) ?_
    exact bX6_takeBack_65 C hk_15 k_x0 k_r_1 hkm hW hZ _ (lv_sub hl [0, 1, 2, 3, 4] rfl) hE
set_option maxRecDepth 20000 in
theorem bX6_takeBack_15 {p : Program} {l : Launch} {e : Env} {s : State} {m : MethodId} {args : Array Value} {below : List Frame} {meth : Method} {c : Code} {X : Ec} {h0 : Hp} {o : Hp} {F : Nat} (C : Cx X p s m args meth c RX6 cX6_takeBack 10 none "takeBack") : ∀ (f : Nat) {h : Hp} {x0 : Nat} {x1 : Int32} {x2 : Int32} {x3 : Int32} {x4 : Int32} {H : Heap} {locs : List Loc} (k_x0 : hK h x0 = 6), Km h0 h → Wx X h H → va_S (aA (eB X)) s.heap H locs → ∀ (ls : Array Slot), lv_has ls 10 [(0, .ref x0), (1, .int x1), (2, .int x2), (3, .int x3), (4, .int x4)] → sX6_takeBack_15 F f h x0 x1 x2 x3 x4 = some o → W p l e (rm 5 161) s m args below meth c H locs 0 0 (MQ below (QV X h0 o) args s 0 0 (aA (eB X))) (F0 m 15 ls []) := by
  intro f
  induction f with
  | zero =>
    intro h x0 x1 x2 x3 x4 H locs k_x0 hkm hW hZ ls hl hE
    rw [sX6_takeBack_15] at hE
    cases hE
  | succ f ih =>
    intro h x0 x1 x2 x3 x4 H locs k_x0 hkm hW hZ ls hl hE
    rw [sX6_takeBack_15] at hE
    have hk_15 : ∀ (h : Hp) (x0 : Nat) (x1 : Int32) (x2 : Int32) (x3 : Int32) (x4 : Int32) (H : Heap) (locs : List Loc), hK h x0 = 6 → Km h0 h → Wx X h H → va_S (aA (eB X)) s.heap H locs → ∀ (ls : Array Slot), lv_has ls 10 [(0, .ref x0), (1, .int x1), (2, .int x2), (3, .int x3), (4, .int x4)] → sX6_takeBack_15 F f h x0 x1 x2 x3 x4 = some o → W p l e (rm 5 161) s m args below meth c H locs 0 0 (MQ below (QV X h0 o) args s 0 0 (aA (eB X))) (F0 m 15 ls []) := fun h x0 x1 x2 x3 x4 H locs k_x0 a b c ls hl hE => ih k_x0 a b c ls hl hE
    refine lv_iload C.1 C.2.1 dX6_takeBack_15 (lv_at hl 4 rfl) ?_
    refine lv_aload_n C.1 C.2.1 dX6_takeBack_17 rfl (lv_at hl 0 rfl) ?_
    obtain ⟨r_1, er_1, hE⟩ := cl_e hE
    refine gf_X6_25 C hW k_x0 er_1 dX6_takeBack_18 (fun k_r_1 => ?_)
    refine gf_X6_83 C hW k_r_1 dX6_takeBack_21 ?_
    refine lv_icmp_ge (tgt := 185) C.1 C.2.1 dX6_takeBack_24 (by decide) (fun c_2 => ?_) (fun c_2 => ?_)
    · have hE := br_p hE c_2
      exact x_vret C rfl hW hZ hkm hE dX6_takeBack_185
    · have hE := br_n hE c_2
      refine lv_iload C.1 C.2.1 dX6_takeBack_27 (lv_at hl 4 rfl) ?_
      refine lv_iconst (v := (-1 : Int32)) C.1 C.2.1 dX6_takeBack_29 (by decide) ?_
      refine lv_icmp_eq (tgt := 48) C.1 C.2.1 dX6_takeBack_30 (by decide) (fun c_3 => ?_) (fun c_3 => ?_)
      · have hE := br_p hE c_3
        exact bX6_takeBack_48 C hk_15 k_x0 hkm hW hZ _ (lv_sub hl [0, 1, 2, 3, 4] rfl) hE
      · have hE := br_n hE c_3
        refine lv_iload C.1 C.2.1 dX6_takeBack_33 (lv_at hl 4 rfl) ?_
        refine lv_aload_n C.1 C.2.1 dX6_takeBack_35 rfl (lv_at hl 0 rfl) ?_
        obtain ⟨r_4, er_4, hE⟩ := cl_e hE
        refine gf_X6_25 C hW k_x0 er_4 dX6_takeBack_36 (fun k_r_4 => ?_)
        refine gf_X6_93 C hW k_r_4 dX6_takeBack_39 ?_
        refine lv_icmp_ne (tgt := 48) C.1 C.2.1 dX6_takeBack_42 (by decide) (fun c_5 => ?_) (fun c_5 => ?_)
        · have hE := br_n hE c_5
          exact bX6_takeBack_48 C hk_15 k_x0 hkm hW hZ _ (lv_sub hl [0, 1, 2, 3, 4] rfl) hE
        · have hE := br_p hE c_5
          refine lv_goto (tgt := 179) C.1 C.2.1 dX6_takeBack_45 (by decide) ?_
          exact bX6_takeBack_179 C hk_15 k_x0 hkm hW hZ _ (lv_sub hl [0, 1, 2, 3, 4] rfl) hE
set_option maxRecDepth 20000 in
theorem ct_X6_takeBack (l : Launch) (X : Ec) (F : Nat) {h : Hp} {x0 : Nat} {x1 : Int32} {x2 : Int32} {o : Hp} (k_x0 : hK h x0 = 6) (hE : sX6_takeBack F h x0 x1 x2 = some o) : MetV l yX6_takeBack cX6_takeBack 10 none 5 161 X [.ref x0, .int x1, .int x2] h o := by
  refine x_met (by decide) (Nat.le_of_ble_eq_true rfl) ?_
  intro p e s m below meth c ls C hl hW hZ
  have hl : lv_has ls 10 [(0, .ref x0), (1, .int x1), (2, .int x2)] := hl
  have hkm : Km h h := Km.rf h
  refine lv_iconst (v := (2 : Int32)) C.1 C.2.1 dX6_takeBack_0 (by decide) ?_
  refine lv_iload_n C.1 C.2.1 dX6_takeBack_1 rfl (lv_at hl 2 rfl) ?_
  refine lv_imul C.1 C.2.1 dX6_takeBack_2 ?_
  refine lv_aload_n C.1 C.2.1 dX6_takeBack_3 rfl (lv_at hl 0 rfl) ?_
  obtain ⟨r_1, er_1, hE⟩ := cl_e hE
  refine gf_X6_12 C hW k_x0 er_1 dX6_takeBack_4 (fun k_r_1 => ?_)
  refine gf_X6_52 C hW k_r_1 dX6_takeBack_7 ?_
  refine lv_iadd C.1 C.2.1 dX6_takeBack_10 ?_
  obtain ⟨v_2, ev_2, hE⟩ := nm_e2 hE
  refine x_nmI ev_2 ?_
  refine lv_istore_n (lv' := [(3, .int v_2), (0, .ref x0), (1, .int x1), (2, .int x2)]) C.1 C.2.1 dX6_takeBack_11 rfl hl (by decide) rfl (fun ls hl => ?_)
  refine lv_iconst (v := (-1 : Int32)) C.1 C.2.1 dX6_takeBack_12 (by decide) ?_
  refine lv_istore (lv' := [(4, .int (-1 : Int32)), (3, .int v_2), (0, .ref x0), (1, .int x1), (2, .int x2)]) C.1 C.2.1 dX6_takeBack_13 hl (by decide) rfl (fun ls hl => ?_)
  exact bX6_takeBack_15 C F k_x0 hkm hW hZ _ (lv_sub hl [2, 3, 4, 1, 0] rfl) hE
