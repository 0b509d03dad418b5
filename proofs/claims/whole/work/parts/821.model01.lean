theorem dX15_isNumber_0 : decode cX15_isNumber 0 = .ok (.aload_n 0, 1) := by decide +kernel
theorem dX15_isNumber_1 : decode cX15_isNumber 1 = .ok (.getfield 34, 3) := by decide +kernel
theorem dX15_isNumber_4 : decode cX15_isNumber 4 = .ok (.iconst 2, 1) := by decide +kernel
theorem dX15_isNumber_5 : decode cX15_isNumber 5 = .ok (.if_icmp .ne 23, 3) := by decide +kernel
theorem dX15_isNumber_8 : decode cX15_isNumber 8 = .ok (.aload_n 0, 1) := by decide +kernel
theorem dX15_isNumber_9 : decode cX15_isNumber 9 = .ok (.getfield 44, 3) := by decide +kernel
theorem dX15_isNumber_12 : decode cX15_isNumber 12 = .ok (.iload_n 1, 1) := by decide +kernel
theorem dX15_isNumber_13 : decode cX15_isNumber 13 = .ok (.if_icmp .lt 15, 3) := by decide +kernel
theorem dX15_isNumber_16 : decode cX15_isNumber 16 = .ok (.aload_n 0, 1) := by decide +kernel
theorem dX15_isNumber_17 : decode cX15_isNumber 17 = .ok (.getfield 44, 3) := by decide +kernel
theorem dX15_isNumber_20 : decode cX15_isNumber 20 = .ok (.iload_n 2, 1) := by decide +kernel
theorem dX15_isNumber_21 : decode cX15_isNumber 21 = .ok (.if_icmp .gt 7, 3) := by decide +kernel
theorem dX15_isNumber_24 : decode cX15_isNumber 24 = .ok (.iconst 1, 1) := by decide +kernel
theorem dX15_isNumber_25 : decode cX15_isNumber 25 = .ok (.goto 4, 3) := by decide +kernel
theorem dX15_isNumber_28 : decode cX15_isNumber 28 = .ok (.iconst 0, 1) := by decide +kernel
theorem dX15_isNumber_29 : decode cX15_isNumber 29 = .ok (.ireturn, 1) := by decide +kernel
set_option maxRecDepth 20000 in
theorem moX15_isNumber_29 {o : Int32 × Hp} {h : Hp} {t0 : Int32} (hE : sX15_isNumber_29 h  t0 = some o) : Le h o.2 := by
  obtain ⟨g_1, hE⟩ := gd_e hE
  exact le_some2 hE
set_option maxRecDepth 20000 in
theorem moX15_isNumber_28 {o : Int32 × Hp} {h : Hp} (hE : sX15_isNumber_28 h  = some o) : Le h o.2 := by
  exact moX15_isNumber_29 hE
set_option maxRecDepth 20000 in
theorem moX15_isNumber {o : Int32 × Hp} {h : Hp} {x0 : Nat} {x1 : Int32} {x2 : Int32} (hE : sX15_isNumber h x0 x1 x2 = some o) : Le h o.2 := by
  rcases br_e hE with ⟨_, hE⟩ | ⟨_, hE⟩
  · rcases br_e hE with ⟨_, hE⟩ | ⟨_, hE⟩
    · exact moX15_isNumber_28 hE
    · rcases br_e hE with ⟨_, hE⟩ | ⟨_, hE⟩
      · exact moX15_isNumber_28 hE
      · exact moX15_isNumber_29 hE
  · exact moX15_isNumber_28 hE
set_option maxRecDepth 20000 in
theorem bX15_isNumber_29 {p : Program} {l : Launch} {e : Env} {s : State} {m : MethodId} {args : Array Value} {below : List Frame} {meth : Method} {c : Code} {X : Ec} {h0 : Hp} {o : Int32 × Hp} (C : Cx X p s m args meth c RX15 cX15_isNumber 3 (some .boolean) "isNumber") {h : Hp} {t0 : Int32} {H : Heap} {locs : List Loc} (hkm : Km h0 h) (hW : Wx X h H) (hZ : va_S (aA (eB X)) s.heap H locs) (ls : Array Slot) (hl : lv_has ls 3 []) (hE : sX15_isNumber_29 h  t0 = some o) : W p l e (rm 0 0) s m args below meth c H locs 0 0 (MQ below (QI X h0 o.1 o.2) args s 0 0 (aA (eB X))) (F0 m 29 ls [.int t0]) := by
  obtain ⟨g_1, hE⟩ := gd_e hE
  exact x_iret C rfl (narB g_1) hW hZ hkm hE dX15_isNumber_29
set_option maxRecDepth 20000 in
theorem bX15_isNumber_28 {p : Program} {l : Launch} {e : Env} {s : State} {m : MethodId} {args : Array Value} {below : List Frame} {meth : Method} {c : Code} {X : Ec} {h0 : Hp} {o : Int32 × Hp} (C : Cx X p s m args meth c RX15 cX15_isNumber 3 (some .boolean) "isNumber") {h : Hp} {H : Heap} {locs : List Loc} (hkm : Km h0 h) (hW : Wx X h H) (hZ : va_S (aA (eB X)) s.heap H locs) (ls : Array Slot) (hl : lv_has ls 3 []) (hE : sX15_isNumber_28 h  = some o) : W p l e (rm 0 0) s m args below meth c H locs 0 0 (MQ below (QI X h0 o.1 o.2) args s 0 0 (aA (eB X))) (F0 m 28 ls []) := by
  refine lv_iconst (v := (0 : Int32)) C.1 C.2.1 dX15_isNumber_28 (by decide) ?_
  exact bX15_isNumber_29 C hkm hW hZ _ (lv_sub hl [] rfl) hE
set_option maxRecDepth 20000 in
theorem ct_X15_isNumber (l : Launch) (X : Ec) {h : Hp} {x0 : Nat} {x1 : Int32} {x2 : Int32} {o : Int32 × Hp} (k_x0 : hK h x0 = 15) (hE : sX15_isNumber h x0 x1 x2 = some o) : MetI l yX15_isNumber cX15_isNumber 3 (some .boolean) 0 0 X [.ref x0, .int x1, .int x2] h o := by
  refine x_met (by decide) (Nat.le_of_ble_eq_true rfl) ?_
  intro p e s m below meth c ls C hl hW hZ
  have hl : lv_has ls 3 [(0, .ref x0), (1, .int x1), (2, .int x2)] := hl
  have hkm : Km h h := Km.rf h
  refine lv_aload_n C.1 C.2.1 dX15_isNumber_0 rfl (lv_at hl 0 rfl) ?_
  refine gf_X15_34 C hW k_x0 dX15_isNumber_1 ?_
  refine lv_iconst (v := (2 : Int32)) C.1 C.2.1 dX15_isNumber_4 (by decide) ?_
  refine lv_icmp_ne (tgt := 28) C.1 C.2.1 dX15_isNumber_5 (by decide) (fun c_1 => ?_) (fun c_1 => ?_)
  · have hE := br_n hE c_1
    exact bX15_isNumber_28 C hkm hW hZ _ (lv_sub hl [] rfl) hE
  · have hE := br_p hE c_1
    refine lv_aload_n C.1 C.2.1 dX15_isNumber_8 rfl (lv_at hl 0 rfl) ?_
    refine gf_X15_44 C hW k_x0 dX15_isNumber_9 ?_
    refine lv_iload_n C.1 C.2.1 dX15_isNumber_12 rfl (lv_at hl 1 rfl) ?_
    refine lv_icmp_lt (tgt := 28) C.1 C.2.1 dX15_isNumber_13 (by decide) (fun c_2 => ?_) (fun c_2 => ?_)
    · have hE := br_p hE c_2
      exact bX15_isNumber_28 C hkm hW hZ _ (lv_sub hl [] rfl) hE
    · have hE := br_n hE c_2
      refine lv_aload_n C.1 C.2.1 dX15_isNumber_16 rfl (lv_at hl 0 rfl) ?_
      refine gf_X15_44 C hW k_x0 dX15_isNumber_17 ?_
      refine lv_iload_n C.1 C.2.1 dX15_isNumber_20 rfl (lv_at hl 2 rfl) ?_
      refine lv_icmp_gt (tgt := 28) C.1 C.2.1 dX15_isNumber_21 (by decide) (fun c_3 => ?_) (fun c_3 => ?_)
      · have hE := br_p hE c_3
        exact bX15_isNumber_28 C hkm hW hZ _ (lv_sub hl [] rfl) hE
      · have hE := br_n hE c_3
        refine lv_iconst (v := (1 : Int32)) C.1 C.2.1 dX15_isNumber_24 (by decide) ?_
        refine lv_goto (tgt := 29) C.1 C.2.1 dX15_isNumber_25 (by decide) ?_
        exact bX15_isNumber_29 C hkm hW hZ _ (lv_sub hl [] rfl) hE
theorem dX15_isSign_0 : decode cX15_isSign 0 = .ok (.aload_n 0, 1) := by decide +kernel
theorem dX15_isSign_1 : decode cX15_isSign 1 = .ok (.getfield 34, 3) := by decide +kernel
theorem dX15_isSign_4 : decode cX15_isSign 4 = .ok (.iconst 3, 1) := by decide +kernel
theorem dX15_isSign_5 : decode cX15_isSign 5 = .ok (.if_icmp .ne 17, 3) := by decide +kernel
theorem dX15_isSign_8 : decode cX15_isSign 8 = .ok (.aload_n 1, 1) := by decide +kernel
theorem dX15_isSign_9 : decode cX15_isSign 9 = .ok (.aload_n 0, 1) := by decide +kernel
theorem dX15_isSign_10 : decode cX15_isSign 10 = .ok (.getfield 27, 3) := by decide +kernel
theorem dX15_isSign_13 : decode cX15_isSign 13 = .ok (.baload, 1) := by decide +kernel
theorem dX15_isSign_14 : decode cX15_isSign 14 = .ok (.iload_n 2, 1) := by decide +kernel
theorem dX15_isSign_15 : decode cX15_isSign 15 = .ok (.if_icmp .ne 7, 3) := by decide +kernel
theorem dX15_isSign_18 : decode cX15_isSign 18 = .ok (.iconst 1, 1) := by decide +kernel
theorem dX15_isSign_19 : decode cX15_isSign 19 = .ok (.goto 4, 3) := by decide +kernel
theorem dX15_isSign_22 : decode cX15_isSign 22 = .ok (.iconst 0, 1) := by decide +kernel
theorem dX15_isSign_23 : decode cX15_isSign 23 = .ok (.ireturn, 1) := by decide +kernel
set_option maxRecDepth 20000 in
theorem moX15_isSign_23 {o : Int32 × Hp} {h : Hp} {t0 : Int32} (hE : sX15_isSign_23 h  t0 = some o) : Le h o.2 := by
  obtain ⟨g_1, hE⟩ := gd_e hE
  exact le_some2 hE
set_option maxRecDepth 20000 in
theorem moX15_isSign_22 {o : Int32 × Hp} {h : Hp} (hE : sX15_isSign_22 h  = some o) : Le h o.2 := by
  exact moX15_isSign_23 hE
set_option maxRecDepth 20000 in
theorem moX15_isSign {o : Int32 × Hp} {h : Hp} {x0 : Nat} {x1 : Nat} {x2 : Int32} (hE : sX15_isSign h x0 x1 x2 = some o) : Le h o.2 := by
  rcases br_e hE with ⟨_, hE⟩ | ⟨_, hE⟩
  · obtain ⟨g_2, hE⟩ := gd_e hE
    rcases br_e hE with ⟨_, hE⟩ | ⟨_, hE⟩
    · exact moX15_isSign_23 hE
    · exact moX15_isSign_22 hE
  · exact moX15_isSign_22 hE
set_option maxRecDepth 20000 in
theorem bX15_isSign_23 {p : Program} {l : Launch} {e : Env} {s : State} {m : MethodId} {args : Array Value} {below : List Frame} {meth : Method} {c : Code} {X : Ec} {h0 : Hp} {o : Int32 × Hp} (C : Cx X p s m args meth c RX15 cX15_isSign 3 (some .boolean) "isSign") {h : Hp} {t0 : Int32} {H : Heap} {locs : List Loc} (hkm : Km h0 h) (hW : Wx X h H) (hZ : va_S (aA (eB X)) s.heap H locs) (ls : Array Slot) (hl : lv_has ls 3 []) (hE : sX15_isSign_23 h  t0 = some o) : W p l e (rm 0 0) s m args below meth c H locs 0 0 (MQ below (QI X h0 o.1 o.2) args s 0 0 (aA (eB X))) (F0 m 23 ls [.int t0]) := by
  obtain ⟨g_1, hE⟩ := gd_e hE
  exact x_iret C rfl (narB g_1) hW hZ hkm hE dX15_isSign_23
set_option maxRecDepth 20000 in
theorem bX15_isSign_22 {p : Program} {l : Launch} {e : Env} {s : State} {m : MethodId} {args : Array Value} {below : List Frame} {meth : Method} {c : Code} {X : Ec} {h0 : Hp} {o : Int32 × Hp} (C : Cx X p s m args meth c RX15 cX15_isSign 3 (some .boolean) "isSign") {h : Hp} {H : Heap} {locs : List Loc} (hkm : Km h0 h) (hW : Wx X h H) (hZ : va_S (aA (eB X)) s.heap H locs) (ls : Array Slot) (hl : lv_has ls 3 []) (hE : sX15_isSign_22 h  = some o) : W p l e (rm 0 0) s m args below meth c H locs 0 0 (MQ below (QI X h0 o.1 o.2) args s 0 0 (aA (eB X))) (F0 m 22 ls []) := by
  refine lv_iconst (v := (0 : Int32)) C.1 C.2.1 dX15_isSign_22 (by decide) ?_
  exact bX15_isSign_23 C hkm hW hZ _ (lv_sub hl [] rfl) hE
set_option maxRecDepth 20000 in
theorem ct_X15_isSign (l : Launch) (X : Ec) {h : Hp} {x0 : Nat} {x1 : Nat} {x2 : Int32} {o : Int32 × Hp} (k_x0 : hK h x0 = 15) (k_x1 : hK h x1 = 16) (hE : sX15_isSign h x0 x1 x2 = some o) : MetI l yX15_isSign cX15_isSign 3 (some .boolean) 0 0 X [.ref x0, .ref x1, .int x2] h o := by
  refine x_met (by decide) (Nat.le_of_ble_eq_true rfl) ?_
  intro p e s m below meth c ls C hl hW hZ
  have hl : lv_has ls 3 [(0, .ref x0), (1, .ref x1), (2, .int x2)] := hl
  have hkm : Km h h := Km.rf h
  refine lv_aload_n C.1 C.2.1 dX15_isSign_0 rfl (lv_at hl 0 rfl) ?_
  refine gf_X15_34 C hW k_x0 dX15_isSign_1 ?_
  refine lv_iconst (v := (3 : Int32)) C.1 C.2.1 dX15_isSign_4 (by decide) ?_
  refine lv_icmp_ne (tgt := 22) C.1 C.2.1 dX15_isSign_5 (by decide) (fun c_1 => ?_) (fun c_1 => ?_)
  · have hE := br_n hE c_1
    exact bX15_isSign_22 C hkm hW hZ _ (lv_sub hl [] rfl) hE
  · have hE := br_p hE c_1
    refine lv_aload_n C.1 C.2.1 dX15_isSign_8 rfl (lv_at hl 1 rfl) ?_
    refine lv_aload_n C.1 C.2.1 dX15_isSign_9 rfl (lv_at hl 0 rfl) ?_
    refine gf_X15_27 C hW k_x0 dX15_isSign_10 ?_
    obtain ⟨g_2, hE⟩ := gd_e hE
    refine y_bald C hW k_x1 g_2 dX15_isSign_13 ?_
    refine lv_iload_n C.1 C.2.1 dX15_isSign_14 rfl (lv_at hl 2 rfl) ?_
    refine lv_icmp_ne (tgt := 22) C.1 C.2.1 dX15_isSign_15 (by decide) (fun c_3 => ?_) (fun c_3 => ?_)
    · have hE := br_n hE c_3
      exact bX15_isSign_22 C hkm hW hZ _ (lv_sub hl [] rfl) hE
    · have hE := br_p hE c_3
      refine lv_iconst (v := (1 : Int32)) C.1 C.2.1 dX15_isSign_18 (by decide) ?_
      refine lv_goto (tgt := 23) C.1 C.2.1 dX15_isSign_19 (by decide) ?_
      exact bX15_isSign_23 C hkm hW hZ _ (lv_sub hl [] rfl) hE
set_option maxRecDepth 100000 in
theorem m_20 : Cond.initialized RX14 ∈ W0 := w0_in (List.mem_append_right _ (List.mem_of_getElem? (i := 20) rfl)) rfl
set_option maxRecDepth 100000 in
theorem m_2034 : Cond.methodLink RX15 61 yX14_find ∈ W0 := w0_in (List.mem_append_right _ (List.mem_of_getElem? (i := 2034) rfl)) rfl
set_option maxRecDepth 100000 in
theorem m_2035 : Cond.instanceMethod yX14_find ∈ W0 := w0_in (List.mem_append_right _ (List.mem_of_getElem? (i := 2035) rfl)) rfl
set_option maxRecDepth 100000 in
theorem m_2036 : Cond.selects RX14 yX14_find yX14_find ∈ W0 := w0_in (List.mem_append_right _ (List.mem_of_getElem? (i := 2036) rfl)) rfl
set_option maxRecDepth 100000 in
theorem m_2037 : Cond.code yX14_find cX14_find 3 (some .int) ∈ W0 := w0_in (List.mem_append_right _ (List.mem_of_getElem? (i := 2037) rfl)) rfl
set_option maxRecDepth 100000 in
theorem m_2116 : Cond.fieldLink RX15 57 (TX15 5).1 (TX15 5).2.1 (TX15 5).2.2.1 ∈ W0 := w0_in (List.mem_append_right _ (List.mem_of_getElem? (i := 2116) rfl)) rfl
section
variable {p : Program} {l : Launch} {e : Env} {R : Room} {s : State} {m : MethodId} {args : Array Value} {below : List Frame} {meth : Method} {c : Code} {H : Heap} {locs : List Loc} {cells slots : Nat} {Q : State → Prop}
variable {cc : ByteArray} {pc : Nat} {ls : Array Slot} {rest : List Value} {X : Ec} {h h1 : Hp} {nL : Nat} {rt : Option FieldType} {mn : String}
theorem gf_X15_57 {a r : Nat} (C : Cx X p s m args meth c RX15 cc nL rt mn) (hW : Wx X h H) (ha : hK h a = 15) (hr : hR h a 5 = some r) (hdg : decode cc pc = .ok (.getfield 57, 3)) (kk : hK h r = 14 → W p l e R s m args below meth c H locs cells slots Q (F0 m (pc + 3) ls (.ref r :: rest))) : W p l e R s m args below meth c H locs cells slots Q (F0 m pc ls (.ref a :: rest)) :=
  y_getr C hW ha i_X15 (by decide) rfl (by decide) m_2116 rfl rfl hr hdg kk
end
theorem cw_X15_61 : cwd RX15 61 yX14_find cX14_find 3 (some .int) false 1 := ⟨m_2037, m_2034, m_20, ⟨m_2035, m_2036⟩, by decide, by decide, by decide +kernel⟩
theorem dX15_manAt_0 : decode cX15_manAt 0 = .ok (.aload_n 0, 1) := by decide +kernel
theorem dX15_manAt_1 : decode cX15_manAt 1 = .ok (.getfield 34, 3) := by decide +kernel
theorem dX15_manAt_4 : decode cX15_manAt 4 = .ok (.iconst 1, 1) := by decide +kernel
theorem dX15_manAt_5 : decode cX15_manAt 5 = .ok (.if_icmp .ne 32, 3) := by decide +kernel
theorem dX15_manAt_8 : decode cX15_manAt 8 = .ok (.aload_n 0, 1) := by decide +kernel
theorem dX15_manAt_9 : decode cX15_manAt 9 = .ok (.getfield 24, 3) := by decide +kernel
theorem dX15_manAt_12 : decode cX15_manAt 12 = .ok (.aload_n 0, 1) := by decide +kernel
theorem dX15_manAt_13 : decode cX15_manAt 13 = .ok (.getfield 27, 3) := by decide +kernel
theorem dX15_manAt_16 : decode cX15_manAt 16 = .ok (.iconst 1, 1) := by decide +kernel
theorem dX15_manAt_17 : decode cX15_manAt 17 = .ok (.iadd, 1) := by decide +kernel
theorem dX15_manAt_18 : decode cX15_manAt 18 = .ok (.if_icmp .ne 19, 3) := by decide +kernel
theorem dX15_manAt_21 : decode cX15_manAt 21 = .ok (.aload_n 0, 1) := by decide +kernel
theorem dX15_manAt_22 : decode cX15_manAt 22 = .ok (.getfield 57, 3) := by decide +kernel
theorem dX15_manAt_25 : decode cX15_manAt 25 = .ok (.aload_n 1, 1) := by decide +kernel
theorem dX15_manAt_26 : decode cX15_manAt 26 = .ok (.aload_n 0, 1) := by decide +kernel
theorem dX15_manAt_27 : decode cX15_manAt 27 = .ok (.getfield 27, 3) := by decide +kernel
theorem dX15_manAt_30 : decode cX15_manAt 30 = .ok (.baload, 1) := by decide +kernel
theorem dX15_manAt_31 : decode cX15_manAt 31 = .ok (.invokevirtual 61, 3) := by decide +kernel
theorem dX15_manAt_34 : decode cX15_manAt 34 = .ok (.goto 4, 3) := by decide +kernel
theorem dX15_manAt_37 : decode cX15_manAt 37 = .ok (.iconst (-1), 1) := by decide +kernel
theorem dX15_manAt_38 : decode cX15_manAt 38 = .ok (.ireturn, 1) := by decide +kernel
set_option maxRecDepth 20000 in
theorem moX15_manAt_38 {o : Int32 × Hp} {F : Nat} {h : Hp} {t0 : Int32} (hE : sX15_manAt_38 F h  t0 = some o) : Le h o.2 := by
  exact le_some2 hE
set_option maxRecDepth 20000 in
theorem moX15_manAt_37 {o : Int32 × Hp} {F : Nat} {h : Hp} (hE : sX15_manAt_37 F h  = some o) : Le h o.2 := by
  exact moX15_manAt_38 hE
set_option maxRecDepth 20000 in
theorem moX15_manAt {o : Int32 × Hp} {F : Nat} {h : Hp} {x0 : Nat} {x1 : Nat} (hE : sX15_manAt F h x0 x1 = some o) : Le h o.2 := by
  rcases br_e hE with ⟨_, hE⟩ | ⟨_, hE⟩
  · rcases br_e hE with ⟨_, hE⟩ | ⟨_, hE⟩
    · obtain ⟨r_3, er_3, hE⟩ := cl_e hE
      obtain ⟨g_4, hE⟩ := gd_e hE
      obtain ⟨o_5, eo_5, hE⟩ := cl_e hE
      refine (moX14_find eo_5).tr ?_
      exact moX15_manAt_38 hE
    · exact moX15_manAt_37 hE
  · exact moX15_manAt_37 hE
set_option maxRecDepth 20000 in
theorem bX15_manAt_38 {p : Program} {l : Launch} {e : Env} {s : State} {m : MethodId} {args : Array Value} {below : List Frame} {meth : Method} {c : Code} {X : Ec} {h0 : Hp} {o : Int32 × Hp} {F : Nat} (C : Cx X p s m args meth c RX15 cX15_manAt 2 (some .int) "manAt") {h : Hp} {t0 : Int32} {H : Heap} {locs : List Loc} (hkm : Km h0 h) (hW : Wx X h H) (hZ : va_S (aA (eB X)) s.heap H locs) (ls : Array Slot) (hl : lv_has ls 2 []) (hE : sX15_manAt_38 F h  t0 = some o) : W p l e (rm 1 22) s m args below meth c H locs 0 0 (MQ below (QI X h0 o.1 o.2) args s 0 0 (aA (eB X))) (F0 m 38 ls [.int t0]) := by
  exact x_iret C rfl rfl hW hZ hkm hE dX15_manAt_38
set_option maxRecDepth 20000 in
theorem bX15_manAt_37 {p : Program} {l : Launch} {e : Env} {s : State} {m : MethodId} {args : Array Value} {below : List Frame} {meth : Method} {c : Code} {X : Ec} {h0 : Hp} {o : Int32 × Hp} {F : Nat} (C : Cx X p s m args meth c RX15 cX15_manAt 2 (some .int) "manAt") {h : Hp} {H : Heap} {locs : List Loc} (hkm : Km h0 h) (hW : Wx X h H) (hZ : va_S (aA (eB X)) s.heap H locs) (ls : Array Slot) (hl : lv_has ls 2 []) (hE : sX15_manAt_37 F h  = some o) : W p l e (rm 1 22) s m args below meth c H locs 0 0 (MQ below (QI X h0 o.1 o.2) args s 0 0 (aA (eB X))) (F0 m 37 ls []) := by
  refine lv_iconst (v := (-1 : Int32)) C.1 C.2.1 dX15_manAt_37 (by decide) ?_
  exact bX15_manAt_38 C hkm hW hZ _ (lv_sub hl [] rfl) hE
set_option maxRecDepth 20000 in
theorem ct_X15_manAt (l : Launch) (X : Ec) (F : Nat) {h : Hp} {x0 : Nat} {x1 : Nat} {o : Int32 × Hp} (k_x0 : hK h x0 = 15) (k_x1 : hK h x1 = 16) (hE : sX15_manAt F h x0 x1 = some o) : MetI l yX15_manAt cX15_manAt 2 (some .int) 1 22 X [.ref x0, .ref x1] h o := by
  refine x_met (by decide) (Nat.le_of_ble_eq_true rfl) ?_
  intro p e s m below meth c ls C hl hW hZ
  have hl : lv_has ls 2 [(0, .ref x0), (1, .ref x1)] := hl
  have hkm : Km h h := Km.rf h
  refine lv_aload_n C.1 C.2.1 dX15_manAt_0 rfl (lv_at hl 0 rfl) ?_
  refine gf_X15_34 C hW k_x0 dX15_manAt_1 ?_
  refine lv_iconst (v := (1 : Int32)) C.1 C.2.1 dX15_manAt_4 (by decide) ?_
  refine lv_icmp_ne (tgt := 37) C.1 C.2.1 dX15_manAt_5 (by decide) (fun c_1 => ?_) (fun c_1 => ?_)
  · have hE := br_n hE c_1
    exact bX15_manAt_37 C hkm hW hZ _ (lv_sub hl [] rfl) hE
  · have hE := br_p hE c_1
    refine lv_aload_n C.1 C.2.1 dX15_manAt_8 rfl (lv_at hl 0 rfl) ?_
    refine gf_X15_24 C hW k_x0 dX15_manAt_9 ?_
    refine lv_aload_n C.1 C.2.1 dX15_manAt_12 rfl (lv_at hl 0 rfl) ?_
    refine gf_X15_27 C hW k_x0 dX15_manAt_13 ?_
    refine lv_iconst (v := (1 : Int32)) C.1 C.2.1 dX15_manAt_16 (by decide) ?_
    refine lv_iadd C.1 C.2.1 dX15_manAt_17 ?_
    refine lv_icmp_ne (tgt := 37) C.1 C.2.1 dX15_manAt_18 (by decide) (fun c_2 => ?_) (fun c_2 => ?_)
    · have hE := br_n hE c_2
      exact bX15_manAt_37 C hkm hW hZ _ (lv_sub hl [] rfl) hE
    · have hE := br_p hE c_2
      refine lv_aload_n C.1 C.2.1 dX15_manAt_21 rfl (lv_at hl 0 rfl) ?_
      obtain ⟨r_3, er_3, hE⟩ := cl_e hE
      refine gf_X15_57 C hW k_x0 er_3 dX15_manAt_22 (fun k_r_3 => ?_)
      refine lv_aload_n C.1 C.2.1 dX15_manAt_25 rfl (lv_at hl 1 rfl) ?_
      refine lv_aload_n C.1 C.2.1 dX15_manAt_26 rfl (lv_at hl 0 rfl) ?_
      refine gf_X15_27 C hW k_x0 dX15_manAt_27 ?_
      obtain ⟨g_4, hE⟩ := gd_e hE
      refine y_bald C hW k_x1 g_4 dX15_manAt_30 ?_
      obtain ⟨o_5, eo_5, hE⟩ := cl_e hE
      refine x_kI (o := o_5) (z_runV (As := [.int (hI h x1 (hI h x0 7).toNatClampNeg)]) (rest := []) C (ct_X14_find l X F k_r_3 eo_5) cw_X15_61 hW hZ k_r_3 (by decide) rfl rfl rfl hl.1 (Nat.le_of_ble_eq_true rfl) rfl dX15_manAt_31 ⟨Nat.le_of_ble_eq_true rfl, Nat.le_of_ble_eq_true rfl⟩ ⟨Nat.le_refl _, Nat.le_refl _⟩) hZ (fun _ _ hW km hZ => ?_)
      replace hkm := hkm.tr km
      replace k_x0 := km.at k_x0 (by decide)
      replace k_x1 := km.at k_x1 (by decide)
      refine lv_goto (tgt := 38) C.1 C.2.1 dX15_manAt_34 (by decide) ?_
      exact bX15_manAt_38 C hkm hW hZ _ (lv_sub hl [] rfl) hE
set_option maxRecDepth 100000 in
theorem ms_116 : Cond.selects RX15 yX15_isWord yX15_isWord ∈ W0 := w0_in (List.mem_append_left _ (List.mem_of_getElem? (i := 116) rfl)) rfl
set_option maxRecDepth 100000 in
theorem m_2009 : Cond.methodLink RX15 80 yX15_isWord ∈ W0 := w0_in (List.mem_append_right _ (List.mem_of_getElem? (i := 2009) rfl)) rfl
set_option maxRecDepth 100000 in
theorem m_2011 : Cond.instanceMethod yX15_isWord ∈ W0 := w0_in (List.mem_append_right _ (List.mem_of_getElem? (i := 2011) rfl)) rfl
set_option maxRecDepth 100000 in
theorem m_2012 : Cond.code yX15_isWord cX15_isWord 4 (some .boolean) ∈ W0 := w0_in (List.mem_append_right _ (List.mem_of_getElem? (i := 2012) rfl)) rfl
theorem cw_X15_80 : cwd RX15 80 yX15_isWord cX15_isWord 4 (some .boolean) false 2 := ⟨m_2012, m_2009, m_19, ⟨m_2011, ms_116⟩, by decide, by decide, by decide +kernel⟩
theorem dX15_flagAt_0 : decode cX15_flagAt 0 = .ok (.aload_n 0, 1) := by decide +kernel
theorem dX15_flagAt_1 : decode cX15_flagAt 1 = .ok (.aload_n 1, 1) := by decide +kernel
theorem dX15_flagAt_2 : decode cX15_flagAt 2 = .ok (.ldc 183, 2) := by decide +kernel
theorem dX15_flagAt_4 : decode cX15_flagAt 4 = .ok (.invokevirtual 80, 3) := by decide +kernel
theorem dX15_flagAt_7 : decode cX15_flagAt 7 = .ok (.ifCond .eq 7, 3) := by decide +kernel
theorem dX15_flagAt_10 : decode cX15_flagAt 10 = .ok (.iconst 1, 1) := by decide +kernel
theorem dX15_flagAt_11 : decode cX15_flagAt 11 = .ok (.goto 77, 3) := by decide +kernel
theorem dX15_flagAt_14 : decode cX15_flagAt 14 = .ok (.aload_n 0, 1) := by decide +kernel
theorem dX15_flagAt_15 : decode cX15_flagAt 15 = .ok (.aload_n 1, 1) := by decide +kernel
theorem dX15_flagAt_16 : decode cX15_flagAt 16 = .ok (.ldc 185, 2) := by decide +kernel
theorem dX15_flagAt_18 : decode cX15_flagAt 18 = .ok (.invokevirtual 80, 3) := by decide +kernel
theorem dX15_flagAt_21 : decode cX15_flagAt 21 = .ok (.ifCond .eq 7, 3) := by decide +kernel
theorem dX15_flagAt_24 : decode cX15_flagAt 24 = .ok (.iconst 2, 1) := by decide +kernel
theorem dX15_flagAt_25 : decode cX15_flagAt 25 = .ok (.goto 63, 3) := by decide +kernel
theorem dX15_flagAt_28 : decode cX15_flagAt 28 = .ok (.aload_n 0, 1) := by decide +kernel
theorem dX15_flagAt_29 : decode cX15_flagAt 29 = .ok (.aload_n 1, 1) := by decide +kernel
theorem dX15_flagAt_30 : decode cX15_flagAt 30 = .ok (.ldc 187, 2) := by decide +kernel
theorem dX15_flagAt_32 : decode cX15_flagAt 32 = .ok (.invokevirtual 80, 3) := by decide +kernel
theorem dX15_flagAt_35 : decode cX15_flagAt 35 = .ok (.ifCond .eq 7, 3) := by decide +kernel
theorem dX15_flagAt_38 : decode cX15_flagAt 38 = .ok (.iconst 4, 1) := by decide +kernel
theorem dX15_flagAt_39 : decode cX15_flagAt 39 = .ok (.goto 49, 3) := by decide +kernel
theorem dX15_flagAt_42 : decode cX15_flagAt 42 = .ok (.aload_n 0, 1) := by decide +kernel
theorem dX15_flagAt_43 : decode cX15_flagAt 43 = .ok (.aload_n 1, 1) := by decide +kernel
theorem dX15_flagAt_44 : decode cX15_flagAt 44 = .ok (.ldc 189, 2) := by decide +kernel
theorem dX15_flagAt_46 : decode cX15_flagAt 46 = .ok (.invokevirtual 80, 3) := by decide +kernel
theorem dX15_flagAt_49 : decode cX15_flagAt 49 = .ok (.ifCond .eq 8, 3) := by decide +kernel
theorem dX15_flagAt_52 : decode cX15_flagAt 52 = .ok (.bipush 8, 2) := by decide +kernel
theorem dX15_flagAt_54 : decode cX15_flagAt 54 = .ok (.goto 34, 3) := by decide +kernel
theorem dX15_flagAt_57 : decode cX15_flagAt 57 = .ok (.aload_n 0, 1) := by decide +kernel
theorem dX15_flagAt_58 : decode cX15_flagAt 58 = .ok (.aload_n 1, 1) := by decide +kernel
theorem dX15_flagAt_59 : decode cX15_flagAt 59 = .ok (.ldc 191, 2) := by decide +kernel
theorem dX15_flagAt_61 : decode cX15_flagAt 61 = .ok (.invokevirtual 80, 3) := by decide +kernel
theorem dX15_flagAt_64 : decode cX15_flagAt 64 = .ok (.ifCond .eq 8, 3) := by decide +kernel
theorem dX15_flagAt_67 : decode cX15_flagAt 67 = .ok (.bipush 16, 2) := by decide +kernel
theorem dX15_flagAt_69 : decode cX15_flagAt 69 = .ok (.goto 19, 3) := by decide +kernel
theorem dX15_flagAt_72 : decode cX15_flagAt 72 = .ok (.aload_n 0, 1) := by decide +kernel
theorem dX15_flagAt_73 : decode cX15_flagAt 73 = .ok (.aload_n 1, 1) := by decide +kernel
theorem dX15_flagAt_74 : decode cX15_flagAt 74 = .ok (.ldc 193, 2) := by decide +kernel
theorem dX15_flagAt_76 : decode cX15_flagAt 76 = .ok (.invokevirtual 80, 3) := by decide +kernel
theorem dX15_flagAt_79 : decode cX15_flagAt 79 = .ok (.ifCond .eq 8, 3) := by decide +kernel
theorem dX15_flagAt_82 : decode cX15_flagAt 82 = .ok (.bipush 32, 2) := by decide +kernel
theorem dX15_flagAt_84 : decode cX15_flagAt 84 = .ok (.goto 4, 3) := by decide +kernel
theorem dX15_flagAt_87 : decode cX15_flagAt 87 = .ok (.iconst 0, 1) := by decide +kernel
theorem dX15_flagAt_88 : decode cX15_flagAt 88 = .ok (.ireturn, 1) := by decide +kernel
set_option maxRecDepth 20000 in
theorem moX15_flagAt_88 {o : Int32 × Hp} {F : Nat} {h : Hp} {t0 : Int32} (hE : sX15_flagAt_88 F h  t0 = some o) : Le h o.2 := by
  exact le_some2 hE
set_option maxRecDepth 20000 in
theorem moX15_flagAt {o : Int32 × Hp} {F : Nat} {h : Hp} {x0 : Nat} {x1 : Nat} (hE : sX15_flagAt F h x0 x1 = some o) : Le h o.2 := by
  obtain ⟨o_1, eo_1, hE⟩ := cl_e hE
  refine (moX15_isWord eo_1).tr ?_
  rcases br_e hE with ⟨_, hE⟩ | ⟨_, hE⟩
  · obtain ⟨o_3, eo_3, hE⟩ := cl_e hE
    refine (moX15_isWord eo_3).tr ?_
    rcases br_e hE with ⟨_, hE⟩ | ⟨_, hE⟩
    · obtain ⟨o_5, eo_5, hE⟩ := cl_e hE
      refine (moX15_isWord eo_5).tr ?_
      rcases br_e hE with ⟨_, hE⟩ | ⟨_, hE⟩
      · obtain ⟨o_7, eo_7, hE⟩ := cl_e hE
        refine (moX15_isWord eo_7).tr ?_
        rcases br_e hE with ⟨_, hE⟩ | ⟨_, hE⟩
        · obtain ⟨o_9, eo_9, hE⟩ := cl_e hE
          refine (moX15_isWord eo_9).tr ?_
          rcases br_e hE with ⟨_, hE⟩ | ⟨_, hE⟩
          · obtain ⟨o_11, eo_11, hE⟩ := cl_e hE
            refine (moX15_isWord eo_11).tr ?_
            rcases br_e hE with ⟨_, hE⟩ | ⟨_, hE⟩
            · exact moX15_flagAt_88 hE
            · exact moX15_flagAt_88 hE
          · exact moX15_flagAt_88 hE
        · exact moX15_flagAt_88 hE
      · exact moX15_flagAt_88 hE
    · exact moX15_flagAt_88 hE
  · exact moX15_flagAt_88 hE
set_option maxRecDepth 20000 in
theorem bX15_flagAt_88 {p : Program} {l : Launch} {e : Env} {s : State} {m : MethodId} {args : Array Value} {below : List Frame} {meth : Method} {c : Code} {X : Ec} {h0 : Hp} {o : Int32 × Hp} {F : Nat} (C : Cx X p s m args meth c RX15 cX15_flagAt 2 (some .int) "flagAt") {h : Hp} {t0 : Int32} {H : Heap} {locs : List Loc} (hkm : Km h0 h) (hW : Wx X h H) (hZ : va_S (aA (eB X)) s.heap H locs) (ls : Array Slot) (hl : lv_has ls 2 []) (hE : sX15_flagAt_88 F h  t0 = some o) : W p l e (rm 5 108) s m args below meth c H locs 0 0 (MQ below (QI X h0 o.1 o.2) args s 0 0 (aA (eB X))) (F0 m 88 ls [.int t0]) := by
  exact x_iret C rfl rfl hW hZ hkm hE dX15_flagAt_88
set_option maxRecDepth 20000 in
theorem ct_X15_flagAt (l : Launch) (X : Ec) (F : Nat) {h : Hp} {x0 : Nat} {x1 : Nat} {o : Int32 × Hp} (k_x0 : hK h x0 = 15) (k_x1 : hK h x1 = 16) (hE : sX15_flagAt F h x0 x1 = some o) : MetI l yX15_flagAt cX15_flagAt 2 (some .int) 5 108 X [.ref x0, .ref x1] h o := by
  refine x_met (by decide) (Nat.le_of_ble_eq_true rfl) ?_
  intro p e s m below meth c ls C hl hW hZ
  have hl : lv_has ls 2 [(0, .ref x0), (1, .ref x1)] := hl
  have hkm : Km h h := Km.rf h
  refine lv_aload_n C.1 C.2.1 dX15_flagAt_0 rfl (lv_at hl 0 rfl) ?_
  refine lv_aload_n C.1 C.2.1 dX15_flagAt_1 rfl (lv_at hl 1 rfl) ?_
  refine va_ldcS C.1 C.2.1 C.2.2.2.1 (C.2.2.2.2.2.2.2.2.1 31 (by decide)).2 dX15_flagAt_2 ?_
  obtain ⟨o_1, eo_1, hE⟩ := cl_e hE
  refine x_kI (o := o_1) (z_runV (As := [.ref x1, .ref (X.2.2.2.1 31)]) (rest := []) C (ct_X15_isWord l X F k_x0 k_x1 (by decide) eo_1) cw_X15_80 hW hZ k_x0 (by decide) rfl rfl rfl hl.1 (Nat.le_of_ble_eq_true rfl) rfl dX15_flagAt_4 ⟨Nat.le_of_ble_eq_true rfl, Nat.le_of_ble_eq_true rfl⟩ ⟨Nat.le_refl _, Nat.le_refl _⟩) hZ (fun _ _ hW km hZ => ?_)
  replace hkm := hkm.tr km
  replace k_x0 := km.at k_x0 (by decide)
  replace k_x1 := km.at k_x1 (by decide)
  refine lv_if_eq (tgt := 14) C.1 C.2.1 dX15_flagAt_7 (by decide) (fun c_2 => ?_) (fun c_2 => ?_)
  · have hE := br_p hE c_2
    refine lv_aload_n C.1 C.2.1 dX15_flagAt_14 rfl (lv_at hl 0 rfl) ?_
    refine lv_aload_n C.1 C.2.1 dX15_flagAt_15 rfl (lv_at hl 1 rfl) ?_
    refine va_ldcS C.1 C.2.1 C.2.2.2.1 (C.2.2.2.2.2.2.2.2.1 32 (by decide)).2 dX15_flagAt_16 ?_
    obtain ⟨o_3, eo_3, hE⟩ := cl_e hE
    refine x_kI (o := o_3) (z_runV (As := [.ref x1, .ref (X.2.2.2.1 32)]) (rest := []) C (ct_X15_isWord l X F k_x0 k_x1 (by decide) eo_3) cw_X15_80 hW hZ k_x0 (by decide) rfl rfl rfl hl.1 (Nat.le_of_ble_eq_true rfl) rfl dX15_flagAt_18 ⟨Nat.le_of_ble_eq_true rfl, Nat.le_of_ble_eq_true rfl⟩ ⟨Nat.le_refl _, Nat.le_refl _⟩) hZ (fun _ _ hW km hZ => ?_)
    replace hkm := hkm.tr km
    replace k_x0 := km.at k_x0 (by decide)
    replace k_x1 := km.at k_x1 (by decide)
    refine lv_if_eq (tgt := 28) C.1 C.2.1 dX15_flagAt_21 (by decide) (fun c_4 => ?_) (fun c_4 => ?_)
    · have hE := br_p hE c_4
      refine lv_aload_n C.1 C.2.1 dX15_flagAt_28 rfl (lv_at hl 0 rfl) ?_
      refine lv_aload_n C.1 C.2.1 dX15_flagAt_29 rfl (lv_at hl 1 rfl) ?_
      refine va_ldcS C.1 C.2.1 C.2.2.2.1 (C.2.2.2.2.2.2.2.2.1 33 (by decide)).2 dX15_flagAt_30 ?_
      obtain ⟨o_5, eo_5, hE⟩ := cl_e hE
      refine x_kI (o := o_5) (z_runV (As := [.ref x1, .ref (X.2.2.2.1 33)]) (rest := []) C (ct_X15_isWord l X F k_x0 k_x1 (by decide) eo_5) cw_X15_80 hW hZ k_x0 (by decide) rfl rfl rfl hl.1 (Nat.le_of_ble_eq_true rfl) rfl dX15_flagAt_32 ⟨Nat.le_of_ble_eq_true rfl, Nat.le_of_ble_eq_true rfl⟩ ⟨Nat.le_refl _, Nat.le_refl _⟩) hZ (fun _ _ hW km hZ => ?_)
      replace hkm := hkm.tr km
      replace k_x0 := km.at k_x0 (by decide)
      replace k_x1 := km.at k_x1 (by decide)
      refine lv_if_eq (tgt := 42) C.1 C.2.1 dX15_flagAt_35 (by decide) (fun c_6 => ?_) (fun c_6 => ?_)
      · have hE := br_p hE c_6
        refine lv_aload_n C.1 C.2.1 dX15_flagAt_42 rfl (lv_at hl 0 rfl) ?_
        refine lv_aload_n C.1 C.2.1 dX15_flagAt_43 rfl (lv_at hl 1 rfl) ?_
        refine va_ldcS C.1 C.2.1 C.2.2.2.1 (C.2.2.2.2.2.2.2.2.1 34 (by decide)).2 dX15_flagAt_44 ?_
        obtain ⟨o_7, eo_7, hE⟩ := cl_e hE
        refine x_kI (o := o_7) (z_runV (As := [.ref x1, .ref (X.2.2.2.1 34)]) (rest := []) C (ct_X15_isWord l X F k_x0 k_x1 (by decide) eo_7) cw_X15_80 hW hZ k_x0 (by decide) rfl rfl rfl hl.1 (Nat.le_of_ble_eq_true rfl) rfl dX15_flagAt_46 ⟨Nat.le_of_ble_eq_true rfl, Nat.le_of_ble_eq_true rfl⟩ ⟨Nat.le_refl _, Nat.le_refl _⟩) hZ (fun _ _ hW km hZ => ?_)
        replace hkm := hkm.tr km
        replace k_x0 := km.at k_x0 (by decide)
        replace k_x1 := km.at k_x1 (by decide)
        refine lv_if_eq (tgt := 57) C.1 C.2.1 dX15_flagAt_49 (by decide) (fun c_8 => ?_) (fun c_8 => ?_)
        · have hE := br_p hE c_8
          refine lv_aload_n C.1 C.2.1 dX15_flagAt_57 rfl (lv_at hl 0 rfl) ?_
          refine lv_aload_n C.1 C.2.1 dX15_flagAt_58 rfl (lv_at hl 1 rfl) ?_
          refine va_ldcS C.1 C.2.1 C.2.2.2.1 (C.2.2.2.2.2.2.2.2.1 35 (by decide)).2 dX15_flagAt_59 ?_
          obtain ⟨o_9, eo_9, hE⟩ := cl_e hE
          refine x_kI (o := o_9) (z_runV (As := [.ref x1, .ref (X.2.2.2.1 35)]) (rest := []) C (ct_X15_isWord l X F k_x0 k_x1 (by decide) eo_9) cw_X15_80 hW hZ k_x0 (by decide) rfl rfl rfl hl.1 (Nat.le_of_ble_eq_true rfl) rfl dX15_flagAt_61 ⟨Nat.le_of_ble_eq_true rfl, Nat.le_of_ble_eq_true rfl⟩ ⟨Nat.le_refl _, Nat.le_refl _⟩) hZ (fun _ _ hW km hZ => ?_)
          replace hkm := hkm.tr km
          replace k_x0 := km.at k_x0 (by decide)
          replace k_x1 := km.at k_x1 (by decide)
          refine lv_if_eq (tgt := 72) C.1 C.2.1 dX15_flagAt_64 (by decide) (fun c_10 => ?_) (fun c_10 => ?_)
          · have hE := br_p hE c_10
            refine lv_aload_n C.1 C.2.1 dX15_flagAt_72 rfl (lv_at hl 0 rfl) ?_
            refine lv_aload_n C.1 C.2.1 dX15_flagAt_73 rfl (lv_at hl 1 rfl) ?_
            refine va_ldcS C.1 C.2.1 C.2.2.2.1 (C.2.2.2.2.2.2.2.2.1 36 (by decide)).2 dX15_flagAt_74 ?_
            obtain ⟨o_11, eo_11, hE⟩ := cl_e hE
            refine x_kI (o := o_11) (z_runV (As := [.ref x1, .ref (X.2.2.2.1 36)]) (rest := []) C (ct_X15_isWord l X F k_x0 k_x1 (by decide) eo_11) cw_X15_80 hW hZ k_x0 (by decide) rfl rfl rfl hl.1 (Nat.le_of_ble_eq_true rfl) rfl dX15_flagAt_76 ⟨Nat.le_of_ble_eq_true rfl, Nat.le_of_ble_eq_true rfl⟩ ⟨Nat.le_refl _, Nat.le_refl _⟩) hZ (fun _ _ hW km hZ => ?_)
            replace hkm := hkm.tr km
            replace k_x0 := km.at k_x0 (by decide)
            replace k_x1 := km.at k_x1 (by decide)
            refine lv_if_eq (tgt := 87) C.1 C.2.1 dX15_flagAt_79 (by decide) (fun c_12 => ?_) (fun c_12 => ?_)
            · have hE := br_p hE c_12
              refine lv_iconst (v := (0 : Int32)) C.1 C.2.1 dX15_flagAt_87 (by decide) ?_
              exact bX15_flagAt_88 C hkm hW hZ _ (lv_sub hl [] rfl) hE
            · have hE := br_n hE c_12
              refine lv_bipush (v := (32 : Int32)) C.1 C.2.1 dX15_flagAt_82 (by decide) ?_
              refine lv_goto (tgt := 88) C.1 C.2.1 dX15_flagAt_84 (by decide) ?_
              exact bX15_flagAt_88 C hkm hW hZ _ (lv_sub hl [] rfl) hE
          · have hE := br_n hE c_10
            refine lv_bipush (v := (16 : Int32)) C.1 C.2.1 dX15_flagAt_67 (by decide) ?_
            refine lv_goto (tgt := 88) C.1 C.2.1 dX15_flagAt_69 (by decide) ?_
            exact bX15_flagAt_88 C hkm hW hZ _ (lv_sub hl [] rfl) hE
        · have hE := br_n hE c_8
          refine lv_bipush (v := (8 : Int32)) C.1 C.2.1 dX15_flagAt_52 (by decide) ?_
          refine lv_goto (tgt := 88) C.1 C.2.1 dX15_flagAt_54 (by decide) ?_
          exact bX15_flagAt_88 C hkm hW hZ _ (lv_sub hl [] rfl) hE
      · have hE := br_n hE c_6
        refine lv_iconst (v := (4 : Int32)) C.1 C.2.1 dX15_flagAt_38 (by decide) ?_
        refine lv_goto (tgt := 88) C.1 C.2.1 dX15_flagAt_39 (by decide) ?_
        exact bX15_flagAt_88 C hkm hW hZ _ (lv_sub hl [] rfl) hE
    · have hE := br_n hE c_4
      refine lv_iconst (v := (2 : Int32)) C.1 C.2.1 dX15_flagAt_24 (by decide) ?_
      refine lv_goto (tgt := 88) C.1 C.2.1 dX15_flagAt_25 (by decide) ?_
      exact bX15_flagAt_88 C hkm hW hZ _ (lv_sub hl [] rfl) hE
  · have hE := br_n hE c_2
    refine lv_iconst (v := (1 : Int32)) C.1 C.2.1 dX15_flagAt_10 (by decide) ?_
    refine lv_goto (tgt := 88) C.1 C.2.1 dX15_flagAt_11 (by decide) ?_
    exact bX15_flagAt_88 C hkm hW hZ _ (lv_sub hl [] rfl) hE
set_option maxRecDepth 100000 in
theorem ms_123 : Cond.selects RX15 yX15_flagAt yX15_flagAt ∈ W0 := w0_in (List.mem_append_left _ (List.mem_of_getElem? (i := 123) rfl)) rfl
set_option maxRecDepth 100000 in
theorem ms_117 : Cond.selects RX15 yX15_isNumber yX15_isNumber ∈ W0 := w0_in (List.mem_append_left _ (List.mem_of_getElem? (i := 117) rfl)) rfl
set_option maxRecDepth 100000 in
theorem ms_114 : Cond.selects RX15 yX15_nextToken yX15_nextToken ∈ W0 := w0_in (List.mem_append_left _ (List.mem_of_getElem? (i := 114) rfl)) rfl
set_option maxRecDepth 100000 in
theorem n_1807 : Cond.fieldLinkNest RX15 91 (TX14 1).1 (TX14 1).2.1 (TX14 1).2.2.1 "GameRulesModel" ∈ tables_1 := List.mem_of_getElem? (i := 1807) rfl
set_option maxRecDepth 100000 in
theorem n_1815 : Cond.fieldLinkNest RX15 198 (TX14 5).1 (TX14 5).2.1 (TX14 5).2.2.1 "GameRulesModel" ∈ tables_1 := List.mem_of_getElem? (i := 1815) rfl
set_option maxRecDepth 100000 in
theorem n_1817 : Cond.fieldLinkNest RX15 201 (TX14 6).1 (TX14 6).2.1 (TX14 6).2.2.1 "GameRulesModel" ∈ tables_1 := List.mem_of_getElem? (i := 1817) rfl
set_option maxRecDepth 100000 in
theorem n_1819 : Cond.fieldLinkNest RX15 204 (TX14 7).1 (TX14 7).2.1 (TX14 7).2.2.1 "GameRulesModel" ∈ tables_1 := List.mem_of_getElem? (i := 1819) rfl
set_option maxRecDepth 100000 in
theorem n_1821 : Cond.fieldLinkNest RX15 207 (TX14 8).1 (TX14 8).2.1 (TX14 8).2.2.1 "GameRulesModel" ∈ tables_1 := List.mem_of_getElem? (i := 1821) rfl
set_option maxRecDepth 100000 in
theorem n_1823 : Cond.fieldLinkNest RX15 210 (TX14 9).1 (TX14 9).2.1 (TX14 9).2.2.1 "GameRulesModel" ∈ tables_1 := List.mem_of_getElem? (i := 1823) rfl
set_option maxRecDepth 100000 in
theorem m_1994 : Cond.methodLink RX15 74 yX15_nextToken ∈ W0 := w0_in (List.mem_append_right _ (List.mem_of_getElem? (i := 1994) rfl)) rfl
set_option maxRecDepth 100000 in
theorem m_1996 : Cond.instanceMethod yX15_nextToken ∈ W0 := w0_in (List.mem_append_right _ (List.mem_of_getElem? (i := 1996) rfl)) rfl
set_option maxRecDepth 100000 in
theorem m_1997 : Cond.code yX15_nextToken cX15_nextToken 7 none ∈ W0 := w0_in (List.mem_append_right _ (List.mem_of_getElem? (i := 1997) rfl)) rfl
set_option maxRecDepth 100000 in
theorem m_2013 : Cond.methodLink RX15 84 yX15_isNumber ∈ W0 := w0_in (List.mem_append_right _ (List.mem_of_getElem? (i := 2013) rfl)) rfl
set_option maxRecDepth 100000 in
theorem m_2015 : Cond.instanceMethod yX15_isNumber ∈ W0 := w0_in (List.mem_append_right _ (List.mem_of_getElem? (i := 2015) rfl)) rfl
set_option maxRecDepth 100000 in
theorem m_2016 : Cond.code yX15_isNumber cX15_isNumber 3 (some .boolean) ∈ W0 := w0_in (List.mem_append_right _ (List.mem_of_getElem? (i := 2016) rfl)) rfl
set_option maxRecDepth 100000 in
theorem m_2042 : Cond.methodLink RX15 195 yX15_flagAt ∈ W0 := w0_in (List.mem_append_right _ (List.mem_of_getElem? (i := 2042) rfl)) rfl
set_option maxRecDepth 100000 in
theorem m_2044 : Cond.instanceMethod yX15_flagAt ∈ W0 := w0_in (List.mem_append_right _ (List.mem_of_getElem? (i := 2044) rfl)) rfl
set_option maxRecDepth 100000 in
theorem m_2045 : Cond.code yX15_flagAt cX15_flagAt 2 (some .int) ∈ W0 := w0_in (List.mem_append_right _ (List.mem_of_getElem? (i := 2045) rfl)) rfl
section
variable {p : Program} {l : Launch} {e : Env} {R : Room} {s : State} {m : MethodId} {args : Array Value} {below : List Frame} {meth : Method} {c : Code} {H : Heap} {locs : List Loc} {cells slots : Nat} {Q : State → Prop}
variable {cc : ByteArray} {pc : Nat} {ls : Array Slot} {rest : List Value} {X : Ec} {h h1 : Hp} {nL : Nat} {rt : Option FieldType} {mn : String}
theorem gf_X15_91 {a : Nat} (C : Cx X p s m args meth c RX15 cc nL rt mn) (hW : Wx X h H) (ha : hK h a = 14) (hdg : decode cc pc = .ok (.getfield 91, 3)) (kk : W p l e R s m args below meth c H locs cells slots Q (F0 m (pc + 3) ls (.int (hI h a 1) :: rest))) : W p l e R s m args below meth c H locs cells slots Q (F0 m pc ls (.ref a :: rest)) :=
  y_getiN C hW ha i_X14 (by decide) rfl (by decide) n_1807 rfl hdg kk
theorem gf_X15_210 {a r : Nat} (C : Cx X p s m args meth c RX15 cc nL rt mn) (hW : Wx X h H) (ha : hK h a = 14) (hr : hR h a 9 = some r) (hdg : decode cc pc = .ok (.getfield 210, 3)) (kk : hK h r = 17 → W p l e R s m args below meth c H locs cells slots Q (F0 m (pc + 3) ls (.ref r :: rest))) : W p l e R s m args below meth c H locs cells slots Q (F0 m pc ls (.ref a :: rest)) :=
  y_getrN C hW ha i_X14 (by decide) rfl (by decide) n_1823 rfl rfl hr hdg kk
theorem gf_X15_204 {a r : Nat} (C : Cx X p s m args meth c RX15 cc nL rt mn) (hW : Wx X h H) (ha : hK h a = 14) (hr : hR h a 7 = some r) (hdg : decode cc pc = .ok (.getfield 204, 3)) (kk : hK h r = 17 → W p l e R s m args below meth c H locs cells slots Q (F0 m (pc + 3) ls (.ref r :: rest))) : W p l e R s m args below meth c H locs cells slots Q (F0 m pc ls (.ref a :: rest)) :=
  y_getrN C hW ha i_X14 (by decide) rfl (by decide) n_1819 rfl rfl hr hdg kk
theorem gf_X15_207 {a r : Nat} (C : Cx X p s m args meth c RX15 cc nL rt mn) (hW : Wx X h H) (ha : hK h a = 14) (hr : hR h a 8 = some r) (hdg : decode cc pc = .ok (.getfield 207, 3)) (kk : hK h r = 17 → W p l e R s m args below meth c H locs cells slots Q (F0 m (pc + 3) ls (.ref r :: rest))) : W p l e R s m args below meth c H locs cells slots Q (F0 m pc ls (.ref a :: rest)) :=
  y_getrN C hW ha i_X14 (by decide) rfl (by decide) n_1821 rfl rfl hr hdg kk
theorem gf_X15_198 {a r : Nat} (C : Cx X p s m args meth c RX15 cc nL rt mn) (hW : Wx X h H) (ha : hK h a = 14) (hr : hR h a 5 = some r) (hdg : decode cc pc = .ok (.getfield 198, 3)) (kk : hK h r = 17 → W p l e R s m args below meth c H locs cells slots Q (F0 m (pc + 3) ls (.ref r :: rest))) : W p l e R s m args below meth c H locs cells slots Q (F0 m pc ls (.ref a :: rest)) :=
  y_getrN C hW ha i_X14 (by decide) rfl (by decide) n_1815 rfl rfl hr hdg kk
theorem gf_X15_201 {a r : Nat} (C : Cx X p s m args meth c RX15 cc nL rt mn) (hW : Wx X h H) (ha : hK h a = 14) (hr : hR h a 6 = some r) (hdg : decode cc pc = .ok (.getfield 201, 3)) (kk : hK h r = 17 → W p l e R s m args below meth c H locs cells slots Q (F0 m (pc + 3) ls (.ref r :: rest))) : W p l e R s m args below meth c H locs cells slots Q (F0 m pc ls (.ref a :: rest)) :=
  y_getrN C hW ha i_X14 (by decide) rfl (by decide) n_1817 rfl rfl hr hdg kk
end
theorem cw_X15_74 : cwd RX15 74 yX15_nextToken cX15_nextToken 7 none false 2 := ⟨m_1997, m_1994, m_19, ⟨m_1996, ms_114⟩, by decide, by decide, by decide +kernel⟩
theorem cw_X15_84 : cwd RX15 84 yX15_isNumber cX15_isNumber 3 (some .boolean) false 2 := ⟨m_2016, m_2013, m_19, ⟨m_2015, ms_117⟩, by decide, by decide, by decide +kernel⟩
theorem cw_X15_195 : cwd RX15 195 yX15_flagAt cX15_flagAt 2 (some .int) false 1 := ⟨m_2045, m_2042, m_19, ⟨m_2044, ms_123⟩, by decide, by decide, by decide +kernel⟩
theorem dX15_isStep_0 : decode cX15_isStep 0 = .ok (.iconst 0, 1) := by decide +kernel
theorem dX15_isStep_1 : decode cX15_isStep 1 = .ok (.istore 4, 2) := by decide +kernel
theorem dX15_isStep_3 : decode cX15_isStep 3 = .ok (.aload_n 0, 1) := by decide +kernel
theorem dX15_isStep_4 : decode cX15_isStep 4 = .ok (.getfield 34, 3) := by decide +kernel
theorem dX15_isStep_7 : decode cX15_isStep 7 = .ok (.iconst 1, 1) := by decide +kernel
theorem dX15_isStep_8 : decode cX15_isStep 8 = .ok (.if_icmp .ne 75, 3) := by decide +kernel
theorem dX15_isStep_11 : decode cX15_isStep 11 = .ok (.aload_n 0, 1) := by decide +kernel
theorem dX15_isStep_12 : decode cX15_isStep 12 = .ok (.aload_n 1, 1) := by decide +kernel
theorem dX15_isStep_13 : decode cX15_isStep 13 = .ok (.invokevirtual 195, 3) := by decide +kernel
theorem dX15_isStep_16 : decode cX15_isStep 16 = .ok (.istore 5, 2) := by decide +kernel
theorem dX15_isStep_18 : decode cX15_isStep 18 = .ok (.iload 4, 2) := by decide +kernel
theorem dX15_isStep_20 : decode cX15_isStep 20 = .ok (.iload 5, 2) := by decide +kernel
theorem dX15_isStep_22 : decode cX15_isStep 22 = .ok (.ior, 1) := by decide +kernel
theorem dX15_isStep_23 : decode cX15_isStep 23 = .ok (.istore 6, 2) := by decide +kernel
theorem dX15_isStep_25 : decode cX15_isStep 25 = .ok (.iload 5, 2) := by decide +kernel
theorem dX15_isStep_27 : decode cX15_isStep 27 = .ok (.ifCond .eq 41, 3) := by decide +kernel
theorem dX15_isStep_30 : decode cX15_isStep 30 = .ok (.iload 4, 2) := by decide +kernel
theorem dX15_isStep_32 : decode cX15_isStep 32 = .ok (.iload 5, 2) := by decide +kernel
theorem dX15_isStep_34 : decode cX15_isStep 34 = .ok (.iand, 1) := by decide +kernel
theorem dX15_isStep_35 : decode cX15_isStep 35 = .ok (.ifCond .ne 33, 3) := by decide +kernel
theorem dX15_isStep_38 : decode cX15_isStep 38 = .ok (.iload 6, 2) := by decide +kernel
theorem dX15_isStep_40 : decode cX15_isStep 40 = .ok (.iconst 1, 1) := by decide +kernel
theorem dX15_isStep_41 : decode cX15_isStep 41 = .ok (.iand, 1) := by decide +kernel
theorem dX15_isStep_42 : decode cX15_isStep 42 = .ok (.ifCond .eq 10, 3) := by decide +kernel
theorem dX15_isStep_45 : decode cX15_isStep 45 = .ok (.iload 6, 2) := by decide +kernel
theorem dX15_isStep_47 : decode cX15_isStep 47 = .ok (.iconst 2, 1) := by decide +kernel
theorem dX15_isStep_48 : decode cX15_isStep 48 = .ok (.iand, 1) := by decide +kernel
theorem dX15_isStep_49 : decode cX15_isStep 49 = .ok (.ifCond .ne 19, 3) := by decide +kernel
theorem dX15_isStep_52 : decode cX15_isStep 52 = .ok (.iload 6, 2) := by decide +kernel
theorem dX15_isStep_54 : decode cX15_isStep 54 = .ok (.bipush 8, 2) := by decide +kernel
theorem dX15_isStep_56 : decode cX15_isStep 56 = .ok (.iand, 1) := by decide +kernel
theorem dX15_isStep_57 : decode cX15_isStep 57 = .ok (.ifCond .eq 13, 3) := by decide +kernel
theorem dX15_isStep_60 : decode cX15_isStep 60 = .ok (.iload 6, 2) := by decide +kernel
theorem dX15_isStep_62 : decode cX15_isStep 62 = .ok (.bipush 16, 2) := by decide +kernel
theorem dX15_isStep_64 : decode cX15_isStep 64 = .ok (.iand, 1) := by decide +kernel
theorem dX15_isStep_65 : decode cX15_isStep 65 = .ok (.ifCond .eq 5, 3) := by decide +kernel
theorem dX15_isStep_68 : decode cX15_isStep 68 = .ok (.iconst 0, 1) := by decide +kernel
theorem dX15_isStep_69 : decode cX15_isStep 69 = .ok (.ireturn, 1) := by decide +kernel
theorem dX15_isStep_70 : decode cX15_isStep 70 = .ok (.iload 6, 2) := by decide +kernel
theorem dX15_isStep_72 : decode cX15_isStep 72 = .ok (.istore 4, 2) := by decide +kernel
theorem dX15_isStep_74 : decode cX15_isStep 74 = .ok (.aload_n 0, 1) := by decide +kernel
theorem dX15_isStep_75 : decode cX15_isStep 75 = .ok (.aload_n 1, 1) := by decide +kernel
theorem dX15_isStep_76 : decode cX15_isStep 76 = .ok (.iload_n 2, 1) := by decide +kernel
theorem dX15_isStep_77 : decode cX15_isStep 77 = .ok (.invokevirtual 74, 3) := by decide +kernel
theorem dX15_isStep_80 : decode cX15_isStep 80 = .ok (.goto (-77), 3) := by decide +kernel
theorem dX15_isStep_83 : decode cX15_isStep 83 = .ok (.aload_n 0, 1) := by decide +kernel
theorem dX15_isStep_84 : decode cX15_isStep 84 = .ok (.getfield 57, 3) := by decide +kernel
theorem dX15_isStep_87 : decode cX15_isStep 87 = .ok (.getfield 198, 3) := by decide +kernel
theorem dX15_isStep_90 : decode cX15_isStep 90 = .ok (.iload_n 3, 1) := by decide +kernel
theorem dX15_isStep_91 : decode cX15_isStep 91 = .ok (.iload 4, 2) := by decide +kernel
theorem dX15_isStep_93 : decode cX15_isStep 93 = .ok (.iastore, 1) := by decide +kernel
theorem dX15_isStep_94 : decode cX15_isStep 94 = .ok (.aload_n 0, 1) := by decide +kernel
theorem dX15_isStep_95 : decode cX15_isStep 95 = .ok (.bipush (-7), 2) := by decide +kernel
theorem dX15_isStep_97 : decode cX15_isStep 97 = .ok (.bipush 7, 2) := by decide +kernel
theorem dX15_isStep_99 : decode cX15_isStep 99 = .ok (.invokevirtual 84, 3) := by decide +kernel
theorem dX15_isStep_102 : decode cX15_isStep 102 = .ok (.ifCond .ne 5, 3) := by decide +kernel
theorem dX15_isStep_105 : decode cX15_isStep 105 = .ok (.iconst 0, 1) := by decide +kernel
theorem dX15_isStep_106 : decode cX15_isStep 106 = .ok (.ireturn, 1) := by decide +kernel
theorem dX15_isStep_107 : decode cX15_isStep 107 = .ok (.aload_n 0, 1) := by decide +kernel
theorem dX15_isStep_108 : decode cX15_isStep 108 = .ok (.getfield 57, 3) := by decide +kernel
theorem dX15_isStep_111 : decode cX15_isStep 111 = .ok (.getfield 201, 3) := by decide +kernel
theorem dX15_isStep_114 : decode cX15_isStep 114 = .ok (.iload_n 3, 1) := by decide +kernel
theorem dX15_isStep_115 : decode cX15_isStep 115 = .ok (.aload_n 0, 1) := by decide +kernel
theorem dX15_isStep_116 : decode cX15_isStep 116 = .ok (.getfield 44, 3) := by decide +kernel
theorem dX15_isStep_119 : decode cX15_isStep 119 = .ok (.iastore, 1) := by decide +kernel
theorem dX15_isStep_120 : decode cX15_isStep 120 = .ok (.aload_n 0, 1) := by decide +kernel
theorem dX15_isStep_121 : decode cX15_isStep 121 = .ok (.aload_n 1, 1) := by decide +kernel
theorem dX15_isStep_122 : decode cX15_isStep 122 = .ok (.iload_n 2, 1) := by decide +kernel
theorem dX15_isStep_123 : decode cX15_isStep 123 = .ok (.invokevirtual 74, 3) := by decide +kernel
theorem dX15_isStep_126 : decode cX15_isStep 126 = .ok (.aload_n 0, 1) := by decide +kernel
theorem dX15_isStep_127 : decode cX15_isStep 127 = .ok (.bipush (-7), 2) := by decide +kernel
theorem dX15_isStep_129 : decode cX15_isStep 129 = .ok (.bipush 7, 2) := by decide +kernel
theorem dX15_isStep_131 : decode cX15_isStep 131 = .ok (.invokevirtual 84, 3) := by decide +kernel
theorem dX15_isStep_134 : decode cX15_isStep 134 = .ok (.ifCond .eq 22, 3) := by decide +kernel
theorem dX15_isStep_137 : decode cX15_isStep 137 = .ok (.aload_n 0, 1) := by decide +kernel
theorem dX15_isStep_138 : decode cX15_isStep 138 = .ok (.getfield 44, 3) := by decide +kernel
theorem dX15_isStep_141 : decode cX15_isStep 141 = .ok (.ifCond .ne 17, 3) := by decide +kernel
theorem dX15_isStep_144 : decode cX15_isStep 144 = .ok (.aload_n 0, 1) := by decide +kernel
theorem dX15_isStep_145 : decode cX15_isStep 145 = .ok (.getfield 57, 3) := by decide +kernel
theorem dX15_isStep_148 : decode cX15_isStep 148 = .ok (.getfield 201, 3) := by decide +kernel
theorem dX15_isStep_151 : decode cX15_isStep 151 = .ok (.iload_n 3, 1) := by decide +kernel
theorem dX15_isStep_152 : decode cX15_isStep 152 = .ok (.iaload, 1) := by decide +kernel
theorem dX15_isStep_153 : decode cX15_isStep 153 = .ok (.ifCond .ne 5, 3) := by decide +kernel
theorem dX15_isStep_156 : decode cX15_isStep 156 = .ok (.iconst 0, 1) := by decide +kernel
theorem dX15_isStep_157 : decode cX15_isStep 157 = .ok (.ireturn, 1) := by decide +kernel
theorem dX15_isStep_158 : decode cX15_isStep 158 = .ok (.aload_n 0, 1) := by decide +kernel
theorem dX15_isStep_159 : decode cX15_isStep 159 = .ok (.getfield 57, 3) := by decide +kernel
theorem dX15_isStep_162 : decode cX15_isStep 162 = .ok (.getfield 204, 3) := by decide +kernel
theorem dX15_isStep_165 : decode cX15_isStep 165 = .ok (.iload_n 3, 1) := by decide +kernel
theorem dX15_isStep_166 : decode cX15_isStep 166 = .ok (.aload_n 0, 1) := by decide +kernel
theorem dX15_isStep_167 : decode cX15_isStep 167 = .ok (.getfield 44, 3) := by decide +kernel
theorem dX15_isStep_170 : decode cX15_isStep 170 = .ok (.iastore, 1) := by decide +kernel
theorem dX15_isStep_171 : decode cX15_isStep 171 = .ok (.aload_n 0, 1) := by decide +kernel
theorem dX15_isStep_172 : decode cX15_isStep 172 = .ok (.getfield 57, 3) := by decide +kernel
theorem dX15_isStep_175 : decode cX15_isStep 175 = .ok (.getfield 207, 3) := by decide +kernel
theorem dX15_isStep_178 : decode cX15_isStep 178 = .ok (.iload_n 3, 1) := by decide +kernel
theorem dX15_isStep_179 : decode cX15_isStep 179 = .ok (.iconst 1, 1) := by decide +kernel
theorem dX15_isStep_180 : decode cX15_isStep 180 = .ok (.iastore, 1) := by decide +kernel
theorem dX15_isStep_181 : decode cX15_isStep 181 = .ok (.aload_n 0, 1) := by decide +kernel
theorem dX15_isStep_182 : decode cX15_isStep 182 = .ok (.getfield 57, 3) := by decide +kernel
theorem dX15_isStep_185 : decode cX15_isStep 185 = .ok (.getfield 210, 3) := by decide +kernel
theorem dX15_isStep_188 : decode cX15_isStep 188 = .ok (.iload_n 3, 1) := by decide +kernel
theorem dX15_isStep_189 : decode cX15_isStep 189 = .ok (.iconst 0, 1) := by decide +kernel
theorem dX15_isStep_190 : decode cX15_isStep 190 = .ok (.iastore, 1) := by decide +kernel
theorem dX15_isStep_191 : decode cX15_isStep 191 = .ok (.aload_n 0, 1) := by decide +kernel
theorem dX15_isStep_192 : decode cX15_isStep 192 = .ok (.aload_n 1, 1) := by decide +kernel
theorem dX15_isStep_193 : decode cX15_isStep 193 = .ok (.iload_n 2, 1) := by decide +kernel
theorem dX15_isStep_194 : decode cX15_isStep 194 = .ok (.invokevirtual 74, 3) := by decide +kernel
theorem dX15_isStep_197 : decode cX15_isStep 197 = .ok (.aload_n 0, 1) := by decide +kernel
theorem dX15_isStep_198 : decode cX15_isStep 198 = .ok (.aload_n 1, 1) := by decide +kernel
theorem dX15_isStep_199 : decode cX15_isStep 199 = .ok (.ldc 213, 2) := by decide +kernel
theorem dX15_isStep_201 : decode cX15_isStep 201 = .ok (.invokevirtual 80, 3) := by decide +kernel
theorem dX15_isStep_204 : decode cX15_isStep 204 = .ok (.ifCond .eq 40, 3) := by decide +kernel
theorem dX15_isStep_207 : decode cX15_isStep 207 = .ok (.aload_n 0, 1) := by decide +kernel
theorem dX15_isStep_208 : decode cX15_isStep 208 = .ok (.aload_n 1, 1) := by decide +kernel
theorem dX15_isStep_209 : decode cX15_isStep 209 = .ok (.iload_n 2, 1) := by decide +kernel
theorem dX15_isStep_210 : decode cX15_isStep 210 = .ok (.invokevirtual 74, 3) := by decide +kernel
theorem dX15_isStep_213 : decode cX15_isStep 213 = .ok (.aload_n 0, 1) := by decide +kernel
theorem dX15_isStep_214 : decode cX15_isStep 214 = .ok (.iconst 2, 1) := by decide +kernel
theorem dX15_isStep_215 : decode cX15_isStep 215 = .ok (.bipush 7, 2) := by decide +kernel
theorem dX15_isStep_217 : decode cX15_isStep 217 = .ok (.invokevirtual 84, 3) := by decide +kernel
theorem dX15_isStep_220 : decode cX15_isStep 220 = .ok (.ifCond .ne 5, 3) := by decide +kernel
theorem dX15_isStep_223 : decode cX15_isStep 223 = .ok (.iconst 0, 1) := by decide +kernel
theorem dX15_isStep_224 : decode cX15_isStep 224 = .ok (.ireturn, 1) := by decide +kernel
theorem dX15_isStep_225 : decode cX15_isStep 225 = .ok (.aload_n 0, 1) := by decide +kernel
theorem dX15_isStep_226 : decode cX15_isStep 226 = .ok (.getfield 57, 3) := by decide +kernel
theorem dX15_isStep_229 : decode cX15_isStep 229 = .ok (.getfield 207, 3) := by decide +kernel
theorem dX15_isStep_232 : decode cX15_isStep 232 = .ok (.iload_n 3, 1) := by decide +kernel
theorem dX15_isStep_233 : decode cX15_isStep 233 = .ok (.aload_n 0, 1) := by decide +kernel
theorem dX15_isStep_234 : decode cX15_isStep 234 = .ok (.getfield 44, 3) := by decide +kernel
theorem dX15_isStep_237 : decode cX15_isStep 237 = .ok (.iastore, 1) := by decide +kernel
theorem dX15_isStep_238 : decode cX15_isStep 238 = .ok (.aload_n 0, 1) := by decide +kernel
theorem dX15_isStep_239 : decode cX15_isStep 239 = .ok (.aload_n 1, 1) := by decide +kernel
theorem dX15_isStep_240 : decode cX15_isStep 240 = .ok (.iload_n 2, 1) := by decide +kernel
theorem dX15_isStep_241 : decode cX15_isStep 241 = .ok (.invokevirtual 74, 3) := by decide +kernel
theorem dX15_isStep_244 : decode cX15_isStep 244 = .ok (.aload_n 0, 1) := by decide +kernel
theorem dX15_isStep_245 : decode cX15_isStep 245 = .ok (.aload_n 1, 1) := by decide +kernel
theorem dX15_isStep_246 : decode cX15_isStep 246 = .ok (.ldc 214, 2) := by decide +kernel
theorem dX15_isStep_248 : decode cX15_isStep 248 = .ok (.invokevirtual 80, 3) := by decide +kernel
theorem dX15_isStep_251 : decode cX15_isStep 251 = .ok (.ifCond .eq 45, 3) := by decide +kernel
theorem dX15_isStep_254 : decode cX15_isStep 254 = .ok (.aload_n 0, 1) := by decide +kernel
theorem dX15_isStep_255 : decode cX15_isStep 255 = .ok (.aload_n 1, 1) := by decide +kernel
theorem dX15_isStep_256 : decode cX15_isStep 256 = .ok (.iload_n 2, 1) := by decide +kernel
theorem dX15_isStep_257 : decode cX15_isStep 257 = .ok (.invokevirtual 74, 3) := by decide +kernel
theorem dX15_isStep_260 : decode cX15_isStep 260 = .ok (.aload_n 0, 1) := by decide +kernel
theorem dX15_isStep_261 : decode cX15_isStep 261 = .ok (.iconst 1, 1) := by decide +kernel
theorem dX15_isStep_262 : decode cX15_isStep 262 = .ok (.aload_n 0, 1) := by decide +kernel
theorem dX15_isStep_263 : decode cX15_isStep 263 = .ok (.getfield 57, 3) := by decide +kernel
theorem dX15_isStep_266 : decode cX15_isStep 266 = .ok (.getfield 91, 3) := by decide +kernel
theorem dX15_isStep_269 : decode cX15_isStep 269 = .ok (.invokevirtual 84, 3) := by decide +kernel
theorem dX15_isStep_272 : decode cX15_isStep 272 = .ok (.ifCond .ne 5, 3) := by decide +kernel
theorem dX15_isStep_275 : decode cX15_isStep 275 = .ok (.iconst 0, 1) := by decide +kernel
theorem dX15_isStep_276 : decode cX15_isStep 276 = .ok (.ireturn, 1) := by decide +kernel
theorem dX15_isStep_277 : decode cX15_isStep 277 = .ok (.aload_n 0, 1) := by decide +kernel
theorem dX15_isStep_278 : decode cX15_isStep 278 = .ok (.getfield 57, 3) := by decide +kernel
theorem dX15_isStep_281 : decode cX15_isStep 281 = .ok (.getfield 210, 3) := by decide +kernel
theorem dX15_isStep_284 : decode cX15_isStep 284 = .ok (.iload_n 3, 1) := by decide +kernel
theorem dX15_isStep_285 : decode cX15_isStep 285 = .ok (.aload_n 0, 1) := by decide +kernel
theorem dX15_isStep_286 : decode cX15_isStep 286 = .ok (.getfield 44, 3) := by decide +kernel
theorem dX15_isStep_289 : decode cX15_isStep 289 = .ok (.iastore, 1) := by decide +kernel
theorem dX15_isStep_290 : decode cX15_isStep 290 = .ok (.aload_n 0, 1) := by decide +kernel
theorem dX15_isStep_291 : decode cX15_isStep 291 = .ok (.aload_n 1, 1) := by decide +kernel
theorem dX15_isStep_292 : decode cX15_isStep 292 = .ok (.iload_n 2, 1) := by decide +kernel
theorem dX15_isStep_293 : decode cX15_isStep 293 = .ok (.invokevirtual 74, 3) := by decide +kernel
theorem dX15_isStep_296 : decode cX15_isStep 296 = .ok (.iconst 1, 1) := by decide +kernel
theorem dX15_isStep_297 : decode cX15_isStep 297 = .ok (.ireturn, 1) := by decide +kernel
set_option maxRecDepth 20000 in
theorem moX15_isStep_156 {o : Int32 × Hp} {F : Nat} {h : Hp} (hE : sX15_isStep_156 F h  = some o) : Le h o.2 := by
  exact le_some2 hE
set_option maxRecDepth 20000 in
theorem moX15_isStep_296 {o : Int32 × Hp} {F : Nat} {h : Hp} (hE : sX15_isStep_296 F h  = some o) : Le h o.2 := by
  exact le_some2 hE
set_option maxRecDepth 20000 in
theorem moX15_isStep_244 {o : Int32 × Hp} {F : Nat} {h : Hp} {x0 : Nat} {x1 : Nat} {x2 : Int32} {x3 : Int32} (hE : sX15_isStep_244 F h x0 x1 x2 x3 = some o) : Le h o.2 := by
  obtain ⟨o_1, eo_1, hE⟩ := cl_e hE
  refine (moX15_isWord eo_1).tr ?_
  rcases br_e hE with ⟨_, hE⟩ | ⟨_, hE⟩
  · exact moX15_isStep_296 hE
  · obtain ⟨o_3, eo_3, hE⟩ := cl_e hE
    refine (moX15_nextToken eo_3).tr ?_
    obtain ⟨r_4, er_4, hE⟩ := cl_e hE
    obtain ⟨o_5, eo_5, hE⟩ := cl_e hE
    refine (moX15_isNumber eo_5).tr ?_
    rcases br_e hE with ⟨_, hE⟩ | ⟨_, hE⟩
    · exact le_some2 hE
    · obtain ⟨r_7, er_7, hE⟩ := cl_e hE
      obtain ⟨r_8, er_8, hE⟩ := cl_e hE
      obtain ⟨g_9, hE⟩ := gd_e hE
      obtain ⟨h_10, eh_10, hE⟩ := nm_e2 hE
      refine (le_I eh_10).tr ?_
      obtain ⟨o_11, eo_11, hE⟩ := cl_e hE
      refine (moX15_nextToken eo_11).tr ?_
      exact moX15_isStep_296 hE
set_option maxRecDepth 20000 in
theorem moX15_isStep_158 {o : Int32 × Hp} {F : Nat} {h : Hp} {x0 : Nat} {x1 : Nat} {x2 : Int32} {x3 : Int32} (hE : sX15_isStep_158 F h x0 x1 x2 x3 = some o) : Le h o.2 := by
  obtain ⟨r_1, er_1, hE⟩ := cl_e hE
  obtain ⟨r_2, er_2, hE⟩ := cl_e hE
  obtain ⟨g_3, hE⟩ := gd_e hE
  obtain ⟨h_4, eh_4, hE⟩ := nm_e2 hE
  refine (le_I eh_4).tr ?_
  obtain ⟨r_5, er_5, hE⟩ := cl_e hE
  obtain ⟨r_6, er_6, hE⟩ := cl_e hE
  obtain ⟨g_7, hE⟩ := gd_e hE
  obtain ⟨h_8, eh_8, hE⟩ := nm_e2 hE
  refine (le_I eh_8).tr ?_
  obtain ⟨r_9, er_9, hE⟩ := cl_e hE
  obtain ⟨r_10, er_10, hE⟩ := cl_e hE
  obtain ⟨g_11, hE⟩ := gd_e hE
  obtain ⟨h_12, eh_12, hE⟩ := nm_e2 hE
  refine (le_I eh_12).tr ?_
  obtain ⟨o_13, eo_13, hE⟩ := cl_e hE
  refine (moX15_nextToken eo_13).tr ?_
  obtain ⟨o_14, eo_14, hE⟩ := cl_e hE
  refine (moX15_isWord eo_14).tr ?_
  rcases br_e hE with ⟨_, hE⟩ | ⟨_, hE⟩
  · exact moX15_isStep_244 hE
  · obtain ⟨o_16, eo_16, hE⟩ := cl_e hE
    refine (moX15_nextToken eo_16).tr ?_
    obtain ⟨o_17, eo_17, hE⟩ := cl_e hE
    refine (moX15_isNumber eo_17).tr ?_
    rcases br_e hE with ⟨_, hE⟩ | ⟨_, hE⟩
    · exact le_some2 hE
    · obtain ⟨r_19, er_19, hE⟩ := cl_e hE
      obtain ⟨r_20, er_20, hE⟩ := cl_e hE
      obtain ⟨g_21, hE⟩ := gd_e hE
      obtain ⟨h_22, eh_22, hE⟩ := nm_e2 hE
      refine (le_I eh_22).tr ?_
      obtain ⟨o_23, eo_23, hE⟩ := cl_e hE
      refine (moX15_nextToken eo_23).tr ?_
      exact moX15_isStep_244 hE
set_option maxRecDepth 20000 in
theorem moX15_isStep_68 {o : Int32 × Hp} {F : Nat} {h : Hp} (hE : sX15_isStep_68 F h  = some o) : Le h o.2 := by
  exact le_some2 hE
set_option maxRecDepth 20000 in
theorem moX15_isStep_70 {o : Int32 × Hp} {k_3 : Hp → Nat → Nat → Int32 → Int32 → Int32 → Option (Int32 × Hp)} {F : Nat} (mk_3 : ∀ (h : Hp) (x0 : Nat) (x1 : Nat) (x2 : Int32) (x3 : Int32) (x4 : Int32), k_3 h x0 x1 x2 x3 x4 = some o → Le h o.2) {h : Hp} {x0 : Nat} {x1 : Nat} {x2 : Int32} {x3 : Int32} {x6 : Int32} (hE : sX15_isStep_70 F k_3 h x0 x1 x2 x3 x6 = some o) : Le h o.2 := by
  obtain ⟨o_1, eo_1, hE⟩ := cl_e hE
  refine (moX15_nextToken eo_1).tr ?_
  exact mk_3 _ _ _ _ _ _ hE
set_option maxRecDepth 20000 in
theorem moX15_isStep_52 {o : Int32 × Hp} {k_3 : Hp → Nat → Nat → Int32 → Int32 → Int32 → Option (Int32 × Hp)} {F : Nat} (mk_3 : ∀ (h : Hp) (x0 : Nat) (x1 : Nat) (x2 : Int32) (x3 : Int32) (x4 : Int32), k_3 h x0 x1 x2 x3 x4 = some o → Le h o.2) {h : Hp} {x0 : Nat} {x1 : Nat} {x2 : Int32} {x3 : Int32} {x6 : Int32} (hE : sX15_isStep_52 F k_3 h x0 x1 x2 x3 x6 = some o) : Le h o.2 := by
  rcases br_e hE with ⟨_, hE⟩ | ⟨_, hE⟩
  · exact moX15_isStep_70 mk_3 hE
  · rcases br_e hE with ⟨_, hE⟩ | ⟨_, hE⟩
    · exact moX15_isStep_70 mk_3 hE
    · exact moX15_isStep_68 hE
set_option maxRecDepth 20000 in
theorem moX15_isStep_3 {o : Int32 × Hp} {F : Nat} : ∀ (f : Nat) {h : Hp} {x0 : Nat} {x1 : Nat} {x2 : Int32} {x3 : Int32} {x4 : Int32}, sX15_isStep_3 F f h x0 x1 x2 x3 x4 = some o → Le h o.2 := by
  intro f
  induction f with
  | zero =>
    intro h x0 x1 x2 x3 x4 hE
    rw [sX15_isStep_3] at hE
    cases hE
  | succ f ih =>
    intro h x0 x1 x2 x3 x4 hE
    rw [sX15_isStep_3] at hE
    have mk_3 : ∀ (h : Hp) (x0 : Nat) (x1 : Nat) (x2 : Int32) (x3 : Int32) (x4 : Int32), sX15_isStep_3 F f h x0 x1 x2 x3 x4 = some o → Le h o.2 := fun h x0 x1 x2 x3 x4 hE => ih hE
    rcases br_e hE with ⟨_, hE⟩ | ⟨_, hE⟩
    · obtain ⟨o_20, eo_20, hE⟩ := cl_e hE
      refine (moX15_flagAt eo_20).tr ?_
      obtain ⟨v_21, ev_21, hE⟩ := nm_e2 hE
      rcases br_e hE with ⟨_, hE⟩ | ⟨_, hE⟩
      · exact moX15_isStep_68 hE
      · rcases br_e hE with ⟨_, hE⟩ | ⟨_, hE⟩
        · rcases br_e hE with ⟨_, hE⟩ | ⟨_, hE⟩
          · exact moX15_isStep_52 mk_3 hE
          · rcases br_e hE with ⟨_, hE⟩ | ⟨_, hE⟩
            · exact moX15_isStep_52 mk_3 hE
            · exact moX15_isStep_68 hE
        · exact moX15_isStep_68 hE
    · obtain ⟨r_2, er_2, hE⟩ := cl_e hE
      obtain ⟨r_3, er_3, hE⟩ := cl_e hE
      obtain ⟨g_4, hE⟩ := gd_e hE
      obtain ⟨h_5, eh_5, hE⟩ := nm_e2 hE
      refine (le_I eh_5).tr ?_
      obtain ⟨o_6, eo_6, hE⟩ := cl_e hE
      refine (moX15_isNumber eo_6).tr ?_
      rcases br_e hE with ⟨_, hE⟩ | ⟨_, hE⟩
      · exact le_some2 hE
      · obtain ⟨r_8, er_8, hE⟩ := cl_e hE
        obtain ⟨r_9, er_9, hE⟩ := cl_e hE
        obtain ⟨g_10, hE⟩ := gd_e hE
        obtain ⟨h_11, eh_11, hE⟩ := nm_e2 hE
        refine (le_I eh_11).tr ?_
        obtain ⟨o_12, eo_12, hE⟩ := cl_e hE
        refine (moX15_nextToken eo_12).tr ?_
        obtain ⟨o_13, eo_13, hE⟩ := cl_e hE
        refine (moX15_isNumber eo_13).tr ?_
        rcases br_e hE with ⟨_, hE⟩ | ⟨_, hE⟩
        · exact moX15_isStep_156 hE
        · rcases br_e hE with ⟨_, hE⟩ | ⟨_, hE⟩
          · obtain ⟨r_16, er_16, hE⟩ := cl_e hE
            obtain ⟨r_17, er_17, hE⟩ := cl_e hE
            obtain ⟨g_18, hE⟩ := gd_e hE
            rcases br_e hE with ⟨_, hE⟩ | ⟨_, hE⟩
            · exact moX15_isStep_156 hE
            · exact moX15_isStep_158 hE
          · exact moX15_isStep_158 hE
set_option maxRecDepth 20000 in
theorem moX15_isStep {o : Int32 × Hp} {F : Nat} {h : Hp} {x0 : Nat} {x1 : Nat} {x2 : Int32} {x3 : Int32} (hE : sX15_isStep F h x0 x1 x2 x3 = some o) : Le h o.2 := by
  exact moX15_isStep_3 _ hE
set_option maxRecDepth 20000 in
theorem bX15_isStep_156 {p : Program} {l : Launch} {e : Env} {s : State} {m : MethodId} {args : Array Value} {below : List Frame} {meth : Method} {c : Code} {X : Ec} {h0 : Hp} {o : Int32 × Hp} {F : Nat} (C : Cx X p s m args meth c RX15 cX15_isStep 7 (some .boolean) "isStep") {h : Hp} {H : Heap} {locs : List Loc} (hkm : Km h0 h) (hW : Wx X h H) (hZ : va_S (aA (eB X)) s.heap H locs) (ls : Array Slot) (hl : lv_has ls 7 []) (hE : sX15_isStep_156 F h  = some o) : W p l e (rm 6 129) s m args below meth c H locs 0 0 (MQ below (QI X h0 o.1 o.2) args s 0 0 (aA (eB X))) (F0 m 156 ls []) := by
  refine lv_iconst (v := (0 : Int32)) C.1 C.2.1 dX15_isStep_156 (by decide) ?_
  exact x_iret C rfl (by decide) hW hZ hkm hE dX15_isStep_157
set_option maxRecDepth 20000 in
theorem bX15_isStep_296 {p : Program} {l : Launch} {e : Env} {s : State} {m : MethodId} {args : Array Value} {below : List Frame} {meth : Method} {c : Code} {X : Ec} {h0 : Hp} {o : Int32 × Hp} {F : Nat} (C : Cx X p s m args meth c RX15 cX15_isStep 7 (some .boolean) "isStep") {h : Hp} {H : Heap} {locs : List Loc} (hkm : Km h0 h) (hW : Wx X h H) (hZ : va_S (aA (eB X)) s.heap H locs) (ls : Array Slot) (hl : lv_has ls 7 []) (hE : sX15_isStep_296 F h  = some o) : W p l e (rm 6 129) s m args below meth c H locs 0 0 (MQ below (QI X h0 o.1 o.2) args s 0 0 (aA (eB X))) (F0 m 296 ls []) := by
  refine lv_iconst (v := (1 : Int32)) C.1 C.2.1 dX15_isStep_296 (by decide) ?_
  exact x_iret C rfl (by decide) hW hZ hkm hE dX15_isStep_297
set_option maxRecDepth 20000 in
theorem bX15_isStep_244 {p : Program} {l : Launch} {e : Env} {s : State} {m : MethodId} {args : Array Value} {below : List Frame} {meth : Method} {c : Code} {X : Ec} {h0 : Hp} {o : Int32 × Hp} {F : Nat} (C : Cx X p s m args meth c RX15 cX15_isStep 7 (some .boolean) "isStep") {h : Hp} {x0 : Nat} {x1 : Nat} {x2 : Int32} {x3 : Int32} {H : Heap} {locs : List Loc} (k_x0 : hK h x0 = 15) (k_x1 : hK h x1 = 16) (hkm : Km h0 h) (hW : Wx X h H) (hZ : va_S (aA (eB X)) s.heap H locs) (ls : Array Slot) (hl : lv_has ls 7 [(0, .ref x0), (1, .ref x1), (2, .int x2), (3, .int x3)]) (hE : sX15_isStep_244 F h x0 x1 x2 x3 = some o) : W p l e (rm 6 129) s m args below meth c H locs 0 0 (MQ below (QI X h0 o.1 o.2) args s 0 0 (aA (eB X))) (F0 m 244 ls []) := by
  refine lv_aload_n C.1 C.2.1 dX15_isStep_244 rfl (lv_at hl 0 rfl) ?_
  refine lv_aload_n C.1 C.2.1 dX15_isStep_245 rfl (lv_at hl 1 rfl) ?_
  refine va_ldcS C.1 C.2.1 C.2.2.2.1 (C.2.2.2.2.2.2.2.2.1 38 (by decide)).2 dX15_isStep_246 ?_
  obtain ⟨o_1, eo_1, hE⟩ := cl_e hE
  refine x_kI (o := o_1) (z_runV (As := [.ref x1, .ref (X.2.2.2.1 38)]) (rest := []) C (ct_X15_isWord l X F k_x0 k_x1 (by decide) eo_1) cw_X15_80 hW hZ k_x0 (by decide) rfl rfl rfl hl.1 (Nat.le_of_ble_eq_true rfl) rfl dX15_isStep_248 ⟨Nat.le_of_ble_eq_true rfl, Nat.le_of_ble_eq_true rfl⟩ ⟨Nat.le_refl _, Nat.le_refl _⟩) hZ (fun _ _ hW km hZ => ?_)
  replace hkm := hkm.tr km
  replace k_x0 := km.at k_x0 (by decide)
  replace k_x1 := km.at k_x1 (by decide)
  refine lv_if_eq (tgt := 296) C.1 C.2.1 dX15_isStep_251 (by decide) (fun c_2 => ?_) (fun c_2 => ?_)
  · have hE := br_p hE c_2
    exact bX15_isStep_296 C hkm hW hZ _ (lv_sub hl [] rfl) hE
  · have hE := br_n hE c_2
    refine lv_aload_n C.1 C.2.1 dX15_isStep_254 rfl (lv_at hl 0 rfl) ?_
    refine lv_aload_n C.1 C.2.1 dX15_isStep_255 rfl (lv_at hl 1 rfl) ?_
    refine lv_iload_n C.1 C.2.1 dX15_isStep_256 rfl (lv_at hl 2 rfl) ?_
    obtain ⟨o_3, eo_3, hE⟩ := cl_e hE
    refine x_kV (o := o_3) (z_runV (As := [.ref x1, .int x2]) (rest := []) C (ct_X15_nextToken l X F k_x0 k_x1 eo_3) cw_X15_74 hW hZ k_x0 (by decide) rfl rfl rfl hl.1 (Nat.le_of_ble_eq_true rfl) rfl dX15_isStep_257 ⟨Nat.le_of_ble_eq_true rfl, Nat.le_of_ble_eq_true rfl⟩ ⟨Nat.le_refl _, Nat.le_refl _⟩) hZ (fun _ _ hW km hZ => ?_)
    replace hkm := hkm.tr km
    replace k_x0 := km.at k_x0 (by decide)
    replace k_x1 := km.at k_x1 (by decide)
    refine lv_aload_n C.1 C.2.1 dX15_isStep_260 rfl (lv_at hl 0 rfl) ?_
    refine lv_iconst (v := (1 : Int32)) C.1 C.2.1 dX15_isStep_261 (by decide) ?_
    refine lv_aload_n C.1 C.2.1 dX15_isStep_262 rfl (lv_at hl 0 rfl) ?_
    obtain ⟨r_4, er_4, hE⟩ := cl_e hE
    refine gf_X15_57 C hW k_x0 er_4 dX15_isStep_263 (fun k_r_4 => ?_)
    refine gf_X15_91 C hW k_r_4 dX15_isStep_266 ?_
    obtain ⟨o_5, eo_5, hE⟩ := cl_e hE
    refine x_kI (o := o_5) (z_runV (As := [.int (1 : Int32), .int (hI o_3 r_4 1)]) (rest := []) C (ct_X15_isNumber l X k_x0 eo_5) cw_X15_84 hW hZ k_x0 (by decide) rfl rfl rfl hl.1 (Nat.le_of_ble_eq_true rfl) rfl dX15_isStep_269 ⟨Nat.le_of_ble_eq_true rfl, Nat.le_of_ble_eq_true rfl⟩ ⟨Nat.le_refl _, Nat.le_refl _⟩) hZ (fun _ _ hW km hZ => ?_)
    replace hkm := hkm.tr km
    replace k_x0 := km.at k_x0 (by decide)
    replace k_x1 := km.at k_x1 (by decide)
    refine lv_if_ne (tgt := 277) C.1 C.2.1 dX15_isStep_272 (by decide) (fun c_6 => ?_) (fun c_6 => ?_)
    · have hE := br_n hE c_6
      refine lv_aload_n C.1 C.2.1 dX15_isStep_277 rfl (lv_at hl 0 rfl) ?_
      obtain ⟨r_7, er_7, hE⟩ := cl_e hE
      refine gf_X15_57 C hW k_x0 er_7 dX15_isStep_278 (fun k_r_7 => ?_)
      obtain ⟨r_8, er_8, hE⟩ := cl_e hE
      refine gf_X15_210 C hW k_r_7 er_8 dX15_isStep_281 (fun k_r_8 => ?_)
      refine lv_iload_n C.1 C.2.1 dX15_isStep_284 rfl (lv_at hl 3 rfl) ?_
      refine lv_aload_n C.1 C.2.1 dX15_isStep_285 rfl (lv_at hl 0 rfl) ?_
      refine gf_X15_44 C hW k_x0 dX15_isStep_286 ?_
      obtain ⟨g_9, hE⟩ := gd_e hE
      obtain ⟨h_10, eh_10, hE⟩ := nm_e2 hE
      refine y_iast C hW hZ k_r_8 g_9 eh_10 dX15_isStep_289 (fun _ _ hW km hZ => ?_)
      replace hkm := hkm.tr km
      replace k_x0 := km.at k_x0 (by decide)
      replace k_x1 := km.at k_x1 (by decide)
      refine lv_aload_n C.1 C.2.1 dX15_isStep_290 rfl (lv_at hl 0 rfl) ?_
      refine lv_aload_n C.1 C.2.1 dX15_isStep_291 rfl (lv_at hl 1 rfl) ?_
      refine lv_iload_n C.1 C.2.1 dX15_isStep_292 rfl (lv_at hl 2 rfl) ?_
      obtain ⟨o_11, eo_11, hE⟩ := cl_e hE
      refine x_kV (o := o_11) (z_runV (As := [.ref x1, .int x2]) (rest := []) C (ct_X15_nextToken l X F k_x0 k_x1 eo_11) cw_X15_74 hW hZ k_x0 (by decide) rfl rfl rfl hl.1 (Nat.le_of_ble_eq_true rfl) rfl dX15_isStep_293 ⟨Nat.le_of_ble_eq_true rfl, Nat.le_of_ble_eq_true rfl⟩ ⟨Nat.le_refl _, Nat.le_refl _⟩) hZ (fun _ _ hW km hZ => ?_)
      replace hkm := hkm.tr km
      replace k_x0 := km.at k_x0 (by decide)
      replace k_x1 := km.at k_x1 (by decide)
      exact bX15_isStep_296 C hkm hW hZ _ (lv_sub hl [] rfl) hE
    · have hE := br_p hE c_6
      refine lv_iconst (v := (0 : Int32)) C.1 C.2.1 dX15_isStep_275 (by decide) ?_
      exact x_iret C rfl (by decide) hW hZ hkm hE dX15_isStep_276
set_option maxRecDepth 20000 in
theorem bX15_isStep_158 {p : Program} {l : Launch} {e : Env} {s : State} {m : MethodId} {args : Array Value} {below : List Frame} {meth : Method} {c : Code} {X : Ec} {h0 : Hp} {o : Int32 × Hp} {F : Nat} (C : Cx X p s m args meth c RX15 cX15_isStep 7 (some .boolean) "isStep") {h : Hp} {x0 : Nat} {x1 : Nat} {x2 : Int32} {x3 : Int32} {H : Heap} {locs : List Loc} (k_x0 : hK h x0 = 15) (k_x1 : hK h x1 = 16) (hkm : Km h0 h) (hW : Wx X h H) (hZ : va_S (aA (eB X)) s.heap H locs) (ls : Array Slot) (hl : lv_has ls 7 [(0, .ref x0), (1, .ref x1), (2, .int x2), (3, .int x3)]) (hE : sX15_isStep_158 F h x0 x1 x2 x3 = some o) : W p l e (rm 6 129) s m args below meth c H locs 0 0 (MQ below (QI X h0 o.1 o.2) args s 0 0 (aA (eB X))) (F0 m 158 ls []) := by
  refine lv_aload_n C.1 C.2.1 dX15_isStep_158 rfl (lv_at hl 0 rfl) ?_
  obtain ⟨r_1, er_1, hE⟩ := cl_e hE
  refine gf_X15_57 C hW k_x0 er_1 dX15_isStep_159 (fun k_r_1 => ?_)
  obtain ⟨r_2, er_2, hE⟩ := cl_e hE
  refine gf_X15_204 C hW k_r_1 er_2 dX15_isStep_162 (fun k_r_2 => ?_)
  refine lv_iload_n C.1 C.2.1 dX15_isStep_165 rfl (lv_at hl 3 rfl) ?_
  refine lv_aload_n C.1 C.2.1 dX15_isStep_166 rfl (lv_at hl 0 rfl) ?_
  refine gf_X15_44 C hW k_x0 dX15_isStep_167 ?_
  obtain ⟨g_3, hE⟩ := gd_e hE
  obtain ⟨h_4, eh_4, hE⟩ := nm_e2 hE
  refine y_iast C hW hZ k_r_2 g_3 eh_4 dX15_isStep_170 (fun _ _ hW km hZ => ?_)
  replace hkm := hkm.tr km
  replace k_x0 := km.at k_x0 (by decide)
  replace k_x1 := km.at k_x1 (by decide)
  refine lv_aload_n C.1 C.2.1 dX15_isStep_171 rfl (lv_at hl 0 rfl) ?_
  obtain ⟨r_5, er_5, hE⟩ := cl_e hE
  refine gf_X15_57 C hW k_x0 er_5 dX15_isStep_172 (fun k_r_5 => ?_)
  obtain ⟨r_6, er_6, hE⟩ := cl_e hE
  refine gf_X15_207 C hW k_r_5 er_6 dX15_isStep_175 (fun k_r_6 => ?_)
  refine lv_iload_n C.1 C.2.1 dX15_isStep_178 rfl (lv_at hl 3 rfl) ?_
  refine lv_iconst (v := (1 : Int32)) C.1 C.2.1 dX15_isStep_179 (by decide) ?_
  obtain ⟨g_7, hE⟩ := gd_e hE
  obtain ⟨h_8, eh_8, hE⟩ := nm_e2 hE
  refine y_iast C hW hZ k_r_6 g_7 eh_8 dX15_isStep_180 (fun _ _ hW km hZ => ?_)
  replace hkm := hkm.tr km
  replace k_x0 := km.at k_x0 (by decide)
  replace k_x1 := km.at k_x1 (by decide)
  refine lv_aload_n C.1 C.2.1 dX15_isStep_181 rfl (lv_at hl 0 rfl) ?_
  obtain ⟨r_9, er_9, hE⟩ := cl_e hE
  refine gf_X15_57 C hW k_x0 er_9 dX15_isStep_182 (fun k_r_9 => ?_)
  obtain ⟨r_10, er_10, hE⟩ := cl_e hE
  refine gf_X15_210 C hW k_r_9 er_10 dX15_isStep_185 (fun k_r_10 => ?_)
  refine lv_iload_n C.1 C.2.1 dX15_isStep_188 rfl (lv_at hl 3 rfl) ?_
  refine lv_iconst (v := (0 : Int32)) C.1 C.2.1 dX15_isStep_189 (by decide) ?_
  obtain ⟨g_11, hE⟩ := gd_e hE
  obtain ⟨h_12, eh_12, hE⟩ := nm_e2 hE
  refine y_iast C hW hZ k_r_10 g_11 eh_12 dX15_isStep_190 (fun _ _ hW km hZ => ?_)
  replace hkm := hkm.tr km
  replace k_x0 := km.at k_x0 (by decide)
  replace k_x1 := km.at k_x1 (by decide)
  refine lv_aload_n C.1 C.2.1 dX15_isStep_191 rfl (lv_at hl 0 rfl) ?_
  refine lv_aload_n C.1 C.2.1 dX15_isStep_192 rfl (lv_at hl 1 rfl) ?_
  refine lv_iload_n C.1 C.2.1 dX15_isStep_193 rfl (lv_at hl 2 rfl) ?_
  obtain ⟨o_13, eo_13, hE⟩ := cl_e hE
  refine x_kV (o := o_13) (z_runV (As := [.ref x1, .int x2]) (rest := []) C (ct_X15_nextToken l X F k_x0 k_x1 eo_13) cw_X15_74 hW hZ k_x0 (by decide) rfl rfl rfl hl.1 (Nat.le_of_ble_eq_true rfl) rfl dX15_isStep_194 ⟨Nat.le_of_ble_eq_true rfl, Nat.le_of_ble_eq_true rfl⟩ ⟨Nat.le_refl _, Nat.le_refl _⟩) hZ (fun _ _ hW km hZ => ?_)
  replace hkm := hkm.tr km
  replace k_x0 := km.at k_x0 (by decide)
  replace k_x1 := km.at k_x1 (by decide)
  refine lv_aload_n C.1 C.2.1 dX15_isStep_197 rfl (lv_at hl 0 rfl) ?_
  refine lv_aload_n C.1 C.2.1 dX15_isStep_198 rfl (lv_at hl 1 rfl) ?_
  refine va_ldcS C.1 C.2.1 C.2.2.2.1 (C.2.2.2.2.2.2.2.2.1 37 (by decide)).2 dX15_isStep_199 ?_
  obtain ⟨o_14, eo_14, hE⟩ := cl_e hE
  refine x_kI (o := o_14) (z_runV (As := [.ref x1, .ref (X.2.2.2.1 37)]) (rest := []) C (ct_X15_isWord l X F k_x0 k_x1 (by decide) eo_14) cw_X15_80 hW hZ k_x0 (by decide) rfl rfl rfl hl.1 (Nat.le_of_ble_eq_true rfl) rfl dX15_isStep_201 ⟨Nat.le_of_ble_eq_true rfl, Nat.le_of_ble_eq_true rfl⟩ ⟨Nat.le_refl _, Nat.le_refl _⟩) hZ (fun _ _ hW km hZ => ?_)
  replace hkm := hkm.tr km
  replace k_x0 := km.at k_x0 (by decide)
  replace k_x1 := km.at k_x1 (by decide)
  refine lv_if_eq (tgt := 244) C.1 C.2.1 dX15_isStep_204 (by decide) (fun c_15 => ?_) (fun c_15 => ?_)
  · have hE := br_p hE c_15
    exact bX15_isStep_244 C k_x0 k_x1 hkm hW hZ _ (lv_sub hl [0, 1, 2, 3] rfl) hE
  · have hE := br_n hE c_15
    refine lv_aload_n C.1 C.2.1 dX15_isStep_207 rfl (lv_at hl 0 rfl) ?_
    refine lv_aload_n C.1 C.2.1 dX15_isStep_208 rfl (lv_at hl 1 rfl) ?_
    refine lv_iload_n C.1 C.2.1 dX15_isStep_209 rfl (lv_at hl 2 rfl) ?_
    obtain ⟨o_16, eo_16, hE⟩ := cl_e hE
    refine x_kV (o := o_16) (z_runV (As := [.ref x1, .int x2]) (rest := []) C (ct_X15_nextToken l X F k_x0 k_x1 eo_16) cw_X15_74 hW hZ k_x0 (by decide) rfl rfl rfl hl.1 (Nat.le_of_ble_eq_true rfl) rfl dX15_isStep_210 ⟨Nat.le_of_ble_eq_true rfl, Nat.le_of_ble_eq_true rfl⟩ ⟨Nat.le_refl _, Nat.le_refl _⟩) hZ (fun _ _ hW km hZ => ?_)
    replace hkm := hkm.tr km
    replace k_x0 := km.at k_x0 (by decide)
    replace k_x1 := km.at k_x1 (by decide)
    refine lv_aload_n C.1 C.2.1 dX15_isStep_213 rfl (lv_at hl 0 rfl) ?_
    refine lv_iconst (v := (2 : Int32)) C.1 C.2.1 dX15_isStep_214 (by decide) ?_
    refine lv_bipush (v := (7 : Int32)) C.1 C.2.1 dX15_isStep_215 (by decide) ?_
    obtain ⟨o_17, eo_17, hE⟩ := cl_e hE
    refine x_kI (o := o_17) (z_runV (As := [.int (2 : Int32), .int (7 : Int32)]) (rest := []) C (ct_X15_isNumber l X k_x0 eo_17) cw_X15_84 hW hZ k_x0 (by decide) rfl rfl rfl hl.1 (Nat.le_of_ble_eq_true rfl) rfl dX15_isStep_217 ⟨Nat.le_of_ble_eq_true rfl, Nat.le_of_ble_eq_true rfl⟩ ⟨Nat.le_refl _, Nat.le_refl _⟩) hZ (fun _ _ hW km hZ => ?_)
    replace hkm := hkm.tr km
    replace k_x0 := km.at k_x0 (by decide)
    replace k_x1 := km.at k_x1 (by decide)
    refine lv_if_ne (tgt := 225) C.1 C.2.1 dX15_isStep_220 (by decide) (fun c_18 => ?_) (fun c_18 => ?_)
    · have hE := br_n hE c_18
      refine lv_aload_n C.1 C.2.1 dX15_isStep_225 rfl (lv_at hl 0 rfl) ?_
      obtain ⟨r_19, er_19, hE⟩ := cl_e hE
      refine gf_X15_57 C hW k_x0 er_19 dX15_isStep_226 (fun k_r_19 => ?_)
      obtain ⟨r_20, er_20, hE⟩ := cl_e hE
      refine gf_X15_207 C hW k_r_19 er_20 dX15_isStep_229 (fun k_r_20 => ?_)
      refine lv_iload_n C.1 C.2.1 dX15_isStep_232 rfl (lv_at hl 3 rfl) ?_
      refine lv_aload_n C.1 C.2.1 dX15_isStep_233 rfl (lv_at hl 0 rfl) ?_
      refine gf_X15_44 C hW k_x0 dX15_isStep_234 ?_
      obtain ⟨g_21, hE⟩ := gd_e hE
      obtain ⟨h_22, eh_22, hE⟩ := nm_e2 hE
      refine y_iast C hW hZ k_r_20 g_21 eh_22 dX15_isStep_237 (fun _ _ hW km hZ => ?_)
      replace hkm := hkm.tr km
      replace k_x0 := km.at k_x0 (by decide)
      replace k_x1 := km.at k_x1 (by decide)
      refine lv_aload_n C.1 C.2.1 dX15_isStep_238 rfl (lv_at hl 0 rfl) ?_
      refine lv_aload_n C.1 C.2.1 dX15_isStep_239 rfl (lv_at hl 1 rfl) ?_
      refine lv_iload_n C.1 C.2.1 dX15_isStep_240 rfl (lv_at hl 2 rfl) ?_
      obtain ⟨o_23, eo_23, hE⟩ := cl_e hE
      refine x_kV (o := o_23) (z_runV (As := [.ref x1, .int x2]) (rest := []) C (ct_X15_nextToken l X F k_x0 k_x1 eo_23) cw_X15_74 hW hZ k_x0 (by decide) rfl rfl rfl hl.1 (Nat.le_of_ble_eq_true rfl) rfl dX15_isStep_241 ⟨Nat.le_of_ble_eq_true rfl, Nat.le_of_ble_eq_true rfl⟩ ⟨Nat.le_refl _, Nat.le_refl _⟩) hZ (fun _ _ hW km hZ => ?_)
      replace hkm := hkm.tr km
      replace k_x0 := km.at k_x0 (by decide)
      replace k_x1 := km.at k_x1 (by decide)
      exact bX15_isStep_244 C k_x0 k_x1 hkm hW hZ _ (lv_sub hl [0, 1, 2, 3] rfl) hE
    · have hE := br_p hE c_18
      refine lv_iconst (v := (0 : Int32)) C.1 C.2.1 dX15_isStep_223 (by decide) ?_
      exact x_iret C rfl (by decide) hW hZ hkm hE dX15_isStep_224
set_option maxRecDepth 20000 in
theorem bX15_isStep_68 {p : Program} {l : Launch} {e : Env} {s : State} {m : MethodId} {args : Array Value} {below : List Frame} {meth : Method} {c : Code} {X : Ec} {h0 : Hp} {o : Int32 × Hp} {F : Nat} (C : Cx X p s m args meth c RX15 cX15_isStep 7 (some .boolean) "isStep") {h : Hp} {H : Heap} {locs : List Loc} (hkm : Km h0 h) (hW : Wx X h H) (hZ : va_S (aA (eB X)) s.heap H locs) (ls : Array Slot) (hl : lv_has ls 7 []) (hE : sX15_isStep_68 F h  = some o) : W p l e (rm 6 129) s m args below meth c H locs 0 0 (MQ below (QI X h0 o.1 o.2) args s 0 0 (aA (eB X))) (F0 m 68 ls []) := by
  refine lv_iconst (v := (0 : Int32)) C.1 C.2.1 dX15_isStep_68 (by decide) ?_
  exact x_iret C rfl (by decide) hW hZ hkm hE dX15_isStep_69
set_option maxRecDepth 20000 in
theorem bX15_isStep_70 {p : Program} {l : Launch} {e : Env} {s : State} {m : MethodId} {args : Array Value} {below : List Frame} {meth : Method} {c : Code} {X : Ec} {h0 : Hp} {o : Int32 × Hp} {k_3 : Hp → Nat → Nat → Int32 → Int32 → Int32 → Option (Int32 × Hp)} {F : Nat} (C : Cx X p s m args meth c RX15 cX15_isStep 7 (some .boolean) "isStep") (hk_3 : ∀ (h : Hp) (x0 : Nat) (x1 : Nat) (x2 : Int32) (x3 : Int32) (x4 : Int32) (H : Heap) (locs : List Loc), hK h x0 = 15 → hK h x1 = 16 → Km h0 h → Wx X h H → va_S (aA (eB X)) s.heap H locs → ∀ (ls : Array Slot), lv_has ls 7 [(0, .ref x0), (1, .ref x1), (2, .int x2), (3, .int x3), (4, .int x4)] → k_3 h x0 x1 x2 x3 x4 = some o → W p l e (rm 6 129) s m args below meth c H locs 0 0 (MQ below (QI X h0 o.1 o.2) args s 0 0 (aA (eB X))) (F0 m 3 ls [])) {h : Hp} {x0 : Nat} {x1 : Nat} {x2 : Int32} {x3 : Int32} {x6 : Int32} {H : Heap} {locs : List Loc} (k_x0 : hK h x0 = 15) (k_x1 : hK h x1 = 16) (hkm : Km h0 h) (hW : Wx X h H) (hZ : va_S (aA (eB X)) s.heap H locs) (ls : Array Slot) (hl : lv_has ls 7 [(0, .ref x0), (1, .ref x1), (2, .int x2), (3, .int x3), (6, .int x6)]) (hE : sX15_isStep_70 F k_3 h x0 x1 x2 x3 x6 = some o) : W p l e (rm 6 129) s m args below meth c H locs 0 0 (MQ below (QI X h0 o.1 o.2) args s 0 0 (aA (eB X))) (F0 m 70 ls []) := by
  refine lv_iload C.1 C.2.1 dX15_isStep_70 (lv_at hl 4 rfl) ?_
  refine lv_istore (lv' := [(4, .int x6), (0, .ref x0), (1, .ref x1), (2, .int x2), (3, .int x3), (6, .int x6)]) C.1 C.2.1 dX15_isStep_72 hl (by decide) rfl (fun ls hl => ?_)
  refine lv_aload_n C.1 C.2.1 dX15_isStep_74 rfl (lv_at hl 1 rfl) ?_
  refine lv_aload_n C.1 C.2.1 dX15_isStep_75 rfl (lv_at hl 2 rfl) ?_
  refine lv_iload_n C.1 C.2.1 dX15_isStep_76 rfl (lv_at hl 3 rfl) ?_
  obtain ⟨o_1, eo_1, hE⟩ := cl_e hE
  refine x_kV (o := o_1) (z_runV (As := [.ref x1, .int x2]) (rest := []) C (ct_X15_nextToken l X F k_x0 k_x1 eo_1) cw_X15_74 hW hZ k_x0 (by decide) rfl rfl rfl hl.1 (Nat.le_of_ble_eq_true rfl) rfl dX15_isStep_77 ⟨Nat.le_of_ble_eq_true rfl, Nat.le_of_ble_eq_true rfl⟩ ⟨Nat.le_refl _, Nat.le_refl _⟩) hZ (fun _ _ hW km hZ => ?_)
  replace hkm := hkm.tr km
  replace k_x0 := km.at k_x0 (by decide)
  replace k_x1 := km.at k_x1 (by decide)
  refine lv_goto (tgt := 3) C.1 C.2.1 dX15_isStep_80 (by decide) ?_
  exact hk_3 _ _ _ _ _ _ _ _ k_x0 k_x1 hkm hW hZ _ (lv_sub hl [1, 2, 3, 4, 0] rfl) hE
set_option maxRecDepth 20000 in
theorem bX15_isStep_52 {p : Program} {l : Launch} {e : Env} {s : State} {m : MethodId} {args : Array Value} {below : List Frame} {meth : Method} {c : Code} {X : Ec} {h0 : Hp} {o : Int32 × Hp} {k_3 : Hp → Nat → Nat → Int32 → Int32 → Int32 → Option (Int32 × Hp)} {F : Nat} (C : Cx X p s m args meth c RX15 cX15_isStep 7 (some .boolean) "isStep") (hk_3 : ∀ (h : Hp) (x0 : Nat) (x1 : Nat) (x2 : Int32) (x3 : Int32) (x4 : Int32) (H : Heap) (locs : List Loc), hK h x0 = 15 → hK h x1 = 16 → Km h0 h → Wx X h H → va_S (aA (eB X)) s.heap H locs → ∀ (ls : Array Slot), lv_has ls 7 [(0, .ref x0), (1, .ref x1), (2, .int x2), (3, .int x3), (4, .int x4)] → k_3 h x0 x1 x2 x3 x4 = some o → W p l e (rm 6 129) s m args below meth c H locs 0 0 (MQ below (QI X h0 o.1 o.2) args s 0 0 (aA (eB X))) (F0 m 3 ls [])) {h : Hp} {x0 : Nat} {x1 : Nat} {x2 : Int32} {x3 : Int32} {x6 : Int32} {H : Heap} {locs : List Loc} (k_x0 : hK h x0 = 15) (k_x1 : hK h x1 = 16) (hkm : Km h0 h) (hW : Wx X h H) (hZ : va_S (aA (eB X)) s.heap H locs) (ls : Array Slot) (hl : lv_has ls 7 [(0, .ref x0), (1, .ref x1), (2, .int x2), (3, .int x3), (6, .int x6)]) (hE : sX15_isStep_52 F k_3 h x0 x1 x2 x3 x6 = some o) : W p l e (rm 6 129) s m args below meth c H locs 0 0 (MQ below (QI X h0 o.1 o.2) args s 0 0 (aA (eB X))) (F0 m 52 ls []) := by
  refine lv_iload C.1 C.2.1 dX15_isStep_52 (lv_at hl 4 rfl) ?_
  refine lv_bipush (v := (8 : Int32)) C.1 C.2.1 dX15_isStep_54 (by decide) ?_
  refine lv_iand C.1 C.2.1 dX15_isStep_56 ?_
  refine lv_if_eq (tgt := 70) C.1 C.2.1 dX15_isStep_57 (by decide) (fun c_1 => ?_) (fun c_1 => ?_)
  · have hE := br_p hE c_1
    exact bX15_isStep_70 C hk_3 k_x0 k_x1 hkm hW hZ _ (lv_sub hl [0, 1, 2, 3, 4] rfl) hE
  · have hE := br_n hE c_1
    refine lv_iload C.1 C.2.1 dX15_isStep_60 (lv_at hl 4 rfl) ?_
    refine lv_bipush (v := (16 : Int32)) C.1 C.2.1 dX15_isStep_62 (by decide) ?_
    refine lv_iand C.1 C.2.1 dX15_isStep_64 ?_
    refine lv_if_eq (tgt := 70) C.1 C.2.1 dX15_isStep_65 (by decide) (fun c_2 => ?_) (fun c_2 => ?_)
    · have hE := br_p hE c_2
      exact bX15_isStep_70 C hk_3 k_x0 k_x1 hkm hW hZ _ (lv_sub hl [0, 1, 2, 3, 4] rfl) hE
    · have hE := br_n hE c_2
      exact bX15_isStep_68 C hkm hW hZ _ (lv_sub hl [] rfl) hE
set_option maxRecDepth 20000 in
theorem bX15_isStep_3 {p : Program} {l : Launch} {e : Env} {s : State} {m : MethodId} {args : Array Value} {below : List Frame} {meth : Method} {c : Code} {X : Ec} {h0 : Hp} {o : Int32 × Hp} {F : Nat} (C : Cx X p s m args meth c RX15 cX15_isStep 7 (some .boolean) "isStep") : ∀ (f : Nat) {h : Hp} {x0 : Nat} {x1 : Nat} {x2 : Int32} {x3 : Int32} {x4 : Int32} {H : Heap} {locs : List Loc} (k_x0 : hK h x0 = 15) (k_x1 : hK h x1 = 16), Km h0 h → Wx X h H → va_S (aA (eB X)) s.heap H locs → ∀ (ls : Array Slot), lv_has ls 7 [(0, .ref x0), (1, .ref x1), (2, .int x2), (3, .int x3), (4, .int x4)] → sX15_isStep_3 F f h x0 x1 x2 x3 x4 = some o → W p l e (rm 6 129) s m args below meth c H locs 0 0 (MQ below (QI X h0 o.1 o.2) args s 0 0 (aA (eB X))) (F0 m 3 ls []) := by
  intro f
  induction f with
  | zero =>
    intro h x0 x1 x2 x3 x4 H locs k_x0 k_x1 hkm hW hZ ls hl hE
    rw [sX15_isStep_3] at hE
    cases hE
  | succ f ih =>
    intro h x0 x1 x2 x3 x4 H locs k_x0 k_x1 hkm hW hZ ls hl hE
    rw [sX15_isStep_3] at hE
    have hk_3 : ∀ (h : Hp) (x0 : Nat) (x1 : Nat) (x2 : Int32) (x3 : Int32) (x4 : Int32) (H : Heap) (locs : List Loc), hK h x0 = 15 → hK h x1 = 16 → Km h0 h → Wx X h H → va_S (aA (eB X)) s.heap H locs → ∀ (ls : Array Slot), lv_has ls 7 [(0, .ref x0), (1, .ref x1), (2, .int x2), (3, .int x3), (4, .int x4)] → sX15_isStep_3 F f h x0 x1 x2 x3 x4 = some o → W p l e (rm 6 129) s m args below meth c H locs 0 0 (MQ below (QI X h0 o.1 o.2) args s 0 0 (aA (eB X))) (F0 m 3 ls []) := fun h x0 x1 x2 x3 x4 H locs k_x0 k_x1 a b c ls hl hE => ih k_x0 k_x1 a b c ls hl hE
    refine lv_aload_n C.1 C.2.1 dX15_isStep_3 rfl (lv_at hl 0 rfl) ?_
    refine gf_X15_34 C hW k_x0 dX15_isStep_4 ?_
    refine lv_iconst (v := (1 : Int32)) C.1 C.2.1 dX15_isStep_7 (by decide) ?_
    refine lv_icmp_ne (tgt := 83) C.1 C.2.1 dX15_isStep_8 (by decide) (fun c_1 => ?_) (fun c_1 => ?_)
    · have hE := br_n hE c_1
      refine lv_aload_n C.1 C.2.1 dX15_isStep_83 rfl (lv_at hl 0 rfl) ?_
      obtain ⟨r_2, er_2, hE⟩ := cl_e hE
      refine gf_X15_57 C hW k_x0 er_2 dX15_isStep_84 (fun k_r_2 => ?_)
      obtain ⟨r_3, er_3, hE⟩ := cl_e hE
      refine gf_X15_198 C hW k_r_2 er_3 dX15_isStep_87 (fun k_r_3 => ?_)
      refine lv_iload_n C.1 C.2.1 dX15_isStep_90 rfl (lv_at hl 3 rfl) ?_
      refine lv_iload C.1 C.2.1 dX15_isStep_91 (lv_at hl 4 rfl) ?_
      obtain ⟨g_4, hE⟩ := gd_e hE
      obtain ⟨h_5, eh_5, hE⟩ := nm_e2 hE
      refine y_iast C hW hZ k_r_3 g_4 eh_5 dX15_isStep_93 (fun _ _ hW km hZ => ?_)
      replace hkm := hkm.tr km
      replace k_x0 := km.at k_x0 (by decide)
      replace k_x1 := km.at k_x1 (by decide)
      refine lv_aload_n C.1 C.2.1 dX15_isStep_94 rfl (lv_at hl 0 rfl) ?_
      refine lv_bipush (v := (-7 : Int32)) C.1 C.2.1 dX15_isStep_95 (by decide) ?_
      refine lv_bipush (v := (7 : Int32)) C.1 C.2.1 dX15_isStep_97 (by decide) ?_
      obtain ⟨o_6, eo_6, hE⟩ := cl_e hE
      refine x_kI (o := o_6) (z_runV (As := [.int (-7 : Int32), .int (7 : Int32)]) (rest := []) C (ct_X15_isNumber l X k_x0 eo_6) cw_X15_84 hW hZ k_x0 (by decide) rfl rfl rfl hl.1 (Nat.le_of_ble_eq_true rfl) rfl dX15_isStep_99 ⟨Nat.le_of_ble_eq_true rfl, Nat.le_of_ble_eq_true rfl⟩ ⟨Nat.le_refl _, Nat.le_refl _⟩) hZ (fun _ _ hW km hZ => ?_)
      replace hkm := hkm.tr km
      replace k_x0 := km.at k_x0 (by decide)
      replace k_x1 := km.at k_x1 (by decide)
      refine lv_if_ne (tgt := 107) C.1 C.2.1 dX15_isStep_102 (by decide) (fun c_7 => ?_) (fun c_7 => ?_)
      · have hE := br_n hE c_7
        refine lv_aload_n C.1 C.2.1 dX15_isStep_107 rfl (lv_at hl 0 rfl) ?_
        obtain ⟨r_8, er_8, hE⟩ := cl_e hE
        refine gf_X15_57 C hW k_x0 er_8 dX15_isStep_108 (fun k_r_8 => ?_)
        obtain ⟨r_9, er_9, hE⟩ := cl_e hE
        refine gf_X15_201 C hW k_r_8 er_9 dX15_isStep_111 (fun k_r_9 => ?_)
        refine lv_iload_n C.1 C.2.1 dX15_isStep_114 rfl (lv_at hl 3 rfl) ?_
        refine lv_aload_n C.1 C.2.1 dX15_isStep_115 rfl (lv_at hl 0 rfl) ?_
        refine gf_X15_44 C hW k_x0 dX15_isStep_116 ?_
        obtain ⟨g_10, hE⟩ := gd_e hE
        obtain ⟨h_11, eh_11, hE⟩ := nm_e2 hE
        refine y_iast C hW hZ k_r_9 g_10 eh_11 dX15_isStep_119 (fun _ _ hW km hZ => ?_)
        replace hkm := hkm.tr km
        replace k_x0 := km.at k_x0 (by decide)
        replace k_x1 := km.at k_x1 (by decide)
        refine lv_aload_n C.1 C.2.1 dX15_isStep_120 rfl (lv_at hl 0 rfl) ?_
        refine lv_aload_n C.1 C.2.1 dX15_isStep_121 rfl (lv_at hl 1 rfl) ?_
        refine lv_iload_n C.1 C.2.1 dX15_isStep_122 rfl (lv_at hl 2 rfl) ?_
        obtain ⟨o_12, eo_12, hE⟩ := cl_e hE
        refine x_kV (o := o_12) (z_runV (As := [.ref x1, .int x2]) (rest := []) C (ct_X15_nextToken l X F k_x0 k_x1 eo_12) cw_X15_74 hW hZ k_x0 (by decide) rfl rfl rfl hl.1 (Nat.le_of_ble_eq_true rfl) rfl dX15_isStep_123 ⟨Nat.le_of_ble_eq_true rfl, Nat.le_of_ble_eq_true rfl⟩ ⟨Nat.le_refl _, Nat.le_refl _⟩) hZ (fun _ _ hW km hZ => ?_)
        replace hkm := hkm.tr km
        replace k_x0 := km.at k_x0 (by decide)
        replace k_x1 := km.at k_x1 (by decide)
        refine lv_aload_n C.1 C.2.1 dX15_isStep_126 rfl (lv_at hl 0 rfl) ?_
        refine lv_bipush (v := (-7 : Int32)) C.1 C.2.1 dX15_isStep_127 (by decide) ?_
        refine lv_bipush (v := (7 : Int32)) C.1 C.2.1 dX15_isStep_129 (by decide) ?_
        obtain ⟨o_13, eo_13, hE⟩ := cl_e hE
        refine x_kI (o := o_13) (z_runV (As := [.int (-7 : Int32), .int (7 : Int32)]) (rest := []) C (ct_X15_isNumber l X k_x0 eo_13) cw_X15_84 hW hZ k_x0 (by decide) rfl rfl rfl hl.1 (Nat.le_of_ble_eq_true rfl) rfl dX15_isStep_131 ⟨Nat.le_of_ble_eq_true rfl, Nat.le_of_ble_eq_true rfl⟩ ⟨Nat.le_refl _, Nat.le_refl _⟩) hZ (fun _ _ hW km hZ => ?_)
        replace hkm := hkm.tr km
        replace k_x0 := km.at k_x0 (by decide)
        replace k_x1 := km.at k_x1 (by decide)
        refine lv_if_eq (tgt := 156) C.1 C.2.1 dX15_isStep_134 (by decide) (fun c_14 => ?_) (fun c_14 => ?_)
        · have hE := br_p hE c_14
          exact bX15_isStep_156 C hkm hW hZ _ (lv_sub hl [] rfl) hE
        · have hE := br_n hE c_14
          refine lv_aload_n C.1 C.2.1 dX15_isStep_137 rfl (lv_at hl 0 rfl) ?_
          refine gf_X15_44 C hW k_x0 dX15_isStep_138 ?_
          refine lv_if_ne (tgt := 158) C.1 C.2.1 dX15_isStep_141 (by decide) (fun c_15 => ?_) (fun c_15 => ?_)
          · have hE := br_n hE c_15
            exact bX15_isStep_158 C k_x0 k_x1 hkm hW hZ _ (lv_sub hl [0, 1, 2, 3] rfl) hE
          · have hE := br_p hE c_15
            refine lv_aload_n C.1 C.2.1 dX15_isStep_144 rfl (lv_at hl 0 rfl) ?_
            obtain ⟨r_16, er_16, hE⟩ := cl_e hE
            refine gf_X15_57 C hW k_x0 er_16 dX15_isStep_145 (fun k_r_16 => ?_)
            obtain ⟨r_17, er_17, hE⟩ := cl_e hE
            refine gf_X15_201 C hW k_r_16 er_17 dX15_isStep_148 (fun k_r_17 => ?_)
            refine lv_iload_n C.1 C.2.1 dX15_isStep_151 rfl (lv_at hl 3 rfl) ?_
            obtain ⟨g_18, hE⟩ := gd_e hE
            refine y_iald C hW k_r_17 g_18 dX15_isStep_152 ?_
            refine lv_if_ne (tgt := 158) C.1 C.2.1 dX15_isStep_153 (by decide) (fun c_19 => ?_) (fun c_19 => ?_)
            · have hE := br_n hE c_19
              exact bX15_isStep_158 C k_x0 k_x1 hkm hW hZ _ (lv_sub hl [0, 1, 2, 3] rfl) hE
            · have hE := br_p hE c_19
              exact bX15_isStep_156 C hkm hW hZ _ (lv_sub hl [] rfl) hE
      · have hE := br_p hE c_7
        refine lv_iconst (v := (0 : Int32)) C.1 C.2.1 dX15_isStep_105 (by decide) ?_
        exact x_iret C rfl (by decide) hW hZ hkm hE dX15_isStep_106
    · have hE := br_p hE c_1
      refine lv_aload_n C.1 C.2.1 dX15_isStep_11 rfl (lv_at hl 0 rfl) ?_
      refine lv_aload_n C.1 C.2.1 dX15_isStep_12 rfl (lv_at hl 1 rfl) ?_
      obtain ⟨o_20, eo_20, hE⟩ := cl_e hE
      refine x_kI (o := o_20) (z_runV (As := [.ref x1]) (rest := []) C (ct_X15_flagAt l X F k_x0 k_x1 eo_20) cw_X15_195 hW hZ k_x0 (by decide) rfl rfl rfl hl.1 (Nat.le_of_ble_eq_true rfl) rfl dX15_isStep_13 ⟨Nat.le_of_ble_eq_true rfl, Nat.le_of_ble_eq_true rfl⟩ ⟨Nat.le_refl _, Nat.le_refl _⟩) hZ (fun _ _ hW km hZ => ?_)
      replace hkm := hkm.tr km
      replace k_x0 := km.at k_x0 (by decide)
      replace k_x1 := km.at k_x1 (by decide)
      refine lv_istore (lv' := [(5, .int o_20.1), (0, .ref x0), (1, .ref x1), (2, .int x2), (3, .int x3), (4, .int x4)]) C.1 C.2.1 dX15_isStep_16 hl (by decide) rfl (fun ls hl => ?_)
      refine lv_iload C.1 C.2.1 dX15_isStep_18 (lv_at hl 5 rfl) ?_
      refine lv_iload C.1 C.2.1 dX15_isStep_20 (lv_at hl 0 rfl) ?_
      refine lv_ior C.1 C.2.1 dX15_isStep_22 ?_
      obtain ⟨v_21, ev_21, hE⟩ := nm_e2 hE
      refine x_nmI ev_21 ?_
      refine lv_istore (lv' := [(6, .int v_21), (5, .int o_20.1), (0, .ref x0), (1, .ref x1), (2, .int x2), (3, .int x3), (4, .int x4)]) C.1 C.2.1 dX15_isStep_23 hl (by decide) rfl (fun ls hl => ?_)
      refine lv_iload C.1 C.2.1 dX15_isStep_25 (lv_at hl 1 rfl) ?_
      refine lv_if_eq (tgt := 68) C.1 C.2.1 dX15_isStep_27 (by decide) (fun c_22 => ?_) (fun c_22 => ?_)
      · have hE := br_p hE c_22
        exact bX15_isStep_68 C hkm hW hZ _ (lv_sub hl [] rfl) hE
      · have hE := br_n hE c_22
        refine lv_iload C.1 C.2.1 dX15_isStep_30 (lv_at hl 6 rfl) ?_
        refine lv_iload C.1 C.2.1 dX15_isStep_32 (lv_at hl 1 rfl) ?_
        refine lv_iand C.1 C.2.1 dX15_isStep_34 ?_
        refine lv_if_ne (tgt := 68) C.1 C.2.1 dX15_isStep_35 (by decide) (fun c_23 => ?_) (fun c_23 => ?_)
        · have hE := br_n hE c_23
          exact bX15_isStep_68 C hkm hW hZ _ (lv_sub hl [] rfl) hE
        · have hE := br_p hE c_23
          refine lv_iload C.1 C.2.1 dX15_isStep_38 (lv_at hl 0 rfl) ?_
          refine lv_iconst (v := (1 : Int32)) C.1 C.2.1 dX15_isStep_40 (by decide) ?_
          refine lv_iand C.1 C.2.1 dX15_isStep_41 ?_
          refine lv_if_eq (tgt := 52) C.1 C.2.1 dX15_isStep_42 (by decide) (fun c_24 => ?_) (fun c_24 => ?_)
          · have hE := br_p hE c_24
            exact bX15_isStep_52 C hk_3 k_x0 k_x1 hkm hW hZ _ (lv_sub hl [2, 3, 4, 5, 0] rfl) hE
          · have hE := br_n hE c_24
            refine lv_iload C.1 C.2.1 dX15_isStep_45 (lv_at hl 0 rfl) ?_
            refine lv_iconst (v := (2 : Int32)) C.1 C.2.1 dX15_isStep_47 (by decide) ?_
            refine lv_iand C.1 C.2.1 dX15_isStep_48 ?_
            refine lv_if_ne (tgt := 68) C.1 C.2.1 dX15_isStep_49 (by decide) (fun c_25 => ?_) (fun c_25 => ?_)
            · have hE := br_n hE c_25
              exact bX15_isStep_68 C hkm hW hZ _ (lv_sub hl [] rfl) hE
            · have hE := br_p hE c_25
              exact bX15_isStep_52 C hk_3 k_x0 k_x1 hkm hW hZ _ (lv_sub hl [2, 3, 4, 5, 0] rfl) hE
set_option maxRecDepth 20000 in
theorem ct_X15_isStep (l : Launch) (X : Ec) (F : Nat) {h : Hp} {x0 : Nat} {x1 : Nat} {x2 : Int32} {x3 : Int32} {o : Int32 × Hp} (k_x0 : hK h x0 = 15) (k_x1 : hK h x1 = 16) (hE : sX15_isStep F h x0 x1 x2 x3 = some o) : MetI l yX15_isStep cX15_isStep 7 (some .boolean) 6 129 X [.ref x0, .ref x1, .int x2, .int x3] h o := by
  refine x_met (by decide) (Nat.le_of_ble_eq_true rfl) ?_
  intro p e s m below meth c ls C hl hW hZ
  have hl : lv_has ls 7 [(0, .ref x0), (1, .ref x1), (2, .int x2), (3, .int x3)] := hl
  have hkm : Km h h := Km.rf h
  refine lv_iconst (v := (0 : Int32)) C.1 C.2.1 dX15_isStep_0 (by decide) ?_
  refine lv_istore (lv' := [(4, .int (0 : Int32)), (0, .ref x0), (1, .ref x1), (2, .int x2), (3, .int x3)]) C.1 C.2.1 dX15_isStep_1 hl (by decide) rfl (fun ls hl => ?_)
  exact bX15_isStep_3 C F k_x0 k_x1 hkm hW hZ _ (lv_sub hl [1, 2, 3, 4, 0] rfl) hE
set_option maxRecDepth 100000 in
theorem ms_122 : Cond.selects RX15 yX15_isStep yX15_isStep ∈ W0 := w0_in (List.mem_append_left _ (List.mem_of_getElem? (i := 122) rfl)) rfl
set_option maxRecDepth 100000 in
theorem ms_121 : Cond.selects RX15 yX15_manAt yX15_manAt ∈ W0 := w0_in (List.mem_append_left _ (List.mem_of_getElem? (i := 121) rfl)) rfl
set_option maxRecDepth 100000 in
theorem ms_118 : Cond.selects RX15 yX15_isSign yX15_isSign ∈ W0 := w0_in (List.mem_append_left _ (List.mem_of_getElem? (i := 118) rfl)) rfl
set_option maxRecDepth 100000 in
theorem n_1809 : Cond.fieldLinkNest RX15 169 (TX14 2).1 (TX14 2).2.1 (TX14 2).2.2.1 "GameRulesModel" ∈ tables_1 := List.mem_of_getElem? (i := 1809) rfl
set_option maxRecDepth 100000 in
theorem n_1811 : Cond.fieldLinkNest RX15 172 (TX14 3).1 (TX14 3).2.1 (TX14 3).2.2.1 "GameRulesModel" ∈ tables_1 := List.mem_of_getElem? (i := 1811) rfl
set_option maxRecDepth 100000 in
theorem n_1813 : Cond.fieldLinkNest RX15 176 (TX14 4).1 (TX14 4).2.1 (TX14 4).2.2.1 "GameRulesModel" ∈ tables_1 := List.mem_of_getElem? (i := 1813) rfl
set_option maxRecDepth 100000 in
theorem m_2017 : Cond.methodLink RX15 94 yX15_isSign ∈ W0 := w0_in (List.mem_append_right _ (List.mem_of_getElem? (i := 2017) rfl)) rfl
set_option maxRecDepth 100000 in
theorem m_2019 : Cond.instanceMethod yX15_isSign ∈ W0 := w0_in (List.mem_append_right _ (List.mem_of_getElem? (i := 2019) rfl)) rfl
set_option maxRecDepth 100000 in
theorem m_2020 : Cond.code yX15_isSign cX15_isSign 3 (some .boolean) ∈ W0 := w0_in (List.mem_append_right _ (List.mem_of_getElem? (i := 2020) rfl)) rfl
set_option maxRecDepth 100000 in
theorem m_2030 : Cond.methodLink RX15 165 yX15_manAt ∈ W0 := w0_in (List.mem_append_right _ (List.mem_of_getElem? (i := 2030) rfl)) rfl
set_option maxRecDepth 100000 in
theorem m_2032 : Cond.instanceMethod yX15_manAt ∈ W0 := w0_in (List.mem_append_right _ (List.mem_of_getElem? (i := 2032) rfl)) rfl
set_option maxRecDepth 100000 in
theorem m_2033 : Cond.code yX15_manAt cX15_manAt 2 (some .int) ∈ W0 := w0_in (List.mem_append_right _ (List.mem_of_getElem? (i := 2033) rfl)) rfl
set_option maxRecDepth 100000 in
theorem m_2038 : Cond.methodLink RX15 179 yX15_isStep ∈ W0 := w0_in (List.mem_append_right _ (List.mem_of_getElem? (i := 2038) rfl)) rfl
set_option maxRecDepth 100000 in
theorem m_2040 : Cond.instanceMethod yX15_isStep ∈ W0 := w0_in (List.mem_append_right _ (List.mem_of_getElem? (i := 2040) rfl)) rfl
set_option maxRecDepth 100000 in
theorem m_2041 : Cond.code yX15_isStep cX15_isStep 7 (some .boolean) ∈ W0 := w0_in (List.mem_append_right _ (List.mem_of_getElem? (i := 2041) rfl)) rfl
section
variable {p : Program} {l : Launch} {e : Env} {R : Room} {s : State} {m : MethodId} {args : Array Value} {below : List Frame} {meth : Method} {c : Code} {H : Heap} {locs : List Loc} {cells slots : Nat} {Q : State → Prop}
variable {cc : ByteArray} {pc : Nat} {ls : Array Slot} {rest : List Value} {X : Ec} {h h1 : Hp} {nL : Nat} {rt : Option FieldType} {mn : String}
theorem gf_X15_176 {a r : Nat} (C : Cx X p s m args meth c RX15 cc nL rt mn) (hW : Wx X h H) (ha : hK h a = 14) (hr : hR h a 4 = some r) (hdg : decode cc pc = .ok (.getfield 176, 3)) (kk : hK h r = 17 → W p l e R s m args below meth c H locs cells slots Q (F0 m (pc + 3) ls (.ref r :: rest))) : W p l e R s m args below meth c H locs cells slots Q (F0 m pc ls (.ref a :: rest)) :=
  y_getrN C hW ha i_X14 (by decide) rfl (by decide) n_1813 rfl rfl hr hdg kk
theorem gf_X15_169 {a : Nat} (C : Cx X p s m args meth c RX15 cc nL rt mn) (hW : Wx X h H) (ha : hK h a = 14) (hdg : decode cc pc = .ok (.getfield 169, 3)) (kk : W p l e R s m args below meth c H locs cells slots Q (F0 m (pc + 3) ls (.int (hI h a 2) :: rest))) : W p l e R s m args below meth c H locs cells slots Q (F0 m pc ls (.ref a :: rest)) :=
  y_getiN C hW ha i_X14 (by decide) rfl (by decide) n_1809 rfl hdg kk
theorem gf_X15_172 {a r : Nat} (C : Cx X p s m args meth c RX15 cc nL rt mn) (hW : Wx X h H) (ha : hK h a = 14) (hr : hR h a 3 = some r) (hdg : decode cc pc = .ok (.getfield 172, 3)) (kk : hK h r = 17 → W p l e R s m args below meth c H locs cells slots Q (F0 m (pc + 3) ls (.ref r :: rest))) : W p l e R s m args below meth c H locs cells slots Q (F0 m pc ls (.ref a :: rest)) :=
  y_getrN C hW ha i_X14 (by decide) rfl (by decide) n_1811 rfl rfl hr hdg kk
theorem pf_X15_169 {a : Nat} {v : Int32} (C : Cx X p s m args meth c RX15 cc nL rt mn) (hW : Wx X h H) (hZ : va_S (aA (eB X)) s.heap H locs) (ha : hK h a = 14) (eh : h1 = wI h a 2 v) (hdg : decode cc pc = .ok (.putfield 169, 3)) (kk : ∀ (H1 : Heap) (locs1 : List Loc), Wx X h1 H1 → Km h h1 → va_S (aA (eB X)) s.heap H1 locs1 → W p l e R s m args below meth c H1 locs1 cells slots Q (F0 m (pc + 3) ls rest)) : W p l e R s m args below meth c H locs cells slots Q (F0 m pc ls (.int v :: .ref a :: rest)) :=
  y_putiN (ty := .int) C hW hZ ha i_X14 tyX14 tyX14_ok nmX14 (by decide) rfl rfl (by decide) n_1809 rfl (by decide +kernel) rfl rfl rfl eh hdg kk
end
theorem cw_X15_179 : cwd RX15 179 yX15_isStep cX15_isStep 7 (some .boolean) false 3 := ⟨m_2041, m_2038, m_19, ⟨m_2040, ms_122⟩, by decide, by decide, by decide +kernel⟩
theorem cw_X15_94 : cwd RX15 94 yX15_isSign cX15_isSign 3 (some .boolean) false 2 := ⟨m_2020, m_2017, m_19, ⟨m_2019, ms_118⟩, by decide, by decide, by decide +kernel⟩
theorem cw_X15_165 : cwd RX15 165 yX15_manAt cX15_manAt 2 (some .int) false 1 := ⟨m_2033, m_2030, m_19, ⟨m_2032, ms_121⟩, by decide, by decide, by decide +kernel⟩
theorem dX15_isMan_0 : decode cX15_isMan 0 = .ok (.aload_n 0, 1) := by decide +kernel
theorem dX15_isMan_1 : decode cX15_isMan 1 = .ok (.aload_n 1, 1) := by decide +kernel
theorem dX15_isMan_2 : decode cX15_isMan 2 = .ok (.iload_n 2, 1) := by decide +kernel
theorem dX15_isMan_3 : decode cX15_isMan 3 = .ok (.invokevirtual 74, 3) := by decide +kernel
theorem dX15_isMan_6 : decode cX15_isMan 6 = .ok (.aload_n 0, 1) := by decide +kernel
theorem dX15_isMan_7 : decode cX15_isMan 7 = .ok (.getfield 34, 3) := by decide +kernel
theorem dX15_isMan_10 : decode cX15_isMan 10 = .ok (.iconst 1, 1) := by decide +kernel
theorem dX15_isMan_11 : decode cX15_isMan 11 = .ok (.if_icmp .ne 37, 3) := by decide +kernel
theorem dX15_isMan_14 : decode cX15_isMan 14 = .ok (.aload_n 0, 1) := by decide +kernel
theorem dX15_isMan_15 : decode cX15_isMan 15 = .ok (.getfield 24, 3) := by decide +kernel
theorem dX15_isMan_18 : decode cX15_isMan 18 = .ok (.aload_n 0, 1) := by decide +kernel
theorem dX15_isMan_19 : decode cX15_isMan 19 = .ok (.getfield 27, 3) := by decide +kernel
theorem dX15_isMan_22 : decode cX15_isMan 22 = .ok (.iconst 1, 1) := by decide +kernel
theorem dX15_isMan_23 : decode cX15_isMan 23 = .ok (.iadd, 1) := by decide +kernel
theorem dX15_isMan_24 : decode cX15_isMan 24 = .ok (.if_icmp .ne 24, 3) := by decide +kernel
theorem dX15_isMan_27 : decode cX15_isMan 27 = .ok (.aload_n 0, 1) := by decide +kernel
theorem dX15_isMan_28 : decode cX15_isMan 28 = .ok (.aload_n 1, 1) := by decide +kernel
theorem dX15_isMan_29 : decode cX15_isMan 29 = .ok (.invokevirtual 165, 3) := by decide +kernel
theorem dX15_isMan_32 : decode cX15_isMan 32 = .ok (.iconst (-1), 1) := by decide +kernel
theorem dX15_isMan_33 : decode cX15_isMan 33 = .ok (.if_icmp .ne 15, 3) := by decide +kernel
theorem dX15_isMan_36 : decode cX15_isMan 36 = .ok (.aload_n 0, 1) := by decide +kernel
theorem dX15_isMan_37 : decode cX15_isMan 37 = .ok (.getfield 57, 3) := by decide +kernel
theorem dX15_isMan_40 : decode cX15_isMan 40 = .ok (.getfield 169, 3) := by decide +kernel
theorem dX15_isMan_43 : decode cX15_isMan 43 = .ok (.bipush 12, 2) := by decide +kernel
theorem dX15_isMan_45 : decode cX15_isMan 45 = .ok (.if_icmp .ne 5, 3) := by decide +kernel
theorem dX15_isMan_48 : decode cX15_isMan 48 = .ok (.iconst 0, 1) := by decide +kernel
theorem dX15_isMan_49 : decode cX15_isMan 49 = .ok (.ireturn, 1) := by decide +kernel
theorem dX15_isMan_50 : decode cX15_isMan 50 = .ok (.aload_n 0, 1) := by decide +kernel
theorem dX15_isMan_51 : decode cX15_isMan 51 = .ok (.getfield 57, 3) := by decide +kernel
theorem dX15_isMan_54 : decode cX15_isMan 54 = .ok (.getfield 169, 3) := by decide +kernel
theorem dX15_isMan_57 : decode cX15_isMan 57 = .ok (.istore_n 3, 1) := by decide +kernel
theorem dX15_isMan_58 : decode cX15_isMan 58 = .ok (.aload_n 0, 1) := by decide +kernel
theorem dX15_isMan_59 : decode cX15_isMan 59 = .ok (.getfield 57, 3) := by decide +kernel
theorem dX15_isMan_62 : decode cX15_isMan 62 = .ok (.getfield 172, 3) := by decide +kernel
theorem dX15_isMan_65 : decode cX15_isMan 65 = .ok (.iload_n 3, 1) := by decide +kernel
theorem dX15_isMan_66 : decode cX15_isMan 66 = .ok (.aload_n 1, 1) := by decide +kernel
theorem dX15_isMan_67 : decode cX15_isMan 67 = .ok (.aload_n 0, 1) := by decide +kernel
theorem dX15_isMan_68 : decode cX15_isMan 68 = .ok (.getfield 27, 3) := by decide +kernel
theorem dX15_isMan_71 : decode cX15_isMan 71 = .ok (.baload, 1) := by decide +kernel
theorem dX15_isMan_72 : decode cX15_isMan 72 = .ok (.iastore, 1) := by decide +kernel
theorem dX15_isMan_73 : decode cX15_isMan 73 = .ok (.aload_n 0, 1) := by decide +kernel
theorem dX15_isMan_74 : decode cX15_isMan 74 = .ok (.getfield 57, 3) := by decide +kernel
theorem dX15_isMan_77 : decode cX15_isMan 77 = .ok (.dup, 1) := by decide +kernel
theorem dX15_isMan_78 : decode cX15_isMan 78 = .ok (.getfield 169, 3) := by decide +kernel
theorem dX15_isMan_81 : decode cX15_isMan 81 = .ok (.iconst 1, 1) := by decide +kernel
theorem dX15_isMan_82 : decode cX15_isMan 82 = .ok (.iadd, 1) := by decide +kernel
theorem dX15_isMan_83 : decode cX15_isMan 83 = .ok (.putfield 169, 3) := by decide +kernel
theorem dX15_isMan_86 : decode cX15_isMan 86 = .ok (.aload_n 0, 1) := by decide +kernel
theorem dX15_isMan_87 : decode cX15_isMan 87 = .ok (.aload_n 1, 1) := by decide +kernel
theorem dX15_isMan_88 : decode cX15_isMan 88 = .ok (.iload_n 2, 1) := by decide +kernel
theorem dX15_isMan_89 : decode cX15_isMan 89 = .ok (.invokevirtual 74, 3) := by decide +kernel
theorem dX15_isMan_92 : decode cX15_isMan 92 = .ok (.aload_n 0, 1) := by decide +kernel
theorem dX15_isMan_93 : decode cX15_isMan 93 = .ok (.aload_n 1, 1) := by decide +kernel
theorem dX15_isMan_94 : decode cX15_isMan 94 = .ok (.iload_n 2, 1) := by decide +kernel
theorem dX15_isMan_95 : decode cX15_isMan 95 = .ok (.bipush 8, 2) := by decide +kernel
theorem dX15_isMan_97 : decode cX15_isMan 97 = .ok (.iload_n 3, 1) := by decide +kernel
theorem dX15_isMan_98 : decode cX15_isMan 98 = .ok (.imul, 1) := by decide +kernel
theorem dX15_isMan_99 : decode cX15_isMan 99 = .ok (.aload_n 0, 1) := by decide +kernel
theorem dX15_isMan_100 : decode cX15_isMan 100 = .ok (.getfield 57, 3) := by decide +kernel
theorem dX15_isMan_103 : decode cX15_isMan 103 = .ok (.getfield 176, 3) := by decide +kernel
theorem dX15_isMan_106 : decode cX15_isMan 106 = .ok (.iload_n 3, 1) := by decide +kernel
theorem dX15_isMan_107 : decode cX15_isMan 107 = .ok (.iaload, 1) := by decide +kernel
theorem dX15_isMan_108 : decode cX15_isMan 108 = .ok (.iadd, 1) := by decide +kernel
theorem dX15_isMan_109 : decode cX15_isMan 109 = .ok (.invokevirtual 179, 3) := by decide +kernel
theorem dX15_isMan_112 : decode cX15_isMan 112 = .ok (.ifCond .ne 5, 3) := by decide +kernel
theorem dX15_isMan_115 : decode cX15_isMan 115 = .ok (.iconst 0, 1) := by decide +kernel
theorem dX15_isMan_116 : decode cX15_isMan 116 = .ok (.ireturn, 1) := by decide +kernel
theorem dX15_isMan_117 : decode cX15_isMan 117 = .ok (.aload_n 0, 1) := by decide +kernel
theorem dX15_isMan_118 : decode cX15_isMan 118 = .ok (.getfield 57, 3) := by decide +kernel
theorem dX15_isMan_121 : decode cX15_isMan 121 = .ok (.getfield 176, 3) := by decide +kernel
theorem dX15_isMan_124 : decode cX15_isMan 124 = .ok (.iload_n 3, 1) := by decide +kernel
theorem dX15_isMan_125 : decode cX15_isMan 125 = .ok (.dup2, 1) := by decide +kernel
theorem dX15_isMan_126 : decode cX15_isMan 126 = .ok (.iaload, 1) := by decide +kernel
theorem dX15_isMan_127 : decode cX15_isMan 127 = .ok (.iconst 1, 1) := by decide +kernel
theorem dX15_isMan_128 : decode cX15_isMan 128 = .ok (.iadd, 1) := by decide +kernel
theorem dX15_isMan_129 : decode cX15_isMan 129 = .ok (.iastore, 1) := by decide +kernel
theorem dX15_isMan_130 : decode cX15_isMan 130 = .ok (.aload_n 0, 1) := by decide +kernel
theorem dX15_isMan_131 : decode cX15_isMan 131 = .ok (.aload_n 1, 1) := by decide +kernel
theorem dX15_isMan_132 : decode cX15_isMan 132 = .ok (.bipush 44, 2) := by decide +kernel
theorem dX15_isMan_134 : decode cX15_isMan 134 = .ok (.invokevirtual 94, 3) := by decide +kernel
theorem dX15_isMan_137 : decode cX15_isMan 137 = .ok (.ifCond .eq 17, 3) := by decide +kernel
theorem dX15_isMan_140 : decode cX15_isMan 140 = .ok (.aload_n 0, 1) := by decide +kernel
theorem dX15_isMan_141 : decode cX15_isMan 141 = .ok (.getfield 57, 3) := by decide +kernel
theorem dX15_isMan_144 : decode cX15_isMan 144 = .ok (.getfield 176, 3) := by decide +kernel
theorem dX15_isMan_147 : decode cX15_isMan 147 = .ok (.iload_n 3, 1) := by decide +kernel
theorem dX15_isMan_148 : decode cX15_isMan 148 = .ok (.iaload, 1) := by decide +kernel
theorem dX15_isMan_149 : decode cX15_isMan 149 = .ok (.bipush 8, 2) := by decide +kernel
theorem dX15_isMan_151 : decode cX15_isMan 151 = .ok (.if_icmp .ne 5, 3) := by decide +kernel
theorem dX15_isMan_154 : decode cX15_isMan 154 = .ok (.iconst 1, 1) := by decide +kernel
theorem dX15_isMan_155 : decode cX15_isMan 155 = .ok (.ireturn, 1) := by decide +kernel
theorem dX15_isMan_156 : decode cX15_isMan 156 = .ok (.aload_n 0, 1) := by decide +kernel
theorem dX15_isMan_157 : decode cX15_isMan 157 = .ok (.aload_n 1, 1) := by decide +kernel
theorem dX15_isMan_158 : decode cX15_isMan 158 = .ok (.iload_n 2, 1) := by decide +kernel
theorem dX15_isMan_159 : decode cX15_isMan 159 = .ok (.invokevirtual 74, 3) := by decide +kernel
theorem dX15_isMan_162 : decode cX15_isMan 162 = .ok (.goto (-70), 3) := by decide +kernel
set_option maxRecDepth 20000 in
theorem moX15_isMan_48 {o : Int32 × Hp} {F : Nat} {h : Hp} (hE : sX15_isMan_48 F h  = some o) : Le h o.2 := by
  exact le_some2 hE
set_option maxRecDepth 20000 in
theorem moX15_isMan_154 {o : Int32 × Hp} {F : Nat} {h : Hp} (hE : sX15_isMan_154 F h  = some o) : Le h o.2 := by
  exact le_some2 hE
set_option maxRecDepth 20000 in
theorem moX15_isMan_92 {o : Int32 × Hp} {F : Nat} : ∀ (f : Nat) {h : Hp} {x0 : Nat} {x1 : Nat} {x2 : Int32} {x3 : Int32}, sX15_isMan_92 F f h x0 x1 x2 x3 = some o → Le h o.2 := by
  intro f
  induction f with
  | zero =>
    intro h x0 x1 x2 x3 hE
    rw [sX15_isMan_92] at hE
    cases hE
  | succ f ih =>
    intro h x0 x1 x2 x3 hE
    rw [sX15_isMan_92] at hE
    have mk_92 : ∀ (h : Hp) (x0 : Nat) (x1 : Nat) (x2 : Int32) (x3 : Int32), sX15_isMan_92 F f h x0 x1 x2 x3 = some o → Le h o.2 := fun h x0 x1 x2 x3 hE => ih hE
    obtain ⟨r_1, er_1, hE⟩ := cl_e hE
    obtain ⟨r_2, er_2, hE⟩ := cl_e hE
    obtain ⟨g_3, hE⟩ := gd_e hE
    obtain ⟨o_4, eo_4, hE⟩ := cl_e hE
    refine (moX15_isStep eo_4).tr ?_
    rcases br_e hE with ⟨_, hE⟩ | ⟨_, hE⟩
    · exact le_some2 hE
    · obtain ⟨r_6, er_6, hE⟩ := cl_e hE
      obtain ⟨r_7, er_7, hE⟩ := cl_e hE
      obtain ⟨g_8, hE⟩ := gd_e hE
      obtain ⟨g_9, hE⟩ := gd_e hE
      obtain ⟨h_10, eh_10, hE⟩ := nm_e2 hE
      refine (le_I eh_10).tr ?_
      obtain ⟨o_11, eo_11, hE⟩ := cl_e hE
      refine (moX15_isSign eo_11).tr ?_
      rcases br_e hE with ⟨_, hE⟩ | ⟨_, hE⟩
      · exact moX15_isMan_154 hE
      · obtain ⟨r_13, er_13, hE⟩ := cl_e hE
        obtain ⟨r_14, er_14, hE⟩ := cl_e hE
        obtain ⟨g_15, hE⟩ := gd_e hE
        rcases br_e hE with ⟨_, hE⟩ | ⟨_, hE⟩
        · exact moX15_isMan_154 hE
        · obtain ⟨o_17, eo_17, hE⟩ := cl_e hE
          refine (moX15_nextToken eo_17).tr ?_
          exact mk_92 _ _ _ _ _ hE
set_option maxRecDepth 20000 in
theorem moX15_isMan {o : Int32 × Hp} {F : Nat} {h : Hp} {x0 : Nat} {x1 : Nat} {x2 : Int32} (hE : sX15_isMan F h x0 x1 x2 = some o) : Le h o.2 := by
  obtain ⟨o_1, eo_1, hE⟩ := cl_e hE
  refine (moX15_nextToken eo_1).tr ?_
  rcases br_e hE with ⟨_, hE⟩ | ⟨_, hE⟩
  · rcases br_e hE with ⟨_, hE⟩ | ⟨_, hE⟩
    · obtain ⟨o_4, eo_4, hE⟩ := cl_e hE
      refine (moX15_manAt eo_4).tr ?_
      rcases br_e hE with ⟨_, hE⟩ | ⟨_, hE⟩
      · obtain ⟨r_6, er_6, hE⟩ := cl_e hE
        rcases br_e hE with ⟨_, hE⟩ | ⟨_, hE⟩
        · exact moX15_isMan_48 hE
        · obtain ⟨r_8, er_8, hE⟩ := cl_e hE
          obtain ⟨v_9, ev_9, hE⟩ := nm_e2 hE
          obtain ⟨r_10, er_10, hE⟩ := cl_e hE
          obtain ⟨r_11, er_11, hE⟩ := cl_e hE
          obtain ⟨g_12, hE⟩ := gd_e hE
          obtain ⟨g_13, hE⟩ := gd_e hE
          obtain ⟨h_14, eh_14, hE⟩ := nm_e2 hE
          refine (le_I eh_14).tr ?_
          obtain ⟨r_15, er_15, hE⟩ := cl_e hE
          obtain ⟨h_16, eh_16, hE⟩ := nm_e2 hE
          refine (le_I eh_16).tr ?_
          obtain ⟨o_17, eo_17, hE⟩ := cl_e hE
          refine (moX15_nextToken eo_17).tr ?_
          exact moX15_isMan_92 _ hE
      · exact moX15_isMan_48 hE
    · exact moX15_isMan_48 hE
  · exact moX15_isMan_48 hE
set_option maxRecDepth 20000 in
theorem bX15_isMan_48 {p : Program} {l : Launch} {e : Env} {s : State} {m : MethodId} {args : Array Value} {below : List Frame} {meth : Method} {c : Code} {X : Ec} {h0 : Hp} {o : Int32 × Hp} {F : Nat} (C : Cx X p s m args meth c RX15 cX15_isMan 4 (some .boolean) "isMan") {h : Hp} {H : Heap} {locs : List Loc} (hkm : Km h0 h) (hW : Wx X h H) (hZ : va_S (aA (eB X)) s.heap H locs) (ls : Array Slot) (hl : lv_has ls 4 []) (hE : sX15_isMan_48 F h  = some o) : W p l e (rm 7 155) s m args below meth c H locs 0 0 (MQ below (QI X h0 o.1 o.2) args s 0 0 (aA (eB X))) (F0 m 48 ls []) := by
  refine lv_iconst (v := (0 : Int32)) C.1 C.2.1 dX15_isMan_48 (by decide) ?_
  exact x_iret C rfl (by decide) hW hZ hkm hE dX15_isMan_49
set_option maxRecDepth 20000 in
theorem bX15_isMan_154 {p : Program} {l : Launch} {e : Env} {s : State} {m : MethodId} {args : Array Value} {below : List Frame} {meth : Method} {c : Code} {X : Ec} {h0 : Hp} {o : Int32 × Hp} {F : Nat} (C : Cx X p s m args meth c RX15 cX15_isMan 4 (some .boolean) "isMan") {h : Hp} {H : Heap} {locs : List Loc} (hkm : Km h0 h) (hW : Wx X h H) (hZ : va_S (aA (eB X)) s.heap H locs) (ls : Array Slot) (hl : lv_has ls 4 []) (hE : sX15_isMan_154 F h  = some o) : W p l e (rm 7 155) s m args below meth c H locs 0 0 (MQ below (QI X h0 o.1 o.2) args s 0 0 (aA (eB X))) (F0 m 154 ls []) := by
  refine lv_iconst (v := (1 : Int32)) C.1 C.2.1 dX15_isMan_154 (by decide) ?_
  exact x_iret C rfl (by decide) hW hZ hkm hE dX15_isMan_155
set_option maxRecDepth 20000 in
theorem bX15_isMan_92 {p : Program} {l : Launch} {e : Env} {s : State} {m : MethodId} {args : Array Value} {below : List Frame} {meth : Method} {c : Code} {X : Ec} {h0 : Hp} {o : Int32 × Hp} {F : Nat} (C : Cx X p s m args meth c RX15 cX15_isMan 4 (some .boolean) "isMan") : ∀ (f : Nat) {h : Hp} {x0 : Nat} {x1 : Nat} {x2 : Int32} {x3 : Int32} {H : Heap} {locs : List Loc} (k_x0 : hK h x0 = 15) (k_x1 : hK h x1 = 16), Km h0 h → Wx X h H → va_S (aA (eB X)) s.heap H locs → ∀ (ls : Array Slot), lv_has ls 4 [(0, .ref x0), (1, .ref x1), (2, .int x2), (3, .int x3)] → sX15_isMan_92 F f h x0 x1 x2 x3 = some o → W p l e (rm 7 155) s m args below meth c H locs 0 0 (MQ below (QI X h0 o.1 o.2) args s 0 0 (aA (eB X))) (F0 m 92 ls []) := by
  intro f
  induction f with
  | zero =>
    intro h x0 x1 x2 x3 H locs k_x0 k_x1 hkm hW hZ ls hl hE
    rw [sX15_isMan_92] at hE
    cases hE
  | succ f ih =>
    intro h x0 x1 x2 x3 H locs k_x0 k_x1 hkm hW hZ ls hl hE
    rw [sX15_isMan_92] at hE
    have hk_92 : ∀ (h : Hp) (x0 : Nat) (x1 : Nat) (x2 : Int32) (x3 : Int32) (H : Heap) (locs : List Loc), hK h x0 = 15 → hK h x1 = 16 → Km h0 h → Wx X h H → va_S (aA (eB X)) s.heap H locs → ∀ (ls : Array Slot), lv_has ls 4 [(0, .ref x0), (1, .ref x1), (2, .int x2), (3, .int x3)] → sX15_isMan_92 F f h x0 x1 x2 x3 = some o → W p l e (rm 7 155) s m args below meth c H locs 0 0 (MQ below (QI X h0 o.1 o.2) args s 0 0 (aA (eB X))) (F0 m 92 ls []) := fun h x0 x1 x2 x3 H locs k_x0 k_x1 a b c ls hl hE => ih k_x0 k_x1 a b c ls hl hE
    refine lv_aload_n C.1 C.2.1 dX15_isMan_92 rfl (lv_at hl 0 rfl) ?_
    refine lv_aload_n C.1 C.2.1 dX15_isMan_93 rfl (lv_at hl 1 rfl) ?_
    refine lv_iload_n C.1 C.2.1 dX15_isMan_94 rfl (lv_at hl 2 rfl) ?_
    refine lv_bipush (v := (8 : Int32)) C.1 C.2.1 dX15_isMan_95 (by decide) ?_
    refine lv_iload_n C.1 C.2.1 dX15_isMan_97 rfl (lv_at hl 3 rfl) ?_
    refine lv_imul C.1 C.2.1 dX15_isMan_98 ?_
    refine lv_aload_n C.1 C.2.1 dX15_isMan_99 rfl (lv_at hl 0 rfl) ?_
    obtain ⟨r_1, er_1, hE⟩ := cl_e hE
    refine gf_X15_57 C hW k_x0 er_1 dX15_isMan_100 (fun k_r_1 => ?_)
    obtain ⟨r_2, er_2, hE⟩ := cl_e hE
    refine gf_X15_176 C hW k_r_1 er_2 dX15_isMan_103 (fun k_r_2 => ?_)
    refine lv_iload_n C.1 C.2.1 dX15_isMan_106 rfl (lv_at hl 3 rfl) ?_
    obtain ⟨g_3, hE⟩ := gd_e hE
    refine y_iald C hW k_r_2 g_3 dX15_isMan_107 ?_
    refine lv_iadd C.1 C.2.1 dX15_isMan_108 ?_
    obtain ⟨o_4, eo_4, hE⟩ := cl_e hE
    refine x_kI (o := o_4) (z_runV (As := [.ref x1, .int x2, .int (((8 : Int32) * x3) + (hI h r_2 x3.toNatClampNeg))]) (rest := []) C (ct_X15_isStep l X F k_x0 k_x1 eo_4) cw_X15_179 hW hZ k_x0 (by decide) rfl rfl rfl hl.1 (Nat.le_of_ble_eq_true rfl) rfl dX15_isMan_109 ⟨Nat.le_of_ble_eq_true rfl, Nat.le_of_ble_eq_true rfl⟩ ⟨Nat.le_refl _, Nat.le_refl _⟩) hZ (fun _ _ hW km hZ => ?_)
    replace hkm := hkm.tr km
    replace k_x0 := km.at k_x0 (by decide)
    replace k_x1 := km.at k_x1 (by decide)
    refine lv_if_ne (tgt := 117) C.1 C.2.1 dX15_isMan_112 (by decide) (fun c_5 => ?_) (fun c_5 => ?_)
    · have hE := br_n hE c_5
      refine lv_aload_n C.1 C.2.1 dX15_isMan_117 rfl (lv_at hl 0 rfl) ?_
      obtain ⟨r_6, er_6, hE⟩ := cl_e hE
      refine gf_X15_57 C hW k_x0 er_6 dX15_isMan_118 (fun k_r_6 => ?_)
      obtain ⟨r_7, er_7, hE⟩ := cl_e hE
      refine gf_X15_176 C hW k_r_6 er_7 dX15_isMan_121 (fun k_r_7 => ?_)
      refine lv_iload_n C.1 C.2.1 dX15_isMan_124 rfl (lv_at hl 3 rfl) ?_
      refine lv_dup2_11 C.1 C.2.1 dX15_isMan_125 rfl rfl ?_
      obtain ⟨g_8, hE⟩ := gd_e hE
      refine y_iald C hW k_r_7 g_8 dX15_isMan_126 ?_
      refine lv_iconst (v := (1 : Int32)) C.1 C.2.1 dX15_isMan_127 (by decide) ?_
      refine lv_iadd C.1 C.2.1 dX15_isMan_128 ?_
      obtain ⟨g_9, hE⟩ := gd_e hE
      obtain ⟨h_10, eh_10, hE⟩ := nm_e2 hE
      refine y_iast C hW hZ k_r_7 g_9 eh_10 dX15_isMan_129 (fun _ _ hW km hZ => ?_)
      replace hkm := hkm.tr km
      replace k_x0 := km.at k_x0 (by decide)
      replace k_x1 := km.at k_x1 (by decide)
      refine lv_aload_n C.1 C.2.1 dX15_isMan_130 rfl (lv_at hl 0 rfl) ?_
      refine lv_aload_n C.1 C.2.1 dX15_isMan_131 rfl (lv_at hl 1 rfl) ?_
      refine lv_bipush (v := (44 : Int32)) C.1 C.2.1 dX15_isMan_132 (by decide) ?_
      obtain ⟨o_11, eo_11, hE⟩ := cl_e hE
      refine x_kI (o := o_11) (z_runV (As := [.ref x1, .int (44 : Int32)]) (rest := []) C (ct_X15_isSign l X k_x0 k_x1 eo_11) cw_X15_94 hW hZ k_x0 (by decide) rfl rfl rfl hl.1 (Nat.le_of_ble_eq_true rfl) rfl dX15_isMan_134 ⟨Nat.le_of_ble_eq_true rfl, Nat.le_of_ble_eq_true rfl⟩ ⟨Nat.le_refl _, Nat.le_refl _⟩) hZ (fun _ _ hW km hZ => ?_)
      replace hkm := hkm.tr km
      replace k_x0 := km.at k_x0 (by decide)
      replace k_x1 := km.at k_x1 (by decide)
      refine lv_if_eq (tgt := 154) C.1 C.2.1 dX15_isMan_137 (by decide) (fun c_12 => ?_) (fun c_12 => ?_)
      · have hE := br_p hE c_12
        exact bX15_isMan_154 C hkm hW hZ _ (lv_sub hl [] rfl) hE
      · have hE := br_n hE c_12
        refine lv_aload_n C.1 C.2.1 dX15_isMan_140 rfl (lv_at hl 0 rfl) ?_
        obtain ⟨r_13, er_13, hE⟩ := cl_e hE
        refine gf_X15_57 C hW k_x0 er_13 dX15_isMan_141 (fun k_r_13 => ?_)
        obtain ⟨r_14, er_14, hE⟩ := cl_e hE
        refine gf_X15_176 C hW k_r_13 er_14 dX15_isMan_144 (fun k_r_14 => ?_)
        refine lv_iload_n C.1 C.2.1 dX15_isMan_147 rfl (lv_at hl 3 rfl) ?_
        obtain ⟨g_15, hE⟩ := gd_e hE
        refine y_iald C hW k_r_14 g_15 dX15_isMan_148 ?_
        refine lv_bipush (v := (8 : Int32)) C.1 C.2.1 dX15_isMan_149 (by decide) ?_
        refine lv_icmp_ne (tgt := 156) C.1 C.2.1 dX15_isMan_151 (by decide) (fun c_16 => ?_) (fun c_16 => ?_)
        · have hE := br_n hE c_16
          refine lv_aload_n C.1 C.2.1 dX15_isMan_156 rfl (lv_at hl 0 rfl) ?_
          refine lv_aload_n C.1 C.2.1 dX15_isMan_157 rfl (lv_at hl 1 rfl) ?_
          refine lv_iload_n C.1 C.2.1 dX15_isMan_158 rfl (lv_at hl 2 rfl) ?_
          obtain ⟨o_17, eo_17, hE⟩ := cl_e hE
          refine x_kV (o := o_17) (z_runV (As := [.ref x1, .int x2]) (rest := []) C (ct_X15_nextToken l X F k_x0 k_x1 eo_17) cw_X15_74 hW hZ k_x0 (by decide) rfl rfl rfl hl.1 (Nat.le_of_ble_eq_true rfl) rfl dX15_isMan_159 ⟨Nat.le_of_ble_eq_true rfl, Nat.le_of_ble_eq_true rfl⟩ ⟨Nat.le_refl _, Nat.le_refl _⟩) hZ (fun _ _ hW km hZ => ?_)
          replace hkm := hkm.tr km
          replace k_x0 := km.at k_x0 (by decide)
          replace k_x1 := km.at k_x1 (by decide)
          refine lv_goto (tgt := 92) C.1 C.2.1 dX15_isMan_162 (by decide) ?_
          exact hk_92 _ _ _ _ _ _ _ k_x0 k_x1 hkm hW hZ _ (lv_sub hl [0, 1, 2, 3] rfl) hE
        · have hE := br_p hE c_16
          exact bX15_isMan_154 C hkm hW hZ _ (lv_sub hl [] rfl) hE
    · have hE := br_p hE c_5
      refine lv_iconst (v := (0 : Int32)) C.1 C.2.1 dX15_isMan_115 (by decide) ?_
      exact x_iret C rfl (by decide) hW hZ hkm hE dX15_isMan_116
set_option maxRecDepth 20000 in
theorem ct_X15_isMan (l : Launch) (X : Ec) (F : Nat) {h : Hp} {x0 : Nat} {x1 : Nat} {x2 : Int32} {o : Int32 × Hp} (k_x0 : hK h x0 = 15) (k_x1 : hK h x1 = 16) (hE : sX15_isMan F h x0 x1 x2 = some o) : MetI l yX15_isMan cX15_isMan 4 (some .boolean) 7 155 X [.ref x0, .ref x1, .int x2] h o := by
  refine x_met (by decide) (Nat.le_of_ble_eq_true rfl) ?_
  intro p e s m below meth c ls C hl hW hZ
  have hl : lv_has ls 4 [(0, .ref x0), (1, .ref x1), (2, .int x2)] := hl
  have hkm : Km h h := Km.rf h
  refine lv_aload_n C.1 C.2.1 dX15_isMan_0 rfl (lv_at hl 0 rfl) ?_
  refine lv_aload_n C.1 C.2.1 dX15_isMan_1 rfl (lv_at hl 1 rfl) ?_
  refine lv_iload_n C.1 C.2.1 dX15_isMan_2 rfl (lv_at hl 2 rfl) ?_
  obtain ⟨o_1, eo_1, hE⟩ := cl_e hE
  refine x_kV (o := o_1) (z_runV (As := [.ref x1, .int x2]) (rest := []) C (ct_X15_nextToken l X F k_x0 k_x1 eo_1) cw_X15_74 hW hZ k_x0 (by decide) rfl rfl rfl hl.1 (Nat.le_of_ble_eq_true rfl) rfl dX15_isMan_3 ⟨Nat.le_of_ble_eq_true rfl, Nat.le_of_ble_eq_true rfl⟩ ⟨Nat.le_refl _, Nat.le_refl _⟩) hZ (fun _ _ hW km hZ => ?_)
  replace hkm := hkm.tr km
  replace k_x0 := km.at k_x0 (by decide)
  replace k_x1 := km.at k_x1 (by decide)
  refine lv_aload_n C.1 C.2.1 dX15_isMan_6 rfl (lv_at hl 0 rfl) ?_
  refine gf_X15_34 C hW k_x0 dX15_isMan_7 ?_
  refine lv_iconst (v := (1 : Int32)) C.1 C.2.1 dX15_isMan_10 (by decide) ?_
  refine lv_icmp_ne (tgt := 48) C.1 C.2.1 dX15_isMan_11 (by decide) (fun c_2 => ?_) (fun c_2 => ?_)
  · have hE := br_n hE c_2
    exact bX15_isMan_48 C hkm hW hZ _ (lv_sub hl [] rfl) hE
  · have hE := br_p hE c_2
    refine lv_aload_n C.1 C.2.1 dX15_isMan_14 rfl (lv_at hl 0 rfl) ?_
    refine gf_X15_24 C hW k_x0 dX15_isMan_15 ?_
    refine lv_aload_n C.1 C.2.1 dX15_isMan_18 rfl (lv_at hl 0 rfl) ?_
    refine gf_X15_27 C hW k_x0 dX15_isMan_19 ?_
    refine lv_iconst (v := (1 : Int32)) C.1 C.2.1 dX15_isMan_22 (by decide) ?_
    refine lv_iadd C.1 C.2.1 dX15_isMan_23 ?_
    refine lv_icmp_ne (tgt := 48) C.1 C.2.1 dX15_isMan_24 (by decide) (fun c_3 => ?_) (fun c_3 => ?_)
    · have hE := br_n hE c_3
      exact bX15_isMan_48 C hkm hW hZ _ (lv_sub hl [] rfl) hE
    · have hE := br_p hE c_3
      refine lv_aload_n C.1 C.2.1 dX15_isMan_27 rfl (lv_at hl 0 rfl) ?_
      refine lv_aload_n C.1 C.2.1 dX15_isMan_28 rfl (lv_at hl 1 rfl) ?_
      obtain ⟨o_4, eo_4, hE⟩ := cl_e hE
      refine x_kI (o := o_4) (z_runV (As := [.ref x1]) (rest := []) C (ct_X15_manAt l X F k_x0 k_x1 eo_4) cw_X15_165 hW hZ k_x0 (by decide) rfl rfl rfl hl.1 (Nat.le_of_ble_eq_true rfl) rfl dX15_isMan_29 ⟨Nat.le_of_ble_eq_true rfl, Nat.le_of_ble_eq_true rfl⟩ ⟨Nat.le_refl _, Nat.le_refl _⟩) hZ (fun _ _ hW km hZ => ?_)
      replace hkm := hkm.tr km
      replace k_x0 := km.at k_x0 (by decide)
      replace k_x1 := km.at k_x1 (by decide)
      refine lv_iconst (v := (-1 : Int32)) C.1 C.2.1 dX15_isMan_32 (by decide) ?_
      refine lv_icmp_ne (tgt := 48) C.1 C.2.1 dX15_isMan_33 (by decide) (fun c_5 => ?_) (fun c_5 => ?_)
      · have hE := br_n hE c_5
        exact bX15_isMan_48 C hkm hW hZ _ (lv_sub hl [] rfl) hE
      · have hE := br_p hE c_5
        refine lv_aload_n C.1 C.2.1 dX15_isMan_36 rfl (lv_at hl 0 rfl) ?_
        obtain ⟨r_6, er_6, hE⟩ := cl_e hE
        refine gf_X15_57 C hW k_x0 er_6 dX15_isMan_37 (fun k_r_6 => ?_)
        refine gf_X15_169 C hW k_r_6 dX15_isMan_40 ?_
        refine lv_bipush (v := (12 : Int32)) C.1 C.2.1 dX15_isMan_43 (by decide) ?_
        refine lv_icmp_ne (tgt := 50) C.1 C.2.1 dX15_isMan_45 (by decide) (fun c_7 => ?_) (fun c_7 => ?_)
        · have hE := br_n hE c_7
          refine lv_aload_n C.1 C.2.1 dX15_isMan_50 rfl (lv_at hl 0 rfl) ?_
          obtain ⟨r_8, er_8, hE⟩ := cl_e hE
          refine gf_X15_57 C hW k_x0 er_8 dX15_isMan_51 (fun k_r_8 => ?_)
          refine gf_X15_169 C hW k_r_8 dX15_isMan_54 ?_
          obtain ⟨v_9, ev_9, hE⟩ := nm_e2 hE
          refine x_nmI ev_9 ?_
          refine lv_istore_n (lv' := [(3, .int v_9), (0, .ref x0), (1, .ref x1), (2, .int x2)]) C.1 C.2.1 dX15_isMan_57 rfl hl (by decide) rfl (fun ls hl => ?_)
          refine lv_aload_n C.1 C.2.1 dX15_isMan_58 rfl (lv_at hl 1 rfl) ?_
          obtain ⟨r_10, er_10, hE⟩ := cl_e hE
          refine gf_X15_57 C hW k_x0 er_10 dX15_isMan_59 (fun k_r_10 => ?_)
          obtain ⟨r_11, er_11, hE⟩ := cl_e hE
          refine gf_X15_172 C hW k_r_10 er_11 dX15_isMan_62 (fun k_r_11 => ?_)
          refine lv_iload_n C.1 C.2.1 dX15_isMan_65 rfl (lv_at hl 0 rfl) ?_
          refine lv_aload_n C.1 C.2.1 dX15_isMan_66 rfl (lv_at hl 2 rfl) ?_
          refine lv_aload_n C.1 C.2.1 dX15_isMan_67 rfl (lv_at hl 1 rfl) ?_
          refine gf_X15_27 C hW k_x0 dX15_isMan_68 ?_
          obtain ⟨g_12, hE⟩ := gd_e hE
          refine y_bald C hW k_x1 g_12 dX15_isMan_71 ?_
          obtain ⟨g_13, hE⟩ := gd_e hE
          obtain ⟨h_14, eh_14, hE⟩ := nm_e2 hE
          refine y_iast C hW hZ k_r_11 g_13 eh_14 dX15_isMan_72 (fun _ _ hW km hZ => ?_)
          replace hkm := hkm.tr km
          replace k_x0 := km.at k_x0 (by decide)
          replace k_x1 := km.at k_x1 (by decide)
          refine lv_aload_n C.1 C.2.1 dX15_isMan_73 rfl (lv_at hl 1 rfl) ?_
          obtain ⟨r_15, er_15, hE⟩ := cl_e hE
          refine gf_X15_57 C hW k_x0 er_15 dX15_isMan_74 (fun k_r_15 => ?_)
          refine lv_dup C.1 C.2.1 dX15_isMan_77 rfl ?_
          refine gf_X15_169 C hW k_r_15 dX15_isMan_78 ?_
          refine lv_iconst (v := (1 : Int32)) C.1 C.2.1 dX15_isMan_81 (by decide) ?_
          refine lv_iadd C.1 C.2.1 dX15_isMan_82 ?_
          obtain ⟨h_16, eh_16, hE⟩ := nm_e2 hE
          refine pf_X15_169 C hW hZ k_r_15 eh_16 dX15_isMan_83 (fun _ _ hW km hZ => ?_)
          replace hkm := hkm.tr km
          replace k_x0 := km.at k_x0 (by decide)
          replace k_x1 := km.at k_x1 (by decide)
          refine lv_aload_n C.1 C.2.1 dX15_isMan_86 rfl (lv_at hl 1 rfl) ?_
          refine lv_aload_n C.1 C.2.1 dX15_isMan_87 rfl (lv_at hl 2 rfl) ?_
          refine lv_iload_n C.1 C.2.1 dX15_isMan_88 rfl (lv_at hl 3 rfl) ?_
          obtain ⟨o_17, eo_17, hE⟩ := cl_e hE
          refine x_kV (o := o_17) (z_runV (As := [.ref x1, .int x2]) (rest := []) C (ct_X15_nextToken l X F k_x0 k_x1 eo_17) cw_X15_74 hW hZ k_x0 (by decide) rfl rfl rfl hl.1 (Nat.le_of_ble_eq_true rfl) rfl dX15_isMan_89 ⟨Nat.le_of_ble_eq_true rfl, Nat.le_of_ble_eq_true rfl⟩ ⟨Nat.le_refl _, Nat.le_refl _⟩) hZ (fun _ _ hW km hZ => ?_)
          replace hkm := hkm.tr km
          replace k_x0 := km.at k_x0 (by decide)
          replace k_x1 := km.at k_x1 (by decide)
          exact bX15_isMan_92 C F k_x0 k_x1 hkm hW hZ _ (lv_sub hl [1, 2, 3, 0] rfl) hE
        · have hE := br_p hE c_7
          exact bX15_isMan_48 C hkm hW hZ _ (lv_sub hl [] rfl) hE
