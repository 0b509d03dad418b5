section
variable {p : Program} {l : Launch} {e : Env} {R : Room} {s : State} {m : MethodId} {args : Array Value} {below : List Frame} {meth : Method} {c : Code} {H : Heap} {locs : List Loc} {cells slots : Nat} {Q : State → Prop}
variable {cc : ByteArray} {pc : Nat} {ls : Array Slot} {rest : List Value} {X : Ec} {h h1 : Hp} {nL : Nat} {rt : Option FieldType} {mn : String}
theorem gf_X15_393 {a : Nat} (C : Cx X p s m args meth c RX15 cc nL rt mn) (hW : Wx X h H) (ha : hK h a = 15) (hdg : decode cc pc = .ok (.getfield 393, 3)) (kk : W p l e R s m args below meth c H locs cells slots Q (F0 m (pc + 3) ls (.int (hI h a 65) :: rest))) : W p l e R s m args below meth c H locs cells slots Q (F0 m pc ls (.ref a :: rest)) :=
  y_geti C hW ha i_X15 (by decide) rfl (by decide) m_2176 rfl hdg kk
theorem gf_X15_847 {a : Nat} (C : Cx X p s m args meth c RX15 cc nL rt mn) (hW : Wx X h H) (ha : hK h a = 15) (hdg : decode cc pc = .ok (.getfield 847, 3)) (kk : W p l e R s m args below meth c H locs cells slots Q (F0 m (pc + 3) ls (.int (hI h a 64) :: rest))) : W p l e R s m args below meth c H locs cells slots Q (F0 m pc ls (.ref a :: rest)) :=
  y_geti C hW ha i_X15 (by decide) rfl (by decide) m_2175 rfl hdg kk
end
theorem dX15_isProblem_0 : decode cX15_isProblem 0 = .ok (.aload_n 0, 1) := by decide +kernel
theorem dX15_isProblem_1 : decode cX15_isProblem 1 = .ok (.getfield 393, 3) := by decide +kernel
theorem dX15_isProblem_4 : decode cX15_isProblem 4 = .ok (.ifCond .le 23, 3) := by decide +kernel
theorem dX15_isProblem_7 : decode cX15_isProblem 7 = .ok (.aload_n 0, 1) := by decide +kernel
theorem dX15_isProblem_8 : decode cX15_isProblem 8 = .ok (.getfield 261, 3) := by decide +kernel
theorem dX15_isProblem_11 : decode cX15_isProblem 11 = .ok (.aload_n 0, 1) := by decide +kernel
theorem dX15_isProblem_12 : decode cX15_isProblem 12 = .ok (.getfield 847, 3) := by decide +kernel
theorem dX15_isProblem_15 : decode cX15_isProblem 15 = .ok (.iaload, 1) := by decide +kernel
theorem dX15_isProblem_16 : decode cX15_isProblem 16 = .ok (.aload_n 0, 1) := by decide +kernel
theorem dX15_isProblem_17 : decode cX15_isProblem 17 = .ok (.getfield 393, 3) := by decide +kernel
theorem dX15_isProblem_20 : decode cX15_isProblem 20 = .ok (.if_icmp .ne 7, 3) := by decide +kernel
theorem dX15_isProblem_23 : decode cX15_isProblem 23 = .ok (.iconst 1, 1) := by decide +kernel
theorem dX15_isProblem_24 : decode cX15_isProblem 24 = .ok (.goto 4, 3) := by decide +kernel
theorem dX15_isProblem_27 : decode cX15_isProblem 27 = .ok (.iconst 0, 1) := by decide +kernel
theorem dX15_isProblem_28 : decode cX15_isProblem 28 = .ok (.ireturn, 1) := by decide +kernel
set_option maxRecDepth 20000 in
theorem moX15_isProblem_28 {o : Int32 × Hp} {h : Hp} {t0 : Int32} (hE : sX15_isProblem_28 h  t0 = some o) : Le h o.2 := by
  obtain ⟨g_1, hE⟩ := gd_e hE
  exact le_some2 hE
set_option maxRecDepth 20000 in
theorem moX15_isProblem_27 {o : Int32 × Hp} {h : Hp} (hE : sX15_isProblem_27 h  = some o) : Le h o.2 := by
  exact moX15_isProblem_28 hE
set_option maxRecDepth 20000 in
theorem moX15_isProblem {o : Int32 × Hp} {h : Hp} {x0 : Nat} (hE : sX15_isProblem h x0 = some o) : Le h o.2 := by
  rcases br_e hE with ⟨_, hE⟩ | ⟨_, hE⟩
  · exact moX15_isProblem_27 hE
  · obtain ⟨r_2, er_2, hE⟩ := cl_e hE
    obtain ⟨g_3, hE⟩ := gd_e hE
    rcases br_e hE with ⟨_, hE⟩ | ⟨_, hE⟩
    · exact moX15_isProblem_28 hE
    · exact moX15_isProblem_27 hE
set_option maxRecDepth 20000 in
theorem bX15_isProblem_28 {p : Program} {l : Launch} {e : Env} {s : State} {m : MethodId} {args : Array Value} {below : List Frame} {meth : Method} {c : Code} {X : Ec} {h0 : Hp} {o : Int32 × Hp} (C : Cx X p s m args meth c RX15 cX15_isProblem 1 (some .boolean) "isProblem") {h : Hp} {t0 : Int32} {H : Heap} {locs : List Loc} (hkm : Km h0 h) (hW : Wx X h H) (hZ : va_S (aA (eB X)) s.heap H locs) (ls : Array Slot) (hl : lv_has ls 1 []) (hE : sX15_isProblem_28 h  t0 = some o) : W p l e (rm 0 0) s m args below meth c H locs 0 0 (MQ below (QI X h0 o.1 o.2) args s 0 0 (aA (eB X))) (F0 m 28 ls [.int t0]) := by
  obtain ⟨g_1, hE⟩ := gd_e hE
  exact x_iret C rfl (narB g_1) hW hZ hkm hE dX15_isProblem_28
set_option maxRecDepth 20000 in
theorem bX15_isProblem_27 {p : Program} {l : Launch} {e : Env} {s : State} {m : MethodId} {args : Array Value} {below : List Frame} {meth : Method} {c : Code} {X : Ec} {h0 : Hp} {o : Int32 × Hp} (C : Cx X p s m args meth c RX15 cX15_isProblem 1 (some .boolean) "isProblem") {h : Hp} {H : Heap} {locs : List Loc} (hkm : Km h0 h) (hW : Wx X h H) (hZ : va_S (aA (eB X)) s.heap H locs) (ls : Array Slot) (hl : lv_has ls 1 []) (hE : sX15_isProblem_27 h  = some o) : W p l e (rm 0 0) s m args below meth c H locs 0 0 (MQ below (QI X h0 o.1 o.2) args s 0 0 (aA (eB X))) (F0 m 27 ls []) := by
  refine lv_iconst (v := (0 : Int32)) C.1 C.2.1 dX15_isProblem_27 (by decide) ?_
  exact bX15_isProblem_28 C hkm hW hZ _ (lv_sub hl [] rfl) hE
set_option maxRecDepth 20000 in
theorem ct_X15_isProblem (l : Launch) (X : Ec) {h : Hp} {x0 : Nat} {o : Int32 × Hp} (k_x0 : hK h x0 = 15) (hE : sX15_isProblem h x0 = some o) : MetI l yX15_isProblem cX15_isProblem 1 (some .boolean) 0 0 X [.ref x0] h o := by
  refine x_met (by decide) (Nat.le_of_ble_eq_true rfl) ?_
  intro p e s m below meth c ls C hl hW hZ
  have hl : lv_has ls 1 [(0, .ref x0)] := hl
  have hkm : Km h h := Km.rf h
  refine lv_aload_n C.1 C.2.1 dX15_isProblem_0 rfl (lv_at hl 0 rfl) ?_
  refine gf_X15_393 C hW k_x0 dX15_isProblem_1 ?_
  refine lv_if_le (tgt := 27) C.1 C.2.1 dX15_isProblem_4 (by decide) (fun c_1 => ?_) (fun c_1 => ?_)
  · have hE := br_p hE c_1
    exact bX15_isProblem_27 C hkm hW hZ _ (lv_sub hl [] rfl) hE
  · have hE := br_n hE c_1
    refine lv_aload_n C.1 C.2.1 dX15_isProblem_7 rfl (lv_at hl 0 rfl) ?_
    obtain ⟨r_2, er_2, hE⟩ := cl_e hE
    refine gf_X15_261 C hW k_x0 er_2 dX15_isProblem_8 (fun k_r_2 => ?_)
    refine lv_aload_n C.1 C.2.1 dX15_isProblem_11 rfl (lv_at hl 0 rfl) ?_
    refine gf_X15_847 C hW k_x0 dX15_isProblem_12 ?_
    obtain ⟨g_3, hE⟩ := gd_e hE
    refine y_iald C hW k_r_2 g_3 dX15_isProblem_15 ?_
    refine lv_aload_n C.1 C.2.1 dX15_isProblem_16 rfl (lv_at hl 0 rfl) ?_
    refine gf_X15_393 C hW k_x0 dX15_isProblem_17 ?_
    refine lv_icmp_ne (tgt := 27) C.1 C.2.1 dX15_isProblem_20 (by decide) (fun c_4 => ?_) (fun c_4 => ?_)
    · have hE := br_n hE c_4
      exact bX15_isProblem_27 C hkm hW hZ _ (lv_sub hl [] rfl) hE
    · have hE := br_p hE c_4
      refine lv_iconst (v := (1 : Int32)) C.1 C.2.1 dX15_isProblem_23 (by decide) ?_
      refine lv_goto (tgt := 28) C.1 C.2.1 dX15_isProblem_24 (by decide) ?_
      exact bX15_isProblem_28 C hkm hW hZ _ (lv_sub hl [] rfl) hE
set_option maxRecDepth 100000 in
theorem ms_224 : Cond.selects RX15 yX15_isProblem yX15_isProblem ∈ W0 := w0_in (List.mem_append_left _ (List.mem_of_getElem? (i := 224) rfl)) rfl
set_option maxRecDepth 100000 in
theorem m_2877 : Cond.methodLink RX15 862 yX15_isProblem ∈ W0 := w0_in (List.mem_append_right _ (List.mem_of_getElem? (i := 2877) rfl)) rfl
set_option maxRecDepth 100000 in
theorem m_2879 : Cond.instanceMethod yX15_isProblem ∈ W0 := w0_in (List.mem_append_right _ (List.mem_of_getElem? (i := 2879) rfl)) rfl
set_option maxRecDepth 100000 in
theorem m_2880 : Cond.code yX15_isProblem cX15_isProblem 1 (some .boolean) ∈ W0 := w0_in (List.mem_append_right _ (List.mem_of_getElem? (i := 2880) rfl)) rfl
theorem cw_X15_862 : cwd RX15 862 yX15_isProblem cX15_isProblem 1 (some .boolean) false 0 := ⟨m_2880, m_2877, m_19, ⟨m_2879, ms_224⟩, by decide, by decide, by decide +kernel⟩
theorem dX15_key_0 : decode cX15_key 0 = .ok (.aload_n 0, 1) := by decide +kernel
theorem dX15_key_1 : decode cX15_key 1 = .ok (.invokevirtual 862, 3) := by decide +kernel
theorem dX15_key_4 : decode cX15_key 4 = .ok (.ifCond .eq 15, 3) := by decide +kernel
theorem dX15_key_7 : decode cX15_key 7 = .ok (.iload_n 1, 1) := by decide +kernel
theorem dX15_key_8 : decode cX15_key 8 = .ok (.ifCond .lt 11, 3) := by decide +kernel
theorem dX15_key_11 : decode cX15_key 11 = .ok (.iload_n 1, 1) := by decide +kernel
theorem dX15_key_12 : decode cX15_key 12 = .ok (.aload_n 0, 1) := by decide +kernel
theorem dX15_key_13 : decode cX15_key 13 = .ok (.getfield 859, 3) := by decide +kernel
theorem dX15_key_16 : decode cX15_key 16 = .ok (.if_icmp .lt 7, 3) := by decide +kernel
theorem dX15_key_19 : decode cX15_key 19 = .ok (.iconst (-1), 1) := by decide +kernel
theorem dX15_key_20 : decode cX15_key 20 = .ok (.goto 9, 3) := by decide +kernel
theorem dX15_key_23 : decode cX15_key 23 = .ok (.aload_n 0, 1) := by decide +kernel
theorem dX15_key_24 : decode cX15_key 24 = .ok (.getfield 371, 3) := by decide +kernel
theorem dX15_key_27 : decode cX15_key 27 = .ok (.iload_n 1, 1) := by decide +kernel
theorem dX15_key_28 : decode cX15_key 28 = .ok (.iaload, 1) := by decide +kernel
theorem dX15_key_29 : decode cX15_key 29 = .ok (.ireturn, 1) := by decide +kernel
set_option maxRecDepth 20000 in
theorem moX15_key_29 {o : Int32 × Hp} {h : Hp} {t0 : Int32} (hE : sX15_key_29 h  t0 = some o) : Le h o.2 := by
  exact le_some2 hE
set_option maxRecDepth 20000 in
theorem moX15_key_19 {o : Int32 × Hp} {h : Hp} (hE : sX15_key_19 h  = some o) : Le h o.2 := by
  exact moX15_key_29 hE
set_option maxRecDepth 20000 in
theorem moX15_key {o : Int32 × Hp} {h : Hp} {x0 : Nat} {x1 : Int32} (hE : sX15_key h x0 x1 = some o) : Le h o.2 := by
  obtain ⟨o_1, eo_1, hE⟩ := cl_e hE
  refine (moX15_isProblem eo_1).tr ?_
  rcases br_e hE with ⟨_, hE⟩ | ⟨_, hE⟩
  · exact moX15_key_19 hE
  · rcases br_e hE with ⟨_, hE⟩ | ⟨_, hE⟩
    · exact moX15_key_19 hE
    · rcases br_e hE with ⟨_, hE⟩ | ⟨_, hE⟩
      · obtain ⟨r_5, er_5, hE⟩ := cl_e hE
        obtain ⟨g_6, hE⟩ := gd_e hE
        exact moX15_key_29 hE
      · exact moX15_key_19 hE
set_option maxRecDepth 20000 in
theorem bX15_key_29 {p : Program} {l : Launch} {e : Env} {s : State} {m : MethodId} {args : Array Value} {below : List Frame} {meth : Method} {c : Code} {X : Ec} {h0 : Hp} {o : Int32 × Hp} (C : Cx X p s m args meth c RX15 cX15_key 2 (some .int) "key") {h : Hp} {t0 : Int32} {H : Heap} {locs : List Loc} (hkm : Km h0 h) (hW : Wx X h H) (hZ : va_S (aA (eB X)) s.heap H locs) (ls : Array Slot) (hl : lv_has ls 2 []) (hE : sX15_key_29 h  t0 = some o) : W p l e (rm 1 20) s m args below meth c H locs 0 0 (MQ below (QI X h0 o.1 o.2) args s 0 0 (aA (eB X))) (F0 m 29 ls [.int t0]) := by
  exact x_iret C rfl rfl hW hZ hkm hE dX15_key_29
set_option maxRecDepth 20000 in
theorem bX15_key_19 {p : Program} {l : Launch} {e : Env} {s : State} {m : MethodId} {args : Array Value} {below : List Frame} {meth : Method} {c : Code} {X : Ec} {h0 : Hp} {o : Int32 × Hp} (C : Cx X p s m args meth c RX15 cX15_key 2 (some .int) "key") {h : Hp} {H : Heap} {locs : List Loc} (hkm : Km h0 h) (hW : Wx X h H) (hZ : va_S (aA (eB X)) s.heap H locs) (ls : Array Slot) (hl : lv_has ls 2 []) (hE : sX15_key_19 h  = some o) : W p l e (rm 1 20) s m args below meth c H locs 0 0 (MQ below (QI X h0 o.1 o.2) args s 0 0 (aA (eB X))) (F0 m 19 ls []) := by
  refine lv_iconst (v := (-1 : Int32)) C.1 C.2.1 dX15_key_19 (by decide) ?_
  refine lv_goto (tgt := 29) C.1 C.2.1 dX15_key_20 (by decide) ?_
  exact bX15_key_29 C hkm hW hZ _ (lv_sub hl [] rfl) hE
set_option maxRecDepth 20000 in
theorem ct_X15_key (l : Launch) (X : Ec) {h : Hp} {x0 : Nat} {x1 : Int32} {o : Int32 × Hp} (k_x0 : hK h x0 = 15) (hE : sX15_key h x0 x1 = some o) : MetI l yX15_key cX15_key 2 (some .int) 1 20 X [.ref x0, .int x1] h o := by
  refine x_met (by decide) (Nat.le_of_ble_eq_true rfl) ?_
  intro p e s m below meth c ls C hl hW hZ
  have hl : lv_has ls 2 [(0, .ref x0), (1, .int x1)] := hl
  have hkm : Km h h := Km.rf h
  refine lv_aload_n C.1 C.2.1 dX15_key_0 rfl (lv_at hl 0 rfl) ?_
  obtain ⟨o_1, eo_1, hE⟩ := cl_e hE
  refine x_kI (o := o_1) (z_runV (As := []) (rest := []) C (ct_X15_isProblem l X k_x0 eo_1) cw_X15_862 hW hZ k_x0 (by decide) rfl rfl rfl hl.1 (Nat.le_of_ble_eq_true rfl) rfl dX15_key_1 ⟨Nat.le_of_ble_eq_true rfl, Nat.le_of_ble_eq_true rfl⟩ ⟨Nat.le_refl _, Nat.le_refl _⟩) hZ (fun _ _ hW km hZ => ?_)
  replace hkm := hkm.tr km
  replace k_x0 := km.at k_x0 (by decide)
  refine lv_if_eq (tgt := 19) C.1 C.2.1 dX15_key_4 (by decide) (fun c_2 => ?_) (fun c_2 => ?_)
  · have hE := br_p hE c_2
    exact bX15_key_19 C hkm hW hZ _ (lv_sub hl [] rfl) hE
  · have hE := br_n hE c_2
    refine lv_iload_n C.1 C.2.1 dX15_key_7 rfl (lv_at hl 1 rfl) ?_
    refine lv_if_lt (tgt := 19) C.1 C.2.1 dX15_key_8 (by decide) (fun c_3 => ?_) (fun c_3 => ?_)
    · have hE := br_p hE c_3
      exact bX15_key_19 C hkm hW hZ _ (lv_sub hl [] rfl) hE
    · have hE := br_n hE c_3
      refine lv_iload_n C.1 C.2.1 dX15_key_11 rfl (lv_at hl 1 rfl) ?_
      refine lv_aload_n C.1 C.2.1 dX15_key_12 rfl (lv_at hl 0 rfl) ?_
      refine gf_X15_859 C hW k_x0 dX15_key_13 ?_
      refine lv_icmp_lt (tgt := 23) C.1 C.2.1 dX15_key_16 (by decide) (fun c_4 => ?_) (fun c_4 => ?_)
      · have hE := br_p hE c_4
        refine lv_aload_n C.1 C.2.1 dX15_key_23 rfl (lv_at hl 0 rfl) ?_
        obtain ⟨r_5, er_5, hE⟩ := cl_e hE
        refine gf_X15_371 C hW k_x0 er_5 dX15_key_24 (fun k_r_5 => ?_)
        refine lv_iload_n C.1 C.2.1 dX15_key_27 rfl (lv_at hl 1 rfl) ?_
        obtain ⟨g_6, hE⟩ := gd_e hE
        refine y_iald C hW k_r_5 g_6 dX15_key_28 ?_
        exact bX15_key_29 C hkm hW hZ _ (lv_sub hl [] rfl) hE
      · have hE := br_n hE c_4
        exact bX15_key_19 C hkm hW hZ _ (lv_sub hl [] rfl) hE
section
variable {p : Program} {l : Launch} {e : Env} {R : Room} {s : State} {m : MethodId} {args : Array Value} {below : List Frame} {meth : Method} {c : Code} {H : Heap} {locs : List Loc} {cells slots : Nat} {Q : State → Prop}
variable {cc : ByteArray} {pc : Nat} {ls : Array Slot} {rest : List Value} {X : Ec} {h h1 : Hp} {nL : Nat} {rt : Option FieldType} {mn : String}
theorem gf_X15_856 {a : Nat} (C : Cx X p s m args meth c RX15 cc nL rt mn) (hW : Wx X h H) (ha : hK h a = 15) (hdg : decode cc pc = .ok (.getfield 856, 3)) (kk : W p l e R s m args below meth c H locs cells slots Q (F0 m (pc + 3) ls (.int (hI h a 68) :: rest))) : W p l e R s m args below meth c H locs cells slots Q (F0 m pc ls (.ref a :: rest)) :=
  y_geti C hW ha i_X15 (by decide) rfl (by decide) m_2179 rfl hdg kk
theorem gf_X15_850 {a : Nat} (C : Cx X p s m args meth c RX15 cc nL rt mn) (hW : Wx X h H) (ha : hK h a = 15) (hdg : decode cc pc = .ok (.getfield 850, 3)) (kk : W p l e R s m args below meth c H locs cells slots Q (F0 m (pc + 3) ls (.int (hI h a 66) :: rest))) : W p l e R s m args below meth c H locs cells slots Q (F0 m pc ls (.ref a :: rest)) :=
  y_geti C hW ha i_X15 (by decide) rfl (by decide) m_2177 rfl hdg kk
theorem gf_X15_853 {a : Nat} (C : Cx X p s m args meth c RX15 cc nL rt mn) (hW : Wx X h H) (ha : hK h a = 15) (hdg : decode cc pc = .ok (.getfield 853, 3)) (kk : W p l e R s m args below meth c H locs cells slots Q (F0 m (pc + 3) ls (.int (hI h a 67) :: rest))) : W p l e R s m args below meth c H locs cells slots Q (F0 m pc ls (.ref a :: rest)) :=
  y_geti C hW ha i_X15 (by decide) rfl (by decide) m_2178 rfl hdg kk
end
theorem dX15_refutes_0 : decode cX15_refutes 0 = .ok (.aload_n 0, 1) := by decide +kernel
theorem dX15_refutes_1 : decode cX15_refutes 1 = .ok (.invokevirtual 862, 3) := by decide +kernel
theorem dX15_refutes_4 : decode cX15_refutes 4 = .ok (.ifCond .eq 11, 3) := by decide +kernel
theorem dX15_refutes_7 : decode cX15_refutes 7 = .ok (.aload_n 0, 1) := by decide +kernel
theorem dX15_refutes_8 : decode cX15_refutes 8 = .ok (.getfield 850, 3) := by decide +kernel
theorem dX15_refutes_11 : decode cX15_refutes 11 = .ok (.iconst 1, 1) := by decide +kernel
theorem dX15_refutes_12 : decode cX15_refutes 12 = .ok (.if_icmp .le 5, 3) := by decide +kernel
theorem dX15_refutes_15 : decode cX15_refutes 15 = .ok (.iconst (-1), 1) := by decide +kernel
theorem dX15_refutes_16 : decode cX15_refutes 16 = .ok (.ireturn, 1) := by decide +kernel
theorem dX15_refutes_17 : decode cX15_refutes 17 = .ok (.aload_n 0, 1) := by decide +kernel
theorem dX15_refutes_18 : decode cX15_refutes 18 = .ok (.iconst 0, 1) := by decide +kernel
theorem dX15_refutes_19 : decode cX15_refutes 19 = .ok (.invokevirtual 671, 3) := by decide +kernel
theorem dX15_refutes_22 : decode cX15_refutes 22 = .ok (.aload_n 0, 1) := by decide +kernel
theorem dX15_refutes_23 : decode cX15_refutes 23 = .ok (.getfield 257, 3) := by decide +kernel
theorem dX15_refutes_26 : decode cX15_refutes 26 = .ok (.aload_n 0, 1) := by decide +kernel
theorem dX15_refutes_27 : decode cX15_refutes 27 = .ok (.getfield 847, 3) := by decide +kernel
theorem dX15_refutes_30 : decode cX15_refutes 30 = .ok (.aaload, 1) := by decide +kernel
theorem dX15_refutes_31 : decode cX15_refutes 31 = .ok (.invokevirtual 405, 3) := by decide +kernel
theorem dX15_refutes_34 : decode cX15_refutes 34 = .ok (.aload_n 0, 1) := by decide +kernel
theorem dX15_refutes_35 : decode cX15_refutes 35 = .ok (.aload_n 0, 1) := by decide +kernel
theorem dX15_refutes_36 : decode cX15_refutes 36 = .ok (.iconst 0, 1) := by decide +kernel
theorem dX15_refutes_37 : decode cX15_refutes 37 = .ok (.invokevirtual 671, 3) := by decide +kernel
theorem dX15_refutes_40 : decode cX15_refutes 40 = .ok (.aload_n 0, 1) := by decide +kernel
theorem dX15_refutes_41 : decode cX15_refutes 41 = .ok (.getfield 301, 3) := by decide +kernel
theorem dX15_refutes_44 : decode cX15_refutes 44 = .ok (.iconst 0, 1) := by decide +kernel
theorem dX15_refutes_45 : decode cX15_refutes 45 = .ok (.aaload, 1) := by decide +kernel
theorem dX15_refutes_46 : decode cX15_refutes 46 = .ok (.invokevirtual 652, 3) := by decide +kernel
theorem dX15_refutes_49 : decode cX15_refutes 49 = .ok (.iload_n 1, 1) := by decide +kernel
theorem dX15_refutes_50 : decode cX15_refutes 50 = .ok (.ifCond .lt 16, 3) := by decide +kernel
theorem dX15_refutes_53 : decode cX15_refutes 53 = .ok (.iload_n 1, 1) := by decide +kernel
theorem dX15_refutes_54 : decode cX15_refutes 54 = .ok (.aload_n 0, 1) := by decide +kernel
theorem dX15_refutes_55 : decode cX15_refutes 55 = .ok (.getfield 301, 3) := by decide +kernel
theorem dX15_refutes_58 : decode cX15_refutes 58 = .ok (.iconst 0, 1) := by decide +kernel
theorem dX15_refutes_59 : decode cX15_refutes 59 = .ok (.aaload, 1) := by decide +kernel
theorem dX15_refutes_60 : decode cX15_refutes 60 = .ok (.getfield 575, 3) := by decide +kernel
theorem dX15_refutes_63 : decode cX15_refutes 63 = .ok (.if_icmp .lt 5, 3) := by decide +kernel
theorem dX15_refutes_66 : decode cX15_refutes 66 = .ok (.iconst (-1), 1) := by decide +kernel
theorem dX15_refutes_67 : decode cX15_refutes 67 = .ok (.ireturn, 1) := by decide +kernel
theorem dX15_refutes_68 : decode cX15_refutes 68 = .ok (.aload_n 0, 1) := by decide +kernel
theorem dX15_refutes_69 : decode cX15_refutes 69 = .ok (.iconst 0, 1) := by decide +kernel
theorem dX15_refutes_70 : decode cX15_refutes 70 = .ok (.iload_n 1, 1) := by decide +kernel
theorem dX15_refutes_71 : decode cX15_refutes 71 = .ok (.invokevirtual 823, 3) := by decide +kernel
theorem dX15_refutes_74 : decode cX15_refutes 74 = .ok (.aload_n 0, 1) := by decide +kernel
theorem dX15_refutes_75 : decode cX15_refutes 75 = .ok (.getfield 850, 3) := by decide +kernel
theorem dX15_refutes_78 : decode cX15_refutes 78 = .ok (.ifCond .ne 15, 3) := by decide +kernel
theorem dX15_refutes_81 : decode cX15_refutes 81 = .ok (.aload_n 0, 1) := by decide +kernel
theorem dX15_refutes_82 : decode cX15_refutes 82 = .ok (.iconst 1, 1) := by decide +kernel
theorem dX15_refutes_83 : decode cX15_refutes 83 = .ok (.aload_n 0, 1) := by decide +kernel
theorem dX15_refutes_84 : decode cX15_refutes 84 = .ok (.getfield 853, 3) := by decide +kernel
theorem dX15_refutes_87 : decode cX15_refutes 87 = .ok (.invokevirtual 826, 3) := by decide +kernel
theorem dX15_refutes_90 : decode cX15_refutes 90 = .ok (.ifCond .ne 11, 3) := by decide +kernel
theorem dX15_refutes_93 : decode cX15_refutes 93 = .ok (.aload_n 0, 1) := by decide +kernel
theorem dX15_refutes_94 : decode cX15_refutes 94 = .ok (.iconst 1, 1) := by decide +kernel
theorem dX15_refutes_95 : decode cX15_refutes 95 = .ok (.invokevirtual 829, 3) := by decide +kernel
theorem dX15_refutes_98 : decode cX15_refutes 98 = .ok (.ifCond .eq 5, 3) := by decide +kernel
theorem dX15_refutes_101 : decode cX15_refutes 101 = .ok (.iconst 0, 1) := by decide +kernel
theorem dX15_refutes_102 : decode cX15_refutes 102 = .ok (.ireturn, 1) := by decide +kernel
theorem dX15_refutes_103 : decode cX15_refutes 103 = .ok (.iconst 0, 1) := by decide +kernel
theorem dX15_refutes_104 : decode cX15_refutes 104 = .ok (.istore_n 2, 1) := by decide +kernel
theorem dX15_refutes_105 : decode cX15_refutes 105 = .ok (.iconst 0, 1) := by decide +kernel
theorem dX15_refutes_106 : decode cX15_refutes 106 = .ok (.istore_n 3, 1) := by decide +kernel
theorem dX15_refutes_107 : decode cX15_refutes 107 = .ok (.iload_n 3, 1) := by decide +kernel
theorem dX15_refutes_108 : decode cX15_refutes 108 = .ok (.aload_n 0, 1) := by decide +kernel
theorem dX15_refutes_109 : decode cX15_refutes 109 = .ok (.getfield 301, 3) := by decide +kernel
theorem dX15_refutes_112 : decode cX15_refutes 112 = .ok (.iconst 1, 1) := by decide +kernel
theorem dX15_refutes_113 : decode cX15_refutes 113 = .ok (.aaload, 1) := by decide +kernel
theorem dX15_refutes_114 : decode cX15_refutes 114 = .ok (.getfield 575, 3) := by decide +kernel
theorem dX15_refutes_117 : decode cX15_refutes 117 = .ok (.if_icmp .ge 38, 3) := by decide +kernel
theorem dX15_refutes_120 : decode cX15_refutes 120 = .ok (.iload_n 2, 1) := by decide +kernel
theorem dX15_refutes_121 : decode cX15_refutes 121 = .ok (.aload_n 0, 1) := by decide +kernel
theorem dX15_refutes_122 : decode cX15_refutes 122 = .ok (.iconst 1, 1) := by decide +kernel
theorem dX15_refutes_123 : decode cX15_refutes 123 = .ok (.iload_n 3, 1) := by decide +kernel
theorem dX15_refutes_124 : decode cX15_refutes 124 = .ok (.aload_n 0, 1) := by decide +kernel
theorem dX15_refutes_125 : decode cX15_refutes 125 = .ok (.getfield 856, 3) := by decide +kernel
theorem dX15_refutes_128 : decode cX15_refutes 128 = .ok (.aload_n 0, 1) := by decide +kernel
theorem dX15_refutes_129 : decode cX15_refutes 129 = .ok (.getfield 850, 3) := by decide +kernel
theorem dX15_refutes_132 : decode cX15_refutes 132 = .ok (.aload_n 0, 1) := by decide +kernel
theorem dX15_refutes_133 : decode cX15_refutes 133 = .ok (.getfield 853, 3) := by decide +kernel
theorem dX15_refutes_136 : decode cX15_refutes 136 = .ok (.invokevirtual 832, 3) := by decide +kernel
theorem dX15_refutes_139 : decode cX15_refutes 139 = .ok (.ifCond .eq 7, 3) := by decide +kernel
theorem dX15_refutes_142 : decode cX15_refutes 142 = .ok (.iconst 0, 1) := by decide +kernel
theorem dX15_refutes_143 : decode cX15_refutes 143 = .ok (.goto 4, 3) := by decide +kernel
theorem dX15_refutes_146 : decode cX15_refutes 146 = .ok (.iconst 1, 1) := by decide +kernel
theorem dX15_refutes_147 : decode cX15_refutes 147 = .ok (.iadd, 1) := by decide +kernel
theorem dX15_refutes_148 : decode cX15_refutes 148 = .ok (.istore_n 2, 1) := by decide +kernel
theorem dX15_refutes_149 : decode cX15_refutes 149 = .ok (.iinc 3 1, 3) := by decide +kernel
theorem dX15_refutes_152 : decode cX15_refutes 152 = .ok (.goto (-45), 3) := by decide +kernel
theorem dX15_refutes_155 : decode cX15_refutes 155 = .ok (.iload_n 2, 1) := by decide +kernel
theorem dX15_refutes_156 : decode cX15_refutes 156 = .ok (.ireturn, 1) := by decide +kernel
set_option maxRecDepth 20000 in
theorem moX15_refutes_15 {o : Int32 × Hp} {F : Nat} {h : Hp} (hE : sX15_refutes_15 F h  = some o) : Le h o.2 := by
  exact le_some2 hE
set_option maxRecDepth 20000 in
theorem moX15_refutes_66 {o : Int32 × Hp} {F : Nat} {h : Hp} (hE : sX15_refutes_66 F h  = some o) : Le h o.2 := by
  exact le_some2 hE
set_option maxRecDepth 20000 in
theorem moX15_refutes_147 {o : Int32 × Hp} {k_107 : Hp → Nat → Int32 → Int32 → Option (Int32 × Hp)} {F : Nat} (mk_107 : ∀ (h : Hp) (x0 : Nat) (x2 : Int32) (x3 : Int32), k_107 h x0 x2 x3 = some o → Le h o.2) {h : Hp} {x0 : Nat} {x3 : Int32} {t0 : Int32} {t1 : Int32} (hE : sX15_refutes_147 F k_107 h x0 x3 t0 t1 = some o) : Le h o.2 := by
  obtain ⟨v_1, ev_1, hE⟩ := nm_e2 hE
  obtain ⟨v_2, ev_2, hE⟩ := nm_e2 hE
  exact mk_107 _ _ _ _ hE
set_option maxRecDepth 20000 in
theorem moX15_refutes_139 {o : Int32 × Hp} {k_107 : Hp → Nat → Int32 → Int32 → Option (Int32 × Hp)} {F : Nat} (mk_107 : ∀ (h : Hp) (x0 : Nat) (x2 : Int32) (x3 : Int32), k_107 h x0 x2 x3 = some o → Le h o.2) {h : Hp} {x0 : Nat} {x3 : Int32} {t0 : Int32} {t1 : Int32} (hE : sX15_refutes_139 F k_107 h x0 x3 t0 t1 = some o) : Le h o.2 := by
  rcases br_e hE with ⟨_, hE⟩ | ⟨_, hE⟩
  · exact moX15_refutes_147 mk_107 hE
  · exact moX15_refutes_147 mk_107 hE
set_option maxRecDepth 20000 in
theorem moX15_refutes_107 {o : Int32 × Hp} {F : Nat} : ∀ (f : Nat) {h : Hp} {x0 : Nat} {x2 : Int32} {x3 : Int32}, sX15_refutes_107 F f h x0 x2 x3 = some o → Le h o.2 := by
  intro f
  induction f with
  | zero =>
    intro h x0 x2 x3 hE
    rw [sX15_refutes_107] at hE
    cases hE
  | succ f ih =>
    intro h x0 x2 x3 hE
    rw [sX15_refutes_107] at hE
    have mk_107 : ∀ (h : Hp) (x0 : Nat) (x2 : Int32) (x3 : Int32), sX15_refutes_107 F f h x0 x2 x3 = some o → Le h o.2 := fun h x0 x2 x3 hE => ih hE
    obtain ⟨r_1, er_1, hE⟩ := cl_e hE
    obtain ⟨g_2, hE⟩ := gd_e hE
    obtain ⟨r_3, er_3, hE⟩ := cl_e hE
    rcases br_e hE with ⟨_, hE⟩ | ⟨_, hE⟩
    · exact le_some2 hE
    · obtain ⟨o_5, eo_5, hE⟩ := cl_e hE
      refine (moX15_isAnswered eo_5).tr ?_
      exact moX15_refutes_139 mk_107 hE
set_option maxRecDepth 20000 in
theorem moX15_refutes_101 {o : Int32 × Hp} {F : Nat} {h : Hp} (hE : sX15_refutes_101 F h  = some o) : Le h o.2 := by
  exact le_some2 hE
set_option maxRecDepth 20000 in
theorem moX15_refutes_98 {o : Int32 × Hp} {F : Nat} {h : Hp} {x0 : Nat} {t0 : Int32} (hE : sX15_refutes_98 F h x0 t0 = some o) : Le h o.2 := by
  rcases br_e hE with ⟨_, hE⟩ | ⟨_, hE⟩
  · exact moX15_refutes_107 _ hE
  · exact moX15_refutes_101 hE
set_option maxRecDepth 20000 in
theorem moX15_refutes_93 {o : Int32 × Hp} {F : Nat} {h : Hp} {x0 : Nat} (hE : sX15_refutes_93 F h x0 = some o) : Le h o.2 := by
  obtain ⟨o_1, eo_1, hE⟩ := cl_e hE
  refine (moX15_hasEnded eo_1).tr ?_
  exact moX15_refutes_98 hE
set_option maxRecDepth 20000 in
theorem moX15_refutes_90 {o : Int32 × Hp} {F : Nat} {h : Hp} {x0 : Nat} {t0 : Int32} (hE : sX15_refutes_90 F h x0 t0 = some o) : Le h o.2 := by
  rcases br_e hE with ⟨_, hE⟩ | ⟨_, hE⟩
  · exact moX15_refutes_93 hE
  · exact moX15_refutes_101 hE
set_option maxRecDepth 20000 in
theorem moX15_refutes_74 {o : Int32 × Hp} {F : Nat} {h : Hp} {x0 : Nat} (hE : sX15_refutes_74 F h x0 = some o) : Le h o.2 := by
  rcases br_e hE with ⟨_, hE⟩ | ⟨_, hE⟩
  · obtain ⟨o_2, eo_2, hE⟩ := cl_e hE
    refine (moX15_isGoal eo_2).tr ?_
    exact moX15_refutes_90 hE
  · exact moX15_refutes_93 hE
set_option maxRecDepth 20000 in
theorem moX15_refutes_49 {o : Int32 × Hp} {F : Nat} {h : Hp} {x0 : Nat} {x1 : Int32} (hE : sX15_refutes_49 F h x0 x1 = some o) : Le h o.2 := by
  rcases br_e hE with ⟨_, hE⟩ | ⟨_, hE⟩
  · exact moX15_refutes_66 hE
  · obtain ⟨r_2, er_2, hE⟩ := cl_e hE
    obtain ⟨g_3, hE⟩ := gd_e hE
    obtain ⟨r_4, er_4, hE⟩ := cl_e hE
    rcases br_e hE with ⟨_, hE⟩ | ⟨_, hE⟩
    · obtain ⟨o_6, eo_6, hE⟩ := cl_e hE
      refine (moX15_step eo_6).tr ?_
      exact moX15_refutes_74 hE
    · exact moX15_refutes_66 hE
set_option maxRecDepth 20000 in
theorem moX15_refutes_40 {o : Int32 × Hp} {F : Nat} {h : Hp} {x0 : Nat} {x1 : Int32} {t0 : Nat} {t1 : Nat} (hE : sX15_refutes_40 F h x0 x1 t0 t1 = some o) : Le h o.2 := by
  obtain ⟨r_1, er_1, hE⟩ := cl_e hE
  obtain ⟨g_2, hE⟩ := gd_e hE
  obtain ⟨r_3, er_3, hE⟩ := cl_e hE
  obtain ⟨o_4, eo_4, hE⟩ := cl_e hE
  refine (moX15_legal eo_4).tr ?_
  exact moX15_refutes_49 hE
set_option maxRecDepth 20000 in
theorem moX15_refutes_34 {o : Int32 × Hp} {F : Nat} {h : Hp} {x0 : Nat} {x1 : Int32} (hE : sX15_refutes_34 F h x0 x1 = some o) : Le h o.2 := by
  obtain ⟨o_1, eo_1, hE⟩ := cl_e hE
  refine (moX15_deepBoard eo_1).tr ?_
  exact moX15_refutes_40 hE
set_option maxRecDepth 20000 in
theorem moX15_refutes_22 {o : Int32 × Hp} {F : Nat} {h : Hp} {x0 : Nat} {x1 : Int32} {t0 : Nat} (hE : sX15_refutes_22 F h x0 x1 t0 = some o) : Le h o.2 := by
  obtain ⟨r_1, er_1, hE⟩ := cl_e hE
  obtain ⟨g_2, hE⟩ := gd_e hE
  obtain ⟨r_3, er_3, hE⟩ := cl_e hE
  obtain ⟨o_4, eo_4, hE⟩ := cl_e hE
  refine (moX12_copy eo_4).tr ?_
  exact moX15_refutes_34 hE
set_option maxRecDepth 20000 in
theorem moX15_refutes_4 {o : Int32 × Hp} {F : Nat} {h : Hp} {x0 : Nat} {x1 : Int32} {t0 : Int32} (hE : sX15_refutes_4 F h x0 x1 t0 = some o) : Le h o.2 := by
  rcases br_e hE with ⟨_, hE⟩ | ⟨_, hE⟩
  · exact moX15_refutes_15 hE
  · rcases br_e hE with ⟨_, hE⟩ | ⟨_, hE⟩
    · obtain ⟨o_3, eo_3, hE⟩ := cl_e hE
      refine (moX15_deepBoard eo_3).tr ?_
      exact moX15_refutes_22 hE
    · exact moX15_refutes_15 hE
set_option maxRecDepth 20000 in
theorem moX15_refutes {o : Int32 × Hp} {F : Nat} {h : Hp} {x0 : Nat} {x1 : Int32} (hE : sX15_refutes F h x0 x1 = some o) : Le h o.2 := by
  obtain ⟨o_1, eo_1, hE⟩ := cl_e hE
  refine (moX15_isProblem eo_1).tr ?_
  exact moX15_refutes_4 hE
set_option maxRecDepth 20000 in
theorem bX15_refutes_15 {p : Program} {l : Launch} {e : Env} {s : State} {m : MethodId} {args : Array Value} {below : List Frame} {meth : Method} {c : Code} {X : Ec} {h0 : Hp} {o : Int32 × Hp} {F : Nat} (C : Cx X p s m args meth c RX15 cX15_refutes 4 (some .int) "refutes") {h : Hp} {H : Heap} {locs : List Loc} (hkl : Kl h0 h) (hW : Wx X h H) (hZ : va_S (aA (eB X)) s.heap H locs) (ls : Array Slot) (hl : lv_has ls 4 []) (hE : sX15_refutes_15 F h  = some o) : W p l e (rmA 50 1279 h0 o.2) s m args below meth c H locs (hS h - hS h0) (hL h - hL h0) (MQ below (QIA X h0 o.1 o.2) args s (hS o.2 - hS h0) (hL o.2 - hL h0) (aA (eB X))) (F0 m 15 ls []) := by
  refine lv_iconst (v := (-1 : Int32)) C.1 C.2.1 dX15_refutes_15 (by decide) ?_
  exact x_iretA C rfl rfl hW hZ hkl hE dX15_refutes_16
set_option maxRecDepth 20000 in
theorem bX15_refutes_66 {p : Program} {l : Launch} {e : Env} {s : State} {m : MethodId} {args : Array Value} {below : List Frame} {meth : Method} {c : Code} {X : Ec} {h0 : Hp} {o : Int32 × Hp} {F : Nat} (C : Cx X p s m args meth c RX15 cX15_refutes 4 (some .int) "refutes") {h : Hp} {H : Heap} {locs : List Loc} (hkl : Kl h0 h) (hW : Wx X h H) (hZ : va_S (aA (eB X)) s.heap H locs) (ls : Array Slot) (hl : lv_has ls 4 []) (hE : sX15_refutes_66 F h  = some o) : W p l e (rmA 50 1279 h0 o.2) s m args below meth c H locs (hS h - hS h0) (hL h - hL h0) (MQ below (QIA X h0 o.1 o.2) args s (hS o.2 - hS h0) (hL o.2 - hL h0) (aA (eB X))) (F0 m 66 ls []) := by
  refine lv_iconst (v := (-1 : Int32)) C.1 C.2.1 dX15_refutes_66 (by decide) ?_
  exact x_iretA C rfl rfl hW hZ hkl hE dX15_refutes_67
set_option maxRecDepth 20000 in
theorem bX15_refutes_147 {p : Program} {l : Launch} {e : Env} {s : State} {m : MethodId} {args : Array Value} {below : List Frame} {meth : Method} {c : Code} {X : Ec} {h0 : Hp} {o : Int32 × Hp} {k_107 : Hp → Nat → Int32 → Int32 → Option (Int32 × Hp)} {F : Nat} (C : Cx X p s m args meth c RX15 cX15_refutes 4 (some .int) "refutes") (hk_107 : ∀ (h : Hp) (x0 : Nat) (x2 : Int32) (x3 : Int32) (H : Heap) (locs : List Loc), hK h x0 = 15 → Kl h0 h → Wx X h H → va_S (aA (eB X)) s.heap H locs → ∀ (ls : Array Slot), lv_has ls 4 [(0, .ref x0), (2, .int x2), (3, .int x3)] → k_107 h x0 x2 x3 = some o → W p l e (rmA 50 1279 h0 o.2) s m args below meth c H locs (hS h - hS h0) (hL h - hL h0) (MQ below (QIA X h0 o.1 o.2) args s (hS o.2 - hS h0) (hL o.2 - hL h0) (aA (eB X))) (F0 m 107 ls [])) (mk_107 : ∀ (h : Hp) (x0 : Nat) (x2 : Int32) (x3 : Int32), k_107 h x0 x2 x3 = some o → Le h o.2) {h : Hp} {x0 : Nat} {x3 : Int32} {t0 : Int32} {t1 : Int32} {H : Heap} {locs : List Loc} (k_x0 : hK h x0 = 15) (hkl : Kl h0 h) (hW : Wx X h H) (hZ : va_S (aA (eB X)) s.heap H locs) (ls : Array Slot) (hl : lv_has ls 4 [(0, .ref x0), (3, .int x3)]) (hE : sX15_refutes_147 F k_107 h x0 x3 t0 t1 = some o) : W p l e (rmA 50 1279 h0 o.2) s m args below meth c H locs (hS h - hS h0) (hL h - hL h0) (MQ below (QIA X h0 o.1 o.2) args s (hS o.2 - hS h0) (hL o.2 - hL h0) (aA (eB X))) (F0 m 147 ls [.int t0, .int t1]) := by
  refine lv_iadd C.1 C.2.1 dX15_refutes_147 ?_
  obtain ⟨v_1, ev_1, hE⟩ := nm_e2 hE
  refine x_nmI ev_1 ?_
  refine lv_istore_n (lv' := [(2, .int v_1), (0, .ref x0), (3, .int x3)]) C.1 C.2.1 dX15_refutes_148 rfl hl (by decide) rfl (fun ls hl => ?_)
  obtain ⟨v_2, ev_2, hE⟩ := nm_e2 hE
  refine lv_iinc (v := v_2) (lv' := [(3, .int v_2), (2, .int v_1), (0, .ref x0)]) C.1 C.2.1 dX15_refutes_149 hl (k := 2) rfl (by rw [ev_2]; rfl) (by decide) rfl (fun ls hl => ?_)
  refine lv_goto (tgt := 107) C.1 C.2.1 dX15_refutes_152 (by decide) ?_
  exact hk_107 _ _ _ _ _ _ k_x0 hkl hW hZ _ (lv_sub hl [2, 1, 0] rfl) hE
set_option maxRecDepth 20000 in
theorem bX15_refutes_139 {p : Program} {l : Launch} {e : Env} {s : State} {m : MethodId} {args : Array Value} {below : List Frame} {meth : Method} {c : Code} {X : Ec} {h0 : Hp} {o : Int32 × Hp} {k_107 : Hp → Nat → Int32 → Int32 → Option (Int32 × Hp)} {F : Nat} (C : Cx X p s m args meth c RX15 cX15_refutes 4 (some .int) "refutes") (hk_107 : ∀ (h : Hp) (x0 : Nat) (x2 : Int32) (x3 : Int32) (H : Heap) (locs : List Loc), hK h x0 = 15 → Kl h0 h → Wx X h H → va_S (aA (eB X)) s.heap H locs → ∀ (ls : Array Slot), lv_has ls 4 [(0, .ref x0), (2, .int x2), (3, .int x3)] → k_107 h x0 x2 x3 = some o → W p l e (rmA 50 1279 h0 o.2) s m args below meth c H locs (hS h - hS h0) (hL h - hL h0) (MQ below (QIA X h0 o.1 o.2) args s (hS o.2 - hS h0) (hL o.2 - hL h0) (aA (eB X))) (F0 m 107 ls [])) (mk_107 : ∀ (h : Hp) (x0 : Nat) (x2 : Int32) (x3 : Int32), k_107 h x0 x2 x3 = some o → Le h o.2) {h : Hp} {x0 : Nat} {x3 : Int32} {t0 : Int32} {t1 : Int32} {H : Heap} {locs : List Loc} (k_x0 : hK h x0 = 15) (hkl : Kl h0 h) (hW : Wx X h H) (hZ : va_S (aA (eB X)) s.heap H locs) (ls : Array Slot) (hl : lv_has ls 4 [(0, .ref x0), (3, .int x3)]) (hE : sX15_refutes_139 F k_107 h x0 x3 t0 t1 = some o) : W p l e (rmA 50 1279 h0 o.2) s m args below meth c H locs (hS h - hS h0) (hL h - hL h0) (MQ below (QIA X h0 o.1 o.2) args s (hS o.2 - hS h0) (hL o.2 - hL h0) (aA (eB X))) (F0 m 139 ls [.int t0, .int t1]) := by
  refine lv_if_eq (tgt := 146) C.1 C.2.1 dX15_refutes_139 (by decide) (fun c_1 => ?_) (fun c_1 => ?_)
  · have hE := br_p hE c_1
    refine lv_iconst (v := (1 : Int32)) C.1 C.2.1 dX15_refutes_146 (by decide) ?_
    exact bX15_refutes_147 C hk_107 mk_107 k_x0 hkl hW hZ _ (lv_sub hl [0, 1] rfl) hE
  · have hE := br_n hE c_1
    refine lv_iconst (v := (0 : Int32)) C.1 C.2.1 dX15_refutes_142 (by decide) ?_
    refine lv_goto (tgt := 147) C.1 C.2.1 dX15_refutes_143 (by decide) ?_
    exact bX15_refutes_147 C hk_107 mk_107 k_x0 hkl hW hZ _ (lv_sub hl [0, 1] rfl) hE
set_option maxRecDepth 20000 in
theorem bX15_refutes_107 {p : Program} {l : Launch} {e : Env} {s : State} {m : MethodId} {args : Array Value} {below : List Frame} {meth : Method} {c : Code} {X : Ec} {h0 : Hp} {o : Int32 × Hp} {F : Nat} (C : Cx X p s m args meth c RX15 cX15_refutes 4 (some .int) "refutes") : ∀ (f : Nat) {h : Hp} {x0 : Nat} {x2 : Int32} {x3 : Int32} {H : Heap} {locs : List Loc} (k_x0 : hK h x0 = 15), Kl h0 h → Wx X h H → va_S (aA (eB X)) s.heap H locs → ∀ (ls : Array Slot), lv_has ls 4 [(0, .ref x0), (2, .int x2), (3, .int x3)] → sX15_refutes_107 F f h x0 x2 x3 = some o → W p l e (rmA 50 1279 h0 o.2) s m args below meth c H locs (hS h - hS h0) (hL h - hL h0) (MQ below (QIA X h0 o.1 o.2) args s (hS o.2 - hS h0) (hL o.2 - hL h0) (aA (eB X))) (F0 m 107 ls []) := by
  intro f
  induction f with
  | zero =>
    intro h x0 x2 x3 H locs k_x0 hkl hW hZ ls hl hE
    rw [sX15_refutes_107] at hE
    cases hE
  | succ f ih =>
    intro h x0 x2 x3 H locs k_x0 hkl hW hZ ls hl hE
    rw [sX15_refutes_107] at hE
    have mk_107 : ∀ (h : Hp) (x0 : Nat) (x2 : Int32) (x3 : Int32), sX15_refutes_107 F f h x0 x2 x3 = some o → Le h o.2 := fun h x0 x2 x3 hE => moX15_refutes_107 _ hE
    have hk_107 : ∀ (h : Hp) (x0 : Nat) (x2 : Int32) (x3 : Int32) (H : Heap) (locs : List Loc), hK h x0 = 15 → Kl h0 h → Wx X h H → va_S (aA (eB X)) s.heap H locs → ∀ (ls : Array Slot), lv_has ls 4 [(0, .ref x0), (2, .int x2), (3, .int x3)] → sX15_refutes_107 F f h x0 x2 x3 = some o → W p l e (rmA 50 1279 h0 o.2) s m args below meth c H locs (hS h - hS h0) (hL h - hL h0) (MQ below (QIA X h0 o.1 o.2) args s (hS o.2 - hS h0) (hL o.2 - hL h0) (aA (eB X))) (F0 m 107 ls []) := fun h x0 x2 x3 H locs k_x0 a b c ls hl hE => ih k_x0 a b c ls hl hE
    refine lv_iload_n C.1 C.2.1 dX15_refutes_107 rfl (lv_at hl 2 rfl) ?_
    refine lv_aload_n C.1 C.2.1 dX15_refutes_108 rfl (lv_at hl 0 rfl) ?_
    obtain ⟨r_1, er_1, hE⟩ := cl_e hE
    refine gf_X15_301 C hW k_x0 er_1 dX15_refutes_109 (fun k_r_1 => ?_)
    refine lv_iconst (v := (1 : Int32)) C.1 C.2.1 dX15_refutes_112 (by decide) ?_
    obtain ⟨g_2, hE⟩ := gd_e hE
    obtain ⟨r_3, er_3, hE⟩ := cl_e hE
    refine y_aald (t0 := 6) C hW k_r_1 (by decide) (by decide) rfl rfl rfl (fun _ => rfl) g_2 er_3 dX15_refutes_113 (fun k_r_3 => ?_)
    refine gf_X15_575 C hW k_r_3 dX15_refutes_114 ?_
    refine lv_icmp_ge (tgt := 155) C.1 C.2.1 dX15_refutes_117 (by decide) (fun c_4 => ?_) (fun c_4 => ?_)
    · have hE := br_p hE c_4
      refine lv_iload_n C.1 C.2.1 dX15_refutes_155 rfl (lv_at hl 1 rfl) ?_
      exact x_iretA C rfl rfl hW hZ hkl hE dX15_refutes_156
    · have hE := br_n hE c_4
      refine lv_iload_n C.1 C.2.1 dX15_refutes_120 rfl (lv_at hl 1 rfl) ?_
      refine lv_aload_n C.1 C.2.1 dX15_refutes_121 rfl (lv_at hl 0 rfl) ?_
      refine lv_iconst (v := (1 : Int32)) C.1 C.2.1 dX15_refutes_122 (by decide) ?_
      refine lv_iload_n C.1 C.2.1 dX15_refutes_123 rfl (lv_at hl 2 rfl) ?_
      refine lv_aload_n C.1 C.2.1 dX15_refutes_124 rfl (lv_at hl 0 rfl) ?_
      refine gf_X15_856 C hW k_x0 dX15_refutes_125 ?_
      refine lv_aload_n C.1 C.2.1 dX15_refutes_128 rfl (lv_at hl 0 rfl) ?_
      refine gf_X15_850 C hW k_x0 dX15_refutes_129 ?_
      refine lv_aload_n C.1 C.2.1 dX15_refutes_132 rfl (lv_at hl 0 rfl) ?_
      refine gf_X15_853 C hW k_x0 dX15_refutes_133 ?_
      obtain ⟨o_5, eo_5, hE⟩ := cl_e hE
      have m1 := moX15_isAnswered eo_5
      have m2 := moX15_refutes_139 mk_107 hE
      refine x_kIA (o := o_5) hkl (z_runV (As := [.int (1 : Int32), .int x3, .int (hI h x0 68), .int (hI h x0 66), .int (hI h x0 67)]) (rest := [.int x2]) C (ct_X15_isAnswered l X F k_x0 eo_5) cw_X15_832 hW hZ k_x0 (by decide) rfl rfl rfl hl.1 (Nat.le_of_ble_eq_true rfl) rfl dX15_refutes_136 ⟨Nat.le_of_ble_eq_true rfl, Nat.le_of_ble_eq_true rfl⟩ (rm_ok hkl m1 m2)) hZ (fun _ _ hW km hZ => ?_)
      replace hkl := hkl.tr km
      replace k_x0 := km.at k_x0 (by decide)
      exact bX15_refutes_139 C hk_107 mk_107 k_x0 hkl hW hZ _ (lv_sub hl [0, 2] rfl) hE
set_option maxRecDepth 20000 in
theorem bX15_refutes_101 {p : Program} {l : Launch} {e : Env} {s : State} {m : MethodId} {args : Array Value} {below : List Frame} {meth : Method} {c : Code} {X : Ec} {h0 : Hp} {o : Int32 × Hp} {F : Nat} (C : Cx X p s m args meth c RX15 cX15_refutes 4 (some .int) "refutes") {h : Hp} {H : Heap} {locs : List Loc} (hkl : Kl h0 h) (hW : Wx X h H) (hZ : va_S (aA (eB X)) s.heap H locs) (ls : Array Slot) (hl : lv_has ls 4 []) (hE : sX15_refutes_101 F h  = some o) : W p l e (rmA 50 1279 h0 o.2) s m args below meth c H locs (hS h - hS h0) (hL h - hL h0) (MQ below (QIA X h0 o.1 o.2) args s (hS o.2 - hS h0) (hL o.2 - hL h0) (aA (eB X))) (F0 m 101 ls []) := by
  refine lv_iconst (v := (0 : Int32)) C.1 C.2.1 dX15_refutes_101 (by decide) ?_
  exact x_iretA C rfl rfl hW hZ hkl hE dX15_refutes_102
set_option maxRecDepth 20000 in
theorem bX15_refutes_98 {p : Program} {l : Launch} {e : Env} {s : State} {m : MethodId} {args : Array Value} {below : List Frame} {meth : Method} {c : Code} {X : Ec} {h0 : Hp} {o : Int32 × Hp} {F : Nat} (C : Cx X p s m args meth c RX15 cX15_refutes 4 (some .int) "refutes") {h : Hp} {x0 : Nat} {t0 : Int32} {H : Heap} {locs : List Loc} (k_x0 : hK h x0 = 15) (hkl : Kl h0 h) (hW : Wx X h H) (hZ : va_S (aA (eB X)) s.heap H locs) (ls : Array Slot) (hl : lv_has ls 4 [(0, .ref x0)]) (hE : sX15_refutes_98 F h x0 t0 = some o) : W p l e (rmA 50 1279 h0 o.2) s m args below meth c H locs (hS h - hS h0) (hL h - hL h0) (MQ below (QIA X h0 o.1 o.2) args s (hS o.2 - hS h0) (hL o.2 - hL h0) (aA (eB X))) (F0 m 98 ls [.int t0]) := by
  refine lv_if_eq (tgt := 103) C.1 C.2.1 dX15_refutes_98 (by decide) (fun c_1 => ?_) (fun c_1 => ?_)
  · have hE := br_p hE c_1
    refine lv_iconst (v := (0 : Int32)) C.1 C.2.1 dX15_refutes_103 (by decide) ?_
    refine lv_istore_n (lv' := [(2, .int (0 : Int32)), (0, .ref x0)]) C.1 C.2.1 dX15_refutes_104 rfl hl (by decide) rfl (fun ls hl => ?_)
    refine lv_iconst (v := (0 : Int32)) C.1 C.2.1 dX15_refutes_105 (by decide) ?_
    refine lv_istore_n (lv' := [(3, .int (0 : Int32)), (2, .int (0 : Int32)), (0, .ref x0)]) C.1 C.2.1 dX15_refutes_106 rfl hl (by decide) rfl (fun ls hl => ?_)
    exact bX15_refutes_107 C F k_x0 hkl hW hZ _ (lv_sub hl [2, 1, 0] rfl) hE
  · have hE := br_n hE c_1
    exact bX15_refutes_101 C hkl hW hZ _ (lv_sub hl [] rfl) hE
set_option maxRecDepth 20000 in
theorem bX15_refutes_93 {p : Program} {l : Launch} {e : Env} {s : State} {m : MethodId} {args : Array Value} {below : List Frame} {meth : Method} {c : Code} {X : Ec} {h0 : Hp} {o : Int32 × Hp} {F : Nat} (C : Cx X p s m args meth c RX15 cX15_refutes 4 (some .int) "refutes") {h : Hp} {x0 : Nat} {H : Heap} {locs : List Loc} (k_x0 : hK h x0 = 15) (hkl : Kl h0 h) (hW : Wx X h H) (hZ : va_S (aA (eB X)) s.heap H locs) (ls : Array Slot) (hl : lv_has ls 4 [(0, .ref x0)]) (hE : sX15_refutes_93 F h x0 = some o) : W p l e (rmA 50 1279 h0 o.2) s m args below meth c H locs (hS h - hS h0) (hL h - hL h0) (MQ below (QIA X h0 o.1 o.2) args s (hS o.2 - hS h0) (hL o.2 - hL h0) (aA (eB X))) (F0 m 93 ls []) := by
  refine lv_aload_n C.1 C.2.1 dX15_refutes_93 rfl (lv_at hl 0 rfl) ?_
  refine lv_iconst (v := (1 : Int32)) C.1 C.2.1 dX15_refutes_94 (by decide) ?_
  obtain ⟨o_1, eo_1, hE⟩ := cl_e hE
  have m1 := moX15_hasEnded eo_1
  have m2 := moX15_refutes_98 hE
  refine x_kIA (o := o_1) hkl (z_runV (As := [.int (1 : Int32)]) (rest := []) C (ct_X15_hasEnded l X F k_x0 eo_1) cw_X15_829 hW hZ k_x0 (by decide) rfl rfl rfl hl.1 (Nat.le_of_ble_eq_true rfl) rfl dX15_refutes_95 ⟨Nat.le_of_ble_eq_true rfl, Nat.le_of_ble_eq_true rfl⟩ (rm_ok hkl m1 m2)) hZ (fun _ _ hW km hZ => ?_)
  replace hkl := hkl.tr km
  replace k_x0 := km.at k_x0 (by decide)
  exact bX15_refutes_98 C k_x0 hkl hW hZ _ (lv_sub hl [0] rfl) hE
set_option maxRecDepth 20000 in
theorem bX15_refutes_90 {p : Program} {l : Launch} {e : Env} {s : State} {m : MethodId} {args : Array Value} {below : List Frame} {meth : Method} {c : Code} {X : Ec} {h0 : Hp} {o : Int32 × Hp} {F : Nat} (C : Cx X p s m args meth c RX15 cX15_refutes 4 (some .int) "refutes") {h : Hp} {x0 : Nat} {t0 : Int32} {H : Heap} {locs : List Loc} (k_x0 : hK h x0 = 15) (hkl : Kl h0 h) (hW : Wx X h H) (hZ : va_S (aA (eB X)) s.heap H locs) (ls : Array Slot) (hl : lv_has ls 4 [(0, .ref x0)]) (hE : sX15_refutes_90 F h x0 t0 = some o) : W p l e (rmA 50 1279 h0 o.2) s m args below meth c H locs (hS h - hS h0) (hL h - hL h0) (MQ below (QIA X h0 o.1 o.2) args s (hS o.2 - hS h0) (hL o.2 - hL h0) (aA (eB X))) (F0 m 90 ls [.int t0]) := by
  refine lv_if_ne (tgt := 101) C.1 C.2.1 dX15_refutes_90 (by decide) (fun c_1 => ?_) (fun c_1 => ?_)
  · have hE := br_n hE c_1
    exact bX15_refutes_101 C hkl hW hZ _ (lv_sub hl [] rfl) hE
  · have hE := br_p hE c_1
    exact bX15_refutes_93 C k_x0 hkl hW hZ _ (lv_sub hl [0] rfl) hE
set_option maxRecDepth 20000 in
theorem bX15_refutes_74 {p : Program} {l : Launch} {e : Env} {s : State} {m : MethodId} {args : Array Value} {below : List Frame} {meth : Method} {c : Code} {X : Ec} {h0 : Hp} {o : Int32 × Hp} {F : Nat} (C : Cx X p s m args meth c RX15 cX15_refutes 4 (some .int) "refutes") {h : Hp} {x0 : Nat} {H : Heap} {locs : List Loc} (k_x0 : hK h x0 = 15) (hkl : Kl h0 h) (hW : Wx X h H) (hZ : va_S (aA (eB X)) s.heap H locs) (ls : Array Slot) (hl : lv_has ls 4 [(0, .ref x0)]) (hE : sX15_refutes_74 F h x0 = some o) : W p l e (rmA 50 1279 h0 o.2) s m args below meth c H locs (hS h - hS h0) (hL h - hL h0) (MQ below (QIA X h0 o.1 o.2) args s (hS o.2 - hS h0) (hL o.2 - hL h0) (aA (eB X))) (F0 m 74 ls []) := by
  refine lv_aload_n C.1 C.2.1 dX15_refutes_74 rfl (lv_at hl 0 rfl) ?_
  refine gf_X15_850 C hW k_x0 dX15_refutes_75 ?_
  refine lv_if_ne (tgt := 93) C.1 C.2.1 dX15_refutes_78 (by decide) (fun c_1 => ?_) (fun c_1 => ?_)
  · have hE := br_n hE c_1
    exact bX15_refutes_93 C k_x0 hkl hW hZ _ (lv_sub hl [0] rfl) hE
  · have hE := br_p hE c_1
    refine lv_aload_n C.1 C.2.1 dX15_refutes_81 rfl (lv_at hl 0 rfl) ?_
    refine lv_iconst (v := (1 : Int32)) C.1 C.2.1 dX15_refutes_82 (by decide) ?_
    refine lv_aload_n C.1 C.2.1 dX15_refutes_83 rfl (lv_at hl 0 rfl) ?_
    refine gf_X15_853 C hW k_x0 dX15_refutes_84 ?_
    obtain ⟨o_2, eo_2, hE⟩ := cl_e hE
    have m1 := moX15_isGoal eo_2
    have m2 := moX15_refutes_90 hE
    refine x_kIA (o := o_2) hkl (z_runV (As := [.int (1 : Int32), .int (hI h x0 67)]) (rest := []) C (ct_X15_isGoal l X F k_x0 eo_2) cw_X15_826 hW hZ k_x0 (by decide) rfl rfl rfl hl.1 (Nat.le_of_ble_eq_true rfl) rfl dX15_refutes_87 ⟨Nat.le_of_ble_eq_true rfl, Nat.le_of_ble_eq_true rfl⟩ (rm_ok hkl m1 m2)) hZ (fun _ _ hW km hZ => ?_)
    replace hkl := hkl.tr km
    replace k_x0 := km.at k_x0 (by decide)
    exact bX15_refutes_90 C k_x0 hkl hW hZ _ (lv_sub hl [0] rfl) hE
set_option maxRecDepth 20000 in
theorem bX15_refutes_49 {p : Program} {l : Launch} {e : Env} {s : State} {m : MethodId} {args : Array Value} {below : List Frame} {meth : Method} {c : Code} {X : Ec} {h0 : Hp} {o : Int32 × Hp} {F : Nat} (C : Cx X p s m args meth c RX15 cX15_refutes 4 (some .int) "refutes") {h : Hp} {x0 : Nat} {x1 : Int32} {H : Heap} {locs : List Loc} (k_x0 : hK h x0 = 15) (hkl : Kl h0 h) (hW : Wx X h H) (hZ : va_S (aA (eB X)) s.heap H locs) (ls : Array Slot) (hl : lv_has ls 4 [(0, .ref x0), (1, .int x1)]) (hE : sX15_refutes_49 F h x0 x1 = some o) : W p l e (rmA 50 1279 h0 o.2) s m args below meth c H locs (hS h - hS h0) (hL h - hL h0) (MQ below (QIA X h0 o.1 o.2) args s (hS o.2 - hS h0) (hL o.2 - hL h0) (aA (eB X))) (F0 m 49 ls []) := by
  refine lv_iload_n C.1 C.2.1 dX15_refutes_49 rfl (lv_at hl 1 rfl) ?_
  refine lv_if_lt (tgt := 66) C.1 C.2.1 dX15_refutes_50 (by decide) (fun c_1 => ?_) (fun c_1 => ?_)
  · have hE := br_p hE c_1
    exact bX15_refutes_66 C hkl hW hZ _ (lv_sub hl [] rfl) hE
  · have hE := br_n hE c_1
    refine lv_iload_n C.1 C.2.1 dX15_refutes_53 rfl (lv_at hl 1 rfl) ?_
    refine lv_aload_n C.1 C.2.1 dX15_refutes_54 rfl (lv_at hl 0 rfl) ?_
    obtain ⟨r_2, er_2, hE⟩ := cl_e hE
    refine gf_X15_301 C hW k_x0 er_2 dX15_refutes_55 (fun k_r_2 => ?_)
    refine lv_iconst (v := (0 : Int32)) C.1 C.2.1 dX15_refutes_58 (by decide) ?_
    obtain ⟨g_3, hE⟩ := gd_e hE
    obtain ⟨r_4, er_4, hE⟩ := cl_e hE
    refine y_aald (t0 := 6) C hW k_r_2 (by decide) (by decide) rfl rfl rfl (fun _ => rfl) g_3 er_4 dX15_refutes_59 (fun k_r_4 => ?_)
    refine gf_X15_575 C hW k_r_4 dX15_refutes_60 ?_
    refine lv_icmp_lt (tgt := 68) C.1 C.2.1 dX15_refutes_63 (by decide) (fun c_5 => ?_) (fun c_5 => ?_)
    · have hE := br_p hE c_5
      refine lv_aload_n C.1 C.2.1 dX15_refutes_68 rfl (lv_at hl 0 rfl) ?_
      refine lv_iconst (v := (0 : Int32)) C.1 C.2.1 dX15_refutes_69 (by decide) ?_
      refine lv_iload_n C.1 C.2.1 dX15_refutes_70 rfl (lv_at hl 1 rfl) ?_
      obtain ⟨o_6, eo_6, hE⟩ := cl_e hE
      have m1 := moX15_step eo_6
      have m2 := moX15_refutes_74 hE
      refine x_kVA (o := o_6) hkl (z_runV (As := [.int (0 : Int32), .int x1]) (rest := []) C (ct_X15_step l X F k_x0 eo_6) cw_X15_823 hW hZ k_x0 (by decide) rfl rfl rfl hl.1 (Nat.le_of_ble_eq_true rfl) rfl dX15_refutes_71 ⟨Nat.le_of_ble_eq_true rfl, Nat.le_of_ble_eq_true rfl⟩ (rm_ok hkl m1 m2)) hZ (fun _ _ hW km hZ => ?_)
      replace hkl := hkl.tr km
      replace k_x0 := km.at k_x0 (by decide)
      exact bX15_refutes_74 C k_x0 hkl hW hZ _ (lv_sub hl [0] rfl) hE
    · have hE := br_n hE c_5
      exact bX15_refutes_66 C hkl hW hZ _ (lv_sub hl [] rfl) hE
set_option maxRecDepth 20000 in
theorem bX15_refutes_40 {p : Program} {l : Launch} {e : Env} {s : State} {m : MethodId} {args : Array Value} {below : List Frame} {meth : Method} {c : Code} {X : Ec} {h0 : Hp} {o : Int32 × Hp} {F : Nat} (C : Cx X p s m args meth c RX15 cX15_refutes 4 (some .int) "refutes") {h : Hp} {x0 : Nat} {x1 : Int32} {t0 : Nat} {t1 : Nat} {H : Heap} {locs : List Loc} (k_x0 : hK h x0 = 15) (k_t0 : hK h t0 = 12) (k_t1 : hK h t1 = 15) (hkl : Kl h0 h) (hW : Wx X h H) (hZ : va_S (aA (eB X)) s.heap H locs) (ls : Array Slot) (hl : lv_has ls 4 [(0, .ref x0), (1, .int x1)]) (hE : sX15_refutes_40 F h x0 x1 t0 t1 = some o) : W p l e (rmA 50 1279 h0 o.2) s m args below meth c H locs (hS h - hS h0) (hL h - hL h0) (MQ below (QIA X h0 o.1 o.2) args s (hS o.2 - hS h0) (hL o.2 - hL h0) (aA (eB X))) (F0 m 40 ls [.ref t0, .ref t1]) := by
  refine lv_aload_n C.1 C.2.1 dX15_refutes_40 rfl (lv_at hl 0 rfl) ?_
  obtain ⟨r_1, er_1, hE⟩ := cl_e hE
  refine gf_X15_301 C hW k_x0 er_1 dX15_refutes_41 (fun k_r_1 => ?_)
  refine lv_iconst (v := (0 : Int32)) C.1 C.2.1 dX15_refutes_44 (by decide) ?_
  obtain ⟨g_2, hE⟩ := gd_e hE
  obtain ⟨r_3, er_3, hE⟩ := cl_e hE
  refine y_aald (t0 := 6) C hW k_r_1 (by decide) (by decide) rfl rfl rfl (fun _ => rfl) g_2 er_3 dX15_refutes_45 (fun k_r_3 => ?_)
  obtain ⟨o_4, eo_4, hE⟩ := cl_e hE
  have m1 := moX15_legal eo_4
  have m2 := moX15_refutes_49 hE
  refine x_kV (o := o_4) (z_runV (As := [.ref t0, .ref r_3]) (rest := []) C (ct_X15_legal l X F k_t1 k_t0 k_r_3 eo_4) cw_X15_652 hW hZ k_t1 (by decide) rfl rfl rfl hl.1 (Nat.le_of_ble_eq_true rfl) rfl dX15_refutes_46 ⟨Nat.le_of_ble_eq_true rfl, Nat.le_of_ble_eq_true rfl⟩ (rm_ok0 hkl m1 m2)) hZ (fun _ _ hW km hZ => ?_)
  replace hkl := hkl.tr km.l
  refine x_wc km ?_
  replace k_x0 := km.at k_x0 (by decide)
  exact bX15_refutes_49 C k_x0 hkl hW hZ _ (lv_sub hl [0, 1] rfl) hE
set_option maxRecDepth 20000 in
theorem bX15_refutes_34 {p : Program} {l : Launch} {e : Env} {s : State} {m : MethodId} {args : Array Value} {below : List Frame} {meth : Method} {c : Code} {X : Ec} {h0 : Hp} {o : Int32 × Hp} {F : Nat} (C : Cx X p s m args meth c RX15 cX15_refutes 4 (some .int) "refutes") {h : Hp} {x0 : Nat} {x1 : Int32} {H : Heap} {locs : List Loc} (k_x0 : hK h x0 = 15) (hkl : Kl h0 h) (hW : Wx X h H) (hZ : va_S (aA (eB X)) s.heap H locs) (ls : Array Slot) (hl : lv_has ls 4 [(0, .ref x0), (1, .int x1)]) (hE : sX15_refutes_34 F h x0 x1 = some o) : W p l e (rmA 50 1279 h0 o.2) s m args below meth c H locs (hS h - hS h0) (hL h - hL h0) (MQ below (QIA X h0 o.1 o.2) args s (hS o.2 - hS h0) (hL o.2 - hL h0) (aA (eB X))) (F0 m 34 ls []) := by
  refine lv_aload_n C.1 C.2.1 dX15_refutes_34 rfl (lv_at hl 0 rfl) ?_
  refine lv_aload_n C.1 C.2.1 dX15_refutes_35 rfl (lv_at hl 0 rfl) ?_
  refine lv_iconst (v := (0 : Int32)) C.1 C.2.1 dX15_refutes_36 (by decide) ?_
  obtain ⟨o_1, eo_1, hE⟩ := cl_e hE
  have m1 := moX15_deepBoard eo_1
  have m2 := moX15_refutes_40 hE
  refine x_kRA (o := o_1) hkl (z_runV (As := [.int (0 : Int32)]) (rest := [.ref x0]) C (ct_X15_deepBoard l X k_x0 eo_1) cw_X15_671 hW hZ k_x0 (by decide) rfl rfl rfl hl.1 (Nat.le_of_ble_eq_true rfl) rfl dX15_refutes_37 ⟨Nat.le_of_ble_eq_true rfl, Nat.le_of_ble_eq_true rfl⟩ (rm_ok hkl m1 m2)) hZ (fun _ _ hW km k_o_1_1 hZ => ?_)
  replace hkl := hkl.tr km
  replace k_x0 := km.at k_x0 (by decide)
  exact bX15_refutes_40 C k_x0 k_o_1_1 k_x0 hkl hW hZ _ (lv_sub hl [0, 1] rfl) hE
set_option maxRecDepth 20000 in
theorem bX15_refutes_22 {p : Program} {l : Launch} {e : Env} {s : State} {m : MethodId} {args : Array Value} {below : List Frame} {meth : Method} {c : Code} {X : Ec} {h0 : Hp} {o : Int32 × Hp} {F : Nat} (C : Cx X p s m args meth c RX15 cX15_refutes 4 (some .int) "refutes") {h : Hp} {x0 : Nat} {x1 : Int32} {t0 : Nat} {H : Heap} {locs : List Loc} (k_x0 : hK h x0 = 15) (k_t0 : hK h t0 = 12) (hkl : Kl h0 h) (hW : Wx X h H) (hZ : va_S (aA (eB X)) s.heap H locs) (ls : Array Slot) (hl : lv_has ls 4 [(0, .ref x0), (1, .int x1)]) (hE : sX15_refutes_22 F h x0 x1 t0 = some o) : W p l e (rmA 50 1279 h0 o.2) s m args below meth c H locs (hS h - hS h0) (hL h - hL h0) (MQ below (QIA X h0 o.1 o.2) args s (hS o.2 - hS h0) (hL o.2 - hL h0) (aA (eB X))) (F0 m 22 ls [.ref t0]) := by
  refine lv_aload_n C.1 C.2.1 dX15_refutes_22 rfl (lv_at hl 0 rfl) ?_
  obtain ⟨r_1, er_1, hE⟩ := cl_e hE
  refine gf_X15_257 C hW k_x0 er_1 dX15_refutes_23 (fun k_r_1 => ?_)
  refine lv_aload_n C.1 C.2.1 dX15_refutes_26 rfl (lv_at hl 0 rfl) ?_
  refine gf_X15_847 C hW k_x0 dX15_refutes_27 ?_
  obtain ⟨g_2, hE⟩ := gd_e hE
  obtain ⟨r_3, er_3, hE⟩ := cl_e hE
  refine y_aald (t0 := 5) C hW k_r_1 (by decide) (by decide) rfl rfl rfl (fun _ => rfl) g_2 er_3 dX15_refutes_30 (fun k_r_3 => ?_)
  obtain ⟨o_4, eo_4, hE⟩ := cl_e hE
  have m1 := moX12_copy eo_4
  have m2 := moX15_refutes_34 hE
  refine x_kV (o := o_4) (z_runV (As := [.ref r_3]) (rest := []) C (ct_X12_copy l X k_t0 k_r_3 eo_4) cw_X15_405 hW hZ k_t0 (by decide) rfl rfl rfl hl.1 (Nat.le_of_ble_eq_true rfl) rfl dX15_refutes_31 ⟨Nat.le_of_ble_eq_true rfl, Nat.le_of_ble_eq_true rfl⟩ (rm_ok0 hkl m1 m2)) hZ (fun _ _ hW km hZ => ?_)
  replace hkl := hkl.tr km.l
  refine x_wc km ?_
  replace k_x0 := km.at k_x0 (by decide)
  exact bX15_refutes_34 C k_x0 hkl hW hZ _ (lv_sub hl [0, 1] rfl) hE
set_option maxRecDepth 20000 in
theorem bX15_refutes_4 {p : Program} {l : Launch} {e : Env} {s : State} {m : MethodId} {args : Array Value} {below : List Frame} {meth : Method} {c : Code} {X : Ec} {h0 : Hp} {o : Int32 × Hp} {F : Nat} (C : Cx X p s m args meth c RX15 cX15_refutes 4 (some .int) "refutes") {h : Hp} {x0 : Nat} {x1 : Int32} {t0 : Int32} {H : Heap} {locs : List Loc} (k_x0 : hK h x0 = 15) (hkl : Kl h0 h) (hW : Wx X h H) (hZ : va_S (aA (eB X)) s.heap H locs) (ls : Array Slot) (hl : lv_has ls 4 [(0, .ref x0), (1, .int x1)]) (hE : sX15_refutes_4 F h x0 x1 t0 = some o) : W p l e (rmA 50 1279 h0 o.2) s m args below meth c H locs (hS h - hS h0) (hL h - hL h0) (MQ below (QIA X h0 o.1 o.2) args s (hS o.2 - hS h0) (hL o.2 - hL h0) (aA (eB X))) (F0 m 4 ls [.int t0]) := by
  refine lv_if_eq (tgt := 15) C.1 C.2.1 dX15_refutes_4 (by decide) (fun c_1 => ?_) (fun c_1 => ?_)
  · have hE := br_p hE c_1
    exact bX15_refutes_15 C hkl hW hZ _ (lv_sub hl [] rfl) hE
  · have hE := br_n hE c_1
    refine lv_aload_n C.1 C.2.1 dX15_refutes_7 rfl (lv_at hl 0 rfl) ?_
    refine gf_X15_850 C hW k_x0 dX15_refutes_8 ?_
    refine lv_iconst (v := (1 : Int32)) C.1 C.2.1 dX15_refutes_11 (by decide) ?_
    refine lv_icmp_le (tgt := 17) C.1 C.2.1 dX15_refutes_12 (by decide) (fun c_2 => ?_) (fun c_2 => ?_)
    · have hE := br_p hE c_2
      refine lv_aload_n C.1 C.2.1 dX15_refutes_17 rfl (lv_at hl 0 rfl) ?_
      refine lv_iconst (v := (0 : Int32)) C.1 C.2.1 dX15_refutes_18 (by decide) ?_
      obtain ⟨o_3, eo_3, hE⟩ := cl_e hE
      have m1 := moX15_deepBoard eo_3
      have m2 := moX15_refutes_22 hE
      refine x_kRA (o := o_3) hkl (z_runV (As := [.int (0 : Int32)]) (rest := []) C (ct_X15_deepBoard l X k_x0 eo_3) cw_X15_671 hW hZ k_x0 (by decide) rfl rfl rfl hl.1 (Nat.le_of_ble_eq_true rfl) rfl dX15_refutes_19 ⟨Nat.le_of_ble_eq_true rfl, Nat.le_of_ble_eq_true rfl⟩ (rm_ok hkl m1 m2)) hZ (fun _ _ hW km k_o_3_1 hZ => ?_)
      replace hkl := hkl.tr km
      replace k_x0 := km.at k_x0 (by decide)
      exact bX15_refutes_22 C k_x0 k_o_3_1 hkl hW hZ _ (lv_sub hl [0, 1] rfl) hE
    · have hE := br_n hE c_2
      exact bX15_refutes_15 C hkl hW hZ _ (lv_sub hl [] rfl) hE
set_option maxRecDepth 20000 in
theorem ct_X15_refutes (l : Launch) (X : Ec) (F : Nat) {h : Hp} {x0 : Nat} {x1 : Int32} {o : Int32 × Hp} (k_x0 : hK h x0 = 15) (hE : sX15_refutes F h x0 x1 = some o) : MetIA l yX15_refutes cX15_refutes 4 (some .int) 50 1279 X [.ref x0, .int x1] h o := by
  refine x_metA (oh := o.2) (by decide) (Nat.le_of_ble_eq_true rfl) ?_
  intro p e s m below meth c ls C hl hW hZ
  have hl : lv_has ls 4 [(0, .ref x0), (1, .int x1)] := hl
  have hkl : Kl h h := Kl.rf h
  refine lv_aload_n C.1 C.2.1 dX15_refutes_0 rfl (lv_at hl 0 rfl) ?_
  obtain ⟨o_1, eo_1, hE⟩ := cl_e hE
  have m1 := moX15_isProblem eo_1
  have m2 := moX15_refutes_4 hE
  refine x_kI (o := o_1) (z_runV (As := []) (rest := []) C (ct_X15_isProblem l X k_x0 eo_1) cw_X15_862 hW hZ k_x0 (by decide) rfl rfl rfl hl.1 (Nat.le_of_ble_eq_true rfl) rfl dX15_refutes_1 ⟨Nat.le_of_ble_eq_true rfl, Nat.le_of_ble_eq_true rfl⟩ (rm_ok0 hkl m1 m2)) hZ (fun _ _ hW km hZ => ?_)
  replace hkl := hkl.tr km.l
  refine x_wc km ?_
  replace k_x0 := km.at k_x0 (by decide)
  exact bX15_refutes_4 C k_x0 hkl hW hZ _ (lv_sub hl [0, 1] rfl) hE
