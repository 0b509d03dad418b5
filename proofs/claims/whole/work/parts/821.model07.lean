set_option maxRecDepth 100000 in
theorem ms_145 : Cond.selects RX15 yX15_readRest yX15_readRest ∈ W0 := w0_in (List.mem_append_left _ (List.mem_of_getElem? (i := 145) rfl)) rfl
set_option maxRecDepth 100000 in
theorem ms_144 : Cond.selects RX15 yX15_readHands yX15_readHands ∈ W0 := w0_in (List.mem_append_left _ (List.mem_of_getElem? (i := 144) rfl)) rfl
set_option maxRecDepth 100000 in
theorem ms_143 : Cond.selects RX15 yX15_readPass yX15_readPass ∈ W0 := w0_in (List.mem_append_left _ (List.mem_of_getElem? (i := 143) rfl)) rfl
set_option maxRecDepth 100000 in
theorem ms_141 : Cond.selects RX15 yX15_readRights yX15_readRights ∈ W0 := w0_in (List.mem_append_left _ (List.mem_of_getElem? (i := 141) rfl)) rfl
set_option maxRecDepth 100000 in
theorem ms_140 : Cond.selects RX15 yX15_readSide yX15_readSide ∈ W0 := w0_in (List.mem_append_left _ (List.mem_of_getElem? (i := 140) rfl)) rfl
set_option maxRecDepth 100000 in
theorem ms_136 : Cond.selects RX15 yX15_readMen yX15_readMen ∈ W0 := w0_in (List.mem_append_left _ (List.mem_of_getElem? (i := 136) rfl)) rfl
set_option maxRecDepth 100000 in
theorem m_2345 : Cond.methodLink RX15 455 yX12_clear ∈ W0 := w0_in (List.mem_append_right _ (List.mem_of_getElem? (i := 2345) rfl)) rfl
set_option maxRecDepth 100000 in
theorem m_2346 : Cond.instanceMethod yX12_clear ∈ W0 := w0_in (List.mem_append_right _ (List.mem_of_getElem? (i := 2346) rfl)) rfl
set_option maxRecDepth 100000 in
theorem m_2347 : Cond.selects RX12 yX12_clear yX12_clear ∈ W0 := w0_in (List.mem_append_right _ (List.mem_of_getElem? (i := 2347) rfl)) rfl
set_option maxRecDepth 100000 in
theorem m_2348 : Cond.code yX12_clear cX12_clear 2 none ∈ W0 := w0_in (List.mem_append_right _ (List.mem_of_getElem? (i := 2348) rfl)) rfl
set_option maxRecDepth 100000 in
theorem m_2349 : Cond.methodLink RX15 456 yX15_readMen ∈ W0 := w0_in (List.mem_append_right _ (List.mem_of_getElem? (i := 2349) rfl)) rfl
set_option maxRecDepth 100000 in
theorem m_2351 : Cond.instanceMethod yX15_readMen ∈ W0 := w0_in (List.mem_append_right _ (List.mem_of_getElem? (i := 2351) rfl)) rfl
set_option maxRecDepth 100000 in
theorem m_2352 : Cond.code yX15_readMen cX15_readMen 6 (some .boolean) ∈ W0 := w0_in (List.mem_append_right _ (List.mem_of_getElem? (i := 2352) rfl)) rfl
set_option maxRecDepth 100000 in
theorem m_2368 : Cond.methodLink RX15 460 yX15_readSide ∈ W0 := w0_in (List.mem_append_right _ (List.mem_of_getElem? (i := 2368) rfl)) rfl
set_option maxRecDepth 100000 in
theorem m_2370 : Cond.instanceMethod yX15_readSide ∈ W0 := w0_in (List.mem_append_right _ (List.mem_of_getElem? (i := 2370) rfl)) rfl
set_option maxRecDepth 100000 in
theorem m_2371 : Cond.code yX15_readSide cX15_readSide 2 (some .boolean) ∈ W0 := w0_in (List.mem_append_right _ (List.mem_of_getElem? (i := 2371) rfl)) rfl
set_option maxRecDepth 100000 in
theorem m_2372 : Cond.methodLink RX15 463 yX15_readRights ∈ W0 := w0_in (List.mem_append_right _ (List.mem_of_getElem? (i := 2372) rfl)) rfl
set_option maxRecDepth 100000 in
theorem m_2374 : Cond.instanceMethod yX15_readRights ∈ W0 := w0_in (List.mem_append_right _ (List.mem_of_getElem? (i := 2374) rfl)) rfl
set_option maxRecDepth 100000 in
theorem m_2375 : Cond.code yX15_readRights cX15_readRights 3 (some .boolean) ∈ W0 := w0_in (List.mem_append_right _ (List.mem_of_getElem? (i := 2375) rfl)) rfl
set_option maxRecDepth 100000 in
theorem m_2380 : Cond.methodLink RX15 466 yX15_readPass ∈ W0 := w0_in (List.mem_append_right _ (List.mem_of_getElem? (i := 2380) rfl)) rfl
set_option maxRecDepth 100000 in
theorem m_2382 : Cond.instanceMethod yX15_readPass ∈ W0 := w0_in (List.mem_append_right _ (List.mem_of_getElem? (i := 2382) rfl)) rfl
set_option maxRecDepth 100000 in
theorem m_2383 : Cond.code yX15_readPass cX15_readPass 3 (some .boolean) ∈ W0 := w0_in (List.mem_append_right _ (List.mem_of_getElem? (i := 2383) rfl)) rfl
set_option maxRecDepth 100000 in
theorem m_2384 : Cond.methodLink RX15 469 yX15_readHands ∈ W0 := w0_in (List.mem_append_right _ (List.mem_of_getElem? (i := 2384) rfl)) rfl
set_option maxRecDepth 100000 in
theorem m_2386 : Cond.instanceMethod yX15_readHands ∈ W0 := w0_in (List.mem_append_right _ (List.mem_of_getElem? (i := 2386) rfl)) rfl
set_option maxRecDepth 100000 in
theorem m_2387 : Cond.code yX15_readHands cX15_readHands 4 (some .boolean) ∈ W0 := w0_in (List.mem_append_right _ (List.mem_of_getElem? (i := 2387) rfl)) rfl
set_option maxRecDepth 100000 in
theorem m_2388 : Cond.methodLink RX15 472 yX15_readRest ∈ W0 := w0_in (List.mem_append_right _ (List.mem_of_getElem? (i := 2388) rfl)) rfl
set_option maxRecDepth 100000 in
theorem m_2390 : Cond.instanceMethod yX15_readRest ∈ W0 := w0_in (List.mem_append_right _ (List.mem_of_getElem? (i := 2390) rfl)) rfl
set_option maxRecDepth 100000 in
theorem m_2391 : Cond.code yX15_readRest cX15_readRest 5 (some .boolean) ∈ W0 := w0_in (List.mem_append_right _ (List.mem_of_getElem? (i := 2391) rfl)) rfl
section
variable {p : Program} {l : Launch} {e : Env} {R : Room} {s : State} {m : MethodId} {args : Array Value} {below : List Frame} {meth : Method} {c : Code} {H : Heap} {locs : List Loc} {cells slots : Nat} {Q : State → Prop}
variable {cc : ByteArray} {pc : Nat} {ls : Array Slot} {rest : List Value} {X : Ec} {h h1 : Hp} {nL : Nat} {rt : Option FieldType} {mn : String}
theorem pf_X15_418 {a r : Nat} (C : Cx X p s m args meth c RX15 cc nL rt mn) (hW : Wx X h H) (hZ : va_S (aA (eB X)) s.heap H locs) (ha : hK h a = 15) (hr : hK h r = 16) (eh : h1 = wR h a 17 (some r)) (hdg : decode cc pc = .ok (.putfield 418, 3)) (kk : ∀ (H1 : Heap) (locs1 : List Loc), Wx X h1 H1 → Km h h1 → va_S (aA (eB X)) s.heap H1 locs1 → W p l e R s m args below meth c H1 locs1 cells slots Q (F0 m (pc + 3) ls rest)) : W p l e R s m args below meth c H locs cells slots Q (F0 m pc ls (.ref r :: .ref a :: rest)) :=
  y_putr (ty := .array .byte) C hW hZ ha i_X15 tyX15 tyX15_ok nmX15 (by decide) rfl rfl (by decide) m_2128 rfl (by decide +kernel) rfl rfl rfl hr rfl (by decide) eh hdg kk
theorem pf_X15_415 {a : Nat} {v : Int32} (C : Cx X p s m args meth c RX15 cc nL rt mn) (hW : Wx X h H) (hZ : va_S (aA (eB X)) s.heap H locs) (ha : hK h a = 15) (eh : h1 = wI h a 18 v) (hdg : decode cc pc = .ok (.putfield 415, 3)) (kk : ∀ (H1 : Heap) (locs1 : List Loc), Wx X h1 H1 → Km h h1 → va_S (aA (eB X)) s.heap H1 locs1 → W p l e R s m args below meth c H1 locs1 cells slots Q (F0 m (pc + 3) ls rest)) : W p l e R s m args below meth c H locs cells slots Q (F0 m pc ls (.int v :: .ref a :: rest)) :=
  y_puti (ty := .int) C hW hZ ha i_X15 tyX15 tyX15_ok nmX15 (by decide) rfl rfl (by decide) m_2129 rfl (by decide +kernel) rfl rfl rfl eh hdg kk
end
theorem cw_X15_455 : cwd RX15 455 yX12_clear cX12_clear 2 none false 0 := ⟨m_2348, m_2345, m_21, ⟨m_2346, m_2347⟩, by decide, by decide, by decide +kernel⟩
theorem cw_X15_456 : cwd RX15 456 yX15_readMen cX15_readMen 6 (some .boolean) false 1 := ⟨m_2352, m_2349, m_19, ⟨m_2351, ms_136⟩, by decide, by decide, by decide +kernel⟩
theorem cw_X15_460 : cwd RX15 460 yX15_readSide cX15_readSide 2 (some .boolean) false 1 := ⟨m_2371, m_2368, m_19, ⟨m_2370, ms_140⟩, by decide, by decide, by decide +kernel⟩
theorem cw_X15_463 : cwd RX15 463 yX15_readRights cX15_readRights 3 (some .boolean) false 1 := ⟨m_2375, m_2372, m_19, ⟨m_2374, ms_141⟩, by decide, by decide, by decide +kernel⟩
theorem cw_X15_466 : cwd RX15 466 yX15_readPass cX15_readPass 3 (some .boolean) false 1 := ⟨m_2383, m_2380, m_19, ⟨m_2382, ms_143⟩, by decide, by decide, by decide +kernel⟩
theorem cw_X15_469 : cwd RX15 469 yX15_readHands cX15_readHands 4 (some .boolean) false 1 := ⟨m_2387, m_2384, m_19, ⟨m_2386, ms_144⟩, by decide, by decide, by decide +kernel⟩
theorem cw_X15_472 : cwd RX15 472 yX15_readRest cX15_readRest 5 (some .boolean) false 1 := ⟨m_2391, m_2388, m_19, ⟨m_2390, ms_145⟩, by decide, by decide, by decide +kernel⟩
theorem dX15_isPosition_0 : decode cX15_isPosition 0 = .ok (.aload_n 0, 1) := by decide +kernel
theorem dX15_isPosition_1 : decode cX15_isPosition 1 = .ok (.aload_n 1, 1) := by decide +kernel
theorem dX15_isPosition_2 : decode cX15_isPosition 2 = .ok (.putfield 418, 3) := by decide +kernel
theorem dX15_isPosition_5 : decode cX15_isPosition 5 = .ok (.aload_n 0, 1) := by decide +kernel
theorem dX15_isPosition_6 : decode cX15_isPosition 6 = .ok (.iload_n 2, 1) := by decide +kernel
theorem dX15_isPosition_7 : decode cX15_isPosition 7 = .ok (.putfield 415, 3) := by decide +kernel
theorem dX15_isPosition_10 : decode cX15_isPosition 10 = .ok (.aload_n 0, 1) := by decide +kernel
theorem dX15_isPosition_11 : decode cX15_isPosition 11 = .ok (.iconst 0, 1) := by decide +kernel
theorem dX15_isPosition_12 : decode cX15_isPosition 12 = .ok (.putfield 412, 3) := by decide +kernel
theorem dX15_isPosition_15 : decode cX15_isPosition 15 = .ok (.aload_n 3, 1) := by decide +kernel
theorem dX15_isPosition_16 : decode cX15_isPosition 16 = .ok (.invokevirtual 455, 3) := by decide +kernel
theorem dX15_isPosition_19 : decode cX15_isPosition 19 = .ok (.aload_n 0, 1) := by decide +kernel
theorem dX15_isPosition_20 : decode cX15_isPosition 20 = .ok (.aload_n 3, 1) := by decide +kernel
theorem dX15_isPosition_21 : decode cX15_isPosition 21 = .ok (.invokevirtual 456, 3) := by decide +kernel
theorem dX15_isPosition_24 : decode cX15_isPosition 24 = .ok (.ifCond .eq 47, 3) := by decide +kernel
theorem dX15_isPosition_27 : decode cX15_isPosition 27 = .ok (.aload_n 0, 1) := by decide +kernel
theorem dX15_isPosition_28 : decode cX15_isPosition 28 = .ok (.aload_n 3, 1) := by decide +kernel
theorem dX15_isPosition_29 : decode cX15_isPosition 29 = .ok (.invokevirtual 460, 3) := by decide +kernel
theorem dX15_isPosition_32 : decode cX15_isPosition 32 = .ok (.ifCond .eq 39, 3) := by decide +kernel
theorem dX15_isPosition_35 : decode cX15_isPosition 35 = .ok (.aload_n 0, 1) := by decide +kernel
theorem dX15_isPosition_36 : decode cX15_isPosition 36 = .ok (.aload_n 3, 1) := by decide +kernel
theorem dX15_isPosition_37 : decode cX15_isPosition 37 = .ok (.invokevirtual 463, 3) := by decide +kernel
theorem dX15_isPosition_40 : decode cX15_isPosition 40 = .ok (.ifCond .eq 31, 3) := by decide +kernel
theorem dX15_isPosition_43 : decode cX15_isPosition 43 = .ok (.aload_n 0, 1) := by decide +kernel
theorem dX15_isPosition_44 : decode cX15_isPosition 44 = .ok (.aload_n 3, 1) := by decide +kernel
theorem dX15_isPosition_45 : decode cX15_isPosition 45 = .ok (.invokevirtual 466, 3) := by decide +kernel
theorem dX15_isPosition_48 : decode cX15_isPosition 48 = .ok (.ifCond .eq 23, 3) := by decide +kernel
theorem dX15_isPosition_51 : decode cX15_isPosition 51 = .ok (.aload_n 0, 1) := by decide +kernel
theorem dX15_isPosition_52 : decode cX15_isPosition 52 = .ok (.aload_n 3, 1) := by decide +kernel
theorem dX15_isPosition_53 : decode cX15_isPosition 53 = .ok (.invokevirtual 469, 3) := by decide +kernel
theorem dX15_isPosition_56 : decode cX15_isPosition 56 = .ok (.ifCond .eq 15, 3) := by decide +kernel
theorem dX15_isPosition_59 : decode cX15_isPosition 59 = .ok (.aload_n 0, 1) := by decide +kernel
theorem dX15_isPosition_60 : decode cX15_isPosition 60 = .ok (.aload_n 3, 1) := by decide +kernel
theorem dX15_isPosition_61 : decode cX15_isPosition 61 = .ok (.invokevirtual 472, 3) := by decide +kernel
theorem dX15_isPosition_64 : decode cX15_isPosition 64 = .ok (.ifCond .eq 7, 3) := by decide +kernel
theorem dX15_isPosition_67 : decode cX15_isPosition 67 = .ok (.iconst 1, 1) := by decide +kernel
theorem dX15_isPosition_68 : decode cX15_isPosition 68 = .ok (.goto 4, 3) := by decide +kernel
theorem dX15_isPosition_71 : decode cX15_isPosition 71 = .ok (.iconst 0, 1) := by decide +kernel
theorem dX15_isPosition_72 : decode cX15_isPosition 72 = .ok (.ireturn, 1) := by decide +kernel
set_option maxRecDepth 20000 in
theorem moX15_isPosition_72 {o : Int32 × Hp} {F : Nat} {h : Hp} {t0 : Int32} (hE : sX15_isPosition_72 F h  t0 = some o) : Le h o.2 := by
  obtain ⟨g_1, hE⟩ := gd_e hE
  exact le_some2 hE
set_option maxRecDepth 20000 in
theorem moX15_isPosition_71 {o : Int32 × Hp} {F : Nat} {h : Hp} (hE : sX15_isPosition_71 F h  = some o) : Le h o.2 := by
  exact moX15_isPosition_72 hE
set_option maxRecDepth 20000 in
theorem moX15_isPosition {o : Int32 × Hp} {F : Nat} {h : Hp} {x0 : Nat} {x1 : Nat} {x2 : Int32} {x3 : Nat} (hE : sX15_isPosition F h x0 x1 x2 x3 = some o) : Le h o.2 := by
  obtain ⟨h_1, eh_1, hE⟩ := nm_e2 hE
  refine (le_R eh_1).tr ?_
  obtain ⟨h_2, eh_2, hE⟩ := nm_e2 hE
  refine (le_I eh_2).tr ?_
  obtain ⟨h_3, eh_3, hE⟩ := nm_e2 hE
  refine (le_I eh_3).tr ?_
  obtain ⟨o_4, eo_4, hE⟩ := cl_e hE
  refine (moX12_clear eo_4).tr ?_
  obtain ⟨o_5, eo_5, hE⟩ := cl_e hE
  refine (moX15_readMen eo_5).tr ?_
  rcases br_e hE with ⟨_, hE⟩ | ⟨_, hE⟩
  · exact moX15_isPosition_71 hE
  · obtain ⟨o_7, eo_7, hE⟩ := cl_e hE
    refine (moX15_readSide eo_7).tr ?_
    rcases br_e hE with ⟨_, hE⟩ | ⟨_, hE⟩
    · exact moX15_isPosition_71 hE
    · obtain ⟨o_9, eo_9, hE⟩ := cl_e hE
      refine (moX15_readRights eo_9).tr ?_
      rcases br_e hE with ⟨_, hE⟩ | ⟨_, hE⟩
      · exact moX15_isPosition_71 hE
      · obtain ⟨o_11, eo_11, hE⟩ := cl_e hE
        refine (moX15_readPass eo_11).tr ?_
        rcases br_e hE with ⟨_, hE⟩ | ⟨_, hE⟩
        · exact moX15_isPosition_71 hE
        · obtain ⟨o_13, eo_13, hE⟩ := cl_e hE
          refine (moX15_readHands eo_13).tr ?_
          rcases br_e hE with ⟨_, hE⟩ | ⟨_, hE⟩
          · exact moX15_isPosition_71 hE
          · obtain ⟨o_15, eo_15, hE⟩ := cl_e hE
            refine (moX15_readRest eo_15).tr ?_
            rcases br_e hE with ⟨_, hE⟩ | ⟨_, hE⟩
            · exact moX15_isPosition_71 hE
            · exact moX15_isPosition_72 hE
set_option maxRecDepth 20000 in
theorem bX15_isPosition_72 {p : Program} {l : Launch} {e : Env} {s : State} {m : MethodId} {args : Array Value} {below : List Frame} {meth : Method} {c : Code} {X : Ec} {h0 : Hp} {o : Int32 × Hp} {F : Nat} (C : Cx X p s m args meth c RX15 cX15_isPosition 4 (some .boolean) "isPosition") {h : Hp} {t0 : Int32} {H : Heap} {locs : List Loc} (hkm : Km h0 h) (hW : Wx X h H) (hZ : va_S (aA (eB X)) s.heap H locs) (ls : Array Slot) (hl : lv_has ls 4 []) (hE : sX15_isPosition_72 F h  t0 = some o) : W p l e (rm 3 68) s m args below meth c H locs 0 0 (MQ below (QI X h0 o.1 o.2) args s 0 0 (aA (eB X))) (F0 m 72 ls [.int t0]) := by
  obtain ⟨g_1, hE⟩ := gd_e hE
  exact x_iret C rfl (narB g_1) hW hZ hkm hE dX15_isPosition_72
set_option maxRecDepth 20000 in
theorem bX15_isPosition_71 {p : Program} {l : Launch} {e : Env} {s : State} {m : MethodId} {args : Array Value} {below : List Frame} {meth : Method} {c : Code} {X : Ec} {h0 : Hp} {o : Int32 × Hp} {F : Nat} (C : Cx X p s m args meth c RX15 cX15_isPosition 4 (some .boolean) "isPosition") {h : Hp} {H : Heap} {locs : List Loc} (hkm : Km h0 h) (hW : Wx X h H) (hZ : va_S (aA (eB X)) s.heap H locs) (ls : Array Slot) (hl : lv_has ls 4 []) (hE : sX15_isPosition_71 F h  = some o) : W p l e (rm 3 68) s m args below meth c H locs 0 0 (MQ below (QI X h0 o.1 o.2) args s 0 0 (aA (eB X))) (F0 m 71 ls []) := by
  refine lv_iconst (v := (0 : Int32)) C.1 C.2.1 dX15_isPosition_71 (by decide) ?_
  exact bX15_isPosition_72 C hkm hW hZ _ (lv_sub hl [] rfl) hE
set_option maxRecDepth 20000 in
theorem ct_X15_isPosition (l : Launch) (X : Ec) (F : Nat) {h : Hp} {x0 : Nat} {x1 : Nat} {x2 : Int32} {x3 : Nat} {o : Int32 × Hp} (k_x0 : hK h x0 = 15) (k_x1 : hK h x1 = 16) (k_x3 : hK h x3 = 12) (hE : sX15_isPosition F h x0 x1 x2 x3 = some o) : MetI l yX15_isPosition cX15_isPosition 4 (some .boolean) 3 68 X [.ref x0, .ref x1, .int x2, .ref x3] h o := by
  refine x_met (by decide) (Nat.le_of_ble_eq_true rfl) ?_
  intro p e s m below meth c ls C hl hW hZ
  have hl : lv_has ls 4 [(0, .ref x0), (1, .ref x1), (2, .int x2), (3, .ref x3)] := hl
  have hkm : Km h h := Km.rf h
  refine lv_aload_n C.1 C.2.1 dX15_isPosition_0 rfl (lv_at hl 0 rfl) ?_
  refine lv_aload_n C.1 C.2.1 dX15_isPosition_1 rfl (lv_at hl 1 rfl) ?_
  obtain ⟨h_1, eh_1, hE⟩ := nm_e2 hE
  refine pf_X15_418 C hW hZ k_x0 k_x1 eh_1 dX15_isPosition_2 (fun _ _ hW km hZ => ?_)
  replace hkm := hkm.tr km
  replace k_x0 := km.at k_x0 (by decide)
  replace k_x1 := km.at k_x1 (by decide)
  replace k_x3 := km.at k_x3 (by decide)
  refine lv_aload_n C.1 C.2.1 dX15_isPosition_5 rfl (lv_at hl 0 rfl) ?_
  refine lv_iload_n C.1 C.2.1 dX15_isPosition_6 rfl (lv_at hl 2 rfl) ?_
  obtain ⟨h_2, eh_2, hE⟩ := nm_e2 hE
  refine pf_X15_415 C hW hZ k_x0 eh_2 dX15_isPosition_7 (fun _ _ hW km hZ => ?_)
  replace hkm := hkm.tr km
  replace k_x0 := km.at k_x0 (by decide)
  replace k_x1 := km.at k_x1 (by decide)
  replace k_x3 := km.at k_x3 (by decide)
  refine lv_aload_n C.1 C.2.1 dX15_isPosition_10 rfl (lv_at hl 0 rfl) ?_
  refine lv_iconst (v := (0 : Int32)) C.1 C.2.1 dX15_isPosition_11 (by decide) ?_
  obtain ⟨h_3, eh_3, hE⟩ := nm_e2 hE
  refine pf_X15_412 C hW hZ k_x0 eh_3 dX15_isPosition_12 (fun _ _ hW km hZ => ?_)
  replace hkm := hkm.tr km
  replace k_x0 := km.at k_x0 (by decide)
  replace k_x1 := km.at k_x1 (by decide)
  replace k_x3 := km.at k_x3 (by decide)
  refine lv_aload_n C.1 C.2.1 dX15_isPosition_15 rfl (lv_at hl 3 rfl) ?_
  obtain ⟨o_4, eo_4, hE⟩ := cl_e hE
  refine x_kV (o := o_4) (z_runV (As := []) (rest := []) C (ct_X12_clear l X F k_x3 eo_4) cw_X15_455 hW hZ k_x3 (by decide) rfl rfl rfl hl.1 (Nat.le_of_ble_eq_true rfl) rfl dX15_isPosition_16 ⟨Nat.le_of_ble_eq_true rfl, Nat.le_of_ble_eq_true rfl⟩ ⟨Nat.le_refl _, Nat.le_refl _⟩) hZ (fun _ _ hW km hZ => ?_)
  replace hkm := hkm.tr km
  replace k_x0 := km.at k_x0 (by decide)
  replace k_x1 := km.at k_x1 (by decide)
  replace k_x3 := km.at k_x3 (by decide)
  refine lv_aload_n C.1 C.2.1 dX15_isPosition_19 rfl (lv_at hl 0 rfl) ?_
  refine lv_aload_n C.1 C.2.1 dX15_isPosition_20 rfl (lv_at hl 3 rfl) ?_
  obtain ⟨o_5, eo_5, hE⟩ := cl_e hE
  refine x_kI (o := o_5) (z_runV (As := [.ref x3]) (rest := []) C (ct_X15_readMen l X F k_x0 k_x3 eo_5) cw_X15_456 hW hZ k_x0 (by decide) rfl rfl rfl hl.1 (Nat.le_of_ble_eq_true rfl) rfl dX15_isPosition_21 ⟨Nat.le_of_ble_eq_true rfl, Nat.le_of_ble_eq_true rfl⟩ ⟨Nat.le_refl _, Nat.le_refl _⟩) hZ (fun _ _ hW km hZ => ?_)
  replace hkm := hkm.tr km
  replace k_x0 := km.at k_x0 (by decide)
  replace k_x1 := km.at k_x1 (by decide)
  replace k_x3 := km.at k_x3 (by decide)
  refine lv_if_eq (tgt := 71) C.1 C.2.1 dX15_isPosition_24 (by decide) (fun c_6 => ?_) (fun c_6 => ?_)
  · have hE := br_p hE c_6
    exact bX15_isPosition_71 C hkm hW hZ _ (lv_sub hl [] rfl) hE
  · have hE := br_n hE c_6
    refine lv_aload_n C.1 C.2.1 dX15_isPosition_27 rfl (lv_at hl 0 rfl) ?_
    refine lv_aload_n C.1 C.2.1 dX15_isPosition_28 rfl (lv_at hl 3 rfl) ?_
    obtain ⟨o_7, eo_7, hE⟩ := cl_e hE
    refine x_kI (o := o_7) (z_runV (As := [.ref x3]) (rest := []) C (ct_X15_readSide l X k_x0 k_x3 eo_7) cw_X15_460 hW hZ k_x0 (by decide) rfl rfl rfl hl.1 (Nat.le_of_ble_eq_true rfl) rfl dX15_isPosition_29 ⟨Nat.le_of_ble_eq_true rfl, Nat.le_of_ble_eq_true rfl⟩ ⟨Nat.le_refl _, Nat.le_refl _⟩) hZ (fun _ _ hW km hZ => ?_)
    replace hkm := hkm.tr km
    replace k_x0 := km.at k_x0 (by decide)
    replace k_x1 := km.at k_x1 (by decide)
    replace k_x3 := km.at k_x3 (by decide)
    refine lv_if_eq (tgt := 71) C.1 C.2.1 dX15_isPosition_32 (by decide) (fun c_8 => ?_) (fun c_8 => ?_)
    · have hE := br_p hE c_8
      exact bX15_isPosition_71 C hkm hW hZ _ (lv_sub hl [] rfl) hE
    · have hE := br_n hE c_8
      refine lv_aload_n C.1 C.2.1 dX15_isPosition_35 rfl (lv_at hl 0 rfl) ?_
      refine lv_aload_n C.1 C.2.1 dX15_isPosition_36 rfl (lv_at hl 3 rfl) ?_
      obtain ⟨o_9, eo_9, hE⟩ := cl_e hE
      refine x_kI (o := o_9) (z_runV (As := [.ref x3]) (rest := []) C (ct_X15_readRights l X F k_x0 k_x3 eo_9) cw_X15_463 hW hZ k_x0 (by decide) rfl rfl rfl hl.1 (Nat.le_of_ble_eq_true rfl) rfl dX15_isPosition_37 ⟨Nat.le_of_ble_eq_true rfl, Nat.le_of_ble_eq_true rfl⟩ ⟨Nat.le_refl _, Nat.le_refl _⟩) hZ (fun _ _ hW km hZ => ?_)
      replace hkm := hkm.tr km
      replace k_x0 := km.at k_x0 (by decide)
      replace k_x1 := km.at k_x1 (by decide)
      replace k_x3 := km.at k_x3 (by decide)
      refine lv_if_eq (tgt := 71) C.1 C.2.1 dX15_isPosition_40 (by decide) (fun c_10 => ?_) (fun c_10 => ?_)
      · have hE := br_p hE c_10
        exact bX15_isPosition_71 C hkm hW hZ _ (lv_sub hl [] rfl) hE
      · have hE := br_n hE c_10
        refine lv_aload_n C.1 C.2.1 dX15_isPosition_43 rfl (lv_at hl 0 rfl) ?_
        refine lv_aload_n C.1 C.2.1 dX15_isPosition_44 rfl (lv_at hl 3 rfl) ?_
        obtain ⟨o_11, eo_11, hE⟩ := cl_e hE
        refine x_kI (o := o_11) (z_runV (As := [.ref x3]) (rest := []) C (ct_X15_readPass l X F k_x0 k_x3 eo_11) cw_X15_466 hW hZ k_x0 (by decide) rfl rfl rfl hl.1 (Nat.le_of_ble_eq_true rfl) rfl dX15_isPosition_45 ⟨Nat.le_of_ble_eq_true rfl, Nat.le_of_ble_eq_true rfl⟩ ⟨Nat.le_refl _, Nat.le_refl _⟩) hZ (fun _ _ hW km hZ => ?_)
        replace hkm := hkm.tr km
        replace k_x0 := km.at k_x0 (by decide)
        replace k_x1 := km.at k_x1 (by decide)
        replace k_x3 := km.at k_x3 (by decide)
        refine lv_if_eq (tgt := 71) C.1 C.2.1 dX15_isPosition_48 (by decide) (fun c_12 => ?_) (fun c_12 => ?_)
        · have hE := br_p hE c_12
          exact bX15_isPosition_71 C hkm hW hZ _ (lv_sub hl [] rfl) hE
        · have hE := br_n hE c_12
          refine lv_aload_n C.1 C.2.1 dX15_isPosition_51 rfl (lv_at hl 0 rfl) ?_
          refine lv_aload_n C.1 C.2.1 dX15_isPosition_52 rfl (lv_at hl 3 rfl) ?_
          obtain ⟨o_13, eo_13, hE⟩ := cl_e hE
          refine x_kI (o := o_13) (z_runV (As := [.ref x3]) (rest := []) C (ct_X15_readHands l X F k_x0 k_x3 eo_13) cw_X15_469 hW hZ k_x0 (by decide) rfl rfl rfl hl.1 (Nat.le_of_ble_eq_true rfl) rfl dX15_isPosition_53 ⟨Nat.le_of_ble_eq_true rfl, Nat.le_of_ble_eq_true rfl⟩ ⟨Nat.le_refl _, Nat.le_refl _⟩) hZ (fun _ _ hW km hZ => ?_)
          replace hkm := hkm.tr km
          replace k_x0 := km.at k_x0 (by decide)
          replace k_x1 := km.at k_x1 (by decide)
          replace k_x3 := km.at k_x3 (by decide)
          refine lv_if_eq (tgt := 71) C.1 C.2.1 dX15_isPosition_56 (by decide) (fun c_14 => ?_) (fun c_14 => ?_)
          · have hE := br_p hE c_14
            exact bX15_isPosition_71 C hkm hW hZ _ (lv_sub hl [] rfl) hE
          · have hE := br_n hE c_14
            refine lv_aload_n C.1 C.2.1 dX15_isPosition_59 rfl (lv_at hl 0 rfl) ?_
            refine lv_aload_n C.1 C.2.1 dX15_isPosition_60 rfl (lv_at hl 3 rfl) ?_
            obtain ⟨o_15, eo_15, hE⟩ := cl_e hE
            refine x_kI (o := o_15) (z_runV (As := [.ref x3]) (rest := []) C (ct_X15_readRest l X F k_x0 k_x3 eo_15) cw_X15_472 hW hZ k_x0 (by decide) rfl rfl rfl hl.1 (Nat.le_of_ble_eq_true rfl) rfl dX15_isPosition_61 ⟨Nat.le_of_ble_eq_true rfl, Nat.le_of_ble_eq_true rfl⟩ ⟨Nat.le_refl _, Nat.le_refl _⟩) hZ (fun _ _ hW km hZ => ?_)
            replace hkm := hkm.tr km
            replace k_x0 := km.at k_x0 (by decide)
            replace k_x1 := km.at k_x1 (by decide)
            replace k_x3 := km.at k_x3 (by decide)
            refine lv_if_eq (tgt := 71) C.1 C.2.1 dX15_isPosition_64 (by decide) (fun c_16 => ?_) (fun c_16 => ?_)
            · have hE := br_p hE c_16
              exact bX15_isPosition_71 C hkm hW hZ _ (lv_sub hl [] rfl) hE
            · have hE := br_n hE c_16
              refine lv_iconst (v := (1 : Int32)) C.1 C.2.1 dX15_isPosition_67 (by decide) ?_
              refine lv_goto (tgt := 72) C.1 C.2.1 dX15_isPosition_68 (by decide) ?_
              exact bX15_isPosition_72 C hkm hW hZ _ (lv_sub hl [] rfl) hE
theorem dX15_sideOf_0 : decode cX15_sideOf 0 = .ok (.iload_n 0, 1) := by decide +kernel
theorem dX15_sideOf_1 : decode cX15_sideOf 1 = .ok (.iconst 1, 1) := by decide +kernel
theorem dX15_sideOf_2 : decode cX15_sideOf 2 = .ok (.isub, 1) := by decide +kernel
theorem dX15_sideOf_3 : decode cX15_sideOf 3 = .ok (.iconst 1, 1) := by decide +kernel
theorem dX15_sideOf_4 : decode cX15_sideOf 4 = .ok (.iand, 1) := by decide +kernel
theorem dX15_sideOf_5 : decode cX15_sideOf 5 = .ok (.ireturn, 1) := by decide +kernel
set_option maxRecDepth 20000 in
theorem moX15_sideOf {o : Int32 × Hp} {h : Hp} {x0 : Int32} (hE : sX15_sideOf h x0 = some o) : Le h o.2 := by
  exact le_some2 hE
set_option maxRecDepth 20000 in
theorem ct_X15_sideOf (l : Launch) (X : Ec) {h : Hp} {x0 : Int32} {o : Int32 × Hp} (hE : sX15_sideOf h x0 = some o) : MetI l yX15_sideOf cX15_sideOf 1 (some .int) 0 0 X [.int x0] h o := by
  refine x_met (by decide) (Nat.le_of_ble_eq_true rfl) ?_
  intro p e s m below meth c ls C hl hW hZ
  have hl : lv_has ls 1 [(0, .int x0)] := hl
  have hkm : Km h h := Km.rf h
  refine lv_iload_n C.1 C.2.1 dX15_sideOf_0 rfl (lv_at hl 0 rfl) ?_
  refine lv_iconst (v := (1 : Int32)) C.1 C.2.1 dX15_sideOf_1 (by decide) ?_
  refine lv_isub C.1 C.2.1 dX15_sideOf_2 ?_
  refine lv_iconst (v := (1 : Int32)) C.1 C.2.1 dX15_sideOf_3 (by decide) ?_
  refine lv_iand C.1 C.2.1 dX15_sideOf_4 ?_
  exact x_iret C rfl rfl hW hZ hkm hE dX15_sideOf_5
theorem dX15_manOf_0 : decode cX15_manOf 0 = .ok (.iload_n 0, 1) := by decide +kernel
theorem dX15_manOf_1 : decode cX15_manOf 1 = .ok (.iconst 1, 1) := by decide +kernel
theorem dX15_manOf_2 : decode cX15_manOf 2 = .ok (.isub, 1) := by decide +kernel
theorem dX15_manOf_3 : decode cX15_manOf 3 = .ok (.iconst 1, 1) := by decide +kernel
theorem dX15_manOf_4 : decode cX15_manOf 4 = .ok (.ishr, 1) := by decide +kernel
theorem dX15_manOf_5 : decode cX15_manOf 5 = .ok (.ireturn, 1) := by decide +kernel
set_option maxRecDepth 20000 in
theorem moX15_manOf {o : Int32 × Hp} {h : Hp} {x0 : Int32} (hE : sX15_manOf h x0 = some o) : Le h o.2 := by
  exact le_some2 hE
set_option maxRecDepth 20000 in
theorem ct_X15_manOf (l : Launch) (X : Ec) {h : Hp} {x0 : Int32} {o : Int32 × Hp} (hE : sX15_manOf h x0 = some o) : MetI l yX15_manOf cX15_manOf 1 (some .int) 0 0 X [.int x0] h o := by
  refine x_met (by decide) (Nat.le_of_ble_eq_true rfl) ?_
  intro p e s m below meth c ls C hl hW hZ
  have hl : lv_has ls 1 [(0, .int x0)] := hl
  have hkm : Km h h := Km.rf h
  refine lv_iload_n C.1 C.2.1 dX15_manOf_0 rfl (lv_at hl 0 rfl) ?_
  refine lv_iconst (v := (1 : Int32)) C.1 C.2.1 dX15_manOf_1 (by decide) ?_
  refine lv_isub C.1 C.2.1 dX15_manOf_2 ?_
  refine lv_iconst (v := (1 : Int32)) C.1 C.2.1 dX15_manOf_3 (by decide) ?_
  refine lv_ishr C.1 C.2.1 dX15_manOf_4 ?_
  exact x_iret C rfl rfl hW hZ hkm hE dX15_manOf_5
theorem dX15_becomesOthers_0 : decode cX15_becomesOthers 0 = .ok (.aload_n 0, 1) := by decide +kernel
theorem dX15_becomesOthers_1 : decode cX15_becomesOthers 1 = .ok (.getfield 252, 3) := by decide +kernel
theorem dX15_becomesOthers_4 : decode cX15_becomesOthers 4 = .ok (.getfield 215, 3) := by decide +kernel
theorem dX15_becomesOthers_7 : decode cX15_becomesOthers 7 = .ok (.iload_n 1, 1) := by decide +kernel
theorem dX15_becomesOthers_8 : decode cX15_becomesOthers 8 = .ok (.iaload, 1) := by decide +kernel
theorem dX15_becomesOthers_9 : decode cX15_becomesOthers 9 = .ok (.ifCond .le 7, 3) := by decide +kernel
theorem dX15_becomesOthers_12 : decode cX15_becomesOthers 12 = .ok (.iconst 1, 1) := by decide +kernel
theorem dX15_becomesOthers_13 : decode cX15_becomesOthers 13 = .ok (.goto 4, 3) := by decide +kernel
theorem dX15_becomesOthers_16 : decode cX15_becomesOthers 16 = .ok (.iconst 0, 1) := by decide +kernel
theorem dX15_becomesOthers_17 : decode cX15_becomesOthers 17 = .ok (.ireturn, 1) := by decide +kernel
set_option maxRecDepth 20000 in
theorem moX15_becomesOthers_17 {o : Int32 × Hp} {h : Hp} {t0 : Int32} (hE : sX15_becomesOthers_17 h  t0 = some o) : Le h o.2 := by
  obtain ⟨g_1, hE⟩ := gd_e hE
  exact le_some2 hE
set_option maxRecDepth 20000 in
theorem moX15_becomesOthers {o : Int32 × Hp} {h : Hp} {x0 : Nat} {x1 : Int32} (hE : sX15_becomesOthers h x0 x1 = some o) : Le h o.2 := by
  obtain ⟨r_1, er_1, hE⟩ := cl_e hE
  obtain ⟨r_2, er_2, hE⟩ := cl_e hE
  obtain ⟨g_3, hE⟩ := gd_e hE
  rcases br_e hE with ⟨_, hE⟩ | ⟨_, hE⟩
  · exact moX15_becomesOthers_17 hE
  · exact moX15_becomesOthers_17 hE
set_option maxRecDepth 20000 in
theorem bX15_becomesOthers_17 {p : Program} {l : Launch} {e : Env} {s : State} {m : MethodId} {args : Array Value} {below : List Frame} {meth : Method} {c : Code} {X : Ec} {h0 : Hp} {o : Int32 × Hp} (C : Cx X p s m args meth c RX15 cX15_becomesOthers 2 (some .boolean) "becomesOthers") {h : Hp} {t0 : Int32} {H : Heap} {locs : List Loc} (hkm : Km h0 h) (hW : Wx X h H) (hZ : va_S (aA (eB X)) s.heap H locs) (ls : Array Slot) (hl : lv_has ls 2 []) (hE : sX15_becomesOthers_17 h  t0 = some o) : W p l e (rm 0 0) s m args below meth c H locs 0 0 (MQ below (QI X h0 o.1 o.2) args s 0 0 (aA (eB X))) (F0 m 17 ls [.int t0]) := by
  obtain ⟨g_1, hE⟩ := gd_e hE
  exact x_iret C rfl (narB g_1) hW hZ hkm hE dX15_becomesOthers_17
set_option maxRecDepth 20000 in
theorem ct_X15_becomesOthers (l : Launch) (X : Ec) {h : Hp} {x0 : Nat} {x1 : Int32} {o : Int32 × Hp} (k_x0 : hK h x0 = 15) (hE : sX15_becomesOthers h x0 x1 = some o) : MetI l yX15_becomesOthers cX15_becomesOthers 2 (some .boolean) 0 0 X [.ref x0, .int x1] h o := by
  refine x_met (by decide) (Nat.le_of_ble_eq_true rfl) ?_
  intro p e s m below meth c ls C hl hW hZ
  have hl : lv_has ls 2 [(0, .ref x0), (1, .int x1)] := hl
  have hkm : Km h h := Km.rf h
  refine lv_aload_n C.1 C.2.1 dX15_becomesOthers_0 rfl (lv_at hl 0 rfl) ?_
  obtain ⟨r_1, er_1, hE⟩ := cl_e hE
  refine gf_X15_252 C hW k_x0 er_1 dX15_becomesOthers_1 (fun k_r_1 => ?_)
  obtain ⟨r_2, er_2, hE⟩ := cl_e hE
  refine gf_X15_215 C hW k_r_1 er_2 dX15_becomesOthers_4 (fun k_r_2 => ?_)
  refine lv_iload_n C.1 C.2.1 dX15_becomesOthers_7 rfl (lv_at hl 1 rfl) ?_
  obtain ⟨g_3, hE⟩ := gd_e hE
  refine y_iald C hW k_r_2 g_3 dX15_becomesOthers_8 ?_
  refine lv_if_le (tgt := 16) C.1 C.2.1 dX15_becomesOthers_9 (by decide) (fun c_4 => ?_) (fun c_4 => ?_)
  · have hE := br_p hE c_4
    refine lv_iconst (v := (0 : Int32)) C.1 C.2.1 dX15_becomesOthers_16 (by decide) ?_
    exact bX15_becomesOthers_17 C hkm hW hZ _ (lv_sub hl [] rfl) hE
  · have hE := br_n hE c_4
    refine lv_iconst (v := (1 : Int32)) C.1 C.2.1 dX15_becomesOthers_12 (by decide) ?_
    refine lv_goto (tgt := 17) C.1 C.2.1 dX15_becomesOthers_13 (by decide) ?_
    exact bX15_becomesOthers_17 C hkm hW hZ _ (lv_sub hl [] rfl) hE
theorem dX15_rankFor_0 : decode cX15_rankFor 0 = .ok (.iload_n 2, 1) := by decide +kernel
theorem dX15_rankFor_1 : decode cX15_rankFor 1 = .ok (.ifCond .ne 14, 3) := by decide +kernel
theorem dX15_rankFor_4 : decode cX15_rankFor 4 = .ok (.iload_n 1, 1) := by decide +kernel
theorem dX15_rankFor_5 : decode cX15_rankFor 5 = .ok (.aload_n 0, 1) := by decide +kernel
theorem dX15_rankFor_6 : decode cX15_rankFor 6 = .ok (.getfield 382, 3) := by decide +kernel
theorem dX15_rankFor_9 : decode cX15_rankFor 9 = .ok (.idiv, 1) := by decide +kernel
theorem dX15_rankFor_10 : decode cX15_rankFor 10 = .ok (.iconst 1, 1) := by decide +kernel
theorem dX15_rankFor_11 : decode cX15_rankFor 11 = .ok (.iadd, 1) := by decide +kernel
theorem dX15_rankFor_12 : decode cX15_rankFor 12 = .ok (.goto 14, 3) := by decide +kernel
theorem dX15_rankFor_15 : decode cX15_rankFor 15 = .ok (.aload_n 0, 1) := by decide +kernel
theorem dX15_rankFor_16 : decode cX15_rankFor 16 = .ok (.getfield 383, 3) := by decide +kernel
theorem dX15_rankFor_19 : decode cX15_rankFor 19 = .ok (.iload_n 1, 1) := by decide +kernel
theorem dX15_rankFor_20 : decode cX15_rankFor 20 = .ok (.aload_n 0, 1) := by decide +kernel
theorem dX15_rankFor_21 : decode cX15_rankFor 21 = .ok (.getfield 382, 3) := by decide +kernel
theorem dX15_rankFor_24 : decode cX15_rankFor 24 = .ok (.idiv, 1) := by decide +kernel
theorem dX15_rankFor_25 : decode cX15_rankFor 25 = .ok (.isub, 1) := by decide +kernel
theorem dX15_rankFor_26 : decode cX15_rankFor 26 = .ok (.ireturn, 1) := by decide +kernel
set_option maxRecDepth 20000 in
theorem moX15_rankFor_26 {o : Int32 × Hp} {h : Hp} {t0 : Int32} (hE : sX15_rankFor_26 h  t0 = some o) : Le h o.2 := by
  exact le_some2 hE
set_option maxRecDepth 20000 in
theorem moX15_rankFor {o : Int32 × Hp} {h : Hp} {x0 : Nat} {x1 : Int32} {x2 : Int32} (hE : sX15_rankFor h x0 x1 x2 = some o) : Le h o.2 := by
  rcases br_e hE with ⟨_, hE⟩ | ⟨_, hE⟩
  · obtain ⟨g_3, hE⟩ := gd_e hE
    exact moX15_rankFor_26 hE
  · obtain ⟨g_2, hE⟩ := gd_e hE
    exact moX15_rankFor_26 hE
set_option maxRecDepth 20000 in
theorem bX15_rankFor_26 {p : Program} {l : Launch} {e : Env} {s : State} {m : MethodId} {args : Array Value} {below : List Frame} {meth : Method} {c : Code} {X : Ec} {h0 : Hp} {o : Int32 × Hp} (C : Cx X p s m args meth c RX15 cX15_rankFor 3 (some .int) "rankFor") {h : Hp} {t0 : Int32} {H : Heap} {locs : List Loc} (hkm : Km h0 h) (hW : Wx X h H) (hZ : va_S (aA (eB X)) s.heap H locs) (ls : Array Slot) (hl : lv_has ls 3 []) (hE : sX15_rankFor_26 h  t0 = some o) : W p l e (rm 0 0) s m args below meth c H locs 0 0 (MQ below (QI X h0 o.1 o.2) args s 0 0 (aA (eB X))) (F0 m 26 ls [.int t0]) := by
  exact x_iret C rfl rfl hW hZ hkm hE dX15_rankFor_26
set_option maxRecDepth 20000 in
theorem ct_X15_rankFor (l : Launch) (X : Ec) {h : Hp} {x0 : Nat} {x1 : Int32} {x2 : Int32} {o : Int32 × Hp} (k_x0 : hK h x0 = 15) (hE : sX15_rankFor h x0 x1 x2 = some o) : MetI l yX15_rankFor cX15_rankFor 3 (some .int) 0 0 X [.ref x0, .int x1, .int x2] h o := by
  refine x_met (by decide) (Nat.le_of_ble_eq_true rfl) ?_
  intro p e s m below meth c ls C hl hW hZ
  have hl : lv_has ls 3 [(0, .ref x0), (1, .int x1), (2, .int x2)] := hl
  have hkm : Km h h := Km.rf h
  refine lv_iload_n C.1 C.2.1 dX15_rankFor_0 rfl (lv_at hl 2 rfl) ?_
  refine lv_if_ne (tgt := 15) C.1 C.2.1 dX15_rankFor_1 (by decide) (fun c_1 => ?_) (fun c_1 => ?_)
  · have hE := br_n hE c_1
    refine lv_aload_n C.1 C.2.1 dX15_rankFor_15 rfl (lv_at hl 0 rfl) ?_
    refine gf_X15_383 C hW k_x0 dX15_rankFor_16 ?_
    refine lv_iload_n C.1 C.2.1 dX15_rankFor_19 rfl (lv_at hl 1 rfl) ?_
    refine lv_aload_n C.1 C.2.1 dX15_rankFor_20 rfl (lv_at hl 0 rfl) ?_
    refine gf_X15_382 C hW k_x0 dX15_rankFor_21 ?_
    obtain ⟨g_2, hE⟩ := gd_e hE
    refine lv_idiv C.1 C.2.1 dX15_rankFor_24 g_2 ?_
    refine lv_isub C.1 C.2.1 dX15_rankFor_25 ?_
    exact bX15_rankFor_26 C hkm hW hZ _ (lv_sub hl [] rfl) hE
  · have hE := br_p hE c_1
    refine lv_iload_n C.1 C.2.1 dX15_rankFor_4 rfl (lv_at hl 1 rfl) ?_
    refine lv_aload_n C.1 C.2.1 dX15_rankFor_5 rfl (lv_at hl 0 rfl) ?_
    refine gf_X15_382 C hW k_x0 dX15_rankFor_6 ?_
    obtain ⟨g_3, hE⟩ := gd_e hE
    refine lv_idiv C.1 C.2.1 dX15_rankFor_9 g_3 ?_
    refine lv_iconst (v := (1 : Int32)) C.1 C.2.1 dX15_rankFor_10 (by decide) ?_
    refine lv_iadd C.1 C.2.1 dX15_rankFor_11 ?_
    refine lv_goto (tgt := 26) C.1 C.2.1 dX15_rankFor_12 (by decide) ?_
    exact bX15_rankFor_26 C hkm hW hZ _ (lv_sub hl [] rfl) hE
section
variable {p : Program} {l : Launch} {e : Env} {R : Room} {s : State} {m : MethodId} {args : Array Value} {below : List Frame} {meth : Method} {c : Code} {H : Heap} {locs : List Loc} {cells slots : Nat} {Q : State → Prop}
variable {cc : ByteArray} {pc : Nat} {ls : Array Slot} {rest : List Value} {X : Ec} {h h1 : Hp} {nL : Nat} {rt : Option FieldType} {mn : String}
theorem gf_X15_384 {a : Nat} (C : Cx X p s m args meth c RX15 cc nL rt mn) (hW : Wx X h H) (ha : hK h a = 15) (hdg : decode cc pc = .ok (.getfield 384, 3)) (kk : W p l e R s m args below meth c H locs cells slots Q (F0 m (pc + 3) ls (.int (hI h a 13) :: rest))) : W p l e R s m args below meth c H locs cells slots Q (F0 m pc ls (.ref a :: rest)) :=
  y_geti C hW ha i_X15 (by decide) rfl (by decide) m_2124 rfl hdg kk
end
theorem dX15_royalOf_0 : decode cX15_royalOf 0 = .ok (.iconst 0, 1) := by decide +kernel
theorem dX15_royalOf_1 : decode cX15_royalOf 1 = .ok (.istore_n 3, 1) := by decide +kernel
theorem dX15_royalOf_2 : decode cX15_royalOf 2 = .ok (.iload_n 3, 1) := by decide +kernel
theorem dX15_royalOf_3 : decode cX15_royalOf 3 = .ok (.aload_n 0, 1) := by decide +kernel
theorem dX15_royalOf_4 : decode cX15_royalOf 4 = .ok (.getfield 384, 3) := by decide +kernel
theorem dX15_royalOf_7 : decode cX15_royalOf 7 = .ok (.if_icmp .ge 42, 3) := by decide +kernel
theorem dX15_royalOf_10 : decode cX15_royalOf 10 = .ok (.aload_n 0, 1) := by decide +kernel
theorem dX15_royalOf_11 : decode cX15_royalOf 11 = .ok (.getfield 252, 3) := by decide +kernel
theorem dX15_royalOf_14 : decode cX15_royalOf 14 = .ok (.getfield 221, 3) := by decide +kernel
theorem dX15_royalOf_17 : decode cX15_royalOf 17 = .ok (.iconst (-1), 1) := by decide +kernel
theorem dX15_royalOf_18 : decode cX15_royalOf 18 = .ok (.if_icmp .eq 31, 3) := by decide +kernel
theorem dX15_royalOf_21 : decode cX15_royalOf 21 = .ok (.aload_n 1, 1) := by decide +kernel
theorem dX15_royalOf_22 : decode cX15_royalOf 22 = .ok (.getfield 396, 3) := by decide +kernel
theorem dX15_royalOf_25 : decode cX15_royalOf 25 = .ok (.iload_n 3, 1) := by decide +kernel
theorem dX15_royalOf_26 : decode cX15_royalOf 26 = .ok (.iaload, 1) := by decide +kernel
theorem dX15_royalOf_27 : decode cX15_royalOf 27 = .ok (.aload_n 0, 1) := by decide +kernel
theorem dX15_royalOf_28 : decode cX15_royalOf 28 = .ok (.getfield 252, 3) := by decide +kernel
theorem dX15_royalOf_31 : decode cX15_royalOf 31 = .ok (.getfield 221, 3) := by decide +kernel
theorem dX15_royalOf_34 : decode cX15_royalOf 34 = .ok (.iload_n 2, 1) := by decide +kernel
theorem dX15_royalOf_35 : decode cX15_royalOf 35 = .ok (.invokestatic 398, 3) := by decide +kernel
theorem dX15_royalOf_38 : decode cX15_royalOf 38 = .ok (.if_icmp .ne 5, 3) := by decide +kernel
theorem dX15_royalOf_41 : decode cX15_royalOf 41 = .ok (.iload_n 3, 1) := by decide +kernel
theorem dX15_royalOf_42 : decode cX15_royalOf 42 = .ok (.ireturn, 1) := by decide +kernel
theorem dX15_royalOf_43 : decode cX15_royalOf 43 = .ok (.iinc 3 1, 3) := by decide +kernel
theorem dX15_royalOf_46 : decode cX15_royalOf 46 = .ok (.goto (-44), 3) := by decide +kernel
theorem dX15_royalOf_49 : decode cX15_royalOf 49 = .ok (.iconst (-1), 1) := by decide +kernel
theorem dX15_royalOf_50 : decode cX15_royalOf 50 = .ok (.ireturn, 1) := by decide +kernel
set_option maxRecDepth 20000 in
theorem moX15_royalOf_49 {o : Int32 × Hp} {F : Nat} {h : Hp} (hE : sX15_royalOf_49 F h  = some o) : Le h o.2 := by
  exact le_some2 hE
set_option maxRecDepth 20000 in
theorem moX15_royalOf_2 {o : Int32 × Hp} {F : Nat} : ∀ (f : Nat) {h : Hp} {x0 : Nat} {x1 : Nat} {x2 : Int32} {x3 : Int32}, sX15_royalOf_2 F f h x0 x1 x2 x3 = some o → Le h o.2 := by
  intro f
  induction f with
  | zero =>
    intro h x0 x1 x2 x3 hE
    rw [sX15_royalOf_2] at hE
    cases hE
  | succ f ih =>
    intro h x0 x1 x2 x3 hE
    rw [sX15_royalOf_2] at hE
    have mk_2 : ∀ (h : Hp) (x0 : Nat) (x1 : Nat) (x2 : Int32) (x3 : Int32), sX15_royalOf_2 F f h x0 x1 x2 x3 = some o → Le h o.2 := fun h x0 x1 x2 x3 hE => ih hE
    rcases br_e hE with ⟨_, hE⟩ | ⟨_, hE⟩
    · exact moX15_royalOf_49 hE
    · obtain ⟨r_2, er_2, hE⟩ := cl_e hE
      rcases br_e hE with ⟨_, hE⟩ | ⟨_, hE⟩
      · exact moX15_royalOf_49 hE
      · obtain ⟨r_4, er_4, hE⟩ := cl_e hE
        obtain ⟨g_5, hE⟩ := gd_e hE
        obtain ⟨r_6, er_6, hE⟩ := cl_e hE
        obtain ⟨o_7, eo_7, hE⟩ := cl_e hE
        refine (moX15_valueOf eo_7).tr ?_
        rcases br_e hE with ⟨_, hE⟩ | ⟨_, hE⟩
        · exact le_some2 hE
        · obtain ⟨v_9, ev_9, hE⟩ := nm_e2 hE
          exact mk_2 _ _ _ _ _ hE
set_option maxRecDepth 20000 in
theorem moX15_royalOf {o : Int32 × Hp} {F : Nat} {h : Hp} {x0 : Nat} {x1 : Nat} {x2 : Int32} (hE : sX15_royalOf F h x0 x1 x2 = some o) : Le h o.2 := by
  exact moX15_royalOf_2 _ hE
set_option maxRecDepth 20000 in
theorem bX15_royalOf_49 {p : Program} {l : Launch} {e : Env} {s : State} {m : MethodId} {args : Array Value} {below : List Frame} {meth : Method} {c : Code} {X : Ec} {h0 : Hp} {o : Int32 × Hp} {F : Nat} (C : Cx X p s m args meth c RX15 cX15_royalOf 4 (some .int) "royalOf") {h : Hp} {H : Heap} {locs : List Loc} (hkm : Km h0 h) (hW : Wx X h H) (hZ : va_S (aA (eB X)) s.heap H locs) (ls : Array Slot) (hl : lv_has ls 4 []) (hE : sX15_royalOf_49 F h  = some o) : W p l e (rm 1 21) s m args below meth c H locs 0 0 (MQ below (QI X h0 o.1 o.2) args s 0 0 (aA (eB X))) (F0 m 49 ls []) := by
  refine lv_iconst (v := (-1 : Int32)) C.1 C.2.1 dX15_royalOf_49 (by decide) ?_
  exact x_iret C rfl rfl hW hZ hkm hE dX15_royalOf_50
set_option maxRecDepth 20000 in
theorem bX15_royalOf_2 {p : Program} {l : Launch} {e : Env} {s : State} {m : MethodId} {args : Array Value} {below : List Frame} {meth : Method} {c : Code} {X : Ec} {h0 : Hp} {o : Int32 × Hp} {F : Nat} (C : Cx X p s m args meth c RX15 cX15_royalOf 4 (some .int) "royalOf") : ∀ (f : Nat) {h : Hp} {x0 : Nat} {x1 : Nat} {x2 : Int32} {x3 : Int32} {H : Heap} {locs : List Loc} (k_x0 : hK h x0 = 15) (k_x1 : hK h x1 = 12), Km h0 h → Wx X h H → va_S (aA (eB X)) s.heap H locs → ∀ (ls : Array Slot), lv_has ls 4 [(0, .ref x0), (1, .ref x1), (2, .int x2), (3, .int x3)] → sX15_royalOf_2 F f h x0 x1 x2 x3 = some o → W p l e (rm 1 21) s m args below meth c H locs 0 0 (MQ below (QI X h0 o.1 o.2) args s 0 0 (aA (eB X))) (F0 m 2 ls []) := by
  intro f
  induction f with
  | zero =>
    intro h x0 x1 x2 x3 H locs k_x0 k_x1 hkm hW hZ ls hl hE
    rw [sX15_royalOf_2] at hE
    cases hE
  | succ f ih =>
    intro h x0 x1 x2 x3 H locs k_x0 k_x1 hkm hW hZ ls hl hE
    rw [sX15_royalOf_2] at hE
    have hk_2 : ∀ (h : Hp) (x0 : Nat) (x1 : Nat) (x2 : Int32) (x3 : Int32) (H : Heap) (locs : List Loc), hK h x0 = 15 → hK h x1 = 12 → Km h0 h → Wx X h H → va_S (aA (eB X)) s.heap H locs → ∀ (ls : Array Slot), lv_has ls 4 [(0, .ref x0), (1, .ref x1), (2, .int x2), (3, .int x3)] → sX15_royalOf_2 F f h x0 x1 x2 x3 = some o → W p l e (rm 1 21) s m args below meth c H locs 0 0 (MQ below (QI X h0 o.1 o.2) args s 0 0 (aA (eB X))) (F0 m 2 ls []) := fun h x0 x1 x2 x3 H locs k_x0 k_x1 a b c ls hl hE => ih k_x0 k_x1 a b c ls hl hE
    refine lv_iload_n C.1 C.2.1 dX15_royalOf_2 rfl (lv_at hl 3 rfl) ?_
    refine lv_aload_n C.1 C.2.1 dX15_royalOf_3 rfl (lv_at hl 0 rfl) ?_
    refine gf_X15_384 C hW k_x0 dX15_royalOf_4 ?_
    refine lv_icmp_ge (tgt := 49) C.1 C.2.1 dX15_royalOf_7 (by decide) (fun c_1 => ?_) (fun c_1 => ?_)
    · have hE := br_p hE c_1
      exact bX15_royalOf_49 C hkm hW hZ _ (lv_sub hl [] rfl) hE
    · have hE := br_n hE c_1
      refine lv_aload_n C.1 C.2.1 dX15_royalOf_10 rfl (lv_at hl 0 rfl) ?_
      obtain ⟨r_2, er_2, hE⟩ := cl_e hE
      refine gf_X15_252 C hW k_x0 er_2 dX15_royalOf_11 (fun k_r_2 => ?_)
      refine gf_X15_221 C hW k_r_2 dX15_royalOf_14 ?_
      refine lv_iconst (v := (-1 : Int32)) C.1 C.2.1 dX15_royalOf_17 (by decide) ?_
      refine lv_icmp_eq (tgt := 49) C.1 C.2.1 dX15_royalOf_18 (by decide) (fun c_3 => ?_) (fun c_3 => ?_)
      · have hE := br_p hE c_3
        exact bX15_royalOf_49 C hkm hW hZ _ (lv_sub hl [] rfl) hE
      · have hE := br_n hE c_3
        refine lv_aload_n C.1 C.2.1 dX15_royalOf_21 rfl (lv_at hl 1 rfl) ?_
        obtain ⟨r_4, er_4, hE⟩ := cl_e hE
        refine gf_X15_396 C hW k_x1 er_4 dX15_royalOf_22 (fun k_r_4 => ?_)
        refine lv_iload_n C.1 C.2.1 dX15_royalOf_25 rfl (lv_at hl 3 rfl) ?_
        obtain ⟨g_5, hE⟩ := gd_e hE
        refine y_iald C hW k_r_4 g_5 dX15_royalOf_26 ?_
        refine lv_aload_n C.1 C.2.1 dX15_royalOf_27 rfl (lv_at hl 0 rfl) ?_
        obtain ⟨r_6, er_6, hE⟩ := cl_e hE
        refine gf_X15_252 C hW k_x0 er_6 dX15_royalOf_28 (fun k_r_6 => ?_)
        refine gf_X15_221 C hW k_r_6 dX15_royalOf_31 ?_
        refine lv_iload_n C.1 C.2.1 dX15_royalOf_34 rfl (lv_at hl 2 rfl) ?_
        obtain ⟨o_7, eo_7, hE⟩ := cl_e hE
        refine x_kI (o := o_7) (z_runS (As := [.int (hI h r_6 10), .int x2]) (rest := [.int (hI h r_4 x3.toNatClampNeg)]) C (ct_X15_valueOf l X eo_7) cw_X15_398 hW hZ rfl hl.1 (Nat.le_of_ble_eq_true rfl) rfl dX15_royalOf_35 ⟨Nat.le_of_ble_eq_true rfl, Nat.le_of_ble_eq_true rfl⟩ ⟨Nat.le_refl _, Nat.le_refl _⟩) hZ (fun _ _ hW km hZ => ?_)
        replace hkm := hkm.tr km
        replace k_x0 := km.at k_x0 (by decide)
        replace k_x1 := km.at k_x1 (by decide)
        refine lv_icmp_ne (tgt := 43) C.1 C.2.1 dX15_royalOf_38 (by decide) (fun c_8 => ?_) (fun c_8 => ?_)
        · have hE := br_n hE c_8
          obtain ⟨v_9, ev_9, hE⟩ := nm_e2 hE
          refine lv_iinc (v := v_9) (lv' := [(3, .int v_9), (0, .ref x0), (1, .ref x1), (2, .int x2)]) C.1 C.2.1 dX15_royalOf_43 hl (k := 3) rfl (by rw [ev_9]; rfl) (by decide) rfl (fun ls hl => ?_)
          refine lv_goto (tgt := 2) C.1 C.2.1 dX15_royalOf_46 (by decide) ?_
          exact hk_2 _ _ _ _ _ _ _ k_x0 k_x1 hkm hW hZ _ (lv_sub hl [1, 2, 3, 0] rfl) hE
        · have hE := br_p hE c_8
          refine lv_iload_n C.1 C.2.1 dX15_royalOf_41 rfl (lv_at hl 3 rfl) ?_
          exact x_iret C rfl rfl hW hZ hkm hE dX15_royalOf_42
set_option maxRecDepth 20000 in
theorem ct_X15_royalOf (l : Launch) (X : Ec) (F : Nat) {h : Hp} {x0 : Nat} {x1 : Nat} {x2 : Int32} {o : Int32 × Hp} (k_x0 : hK h x0 = 15) (k_x1 : hK h x1 = 12) (hE : sX15_royalOf F h x0 x1 x2 = some o) : MetI l yX15_royalOf cX15_royalOf 4 (some .int) 1 21 X [.ref x0, .ref x1, .int x2] h o := by
  refine x_met (by decide) (Nat.le_of_ble_eq_true rfl) ?_
  intro p e s m below meth c ls C hl hW hZ
  have hl : lv_has ls 4 [(0, .ref x0), (1, .ref x1), (2, .int x2)] := hl
  have hkm : Km h h := Km.rf h
  refine lv_iconst (v := (0 : Int32)) C.1 C.2.1 dX15_royalOf_0 (by decide) ?_
  refine lv_istore_n (lv' := [(3, .int (0 : Int32)), (0, .ref x0), (1, .ref x1), (2, .int x2)]) C.1 C.2.1 dX15_royalOf_1 rfl hl (by decide) rfl (fun ls hl => ?_)
  exact bX15_royalOf_2 C F k_x0 k_x1 hkm hW hZ _ (lv_sub hl [1, 2, 3, 0] rfl) hE
set_option maxRecDepth 100000 in
theorem ms_150 : Cond.selects RX15 yX15_royalOf yX15_royalOf ∈ W0 := w0_in (List.mem_append_left _ (List.mem_of_getElem? (i := 150) rfl)) rfl
set_option maxRecDepth 100000 in
theorem ms_148 : Cond.selects RX15 yX15_rankFor yX15_rankFor ∈ W0 := w0_in (List.mem_append_left _ (List.mem_of_getElem? (i := 148) rfl)) rfl
set_option maxRecDepth 100000 in
theorem m_2396 : Cond.methodLink RX15 489 yX15_sideOf ∈ W0 := w0_in (List.mem_append_right _ (List.mem_of_getElem? (i := 2396) rfl)) rfl
set_option maxRecDepth 100000 in
theorem m_2397 : Cond.static yX15_sideOf ∈ W0 := w0_in (List.mem_append_right _ (List.mem_of_getElem? (i := 2397) rfl)) rfl
set_option maxRecDepth 100000 in
theorem m_2398 : Cond.code yX15_sideOf cX15_sideOf 1 (some .int) ∈ W0 := w0_in (List.mem_append_right _ (List.mem_of_getElem? (i := 2398) rfl)) rfl
set_option maxRecDepth 100000 in
theorem m_2399 : Cond.methodLink RX15 492 yX15_manOf ∈ W0 := w0_in (List.mem_append_right _ (List.mem_of_getElem? (i := 2399) rfl)) rfl
set_option maxRecDepth 100000 in
theorem m_2400 : Cond.static yX15_manOf ∈ W0 := w0_in (List.mem_append_right _ (List.mem_of_getElem? (i := 2400) rfl)) rfl
set_option maxRecDepth 100000 in
theorem m_2401 : Cond.code yX15_manOf cX15_manOf 1 (some .int) ∈ W0 := w0_in (List.mem_append_right _ (List.mem_of_getElem? (i := 2401) rfl)) rfl
set_option maxRecDepth 100000 in
theorem m_2406 : Cond.methodLink RX15 498 yX15_rankFor ∈ W0 := w0_in (List.mem_append_right _ (List.mem_of_getElem? (i := 2406) rfl)) rfl
set_option maxRecDepth 100000 in
theorem m_2408 : Cond.instanceMethod yX15_rankFor ∈ W0 := w0_in (List.mem_append_right _ (List.mem_of_getElem? (i := 2408) rfl)) rfl
set_option maxRecDepth 100000 in
theorem m_2409 : Cond.code yX15_rankFor cX15_rankFor 3 (some .int) ∈ W0 := w0_in (List.mem_append_right _ (List.mem_of_getElem? (i := 2409) rfl)) rfl
set_option maxRecDepth 100000 in
theorem m_2414 : Cond.methodLink RX15 508 yX15_royalOf ∈ W0 := w0_in (List.mem_append_right _ (List.mem_of_getElem? (i := 2414) rfl)) rfl
set_option maxRecDepth 100000 in
theorem m_2416 : Cond.instanceMethod yX15_royalOf ∈ W0 := w0_in (List.mem_append_right _ (List.mem_of_getElem? (i := 2416) rfl)) rfl
set_option maxRecDepth 100000 in
theorem m_2417 : Cond.code yX15_royalOf cX15_royalOf 4 (some .int) ∈ W0 := w0_in (List.mem_append_right _ (List.mem_of_getElem? (i := 2417) rfl)) rfl
section
variable {p : Program} {l : Launch} {e : Env} {R : Room} {s : State} {m : MethodId} {args : Array Value} {below : List Frame} {meth : Method} {c : Code} {H : Heap} {locs : List Loc} {cells slots : Nat} {Q : State → Prop}
variable {cc : ByteArray} {pc : Nat} {ls : Array Slot} {rest : List Value} {X : Ec} {h h1 : Hp} {nL : Nat} {rt : Option FieldType} {mn : String}
theorem gf_X15_228 {a : Nat} (C : Cx X p s m args meth c RX15 cc nL rt mn) (hW : Wx X h H) (ha : hK h a = 14) (hdg : decode cc pc = .ok (.getfield 228, 3)) (kk : W p l e R s m args below meth c H locs cells slots Q (F0 m (pc + 3) ls (.int (hI h a 12) :: rest))) : W p l e R s m args below meth c H locs cells slots Q (F0 m pc ls (.ref a :: rest)) :=
  y_getiN C hW ha i_X14 (by decide) rfl (by decide) n_1829 rfl hdg kk
end
theorem cw_X15_492 : cwd RX15 492 yX15_manOf cX15_manOf 1 (some .int) true 1 := ⟨m_2401, m_2399, m_19, m_2400, by decide, by decide, by decide +kernel⟩
theorem cw_X15_489 : cwd RX15 489 yX15_sideOf cX15_sideOf 1 (some .int) true 1 := ⟨m_2398, m_2396, m_19, m_2397, by decide, by decide, by decide +kernel⟩
theorem cw_X15_498 : cwd RX15 498 yX15_rankFor cX15_rankFor 3 (some .int) false 2 := ⟨m_2409, m_2406, m_19, ⟨m_2408, ms_148⟩, by decide, by decide, by decide +kernel⟩
theorem cw_X15_508 : cwd RX15 508 yX15_royalOf cX15_royalOf 4 (some .int) false 2 := ⟨m_2417, m_2414, m_19, ⟨m_2416, ms_150⟩, by decide, by decide, by decide +kernel⟩
theorem dX15_isRight_0 : decode cX15_isRight 0 = .ok (.aload_n 1, 1) := by decide +kernel
theorem dX15_isRight_1 : decode cX15_isRight 1 = .ok (.getfield 396, 3) := by decide +kernel
theorem dX15_isRight_4 : decode cX15_isRight 4 = .ok (.iload_n 2, 1) := by decide +kernel
theorem dX15_isRight_5 : decode cX15_isRight 5 = .ok (.iaload, 1) := by decide +kernel
theorem dX15_isRight_6 : decode cX15_isRight 6 = .ok (.istore_n 3, 1) := by decide +kernel
theorem dX15_isRight_7 : decode cX15_isRight 7 = .ok (.iload_n 3, 1) := by decide +kernel
theorem dX15_isRight_8 : decode cX15_isRight 8 = .ok (.ifCond .eq 41, 3) := by decide +kernel
theorem dX15_isRight_11 : decode cX15_isRight 11 = .ok (.aload_n 0, 1) := by decide +kernel
theorem dX15_isRight_12 : decode cX15_isRight 12 = .ok (.getfield 252, 3) := by decide +kernel
theorem dX15_isRight_15 : decode cX15_isRight 15 = .ok (.getfield 228, 3) := by decide +kernel
theorem dX15_isRight_18 : decode cX15_isRight 18 = .ok (.iconst (-1), 1) := by decide +kernel
theorem dX15_isRight_19 : decode cX15_isRight 19 = .ok (.if_icmp .eq 30, 3) := by decide +kernel
theorem dX15_isRight_22 : decode cX15_isRight 22 = .ok (.iload_n 3, 1) := by decide +kernel
theorem dX15_isRight_23 : decode cX15_isRight 23 = .ok (.invokestatic 492, 3) := by decide +kernel
theorem dX15_isRight_26 : decode cX15_isRight 26 = .ok (.aload_n 0, 1) := by decide +kernel
theorem dX15_isRight_27 : decode cX15_isRight 27 = .ok (.getfield 252, 3) := by decide +kernel
theorem dX15_isRight_30 : decode cX15_isRight 30 = .ok (.getfield 228, 3) := by decide +kernel
theorem dX15_isRight_33 : decode cX15_isRight 33 = .ok (.if_icmp .ne 16, 3) := by decide +kernel
theorem dX15_isRight_36 : decode cX15_isRight 36 = .ok (.aload_n 0, 1) := by decide +kernel
theorem dX15_isRight_37 : decode cX15_isRight 37 = .ok (.iload_n 2, 1) := by decide +kernel
theorem dX15_isRight_38 : decode cX15_isRight 38 = .ok (.iload_n 3, 1) := by decide +kernel
theorem dX15_isRight_39 : decode cX15_isRight 39 = .ok (.invokestatic 489, 3) := by decide +kernel
theorem dX15_isRight_42 : decode cX15_isRight 42 = .ok (.invokevirtual 498, 3) := by decide +kernel
theorem dX15_isRight_45 : decode cX15_isRight 45 = .ok (.iconst 1, 1) := by decide +kernel
theorem dX15_isRight_46 : decode cX15_isRight 46 = .ok (.if_icmp .eq 5, 3) := by decide +kernel
theorem dX15_isRight_49 : decode cX15_isRight 49 = .ok (.iconst 0, 1) := by decide +kernel
theorem dX15_isRight_50 : decode cX15_isRight 50 = .ok (.ireturn, 1) := by decide +kernel
theorem dX15_isRight_51 : decode cX15_isRight 51 = .ok (.aload_n 0, 1) := by decide +kernel
theorem dX15_isRight_52 : decode cX15_isRight 52 = .ok (.aload_n 1, 1) := by decide +kernel
theorem dX15_isRight_53 : decode cX15_isRight 53 = .ok (.iload_n 3, 1) := by decide +kernel
theorem dX15_isRight_54 : decode cX15_isRight 54 = .ok (.invokestatic 489, 3) := by decide +kernel
theorem dX15_isRight_57 : decode cX15_isRight 57 = .ok (.invokevirtual 508, 3) := by decide +kernel
theorem dX15_isRight_60 : decode cX15_isRight 60 = .ok (.istore 4, 2) := by decide +kernel
theorem dX15_isRight_62 : decode cX15_isRight 62 = .ok (.iload 4, 2) := by decide +kernel
theorem dX15_isRight_64 : decode cX15_isRight 64 = .ok (.iconst (-1), 1) := by decide +kernel
theorem dX15_isRight_65 : decode cX15_isRight 65 = .ok (.if_icmp .eq 21, 3) := by decide +kernel
theorem dX15_isRight_68 : decode cX15_isRight 68 = .ok (.aload_n 0, 1) := by decide +kernel
theorem dX15_isRight_69 : decode cX15_isRight 69 = .ok (.iload 4, 2) := by decide +kernel
theorem dX15_isRight_71 : decode cX15_isRight 71 = .ok (.iload_n 3, 1) := by decide +kernel
theorem dX15_isRight_72 : decode cX15_isRight 72 = .ok (.invokestatic 489, 3) := by decide +kernel
theorem dX15_isRight_75 : decode cX15_isRight 75 = .ok (.invokevirtual 498, 3) := by decide +kernel
theorem dX15_isRight_78 : decode cX15_isRight 78 = .ok (.iconst 1, 1) := by decide +kernel
theorem dX15_isRight_79 : decode cX15_isRight 79 = .ok (.if_icmp .ne 7, 3) := by decide +kernel
theorem dX15_isRight_82 : decode cX15_isRight 82 = .ok (.iconst 1, 1) := by decide +kernel
theorem dX15_isRight_83 : decode cX15_isRight 83 = .ok (.goto 4, 3) := by decide +kernel
theorem dX15_isRight_86 : decode cX15_isRight 86 = .ok (.iconst 0, 1) := by decide +kernel
theorem dX15_isRight_87 : decode cX15_isRight 87 = .ok (.ireturn, 1) := by decide +kernel
set_option maxRecDepth 20000 in
theorem moX15_isRight_49 {o : Int32 × Hp} {F : Nat} {h : Hp} (hE : sX15_isRight_49 F h  = some o) : Le h o.2 := by
  exact le_some2 hE
set_option maxRecDepth 20000 in
theorem moX15_isRight_87 {o : Int32 × Hp} {F : Nat} {h : Hp} {t0 : Int32} (hE : sX15_isRight_87 F h  t0 = some o) : Le h o.2 := by
  obtain ⟨g_1, hE⟩ := gd_e hE
  exact le_some2 hE
set_option maxRecDepth 20000 in
theorem moX15_isRight_86 {o : Int32 × Hp} {F : Nat} {h : Hp} (hE : sX15_isRight_86 F h  = some o) : Le h o.2 := by
  exact moX15_isRight_87 hE
set_option maxRecDepth 20000 in
theorem moX15_isRight {o : Int32 × Hp} {F : Nat} {h : Hp} {x0 : Nat} {x1 : Nat} {x2 : Int32} (hE : sX15_isRight F h x0 x1 x2 = some o) : Le h o.2 := by
  obtain ⟨r_1, er_1, hE⟩ := cl_e hE
  obtain ⟨g_2, hE⟩ := gd_e hE
  obtain ⟨v_3, ev_3, hE⟩ := nm_e2 hE
  rcases br_e hE with ⟨_, hE⟩ | ⟨_, hE⟩
  · exact moX15_isRight_49 hE
  · obtain ⟨r_5, er_5, hE⟩ := cl_e hE
    rcases br_e hE with ⟨_, hE⟩ | ⟨_, hE⟩
    · exact moX15_isRight_49 hE
    · obtain ⟨o_7, eo_7, hE⟩ := cl_e hE
      refine (moX15_manOf eo_7).tr ?_
      obtain ⟨r_8, er_8, hE⟩ := cl_e hE
      rcases br_e hE with ⟨_, hE⟩ | ⟨_, hE⟩
      · obtain ⟨o_10, eo_10, hE⟩ := cl_e hE
        refine (moX15_sideOf eo_10).tr ?_
        obtain ⟨o_11, eo_11, hE⟩ := cl_e hE
        refine (moX15_rankFor eo_11).tr ?_
        rcases br_e hE with ⟨_, hE⟩ | ⟨_, hE⟩
        · obtain ⟨o_13, eo_13, hE⟩ := cl_e hE
          refine (moX15_sideOf eo_13).tr ?_
          obtain ⟨o_14, eo_14, hE⟩ := cl_e hE
          refine (moX15_royalOf eo_14).tr ?_
          rcases br_e hE with ⟨_, hE⟩ | ⟨_, hE⟩
          · exact moX15_isRight_86 hE
          · obtain ⟨o_16, eo_16, hE⟩ := cl_e hE
            refine (moX15_sideOf eo_16).tr ?_
            obtain ⟨o_17, eo_17, hE⟩ := cl_e hE
            refine (moX15_rankFor eo_17).tr ?_
            rcases br_e hE with ⟨_, hE⟩ | ⟨_, hE⟩
            · exact moX15_isRight_87 hE
            · exact moX15_isRight_86 hE
        · exact moX15_isRight_49 hE
      · exact moX15_isRight_49 hE
set_option maxRecDepth 20000 in
theorem bX15_isRight_49 {p : Program} {l : Launch} {e : Env} {s : State} {m : MethodId} {args : Array Value} {below : List Frame} {meth : Method} {c : Code} {X : Ec} {h0 : Hp} {o : Int32 × Hp} {F : Nat} (C : Cx X p s m args meth c RX15 cX15_isRight 5 (some .boolean) "isRight") {h : Hp} {H : Heap} {locs : List Loc} (hkm : Km h0 h) (hW : Wx X h H) (hZ : va_S (aA (eB X)) s.heap H locs) (ls : Array Slot) (hl : lv_has ls 5 []) (hE : sX15_isRight_49 F h  = some o) : W p l e (rm 2 44) s m args below meth c H locs 0 0 (MQ below (QI X h0 o.1 o.2) args s 0 0 (aA (eB X))) (F0 m 49 ls []) := by
  refine lv_iconst (v := (0 : Int32)) C.1 C.2.1 dX15_isRight_49 (by decide) ?_
  exact x_iret C rfl (by decide) hW hZ hkm hE dX15_isRight_50
set_option maxRecDepth 20000 in
theorem bX15_isRight_87 {p : Program} {l : Launch} {e : Env} {s : State} {m : MethodId} {args : Array Value} {below : List Frame} {meth : Method} {c : Code} {X : Ec} {h0 : Hp} {o : Int32 × Hp} {F : Nat} (C : Cx X p s m args meth c RX15 cX15_isRight 5 (some .boolean) "isRight") {h : Hp} {t0 : Int32} {H : Heap} {locs : List Loc} (hkm : Km h0 h) (hW : Wx X h H) (hZ : va_S (aA (eB X)) s.heap H locs) (ls : Array Slot) (hl : lv_has ls 5 []) (hE : sX15_isRight_87 F h  t0 = some o) : W p l e (rm 2 44) s m args below meth c H locs 0 0 (MQ below (QI X h0 o.1 o.2) args s 0 0 (aA (eB X))) (F0 m 87 ls [.int t0]) := by
  obtain ⟨g_1, hE⟩ := gd_e hE
  exact x_iret C rfl (narB g_1) hW hZ hkm hE dX15_isRight_87
set_option maxRecDepth 20000 in
theorem bX15_isRight_86 {p : Program} {l : Launch} {e : Env} {s : State} {m : MethodId} {args : Array Value} {below : List Frame} {meth : Method} {c : Code} {X : Ec} {h0 : Hp} {o : Int32 × Hp} {F : Nat} (C : Cx X p s m args meth c RX15 cX15_isRight 5 (some .boolean) "isRight") {h : Hp} {H : Heap} {locs : List Loc} (hkm : Km h0 h) (hW : Wx X h H) (hZ : va_S (aA (eB X)) s.heap H locs) (ls : Array Slot) (hl : lv_has ls 5 []) (hE : sX15_isRight_86 F h  = some o) : W p l e (rm 2 44) s m args below meth c H locs 0 0 (MQ below (QI X h0 o.1 o.2) args s 0 0 (aA (eB X))) (F0 m 86 ls []) := by
  refine lv_iconst (v := (0 : Int32)) C.1 C.2.1 dX15_isRight_86 (by decide) ?_
  exact bX15_isRight_87 C hkm hW hZ _ (lv_sub hl [] rfl) hE
set_option maxRecDepth 20000 in
theorem ct_X15_isRight (l : Launch) (X : Ec) (F : Nat) {h : Hp} {x0 : Nat} {x1 : Nat} {x2 : Int32} {o : Int32 × Hp} (k_x0 : hK h x0 = 15) (k_x1 : hK h x1 = 12) (hE : sX15_isRight F h x0 x1 x2 = some o) : MetI l yX15_isRight cX15_isRight 5 (some .boolean) 2 44 X [.ref x0, .ref x1, .int x2] h o := by
  refine x_met (by decide) (Nat.le_of_ble_eq_true rfl) ?_
  intro p e s m below meth c ls C hl hW hZ
  have hl : lv_has ls 5 [(0, .ref x0), (1, .ref x1), (2, .int x2)] := hl
  have hkm : Km h h := Km.rf h
  refine lv_aload_n C.1 C.2.1 dX15_isRight_0 rfl (lv_at hl 1 rfl) ?_
  obtain ⟨r_1, er_1, hE⟩ := cl_e hE
  refine gf_X15_396 C hW k_x1 er_1 dX15_isRight_1 (fun k_r_1 => ?_)
  refine lv_iload_n C.1 C.2.1 dX15_isRight_4 rfl (lv_at hl 2 rfl) ?_
  obtain ⟨g_2, hE⟩ := gd_e hE
  refine y_iald C hW k_r_1 g_2 dX15_isRight_5 ?_
  obtain ⟨v_3, ev_3, hE⟩ := nm_e2 hE
  refine x_nmI ev_3 ?_
  refine lv_istore_n (lv' := [(3, .int v_3), (0, .ref x0), (1, .ref x1), (2, .int x2)]) C.1 C.2.1 dX15_isRight_6 rfl hl (by decide) rfl (fun ls hl => ?_)
  refine lv_iload_n C.1 C.2.1 dX15_isRight_7 rfl (lv_at hl 0 rfl) ?_
  refine lv_if_eq (tgt := 49) C.1 C.2.1 dX15_isRight_8 (by decide) (fun c_4 => ?_) (fun c_4 => ?_)
  · have hE := br_p hE c_4
    exact bX15_isRight_49 C hkm hW hZ _ (lv_sub hl [] rfl) hE
  · have hE := br_n hE c_4
    refine lv_aload_n C.1 C.2.1 dX15_isRight_11 rfl (lv_at hl 1 rfl) ?_
    obtain ⟨r_5, er_5, hE⟩ := cl_e hE
    refine gf_X15_252 C hW k_x0 er_5 dX15_isRight_12 (fun k_r_5 => ?_)
    refine gf_X15_228 C hW k_r_5 dX15_isRight_15 ?_
    refine lv_iconst (v := (-1 : Int32)) C.1 C.2.1 dX15_isRight_18 (by decide) ?_
    refine lv_icmp_eq (tgt := 49) C.1 C.2.1 dX15_isRight_19 (by decide) (fun c_6 => ?_) (fun c_6 => ?_)
    · have hE := br_p hE c_6
      exact bX15_isRight_49 C hkm hW hZ _ (lv_sub hl [] rfl) hE
    · have hE := br_n hE c_6
      refine lv_iload_n C.1 C.2.1 dX15_isRight_22 rfl (lv_at hl 0 rfl) ?_
      obtain ⟨o_7, eo_7, hE⟩ := cl_e hE
      refine x_kI (o := o_7) (z_runS (As := [.int v_3]) (rest := []) C (ct_X15_manOf l X eo_7) cw_X15_492 hW hZ rfl hl.1 (Nat.le_of_ble_eq_true rfl) rfl dX15_isRight_23 ⟨Nat.le_of_ble_eq_true rfl, Nat.le_of_ble_eq_true rfl⟩ ⟨Nat.le_refl _, Nat.le_refl _⟩) hZ (fun _ _ hW km hZ => ?_)
      replace hkm := hkm.tr km
      replace k_x0 := km.at k_x0 (by decide)
      replace k_x1 := km.at k_x1 (by decide)
      refine lv_aload_n C.1 C.2.1 dX15_isRight_26 rfl (lv_at hl 1 rfl) ?_
      obtain ⟨r_8, er_8, hE⟩ := cl_e hE
      refine gf_X15_252 C hW k_x0 er_8 dX15_isRight_27 (fun k_r_8 => ?_)
      refine gf_X15_228 C hW k_r_8 dX15_isRight_30 ?_
      refine lv_icmp_ne (tgt := 49) C.1 C.2.1 dX15_isRight_33 (by decide) (fun c_9 => ?_) (fun c_9 => ?_)
      · have hE := br_n hE c_9
        exact bX15_isRight_49 C hkm hW hZ _ (lv_sub hl [] rfl) hE
      · have hE := br_p hE c_9
        refine lv_aload_n C.1 C.2.1 dX15_isRight_36 rfl (lv_at hl 1 rfl) ?_
        refine lv_iload_n C.1 C.2.1 dX15_isRight_37 rfl (lv_at hl 3 rfl) ?_
        refine lv_iload_n C.1 C.2.1 dX15_isRight_38 rfl (lv_at hl 0 rfl) ?_
        obtain ⟨o_10, eo_10, hE⟩ := cl_e hE
        refine x_kI (o := o_10) (z_runS (As := [.int v_3]) (rest := [.int x2, .ref x0]) C (ct_X15_sideOf l X eo_10) cw_X15_489 hW hZ rfl hl.1 (Nat.le_of_ble_eq_true rfl) rfl dX15_isRight_39 ⟨Nat.le_of_ble_eq_true rfl, Nat.le_of_ble_eq_true rfl⟩ ⟨Nat.le_refl _, Nat.le_refl _⟩) hZ (fun _ _ hW km hZ => ?_)
        replace hkm := hkm.tr km
        replace k_x0 := km.at k_x0 (by decide)
        replace k_x1 := km.at k_x1 (by decide)
        obtain ⟨o_11, eo_11, hE⟩ := cl_e hE
        refine x_kI (o := o_11) (z_runV (As := [.int x2, .int o_10.1]) (rest := []) C (ct_X15_rankFor l X k_x0 eo_11) cw_X15_498 hW hZ k_x0 (by decide) rfl rfl rfl hl.1 (Nat.le_of_ble_eq_true rfl) rfl dX15_isRight_42 ⟨Nat.le_of_ble_eq_true rfl, Nat.le_of_ble_eq_true rfl⟩ ⟨Nat.le_refl _, Nat.le_refl _⟩) hZ (fun _ _ hW km hZ => ?_)
        replace hkm := hkm.tr km
        replace k_x0 := km.at k_x0 (by decide)
        replace k_x1 := km.at k_x1 (by decide)
        refine lv_iconst (v := (1 : Int32)) C.1 C.2.1 dX15_isRight_45 (by decide) ?_
        refine lv_icmp_eq (tgt := 51) C.1 C.2.1 dX15_isRight_46 (by decide) (fun c_12 => ?_) (fun c_12 => ?_)
        · have hE := br_p hE c_12
          refine lv_aload_n C.1 C.2.1 dX15_isRight_51 rfl (lv_at hl 1 rfl) ?_
          refine lv_aload_n C.1 C.2.1 dX15_isRight_52 rfl (lv_at hl 2 rfl) ?_
          refine lv_iload_n C.1 C.2.1 dX15_isRight_53 rfl (lv_at hl 0 rfl) ?_
          obtain ⟨o_13, eo_13, hE⟩ := cl_e hE
          refine x_kI (o := o_13) (z_runS (As := [.int v_3]) (rest := [.ref x1, .ref x0]) C (ct_X15_sideOf l X eo_13) cw_X15_489 hW hZ rfl hl.1 (Nat.le_of_ble_eq_true rfl) rfl dX15_isRight_54 ⟨Nat.le_of_ble_eq_true rfl, Nat.le_of_ble_eq_true rfl⟩ ⟨Nat.le_refl _, Nat.le_refl _⟩) hZ (fun _ _ hW km hZ => ?_)
          replace hkm := hkm.tr km
          replace k_x0 := km.at k_x0 (by decide)
          replace k_x1 := km.at k_x1 (by decide)
          obtain ⟨o_14, eo_14, hE⟩ := cl_e hE
          refine x_kI (o := o_14) (z_runV (As := [.ref x1, .int o_13.1]) (rest := []) C (ct_X15_royalOf l X F k_x0 k_x1 eo_14) cw_X15_508 hW hZ k_x0 (by decide) rfl rfl rfl hl.1 (Nat.le_of_ble_eq_true rfl) rfl dX15_isRight_57 ⟨Nat.le_of_ble_eq_true rfl, Nat.le_of_ble_eq_true rfl⟩ ⟨Nat.le_refl _, Nat.le_refl _⟩) hZ (fun _ _ hW km hZ => ?_)
          replace hkm := hkm.tr km
          replace k_x0 := km.at k_x0 (by decide)
          replace k_x1 := km.at k_x1 (by decide)
          refine lv_istore (lv' := [(4, .int o_14.1), (3, .int v_3), (0, .ref x0), (1, .ref x1), (2, .int x2)]) C.1 C.2.1 dX15_isRight_60 hl (by decide) rfl (fun ls hl => ?_)
          refine lv_iload C.1 C.2.1 dX15_isRight_62 (lv_at hl 0 rfl) ?_
          refine lv_iconst (v := (-1 : Int32)) C.1 C.2.1 dX15_isRight_64 (by decide) ?_
          refine lv_icmp_eq (tgt := 86) C.1 C.2.1 dX15_isRight_65 (by decide) (fun c_15 => ?_) (fun c_15 => ?_)
          · have hE := br_p hE c_15
            exact bX15_isRight_86 C hkm hW hZ _ (lv_sub hl [] rfl) hE
          · have hE := br_n hE c_15
            refine lv_aload_n C.1 C.2.1 dX15_isRight_68 rfl (lv_at hl 2 rfl) ?_
            refine lv_iload C.1 C.2.1 dX15_isRight_69 (lv_at hl 0 rfl) ?_
            refine lv_iload_n C.1 C.2.1 dX15_isRight_71 rfl (lv_at hl 1 rfl) ?_
            obtain ⟨o_16, eo_16, hE⟩ := cl_e hE
            refine x_kI (o := o_16) (z_runS (As := [.int v_3]) (rest := [.int o_14.1, .ref x0]) C (ct_X15_sideOf l X eo_16) cw_X15_489 hW hZ rfl hl.1 (Nat.le_of_ble_eq_true rfl) rfl dX15_isRight_72 ⟨Nat.le_of_ble_eq_true rfl, Nat.le_of_ble_eq_true rfl⟩ ⟨Nat.le_refl _, Nat.le_refl _⟩) hZ (fun _ _ hW km hZ => ?_)
            replace hkm := hkm.tr km
            replace k_x0 := km.at k_x0 (by decide)
            replace k_x1 := km.at k_x1 (by decide)
            obtain ⟨o_17, eo_17, hE⟩ := cl_e hE
            refine x_kI (o := o_17) (z_runV (As := [.int o_14.1, .int o_16.1]) (rest := []) C (ct_X15_rankFor l X k_x0 eo_17) cw_X15_498 hW hZ k_x0 (by decide) rfl rfl rfl hl.1 (Nat.le_of_ble_eq_true rfl) rfl dX15_isRight_75 ⟨Nat.le_of_ble_eq_true rfl, Nat.le_of_ble_eq_true rfl⟩ ⟨Nat.le_refl _, Nat.le_refl _⟩) hZ (fun _ _ hW km hZ => ?_)
            replace hkm := hkm.tr km
            replace k_x0 := km.at k_x0 (by decide)
            replace k_x1 := km.at k_x1 (by decide)
            refine lv_iconst (v := (1 : Int32)) C.1 C.2.1 dX15_isRight_78 (by decide) ?_
            refine lv_icmp_ne (tgt := 86) C.1 C.2.1 dX15_isRight_79 (by decide) (fun c_18 => ?_) (fun c_18 => ?_)
            · have hE := br_n hE c_18
              exact bX15_isRight_86 C hkm hW hZ _ (lv_sub hl [] rfl) hE
            · have hE := br_p hE c_18
              refine lv_iconst (v := (1 : Int32)) C.1 C.2.1 dX15_isRight_82 (by decide) ?_
              refine lv_goto (tgt := 87) C.1 C.2.1 dX15_isRight_83 (by decide) ?_
              exact bX15_isRight_87 C hkm hW hZ _ (lv_sub hl [] rfl) hE
        · have hE := br_n hE c_12
          exact bX15_isRight_49 C hkm hW hZ _ (lv_sub hl [] rfl) hE
set_option maxRecDepth 100000 in
theorem m_1213 : Cond.static Lib.Math.abs.name ∈ W0 := w0_in (List.mem_append_right _ (List.mem_of_getElem? (i := 1213) rfl)) rfl
set_option maxRecDepth 100000 in
theorem m_1214 : Cond.code Lib.Math.abs.name Lib.Math.abs.code 1 (some .int) ∈ W0 := w0_in (List.mem_append_right _ (List.mem_of_getElem? (i := 1214) rfl)) rfl
set_option maxRecDepth 100000 in
theorem m_2134 : Cond.fieldLink RX15 545 (TX15 23).1 (TX15 23).2.1 (TX15 23).2.2.1 ∈ W0 := w0_in (List.mem_append_right _ (List.mem_of_getElem? (i := 2134) rfl)) rfl
set_option maxRecDepth 100000 in
theorem m_2135 : Cond.fieldLink RX15 548 (TX15 24).1 (TX15 24).2.1 (TX15 24).2.2.1 ∈ W0 := w0_in (List.mem_append_right _ (List.mem_of_getElem? (i := 2135) rfl)) rfl
set_option maxRecDepth 100000 in
theorem m_2426 : Cond.methodLink RX15 551 Lib.Math.abs.name ∈ W0 := w0_in (List.mem_append_right _ (List.mem_of_getElem? (i := 2426) rfl)) rfl
section
variable {p : Program} {l : Launch} {e : Env} {R : Room} {s : State} {m : MethodId} {args : Array Value} {below : List Frame} {meth : Method} {c : Code} {H : Heap} {locs : List Loc} {cells slots : Nat} {Q : State → Prop}
variable {cc : ByteArray} {pc : Nat} {ls : Array Slot} {rest : List Value} {X : Ec} {h h1 : Hp} {nL : Nat} {rt : Option FieldType} {mn : String}
theorem pf_X15_548 {a : Nat} {v : Int32} (C : Cx X p s m args meth c RX15 cc nL rt mn) (hW : Wx X h H) (hZ : va_S (aA (eB X)) s.heap H locs) (ha : hK h a = 15) (eh : h1 = wI h a 24 v) (hdg : decode cc pc = .ok (.putfield 548, 3)) (kk : ∀ (H1 : Heap) (locs1 : List Loc), Wx X h1 H1 → Km h h1 → va_S (aA (eB X)) s.heap H1 locs1 → W p l e R s m args below meth c H1 locs1 cells slots Q (F0 m (pc + 3) ls rest)) : W p l e R s m args below meth c H locs cells slots Q (F0 m pc ls (.int v :: .ref a :: rest)) :=
  y_puti (ty := .int) C hW hZ ha i_X15 tyX15 tyX15_ok nmX15 (by decide) rfl rfl (by decide) m_2135 rfl (by decide +kernel) rfl rfl rfl eh hdg kk
theorem pf_X15_545 {a : Nat} {v : Int32} (C : Cx X p s m args meth c RX15 cc nL rt mn) (hW : Wx X h H) (hZ : va_S (aA (eB X)) s.heap H locs) (ha : hK h a = 15) (eh : h1 = wI h a 23 v) (hdg : decode cc pc = .ok (.putfield 545, 3)) (kk : ∀ (H1 : Heap) (locs1 : List Loc), Wx X h1 H1 → Km h h1 → va_S (aA (eB X)) s.heap H1 locs1 → W p l e R s m args below meth c H1 locs1 cells slots Q (F0 m (pc + 3) ls rest)) : W p l e R s m args below meth c H locs cells slots Q (F0 m pc ls (.int v :: .ref a :: rest)) :=
  y_puti (ty := .int) C hW hZ ha i_X15 tyX15 tyX15_ok nmX15 (by decide) rfl rfl (by decide) m_2134 rfl (by decide +kernel) rfl rfl rfl eh hdg kk
end
theorem dX15_hasVector_0 : decode cX15_hasVector 0 = .ok (.aload_n 0, 1) := by decide +kernel
theorem dX15_hasVector_1 : decode cX15_hasVector 1 = .ok (.getfield 252, 3) := by decide +kernel
theorem dX15_hasVector_4 : decode cX15_hasVector 4 = .ok (.getfield 201, 3) := by decide +kernel
theorem dX15_hasVector_7 : decode cX15_hasVector 7 = .ok (.iload_n 1, 1) := by decide +kernel
theorem dX15_hasVector_8 : decode cX15_hasVector 8 = .ok (.iaload, 1) := by decide +kernel
theorem dX15_hasVector_9 : decode cX15_hasVector 9 = .ok (.istore 4, 2) := by decide +kernel
theorem dX15_hasVector_11 : decode cX15_hasVector 11 = .ok (.aload_n 0, 1) := by decide +kernel
theorem dX15_hasVector_12 : decode cX15_hasVector 12 = .ok (.getfield 252, 3) := by decide +kernel
theorem dX15_hasVector_15 : decode cX15_hasVector 15 = .ok (.getfield 204, 3) := by decide +kernel
theorem dX15_hasVector_18 : decode cX15_hasVector 18 = .ok (.iload_n 1, 1) := by decide +kernel
theorem dX15_hasVector_19 : decode cX15_hasVector 19 = .ok (.iaload, 1) := by decide +kernel
theorem dX15_hasVector_20 : decode cX15_hasVector 20 = .ok (.istore 5, 2) := by decide +kernel
theorem dX15_hasVector_22 : decode cX15_hasVector 22 = .ok (.aload_n 0, 1) := by decide +kernel
theorem dX15_hasVector_23 : decode cX15_hasVector 23 = .ok (.getfield 252, 3) := by decide +kernel
theorem dX15_hasVector_26 : decode cX15_hasVector 26 = .ok (.getfield 198, 3) := by decide +kernel
theorem dX15_hasVector_29 : decode cX15_hasVector 29 = .ok (.iload_n 1, 1) := by decide +kernel
theorem dX15_hasVector_30 : decode cX15_hasVector 30 = .ok (.iaload, 1) := by decide +kernel
theorem dX15_hasVector_31 : decode cX15_hasVector 31 = .ok (.iconst 4, 1) := by decide +kernel
theorem dX15_hasVector_32 : decode cX15_hasVector 32 = .ok (.iand, 1) := by decide +kernel
theorem dX15_hasVector_33 : decode cX15_hasVector 33 = .ok (.ifCond .eq 36, 3) := by decide +kernel
theorem dX15_hasVector_36 : decode cX15_hasVector 36 = .ok (.aload_n 0, 1) := by decide +kernel
theorem dX15_hasVector_37 : decode cX15_hasVector 37 = .ok (.iload 4, 2) := by decide +kernel
theorem dX15_hasVector_39 : decode cX15_hasVector 39 = .ok (.putfield 545, 3) := by decide +kernel
theorem dX15_hasVector_42 : decode cX15_hasVector 42 = .ok (.aload_n 0, 1) := by decide +kernel
theorem dX15_hasVector_43 : decode cX15_hasVector 43 = .ok (.iload_n 3, 1) := by decide +kernel
theorem dX15_hasVector_44 : decode cX15_hasVector 44 = .ok (.ifCond .ne 8, 3) := by decide +kernel
theorem dX15_hasVector_47 : decode cX15_hasVector 47 = .ok (.iload 5, 2) := by decide +kernel
theorem dX15_hasVector_49 : decode cX15_hasVector 49 = .ok (.goto 7, 3) := by decide +kernel
theorem dX15_hasVector_52 : decode cX15_hasVector 52 = .ok (.iconst 0, 1) := by decide +kernel
theorem dX15_hasVector_53 : decode cX15_hasVector 53 = .ok (.iload 5, 2) := by decide +kernel
theorem dX15_hasVector_55 : decode cX15_hasVector 55 = .ok (.isub, 1) := by decide +kernel
theorem dX15_hasVector_56 : decode cX15_hasVector 56 = .ok (.putfield 548, 3) := by decide +kernel
theorem dX15_hasVector_59 : decode cX15_hasVector 59 = .ok (.iload_n 2, 1) := by decide +kernel
theorem dX15_hasVector_60 : decode cX15_hasVector 60 = .ok (.ifCond .ne 7, 3) := by decide +kernel
theorem dX15_hasVector_63 : decode cX15_hasVector 63 = .ok (.iconst 1, 1) := by decide +kernel
theorem dX15_hasVector_64 : decode cX15_hasVector 64 = .ok (.goto 4, 3) := by decide +kernel
theorem dX15_hasVector_67 : decode cX15_hasVector 67 = .ok (.iconst 0, 1) := by decide +kernel
theorem dX15_hasVector_68 : decode cX15_hasVector 68 = .ok (.ireturn, 1) := by decide +kernel
theorem dX15_hasVector_69 : decode cX15_hasVector 69 = .ok (.iload_n 2, 1) := by decide +kernel
theorem dX15_hasVector_70 : decode cX15_hasVector 70 = .ok (.iconst 4, 1) := by decide +kernel
theorem dX15_hasVector_71 : decode cX15_hasVector 71 = .ok (.iand, 1) := by decide +kernel
theorem dX15_hasVector_72 : decode cX15_hasVector 72 = .ok (.ifCond .eq 7, 3) := by decide +kernel
theorem dX15_hasVector_75 : decode cX15_hasVector 75 = .ok (.iconst 1, 1) := by decide +kernel
theorem dX15_hasVector_76 : decode cX15_hasVector 76 = .ok (.goto 4, 3) := by decide +kernel
theorem dX15_hasVector_79 : decode cX15_hasVector 79 = .ok (.iconst 0, 1) := by decide +kernel
theorem dX15_hasVector_80 : decode cX15_hasVector 80 = .ok (.istore 6, 2) := by decide +kernel
theorem dX15_hasVector_82 : decode cX15_hasVector 82 = .ok (.iload 6, 2) := by decide +kernel
theorem dX15_hasVector_84 : decode cX15_hasVector 84 = .ok (.ifCond .eq 8, 3) := by decide +kernel
theorem dX15_hasVector_87 : decode cX15_hasVector 87 = .ok (.iload 5, 2) := by decide +kernel
theorem dX15_hasVector_89 : decode cX15_hasVector 89 = .ok (.goto 5, 3) := by decide +kernel
theorem dX15_hasVector_92 : decode cX15_hasVector 92 = .ok (.iload 4, 2) := by decide +kernel
theorem dX15_hasVector_94 : decode cX15_hasVector 94 = .ok (.istore 7, 2) := by decide +kernel
theorem dX15_hasVector_96 : decode cX15_hasVector 96 = .ok (.iload 6, 2) := by decide +kernel
theorem dX15_hasVector_98 : decode cX15_hasVector 98 = .ok (.ifCond .eq 8, 3) := by decide +kernel
theorem dX15_hasVector_101 : decode cX15_hasVector 101 = .ok (.iload 4, 2) := by decide +kernel
theorem dX15_hasVector_103 : decode cX15_hasVector 103 = .ok (.goto 5, 3) := by decide +kernel
theorem dX15_hasVector_106 : decode cX15_hasVector 106 = .ok (.iload 5, 2) := by decide +kernel
theorem dX15_hasVector_108 : decode cX15_hasVector 108 = .ok (.istore 8, 2) := by decide +kernel
theorem dX15_hasVector_110 : decode cX15_hasVector 110 = .ok (.aload_n 0, 1) := by decide +kernel
theorem dX15_hasVector_111 : decode cX15_hasVector 111 = .ok (.iload_n 2, 1) := by decide +kernel
theorem dX15_hasVector_112 : decode cX15_hasVector 112 = .ok (.iconst 1, 1) := by decide +kernel
theorem dX15_hasVector_113 : decode cX15_hasVector 113 = .ok (.iand, 1) := by decide +kernel
theorem dX15_hasVector_114 : decode cX15_hasVector 114 = .ok (.ifCond .eq 10, 3) := by decide +kernel
theorem dX15_hasVector_117 : decode cX15_hasVector 117 = .ok (.iconst 0, 1) := by decide +kernel
theorem dX15_hasVector_118 : decode cX15_hasVector 118 = .ok (.iload 7, 2) := by decide +kernel
theorem dX15_hasVector_120 : decode cX15_hasVector 120 = .ok (.isub, 1) := by decide +kernel
theorem dX15_hasVector_121 : decode cX15_hasVector 121 = .ok (.goto 5, 3) := by decide +kernel
theorem dX15_hasVector_124 : decode cX15_hasVector 124 = .ok (.iload 7, 2) := by decide +kernel
theorem dX15_hasVector_126 : decode cX15_hasVector 126 = .ok (.putfield 545, 3) := by decide +kernel
theorem dX15_hasVector_129 : decode cX15_hasVector 129 = .ok (.aload_n 0, 1) := by decide +kernel
theorem dX15_hasVector_130 : decode cX15_hasVector 130 = .ok (.iload_n 2, 1) := by decide +kernel
theorem dX15_hasVector_131 : decode cX15_hasVector 131 = .ok (.iconst 2, 1) := by decide +kernel
theorem dX15_hasVector_132 : decode cX15_hasVector 132 = .ok (.iand, 1) := by decide +kernel
theorem dX15_hasVector_133 : decode cX15_hasVector 133 = .ok (.ifCond .eq 10, 3) := by decide +kernel
theorem dX15_hasVector_136 : decode cX15_hasVector 136 = .ok (.iconst 0, 1) := by decide +kernel
theorem dX15_hasVector_137 : decode cX15_hasVector 137 = .ok (.iload 8, 2) := by decide +kernel
theorem dX15_hasVector_139 : decode cX15_hasVector 139 = .ok (.isub, 1) := by decide +kernel
theorem dX15_hasVector_140 : decode cX15_hasVector 140 = .ok (.goto 5, 3) := by decide +kernel
theorem dX15_hasVector_143 : decode cX15_hasVector 143 = .ok (.iload 8, 2) := by decide +kernel
theorem dX15_hasVector_145 : decode cX15_hasVector 145 = .ok (.putfield 548, 3) := by decide +kernel
theorem dX15_hasVector_148 : decode cX15_hasVector 148 = .ok (.iload_n 2, 1) := by decide +kernel
theorem dX15_hasVector_149 : decode cX15_hasVector 149 = .ok (.iconst 1, 1) := by decide +kernel
theorem dX15_hasVector_150 : decode cX15_hasVector 150 = .ok (.iand, 1) := by decide +kernel
theorem dX15_hasVector_151 : decode cX15_hasVector 151 = .ok (.ifCond .eq 8, 3) := by decide +kernel
theorem dX15_hasVector_154 : decode cX15_hasVector 154 = .ok (.iload 7, 2) := by decide +kernel
theorem dX15_hasVector_156 : decode cX15_hasVector 156 = .ok (.ifCond .eq 36, 3) := by decide +kernel
theorem dX15_hasVector_159 : decode cX15_hasVector 159 = .ok (.iload_n 2, 1) := by decide +kernel
theorem dX15_hasVector_160 : decode cX15_hasVector 160 = .ok (.iconst 2, 1) := by decide +kernel
theorem dX15_hasVector_161 : decode cX15_hasVector 161 = .ok (.iand, 1) := by decide +kernel
theorem dX15_hasVector_162 : decode cX15_hasVector 162 = .ok (.ifCond .eq 8, 3) := by decide +kernel
theorem dX15_hasVector_165 : decode cX15_hasVector 165 = .ok (.iload 8, 2) := by decide +kernel
theorem dX15_hasVector_167 : decode cX15_hasVector 167 = .ok (.ifCond .eq 25, 3) := by decide +kernel
theorem dX15_hasVector_170 : decode cX15_hasVector 170 = .ok (.iload 6, 2) := by decide +kernel
theorem dX15_hasVector_172 : decode cX15_hasVector 172 = .ok (.ifCond .eq 16, 3) := by decide +kernel
theorem dX15_hasVector_175 : decode cX15_hasVector 175 = .ok (.iload 4, 2) := by decide +kernel
theorem dX15_hasVector_177 : decode cX15_hasVector 177 = .ok (.invokestatic 551, 3) := by decide +kernel
theorem dX15_hasVector_180 : decode cX15_hasVector 180 = .ok (.iload 5, 2) := by decide +kernel
theorem dX15_hasVector_182 : decode cX15_hasVector 182 = .ok (.invokestatic 551, 3) := by decide +kernel
theorem dX15_hasVector_185 : decode cX15_hasVector 185 = .ok (.if_icmp .eq 7, 3) := by decide +kernel
theorem dX15_hasVector_188 : decode cX15_hasVector 188 = .ok (.iconst 1, 1) := by decide +kernel
theorem dX15_hasVector_189 : decode cX15_hasVector 189 = .ok (.goto 4, 3) := by decide +kernel
theorem dX15_hasVector_192 : decode cX15_hasVector 192 = .ok (.iconst 0, 1) := by decide +kernel
theorem dX15_hasVector_193 : decode cX15_hasVector 193 = .ok (.ireturn, 1) := by decide +kernel
set_option maxRecDepth 20000 in
theorem moX15_hasVector_193 {o : Int32 × Hp} {h : Hp} {t0 : Int32} (hE : sX15_hasVector_193 h  t0 = some o) : Le h o.2 := by
  obtain ⟨g_1, hE⟩ := gd_e hE
  exact le_some2 hE
set_option maxRecDepth 20000 in
theorem moX15_hasVector_188 {o : Int32 × Hp} {h : Hp} (hE : sX15_hasVector_188 h  = some o) : Le h o.2 := by
  exact moX15_hasVector_193 hE
set_option maxRecDepth 20000 in
theorem moX15_hasVector_192 {o : Int32 × Hp} {h : Hp} (hE : sX15_hasVector_192 h  = some o) : Le h o.2 := by
  exact moX15_hasVector_193 hE
set_option maxRecDepth 20000 in
theorem moX15_hasVector_170 {o : Int32 × Hp} {h : Hp} {x4 : Int32} {x5 : Int32} {x6 : Int32} (hE : sX15_hasVector_170 h x4 x5 x6 = some o) : Le h o.2 := by
  rcases br_e hE with ⟨_, hE⟩ | ⟨_, hE⟩
  · exact moX15_hasVector_188 hE
  · rcases br_e hE with ⟨_, hE⟩ | ⟨_, hE⟩
    · exact moX15_hasVector_192 hE
    · exact moX15_hasVector_188 hE
set_option maxRecDepth 20000 in
theorem moX15_hasVector_159 {o : Int32 × Hp} {h : Hp} {x2 : Int32} {x4 : Int32} {x5 : Int32} {x6 : Int32} {x8 : Int32} (hE : sX15_hasVector_159 h x2 x4 x5 x6 x8 = some o) : Le h o.2 := by
  rcases br_e hE with ⟨_, hE⟩ | ⟨_, hE⟩
  · exact moX15_hasVector_170 hE
  · rcases br_e hE with ⟨_, hE⟩ | ⟨_, hE⟩
    · exact moX15_hasVector_192 hE
    · exact moX15_hasVector_170 hE
set_option maxRecDepth 20000 in
theorem moX15_hasVector_145 {o : Int32 × Hp} {h : Hp} {x2 : Int32} {x4 : Int32} {x5 : Int32} {x6 : Int32} {x7 : Int32} {x8 : Int32} {t0 : Int32} {t1 : Nat} (hE : sX15_hasVector_145 h x2 x4 x5 x6 x7 x8 t0 t1 = some o) : Le h o.2 := by
  obtain ⟨h_1, eh_1, hE⟩ := nm_e2 hE
  refine (le_I eh_1).tr ?_
  rcases br_e hE with ⟨_, hE⟩ | ⟨_, hE⟩
  · exact moX15_hasVector_159 hE
  · rcases br_e hE with ⟨_, hE⟩ | ⟨_, hE⟩
    · exact moX15_hasVector_192 hE
    · exact moX15_hasVector_159 hE
set_option maxRecDepth 20000 in
theorem moX15_hasVector_126 {o : Int32 × Hp} {h : Hp} {x0 : Nat} {x2 : Int32} {x4 : Int32} {x5 : Int32} {x6 : Int32} {x7 : Int32} {x8 : Int32} {t0 : Int32} {t1 : Nat} (hE : sX15_hasVector_126 h x0 x2 x4 x5 x6 x7 x8 t0 t1 = some o) : Le h o.2 := by
  obtain ⟨h_1, eh_1, hE⟩ := nm_e2 hE
  refine (le_I eh_1).tr ?_
  rcases br_e hE with ⟨_, hE⟩ | ⟨_, hE⟩
  · exact moX15_hasVector_145 hE
  · exact moX15_hasVector_145 hE
set_option maxRecDepth 20000 in
theorem moX15_hasVector_108 {o : Int32 × Hp} {h : Hp} {x0 : Nat} {x2 : Int32} {x4 : Int32} {x5 : Int32} {x6 : Int32} {x7 : Int32} {t0 : Int32} (hE : sX15_hasVector_108 h x0 x2 x4 x5 x6 x7 t0 = some o) : Le h o.2 := by
  rcases br_e hE with ⟨_, hE⟩ | ⟨_, hE⟩
  · exact moX15_hasVector_126 hE
  · exact moX15_hasVector_126 hE
set_option maxRecDepth 20000 in
theorem moX15_hasVector_94 {o : Int32 × Hp} {h : Hp} {x0 : Nat} {x2 : Int32} {x4 : Int32} {x5 : Int32} {x6 : Int32} {t0 : Int32} (hE : sX15_hasVector_94 h x0 x2 x4 x5 x6 t0 = some o) : Le h o.2 := by
  rcases br_e hE with ⟨_, hE⟩ | ⟨_, hE⟩
  · exact moX15_hasVector_108 hE
  · exact moX15_hasVector_108 hE
set_option maxRecDepth 20000 in
theorem moX15_hasVector_80 {o : Int32 × Hp} {h : Hp} {x0 : Nat} {x2 : Int32} {x4 : Int32} {x5 : Int32} {t0 : Int32} (hE : sX15_hasVector_80 h x0 x2 x4 x5 t0 = some o) : Le h o.2 := by
  rcases br_e hE with ⟨_, hE⟩ | ⟨_, hE⟩
  · exact moX15_hasVector_94 hE
  · exact moX15_hasVector_94 hE
set_option maxRecDepth 20000 in
theorem moX15_hasVector_68 {o : Int32 × Hp} {h : Hp} {t0 : Int32} (hE : sX15_hasVector_68 h  t0 = some o) : Le h o.2 := by
  obtain ⟨g_1, hE⟩ := gd_e hE
  exact le_some2 hE
set_option maxRecDepth 20000 in
theorem moX15_hasVector_56 {o : Int32 × Hp} {h : Hp} {x2 : Int32} {t0 : Int32} {t1 : Nat} (hE : sX15_hasVector_56 h x2 t0 t1 = some o) : Le h o.2 := by
  obtain ⟨h_1, eh_1, hE⟩ := nm_e2 hE
  refine (le_I eh_1).tr ?_
  rcases br_e hE with ⟨_, hE⟩ | ⟨_, hE⟩
  · exact moX15_hasVector_68 hE
  · exact moX15_hasVector_68 hE
set_option maxRecDepth 20000 in
theorem moX15_hasVector {o : Int32 × Hp} {h : Hp} {x0 : Nat} {x1 : Int32} {x2 : Int32} {x3 : Int32} (hE : sX15_hasVector h x0 x1 x2 x3 = some o) : Le h o.2 := by
  obtain ⟨r_1, er_1, hE⟩ := cl_e hE
  obtain ⟨r_2, er_2, hE⟩ := cl_e hE
  obtain ⟨g_3, hE⟩ := gd_e hE
  obtain ⟨v_4, ev_4, hE⟩ := nm_e2 hE
  obtain ⟨r_5, er_5, hE⟩ := cl_e hE
  obtain ⟨r_6, er_6, hE⟩ := cl_e hE
  obtain ⟨g_7, hE⟩ := gd_e hE
  obtain ⟨v_8, ev_8, hE⟩ := nm_e2 hE
  obtain ⟨r_9, er_9, hE⟩ := cl_e hE
  obtain ⟨r_10, er_10, hE⟩ := cl_e hE
  obtain ⟨g_11, hE⟩ := gd_e hE
  rcases br_e hE with ⟨_, hE⟩ | ⟨_, hE⟩
  · rcases br_e hE with ⟨_, hE⟩ | ⟨_, hE⟩
    · exact moX15_hasVector_80 hE
    · exact moX15_hasVector_80 hE
  · obtain ⟨h_14, eh_14, hE⟩ := nm_e2 hE
    refine (le_I eh_14).tr ?_
    rcases br_e hE with ⟨_, hE⟩ | ⟨_, hE⟩
    · exact moX15_hasVector_56 hE
    · exact moX15_hasVector_56 hE
set_option maxRecDepth 20000 in
theorem bX15_hasVector_193 {p : Program} {l : Launch} {e : Env} {s : State} {m : MethodId} {args : Array Value} {below : List Frame} {meth : Method} {c : Code} {X : Ec} {h0 : Hp} {o : Int32 × Hp} (C : Cx X p s m args meth c RX15 cX15_hasVector 9 (some .boolean) "hasVector") {h : Hp} {t0 : Int32} {H : Heap} {locs : List Loc} (hkm : Km h0 h) (hW : Wx X h H) (hZ : va_S (aA (eB X)) s.heap H locs) (ls : Array Slot) (hl : lv_has ls 9 []) (hE : sX15_hasVector_193 h  t0 = some o) : W p l e (rm 1 24) s m args below meth c H locs 0 0 (MQ below (QI X h0 o.1 o.2) args s 0 0 (aA (eB X))) (F0 m 193 ls [.int t0]) := by
  obtain ⟨g_1, hE⟩ := gd_e hE
  exact x_iret C rfl (narB g_1) hW hZ hkm hE dX15_hasVector_193
set_option maxRecDepth 20000 in
theorem bX15_hasVector_188 {p : Program} {l : Launch} {e : Env} {s : State} {m : MethodId} {args : Array Value} {below : List Frame} {meth : Method} {c : Code} {X : Ec} {h0 : Hp} {o : Int32 × Hp} (C : Cx X p s m args meth c RX15 cX15_hasVector 9 (some .boolean) "hasVector") {h : Hp} {H : Heap} {locs : List Loc} (hkm : Km h0 h) (hW : Wx X h H) (hZ : va_S (aA (eB X)) s.heap H locs) (ls : Array Slot) (hl : lv_has ls 9 []) (hE : sX15_hasVector_188 h  = some o) : W p l e (rm 1 24) s m args below meth c H locs 0 0 (MQ below (QI X h0 o.1 o.2) args s 0 0 (aA (eB X))) (F0 m 188 ls []) := by
  refine lv_iconst (v := (1 : Int32)) C.1 C.2.1 dX15_hasVector_188 (by decide) ?_
  refine lv_goto (tgt := 193) C.1 C.2.1 dX15_hasVector_189 (by decide) ?_
  exact bX15_hasVector_193 C hkm hW hZ _ (lv_sub hl [] rfl) hE
set_option maxRecDepth 20000 in
theorem bX15_hasVector_192 {p : Program} {l : Launch} {e : Env} {s : State} {m : MethodId} {args : Array Value} {below : List Frame} {meth : Method} {c : Code} {X : Ec} {h0 : Hp} {o : Int32 × Hp} (C : Cx X p s m args meth c RX15 cX15_hasVector 9 (some .boolean) "hasVector") {h : Hp} {H : Heap} {locs : List Loc} (hkm : Km h0 h) (hW : Wx X h H) (hZ : va_S (aA (eB X)) s.heap H locs) (ls : Array Slot) (hl : lv_has ls 9 []) (hE : sX15_hasVector_192 h  = some o) : W p l e (rm 1 24) s m args below meth c H locs 0 0 (MQ below (QI X h0 o.1 o.2) args s 0 0 (aA (eB X))) (F0 m 192 ls []) := by
  refine lv_iconst (v := (0 : Int32)) C.1 C.2.1 dX15_hasVector_192 (by decide) ?_
  exact bX15_hasVector_193 C hkm hW hZ _ (lv_sub hl [] rfl) hE
set_option maxRecDepth 20000 in
theorem bX15_hasVector_170 {p : Program} {l : Launch} {e : Env} {s : State} {m : MethodId} {args : Array Value} {below : List Frame} {meth : Method} {c : Code} {X : Ec} {h0 : Hp} {o : Int32 × Hp} (C : Cx X p s m args meth c RX15 cX15_hasVector 9 (some .boolean) "hasVector") {h : Hp} {x4 : Int32} {x5 : Int32} {x6 : Int32} {H : Heap} {locs : List Loc} (hkm : Km h0 h) (hW : Wx X h H) (hZ : va_S (aA (eB X)) s.heap H locs) (ls : Array Slot) (hl : lv_has ls 9 [(4, .int x4), (5, .int x5), (6, .int x6)]) (hE : sX15_hasVector_170 h x4 x5 x6 = some o) : W p l e (rm 1 24) s m args below meth c H locs 0 0 (MQ below (QI X h0 o.1 o.2) args s 0 0 (aA (eB X))) (F0 m 170 ls []) := by
  refine lv_iload C.1 C.2.1 dX15_hasVector_170 (lv_at hl 2 rfl) ?_
  refine lv_if_eq (tgt := 188) C.1 C.2.1 dX15_hasVector_172 (by decide) (fun c_1 => ?_) (fun c_1 => ?_)
  · have hE := br_p hE c_1
    exact bX15_hasVector_188 C hkm hW hZ _ (lv_sub hl [] rfl) hE
  · have hE := br_n hE c_1
    refine lv_iload C.1 C.2.1 dX15_hasVector_175 (lv_at hl 0 rfl) ?_
    refine va_mabs C.1 C.2.1 (C.2.2.1.trans hl.1.symm) C.2.2.2.1 (C.2.2.2.2.1 _ m_2426) (C.2.2.2.2.1 _ m_1213) (C.2.2.2.2.1 _ m_3) (C.2.2.2.2.1 _ m_1214) (Nat.le_of_ble_eq_true rfl) (Nat.le_of_ble_eq_true rfl) (Nat.le_refl _) (Nat.le_refl _) dX15_hasVector_177 ?_
    refine lv_iload C.1 C.2.1 dX15_hasVector_180 (lv_at hl 1 rfl) ?_
    refine va_mabs C.1 C.2.1 (C.2.2.1.trans hl.1.symm) C.2.2.2.1 (C.2.2.2.2.1 _ m_2426) (C.2.2.2.2.1 _ m_1213) (C.2.2.2.2.1 _ m_3) (C.2.2.2.2.1 _ m_1214) (Nat.le_of_ble_eq_true rfl) (Nat.le_of_ble_eq_true rfl) (Nat.le_refl _) (Nat.le_refl _) dX15_hasVector_182 ?_
    refine lv_icmp_eq (tgt := 192) C.1 C.2.1 dX15_hasVector_185 (by decide) (fun c_2 => ?_) (fun c_2 => ?_)
    · have hE := br_p hE c_2
      exact bX15_hasVector_192 C hkm hW hZ _ (lv_sub hl [] rfl) hE
    · have hE := br_n hE c_2
      exact bX15_hasVector_188 C hkm hW hZ _ (lv_sub hl [] rfl) hE
set_option maxRecDepth 20000 in
theorem bX15_hasVector_159 {p : Program} {l : Launch} {e : Env} {s : State} {m : MethodId} {args : Array Value} {below : List Frame} {meth : Method} {c : Code} {X : Ec} {h0 : Hp} {o : Int32 × Hp} (C : Cx X p s m args meth c RX15 cX15_hasVector 9 (some .boolean) "hasVector") {h : Hp} {x2 : Int32} {x4 : Int32} {x5 : Int32} {x6 : Int32} {x8 : Int32} {H : Heap} {locs : List Loc} (hkm : Km h0 h) (hW : Wx X h H) (hZ : va_S (aA (eB X)) s.heap H locs) (ls : Array Slot) (hl : lv_has ls 9 [(2, .int x2), (4, .int x4), (5, .int x5), (6, .int x6), (8, .int x8)]) (hE : sX15_hasVector_159 h x2 x4 x5 x6 x8 = some o) : W p l e (rm 1 24) s m args below meth c H locs 0 0 (MQ below (QI X h0 o.1 o.2) args s 0 0 (aA (eB X))) (F0 m 159 ls []) := by
  refine lv_iload_n C.1 C.2.1 dX15_hasVector_159 rfl (lv_at hl 0 rfl) ?_
  refine lv_iconst (v := (2 : Int32)) C.1 C.2.1 dX15_hasVector_160 (by decide) ?_
  refine lv_iand C.1 C.2.1 dX15_hasVector_161 ?_
  refine lv_if_eq (tgt := 170) C.1 C.2.1 dX15_hasVector_162 (by decide) (fun c_1 => ?_) (fun c_1 => ?_)
  · have hE := br_p hE c_1
    exact bX15_hasVector_170 C hkm hW hZ _ (lv_sub hl [1, 2, 3] rfl) hE
  · have hE := br_n hE c_1
    refine lv_iload C.1 C.2.1 dX15_hasVector_165 (lv_at hl 4 rfl) ?_
    refine lv_if_eq (tgt := 192) C.1 C.2.1 dX15_hasVector_167 (by decide) (fun c_2 => ?_) (fun c_2 => ?_)
    · have hE := br_p hE c_2
      exact bX15_hasVector_192 C hkm hW hZ _ (lv_sub hl [] rfl) hE
    · have hE := br_n hE c_2
      exact bX15_hasVector_170 C hkm hW hZ _ (lv_sub hl [1, 2, 3] rfl) hE
set_option maxRecDepth 20000 in
theorem bX15_hasVector_145 {p : Program} {l : Launch} {e : Env} {s : State} {m : MethodId} {args : Array Value} {below : List Frame} {meth : Method} {c : Code} {X : Ec} {h0 : Hp} {o : Int32 × Hp} (C : Cx X p s m args meth c RX15 cX15_hasVector 9 (some .boolean) "hasVector") {h : Hp} {x2 : Int32} {x4 : Int32} {x5 : Int32} {x6 : Int32} {x7 : Int32} {x8 : Int32} {t0 : Int32} {t1 : Nat} {H : Heap} {locs : List Loc} (k_t1 : hK h t1 = 15) (hkm : Km h0 h) (hW : Wx X h H) (hZ : va_S (aA (eB X)) s.heap H locs) (ls : Array Slot) (hl : lv_has ls 9 [(2, .int x2), (4, .int x4), (5, .int x5), (6, .int x6), (7, .int x7), (8, .int x8)]) (hE : sX15_hasVector_145 h x2 x4 x5 x6 x7 x8 t0 t1 = some o) : W p l e (rm 1 24) s m args below meth c H locs 0 0 (MQ below (QI X h0 o.1 o.2) args s 0 0 (aA (eB X))) (F0 m 145 ls [.int t0, .ref t1]) := by
  obtain ⟨h_1, eh_1, hE⟩ := nm_e2 hE
  refine pf_X15_548 C hW hZ k_t1 eh_1 dX15_hasVector_145 (fun _ _ hW km hZ => ?_)
  replace hkm := hkm.tr km
  refine lv_iload_n C.1 C.2.1 dX15_hasVector_148 rfl (lv_at hl 0 rfl) ?_
  refine lv_iconst (v := (1 : Int32)) C.1 C.2.1 dX15_hasVector_149 (by decide) ?_
  refine lv_iand C.1 C.2.1 dX15_hasVector_150 ?_
  refine lv_if_eq (tgt := 159) C.1 C.2.1 dX15_hasVector_151 (by decide) (fun c_2 => ?_) (fun c_2 => ?_)
  · have hE := br_p hE c_2
    exact bX15_hasVector_159 C hkm hW hZ _ (lv_sub hl [0, 1, 2, 3, 5] rfl) hE
  · have hE := br_n hE c_2
    refine lv_iload C.1 C.2.1 dX15_hasVector_154 (lv_at hl 4 rfl) ?_
    refine lv_if_eq (tgt := 192) C.1 C.2.1 dX15_hasVector_156 (by decide) (fun c_3 => ?_) (fun c_3 => ?_)
    · have hE := br_p hE c_3
      exact bX15_hasVector_192 C hkm hW hZ _ (lv_sub hl [] rfl) hE
    · have hE := br_n hE c_3
      exact bX15_hasVector_159 C hkm hW hZ _ (lv_sub hl [0, 1, 2, 3, 5] rfl) hE
set_option maxRecDepth 20000 in
theorem bX15_hasVector_126 {p : Program} {l : Launch} {e : Env} {s : State} {m : MethodId} {args : Array Value} {below : List Frame} {meth : Method} {c : Code} {X : Ec} {h0 : Hp} {o : Int32 × Hp} (C : Cx X p s m args meth c RX15 cX15_hasVector 9 (some .boolean) "hasVector") {h : Hp} {x0 : Nat} {x2 : Int32} {x4 : Int32} {x5 : Int32} {x6 : Int32} {x7 : Int32} {x8 : Int32} {t0 : Int32} {t1 : Nat} {H : Heap} {locs : List Loc} (k_x0 : hK h x0 = 15) (k_t1 : hK h t1 = 15) (hkm : Km h0 h) (hW : Wx X h H) (hZ : va_S (aA (eB X)) s.heap H locs) (ls : Array Slot) (hl : lv_has ls 9 [(0, .ref x0), (2, .int x2), (4, .int x4), (5, .int x5), (6, .int x6), (7, .int x7), (8, .int x8)]) (hE : sX15_hasVector_126 h x0 x2 x4 x5 x6 x7 x8 t0 t1 = some o) : W p l e (rm 1 24) s m args below meth c H locs 0 0 (MQ below (QI X h0 o.1 o.2) args s 0 0 (aA (eB X))) (F0 m 126 ls [.int t0, .ref t1]) := by
  obtain ⟨h_1, eh_1, hE⟩ := nm_e2 hE
  refine pf_X15_545 C hW hZ k_t1 eh_1 dX15_hasVector_126 (fun _ _ hW km hZ => ?_)
  replace hkm := hkm.tr km
  replace k_x0 := km.at k_x0 (by decide)
  refine lv_aload_n C.1 C.2.1 dX15_hasVector_129 rfl (lv_at hl 0 rfl) ?_
  refine lv_iload_n C.1 C.2.1 dX15_hasVector_130 rfl (lv_at hl 1 rfl) ?_
  refine lv_iconst (v := (2 : Int32)) C.1 C.2.1 dX15_hasVector_131 (by decide) ?_
  refine lv_iand C.1 C.2.1 dX15_hasVector_132 ?_
  refine lv_if_eq (tgt := 143) C.1 C.2.1 dX15_hasVector_133 (by decide) (fun c_2 => ?_) (fun c_2 => ?_)
  · have hE := br_p hE c_2
    refine lv_iload C.1 C.2.1 dX15_hasVector_143 (lv_at hl 6 rfl) ?_
    exact bX15_hasVector_145 C k_x0 hkm hW hZ _ (lv_sub hl [1, 2, 3, 4, 5, 6] rfl) hE
  · have hE := br_n hE c_2
    refine lv_iconst (v := (0 : Int32)) C.1 C.2.1 dX15_hasVector_136 (by decide) ?_
    refine lv_iload C.1 C.2.1 dX15_hasVector_137 (lv_at hl 6 rfl) ?_
    refine lv_isub C.1 C.2.1 dX15_hasVector_139 ?_
    refine lv_goto (tgt := 145) C.1 C.2.1 dX15_hasVector_140 (by decide) ?_
    exact bX15_hasVector_145 C k_x0 hkm hW hZ _ (lv_sub hl [1, 2, 3, 4, 5, 6] rfl) hE
set_option maxRecDepth 20000 in
theorem bX15_hasVector_108 {p : Program} {l : Launch} {e : Env} {s : State} {m : MethodId} {args : Array Value} {below : List Frame} {meth : Method} {c : Code} {X : Ec} {h0 : Hp} {o : Int32 × Hp} (C : Cx X p s m args meth c RX15 cX15_hasVector 9 (some .boolean) "hasVector") {h : Hp} {x0 : Nat} {x2 : Int32} {x4 : Int32} {x5 : Int32} {x6 : Int32} {x7 : Int32} {t0 : Int32} {H : Heap} {locs : List Loc} (k_x0 : hK h x0 = 15) (hkm : Km h0 h) (hW : Wx X h H) (hZ : va_S (aA (eB X)) s.heap H locs) (ls : Array Slot) (hl : lv_has ls 9 [(0, .ref x0), (2, .int x2), (4, .int x4), (5, .int x5), (6, .int x6), (7, .int x7)]) (hE : sX15_hasVector_108 h x0 x2 x4 x5 x6 x7 t0 = some o) : W p l e (rm 1 24) s m args below meth c H locs 0 0 (MQ below (QI X h0 o.1 o.2) args s 0 0 (aA (eB X))) (F0 m 108 ls [.int t0]) := by
  refine lv_istore (lv' := [(8, .int t0), (0, .ref x0), (2, .int x2), (4, .int x4), (5, .int x5), (6, .int x6), (7, .int x7)]) C.1 C.2.1 dX15_hasVector_108 hl (by decide) rfl (fun ls hl => ?_)
  refine lv_aload_n C.1 C.2.1 dX15_hasVector_110 rfl (lv_at hl 1 rfl) ?_
  refine lv_iload_n C.1 C.2.1 dX15_hasVector_111 rfl (lv_at hl 2 rfl) ?_
  refine lv_iconst (v := (1 : Int32)) C.1 C.2.1 dX15_hasVector_112 (by decide) ?_
  refine lv_iand C.1 C.2.1 dX15_hasVector_113 ?_
  refine lv_if_eq (tgt := 124) C.1 C.2.1 dX15_hasVector_114 (by decide) (fun c_1 => ?_) (fun c_1 => ?_)
  · have hE := br_p hE c_1
    refine lv_iload C.1 C.2.1 dX15_hasVector_124 (lv_at hl 6 rfl) ?_
    exact bX15_hasVector_126 C k_x0 k_x0 hkm hW hZ _ (lv_sub hl [1, 2, 3, 4, 5, 6, 0] rfl) hE
  · have hE := br_n hE c_1
    refine lv_iconst (v := (0 : Int32)) C.1 C.2.1 dX15_hasVector_117 (by decide) ?_
    refine lv_iload C.1 C.2.1 dX15_hasVector_118 (lv_at hl 6 rfl) ?_
    refine lv_isub C.1 C.2.1 dX15_hasVector_120 ?_
    refine lv_goto (tgt := 126) C.1 C.2.1 dX15_hasVector_121 (by decide) ?_
    exact bX15_hasVector_126 C k_x0 k_x0 hkm hW hZ _ (lv_sub hl [1, 2, 3, 4, 5, 6, 0] rfl) hE
set_option maxRecDepth 20000 in
theorem bX15_hasVector_94 {p : Program} {l : Launch} {e : Env} {s : State} {m : MethodId} {args : Array Value} {below : List Frame} {meth : Method} {c : Code} {X : Ec} {h0 : Hp} {o : Int32 × Hp} (C : Cx X p s m args meth c RX15 cX15_hasVector 9 (some .boolean) "hasVector") {h : Hp} {x0 : Nat} {x2 : Int32} {x4 : Int32} {x5 : Int32} {x6 : Int32} {t0 : Int32} {H : Heap} {locs : List Loc} (k_x0 : hK h x0 = 15) (hkm : Km h0 h) (hW : Wx X h H) (hZ : va_S (aA (eB X)) s.heap H locs) (ls : Array Slot) (hl : lv_has ls 9 [(0, .ref x0), (2, .int x2), (4, .int x4), (5, .int x5), (6, .int x6)]) (hE : sX15_hasVector_94 h x0 x2 x4 x5 x6 t0 = some o) : W p l e (rm 1 24) s m args below meth c H locs 0 0 (MQ below (QI X h0 o.1 o.2) args s 0 0 (aA (eB X))) (F0 m 94 ls [.int t0]) := by
  refine lv_istore (lv' := [(7, .int t0), (0, .ref x0), (2, .int x2), (4, .int x4), (5, .int x5), (6, .int x6)]) C.1 C.2.1 dX15_hasVector_94 hl (by decide) rfl (fun ls hl => ?_)
  refine lv_iload C.1 C.2.1 dX15_hasVector_96 (lv_at hl 5 rfl) ?_
  refine lv_if_eq (tgt := 106) C.1 C.2.1 dX15_hasVector_98 (by decide) (fun c_1 => ?_) (fun c_1 => ?_)
  · have hE := br_p hE c_1
    refine lv_iload C.1 C.2.1 dX15_hasVector_106 (lv_at hl 4 rfl) ?_
    exact bX15_hasVector_108 C k_x0 hkm hW hZ _ (lv_sub hl [1, 2, 3, 4, 5, 0] rfl) hE
  · have hE := br_n hE c_1
    refine lv_iload C.1 C.2.1 dX15_hasVector_101 (lv_at hl 3 rfl) ?_
    refine lv_goto (tgt := 108) C.1 C.2.1 dX15_hasVector_103 (by decide) ?_
    exact bX15_hasVector_108 C k_x0 hkm hW hZ _ (lv_sub hl [1, 2, 3, 4, 5, 0] rfl) hE
set_option maxRecDepth 20000 in
theorem bX15_hasVector_80 {p : Program} {l : Launch} {e : Env} {s : State} {m : MethodId} {args : Array Value} {below : List Frame} {meth : Method} {c : Code} {X : Ec} {h0 : Hp} {o : Int32 × Hp} (C : Cx X p s m args meth c RX15 cX15_hasVector 9 (some .boolean) "hasVector") {h : Hp} {x0 : Nat} {x2 : Int32} {x4 : Int32} {x5 : Int32} {t0 : Int32} {H : Heap} {locs : List Loc} (k_x0 : hK h x0 = 15) (hkm : Km h0 h) (hW : Wx X h H) (hZ : va_S (aA (eB X)) s.heap H locs) (ls : Array Slot) (hl : lv_has ls 9 [(0, .ref x0), (2, .int x2), (4, .int x4), (5, .int x5)]) (hE : sX15_hasVector_80 h x0 x2 x4 x5 t0 = some o) : W p l e (rm 1 24) s m args below meth c H locs 0 0 (MQ below (QI X h0 o.1 o.2) args s 0 0 (aA (eB X))) (F0 m 80 ls [.int t0]) := by
  refine lv_istore (lv' := [(6, .int t0), (0, .ref x0), (2, .int x2), (4, .int x4), (5, .int x5)]) C.1 C.2.1 dX15_hasVector_80 hl (by decide) rfl (fun ls hl => ?_)
  refine lv_iload C.1 C.2.1 dX15_hasVector_82 (lv_at hl 0 rfl) ?_
  refine lv_if_eq (tgt := 92) C.1 C.2.1 dX15_hasVector_84 (by decide) (fun c_1 => ?_) (fun c_1 => ?_)
  · have hE := br_p hE c_1
    refine lv_iload C.1 C.2.1 dX15_hasVector_92 (lv_at hl 3 rfl) ?_
    exact bX15_hasVector_94 C k_x0 hkm hW hZ _ (lv_sub hl [1, 2, 3, 4, 0] rfl) hE
  · have hE := br_n hE c_1
    refine lv_iload C.1 C.2.1 dX15_hasVector_87 (lv_at hl 4 rfl) ?_
    refine lv_goto (tgt := 94) C.1 C.2.1 dX15_hasVector_89 (by decide) ?_
    exact bX15_hasVector_94 C k_x0 hkm hW hZ _ (lv_sub hl [1, 2, 3, 4, 0] rfl) hE
set_option maxRecDepth 20000 in
theorem bX15_hasVector_68 {p : Program} {l : Launch} {e : Env} {s : State} {m : MethodId} {args : Array Value} {below : List Frame} {meth : Method} {c : Code} {X : Ec} {h0 : Hp} {o : Int32 × Hp} (C : Cx X p s m args meth c RX15 cX15_hasVector 9 (some .boolean) "hasVector") {h : Hp} {t0 : Int32} {H : Heap} {locs : List Loc} (hkm : Km h0 h) (hW : Wx X h H) (hZ : va_S (aA (eB X)) s.heap H locs) (ls : Array Slot) (hl : lv_has ls 9 []) (hE : sX15_hasVector_68 h  t0 = some o) : W p l e (rm 1 24) s m args below meth c H locs 0 0 (MQ below (QI X h0 o.1 o.2) args s 0 0 (aA (eB X))) (F0 m 68 ls [.int t0]) := by
  obtain ⟨g_1, hE⟩ := gd_e hE
  exact x_iret C rfl (narB g_1) hW hZ hkm hE dX15_hasVector_68
set_option maxRecDepth 20000 in
theorem bX15_hasVector_56 {p : Program} {l : Launch} {e : Env} {s : State} {m : MethodId} {args : Array Value} {below : List Frame} {meth : Method} {c : Code} {X : Ec} {h0 : Hp} {o : Int32 × Hp} (C : Cx X p s m args meth c RX15 cX15_hasVector 9 (some .boolean) "hasVector") {h : Hp} {x2 : Int32} {t0 : Int32} {t1 : Nat} {H : Heap} {locs : List Loc} (k_t1 : hK h t1 = 15) (hkm : Km h0 h) (hW : Wx X h H) (hZ : va_S (aA (eB X)) s.heap H locs) (ls : Array Slot) (hl : lv_has ls 9 [(2, .int x2)]) (hE : sX15_hasVector_56 h x2 t0 t1 = some o) : W p l e (rm 1 24) s m args below meth c H locs 0 0 (MQ below (QI X h0 o.1 o.2) args s 0 0 (aA (eB X))) (F0 m 56 ls [.int t0, .ref t1]) := by
  obtain ⟨h_1, eh_1, hE⟩ := nm_e2 hE
  refine pf_X15_548 C hW hZ k_t1 eh_1 dX15_hasVector_56 (fun _ _ hW km hZ => ?_)
  replace hkm := hkm.tr km
  refine lv_iload_n C.1 C.2.1 dX15_hasVector_59 rfl (lv_at hl 0 rfl) ?_
  refine lv_if_ne (tgt := 67) C.1 C.2.1 dX15_hasVector_60 (by decide) (fun c_2 => ?_) (fun c_2 => ?_)
  · have hE := br_n hE c_2
    refine lv_iconst (v := (0 : Int32)) C.1 C.2.1 dX15_hasVector_67 (by decide) ?_
    exact bX15_hasVector_68 C hkm hW hZ _ (lv_sub hl [] rfl) hE
  · have hE := br_p hE c_2
    refine lv_iconst (v := (1 : Int32)) C.1 C.2.1 dX15_hasVector_63 (by decide) ?_
    refine lv_goto (tgt := 68) C.1 C.2.1 dX15_hasVector_64 (by decide) ?_
    exact bX15_hasVector_68 C hkm hW hZ _ (lv_sub hl [] rfl) hE
set_option maxRecDepth 20000 in
theorem ct_X15_hasVector (l : Launch) (X : Ec) {h : Hp} {x0 : Nat} {x1 : Int32} {x2 : Int32} {x3 : Int32} {o : Int32 × Hp} (k_x0 : hK h x0 = 15) (hE : sX15_hasVector h x0 x1 x2 x3 = some o) : MetI l yX15_hasVector cX15_hasVector 9 (some .boolean) 1 24 X [.ref x0, .int x1, .int x2, .int x3] h o := by
  refine x_met (by decide) (Nat.le_of_ble_eq_true rfl) ?_
  intro p e s m below meth c ls C hl hW hZ
  have hl : lv_has ls 9 [(0, .ref x0), (1, .int x1), (2, .int x2), (3, .int x3)] := hl
  have hkm : Km h h := Km.rf h
  refine lv_aload_n C.1 C.2.1 dX15_hasVector_0 rfl (lv_at hl 0 rfl) ?_
  obtain ⟨r_1, er_1, hE⟩ := cl_e hE
  refine gf_X15_252 C hW k_x0 er_1 dX15_hasVector_1 (fun k_r_1 => ?_)
  obtain ⟨r_2, er_2, hE⟩ := cl_e hE
  refine gf_X15_201 C hW k_r_1 er_2 dX15_hasVector_4 (fun k_r_2 => ?_)
  refine lv_iload_n C.1 C.2.1 dX15_hasVector_7 rfl (lv_at hl 1 rfl) ?_
  obtain ⟨g_3, hE⟩ := gd_e hE
  refine y_iald C hW k_r_2 g_3 dX15_hasVector_8 ?_
  obtain ⟨v_4, ev_4, hE⟩ := nm_e2 hE
  refine x_nmI ev_4 ?_
  refine lv_istore (lv' := [(4, .int v_4), (0, .ref x0), (1, .int x1), (2, .int x2), (3, .int x3)]) C.1 C.2.1 dX15_hasVector_9 hl (by decide) rfl (fun ls hl => ?_)
  refine lv_aload_n C.1 C.2.1 dX15_hasVector_11 rfl (lv_at hl 1 rfl) ?_
  obtain ⟨r_5, er_5, hE⟩ := cl_e hE
  refine gf_X15_252 C hW k_x0 er_5 dX15_hasVector_12 (fun k_r_5 => ?_)
  obtain ⟨r_6, er_6, hE⟩ := cl_e hE
  refine gf_X15_204 C hW k_r_5 er_6 dX15_hasVector_15 (fun k_r_6 => ?_)
  refine lv_iload_n C.1 C.2.1 dX15_hasVector_18 rfl (lv_at hl 2 rfl) ?_
  obtain ⟨g_7, hE⟩ := gd_e hE
  refine y_iald C hW k_r_6 g_7 dX15_hasVector_19 ?_
  obtain ⟨v_8, ev_8, hE⟩ := nm_e2 hE
  refine x_nmI ev_8 ?_
  refine lv_istore (lv' := [(5, .int v_8), (4, .int v_4), (0, .ref x0), (1, .int x1), (2, .int x2), (3, .int x3)]) C.1 C.2.1 dX15_hasVector_20 hl (by decide) rfl (fun ls hl => ?_)
  refine lv_aload_n C.1 C.2.1 dX15_hasVector_22 rfl (lv_at hl 2 rfl) ?_
  obtain ⟨r_9, er_9, hE⟩ := cl_e hE
  refine gf_X15_252 C hW k_x0 er_9 dX15_hasVector_23 (fun k_r_9 => ?_)
  obtain ⟨r_10, er_10, hE⟩ := cl_e hE
  refine gf_X15_198 C hW k_r_9 er_10 dX15_hasVector_26 (fun k_r_10 => ?_)
  refine lv_iload_n C.1 C.2.1 dX15_hasVector_29 rfl (lv_at hl 3 rfl) ?_
  obtain ⟨g_11, hE⟩ := gd_e hE
  refine y_iald C hW k_r_10 g_11 dX15_hasVector_30 ?_
  refine lv_iconst (v := (4 : Int32)) C.1 C.2.1 dX15_hasVector_31 (by decide) ?_
  refine lv_iand C.1 C.2.1 dX15_hasVector_32 ?_
  refine lv_if_eq (tgt := 69) C.1 C.2.1 dX15_hasVector_33 (by decide) (fun c_12 => ?_) (fun c_12 => ?_)
  · have hE := br_p hE c_12
    refine lv_iload_n C.1 C.2.1 dX15_hasVector_69 rfl (lv_at hl 4 rfl) ?_
    refine lv_iconst (v := (4 : Int32)) C.1 C.2.1 dX15_hasVector_70 (by decide) ?_
    refine lv_iand C.1 C.2.1 dX15_hasVector_71 ?_
    refine lv_if_eq (tgt := 79) C.1 C.2.1 dX15_hasVector_72 (by decide) (fun c_13 => ?_) (fun c_13 => ?_)
    · have hE := br_p hE c_13
      refine lv_iconst (v := (0 : Int32)) C.1 C.2.1 dX15_hasVector_79 (by decide) ?_
      exact bX15_hasVector_80 C k_x0 hkm hW hZ _ (lv_sub hl [2, 4, 1, 0] rfl) hE
    · have hE := br_n hE c_13
      refine lv_iconst (v := (1 : Int32)) C.1 C.2.1 dX15_hasVector_75 (by decide) ?_
      refine lv_goto (tgt := 80) C.1 C.2.1 dX15_hasVector_76 (by decide) ?_
      exact bX15_hasVector_80 C k_x0 hkm hW hZ _ (lv_sub hl [2, 4, 1, 0] rfl) hE
  · have hE := br_n hE c_12
    refine lv_aload_n C.1 C.2.1 dX15_hasVector_36 rfl (lv_at hl 2 rfl) ?_
    refine lv_iload C.1 C.2.1 dX15_hasVector_37 (lv_at hl 1 rfl) ?_
    obtain ⟨h_14, eh_14, hE⟩ := nm_e2 hE
    refine pf_X15_545 C hW hZ k_x0 eh_14 dX15_hasVector_39 (fun _ _ hW km hZ => ?_)
    replace hkm := hkm.tr km
    replace k_x0 := km.at k_x0 (by decide)
    refine lv_aload_n C.1 C.2.1 dX15_hasVector_42 rfl (lv_at hl 2 rfl) ?_
    refine lv_iload_n C.1 C.2.1 dX15_hasVector_43 rfl (lv_at hl 5 rfl) ?_
    refine lv_if_ne (tgt := 52) C.1 C.2.1 dX15_hasVector_44 (by decide) (fun c_15 => ?_) (fun c_15 => ?_)
    · have hE := br_n hE c_15
      refine lv_iconst (v := (0 : Int32)) C.1 C.2.1 dX15_hasVector_52 (by decide) ?_
      refine lv_iload C.1 C.2.1 dX15_hasVector_53 (lv_at hl 0 rfl) ?_
      refine lv_isub C.1 C.2.1 dX15_hasVector_55 ?_
      exact bX15_hasVector_56 C k_x0 hkm hW hZ _ (lv_sub hl [4] rfl) hE
    · have hE := br_p hE c_15
      refine lv_iload C.1 C.2.1 dX15_hasVector_47 (lv_at hl 0 rfl) ?_
      refine lv_goto (tgt := 56) C.1 C.2.1 dX15_hasVector_49 (by decide) ?_
      exact bX15_hasVector_56 C k_x0 hkm hW hZ _ (lv_sub hl [4] rfl) hE
section
variable {p : Program} {l : Launch} {e : Env} {R : Room} {s : State} {m : MethodId} {args : Array Value} {below : List Frame} {meth : Method} {c : Code} {H : Heap} {locs : List Loc} {cells slots : Nat} {Q : State → Prop}
variable {cc : ByteArray} {pc : Nat} {ls : Array Slot} {rest : List Value} {X : Ec} {h h1 : Hp} {nL : Nat} {rt : Option FieldType} {mn : String}
theorem gf_X15_545 {a : Nat} (C : Cx X p s m args meth c RX15 cc nL rt mn) (hW : Wx X h H) (ha : hK h a = 15) (hdg : decode cc pc = .ok (.getfield 545, 3)) (kk : W p l e R s m args below meth c H locs cells slots Q (F0 m (pc + 3) ls (.int (hI h a 23) :: rest))) : W p l e R s m args below meth c H locs cells slots Q (F0 m pc ls (.ref a :: rest)) :=
  y_geti C hW ha i_X15 (by decide) rfl (by decide) m_2134 rfl hdg kk
theorem gf_X15_548 {a : Nat} (C : Cx X p s m args meth c RX15 cc nL rt mn) (hW : Wx X h H) (ha : hK h a = 15) (hdg : decode cc pc = .ok (.getfield 548, 3)) (kk : W p l e R s m args below meth c H locs cells slots Q (F0 m (pc + 3) ls (.int (hI h a 24) :: rest))) : W p l e R s m args below meth c H locs cells slots Q (F0 m pc ls (.ref a :: rest)) :=
  y_geti C hW ha i_X15 (by decide) rfl (by decide) m_2135 rfl hdg kk
end
theorem dX15_onward_0 : decode cX15_onward 0 = .ok (.iload_n 1, 1) := by decide +kernel
theorem dX15_onward_1 : decode cX15_onward 1 = .ok (.aload_n 0, 1) := by decide +kernel
theorem dX15_onward_2 : decode cX15_onward 2 = .ok (.getfield 382, 3) := by decide +kernel
theorem dX15_onward_5 : decode cX15_onward 5 = .ok (.irem, 1) := by decide +kernel
theorem dX15_onward_6 : decode cX15_onward 6 = .ok (.iload_n 2, 1) := by decide +kernel
theorem dX15_onward_7 : decode cX15_onward 7 = .ok (.aload_n 0, 1) := by decide +kernel
theorem dX15_onward_8 : decode cX15_onward 8 = .ok (.getfield 545, 3) := by decide +kernel
theorem dX15_onward_11 : decode cX15_onward 11 = .ok (.imul, 1) := by decide +kernel
theorem dX15_onward_12 : decode cX15_onward 12 = .ok (.iadd, 1) := by decide +kernel
theorem dX15_onward_13 : decode cX15_onward 13 = .ok (.istore_n 3, 1) := by decide +kernel
theorem dX15_onward_14 : decode cX15_onward 14 = .ok (.iload_n 1, 1) := by decide +kernel
theorem dX15_onward_15 : decode cX15_onward 15 = .ok (.aload_n 0, 1) := by decide +kernel
theorem dX15_onward_16 : decode cX15_onward 16 = .ok (.getfield 382, 3) := by decide +kernel
theorem dX15_onward_19 : decode cX15_onward 19 = .ok (.idiv, 1) := by decide +kernel
theorem dX15_onward_20 : decode cX15_onward 20 = .ok (.iload_n 2, 1) := by decide +kernel
theorem dX15_onward_21 : decode cX15_onward 21 = .ok (.aload_n 0, 1) := by decide +kernel
theorem dX15_onward_22 : decode cX15_onward 22 = .ok (.getfield 548, 3) := by decide +kernel
theorem dX15_onward_25 : decode cX15_onward 25 = .ok (.imul, 1) := by decide +kernel
theorem dX15_onward_26 : decode cX15_onward 26 = .ok (.iadd, 1) := by decide +kernel
theorem dX15_onward_27 : decode cX15_onward 27 = .ok (.istore 4, 2) := by decide +kernel
theorem dX15_onward_29 : decode cX15_onward 29 = .ok (.iload_n 3, 1) := by decide +kernel
theorem dX15_onward_30 : decode cX15_onward 30 = .ok (.ifCond .lt 25, 3) := by decide +kernel
theorem dX15_onward_33 : decode cX15_onward 33 = .ok (.iload_n 3, 1) := by decide +kernel
theorem dX15_onward_34 : decode cX15_onward 34 = .ok (.aload_n 0, 1) := by decide +kernel
theorem dX15_onward_35 : decode cX15_onward 35 = .ok (.getfield 382, 3) := by decide +kernel
theorem dX15_onward_38 : decode cX15_onward 38 = .ok (.if_icmp .ge 17, 3) := by decide +kernel
theorem dX15_onward_41 : decode cX15_onward 41 = .ok (.iload 4, 2) := by decide +kernel
theorem dX15_onward_43 : decode cX15_onward 43 = .ok (.ifCond .lt 12, 3) := by decide +kernel
theorem dX15_onward_46 : decode cX15_onward 46 = .ok (.iload 4, 2) := by decide +kernel
theorem dX15_onward_48 : decode cX15_onward 48 = .ok (.aload_n 0, 1) := by decide +kernel
theorem dX15_onward_49 : decode cX15_onward 49 = .ok (.getfield 383, 3) := by decide +kernel
theorem dX15_onward_52 : decode cX15_onward 52 = .ok (.if_icmp .lt 7, 3) := by decide +kernel
theorem dX15_onward_55 : decode cX15_onward 55 = .ok (.iconst (-1), 1) := by decide +kernel
theorem dX15_onward_56 : decode cX15_onward 56 = .ok (.goto 12, 3) := by decide +kernel
theorem dX15_onward_59 : decode cX15_onward 59 = .ok (.iload 4, 2) := by decide +kernel
theorem dX15_onward_61 : decode cX15_onward 61 = .ok (.aload_n 0, 1) := by decide +kernel
theorem dX15_onward_62 : decode cX15_onward 62 = .ok (.getfield 382, 3) := by decide +kernel
theorem dX15_onward_65 : decode cX15_onward 65 = .ok (.imul, 1) := by decide +kernel
theorem dX15_onward_66 : decode cX15_onward 66 = .ok (.iload_n 3, 1) := by decide +kernel
theorem dX15_onward_67 : decode cX15_onward 67 = .ok (.iadd, 1) := by decide +kernel
theorem dX15_onward_68 : decode cX15_onward 68 = .ok (.ireturn, 1) := by decide +kernel
set_option maxRecDepth 20000 in
theorem moX15_onward_68 {o : Int32 × Hp} {h : Hp} {t0 : Int32} (hE : sX15_onward_68 h  t0 = some o) : Le h o.2 := by
  exact le_some2 hE
set_option maxRecDepth 20000 in
theorem moX15_onward_55 {o : Int32 × Hp} {h : Hp} (hE : sX15_onward_55 h  = some o) : Le h o.2 := by
  exact moX15_onward_68 hE
set_option maxRecDepth 20000 in
theorem moX15_onward {o : Int32 × Hp} {h : Hp} {x0 : Nat} {x1 : Int32} {x2 : Int32} (hE : sX15_onward h x0 x1 x2 = some o) : Le h o.2 := by
  obtain ⟨g_1, hE⟩ := gd_e hE
  obtain ⟨v_2, ev_2, hE⟩ := nm_e2 hE
  obtain ⟨g_3, hE⟩ := gd_e hE
  obtain ⟨v_4, ev_4, hE⟩ := nm_e2 hE
  rcases br_e hE with ⟨_, hE⟩ | ⟨_, hE⟩
  · exact moX15_onward_55 hE
  · rcases br_e hE with ⟨_, hE⟩ | ⟨_, hE⟩
    · exact moX15_onward_55 hE
    · rcases br_e hE with ⟨_, hE⟩ | ⟨_, hE⟩
      · exact moX15_onward_55 hE
      · rcases br_e hE with ⟨_, hE⟩ | ⟨_, hE⟩
        · exact moX15_onward_68 hE
        · exact moX15_onward_55 hE
set_option maxRecDepth 20000 in
theorem bX15_onward_68 {p : Program} {l : Launch} {e : Env} {s : State} {m : MethodId} {args : Array Value} {below : List Frame} {meth : Method} {c : Code} {X : Ec} {h0 : Hp} {o : Int32 × Hp} (C : Cx X p s m args meth c RX15 cX15_onward 5 (some .int) "onward") {h : Hp} {t0 : Int32} {H : Heap} {locs : List Loc} (hkm : Km h0 h) (hW : Wx X h H) (hZ : va_S (aA (eB X)) s.heap H locs) (ls : Array Slot) (hl : lv_has ls 5 []) (hE : sX15_onward_68 h  t0 = some o) : W p l e (rm 0 0) s m args below meth c H locs 0 0 (MQ below (QI X h0 o.1 o.2) args s 0 0 (aA (eB X))) (F0 m 68 ls [.int t0]) := by
  exact x_iret C rfl rfl hW hZ hkm hE dX15_onward_68
set_option maxRecDepth 20000 in
theorem bX15_onward_55 {p : Program} {l : Launch} {e : Env} {s : State} {m : MethodId} {args : Array Value} {below : List Frame} {meth : Method} {c : Code} {X : Ec} {h0 : Hp} {o : Int32 × Hp} (C : Cx X p s m args meth c RX15 cX15_onward 5 (some .int) "onward") {h : Hp} {H : Heap} {locs : List Loc} (hkm : Km h0 h) (hW : Wx X h H) (hZ : va_S (aA (eB X)) s.heap H locs) (ls : Array Slot) (hl : lv_has ls 5 []) (hE : sX15_onward_55 h  = some o) : W p l e (rm 0 0) s m args below meth c H locs 0 0 (MQ below (QI X h0 o.1 o.2) args s 0 0 (aA (eB X))) (F0 m 55 ls []) := by
  refine lv_iconst (v := (-1 : Int32)) C.1 C.2.1 dX15_onward_55 (by decide) ?_
  refine lv_goto (tgt := 68) C.1 C.2.1 dX15_onward_56 (by decide) ?_
  exact bX15_onward_68 C hkm hW hZ _ (lv_sub hl [] rfl) hE
set_option maxRecDepth 20000 in
theorem ct_X15_onward (l : Launch) (X : Ec) {h : Hp} {x0 : Nat} {x1 : Int32} {x2 : Int32} {o : Int32 × Hp} (k_x0 : hK h x0 = 15) (hE : sX15_onward h x0 x1 x2 = some o) : MetI l yX15_onward cX15_onward 5 (some .int) 0 0 X [.ref x0, .int x1, .int x2] h o := by
  refine x_met (by decide) (Nat.le_of_ble_eq_true rfl) ?_
  intro p e s m below meth c ls C hl hW hZ
  have hl : lv_has ls 5 [(0, .ref x0), (1, .int x1), (2, .int x2)] := hl
  have hkm : Km h h := Km.rf h
  refine lv_iload_n C.1 C.2.1 dX15_onward_0 rfl (lv_at hl 1 rfl) ?_
  refine lv_aload_n C.1 C.2.1 dX15_onward_1 rfl (lv_at hl 0 rfl) ?_
  refine gf_X15_382 C hW k_x0 dX15_onward_2 ?_
  obtain ⟨g_1, hE⟩ := gd_e hE
  refine lv_irem C.1 C.2.1 dX15_onward_5 g_1 ?_
  refine lv_iload_n C.1 C.2.1 dX15_onward_6 rfl (lv_at hl 2 rfl) ?_
  refine lv_aload_n C.1 C.2.1 dX15_onward_7 rfl (lv_at hl 0 rfl) ?_
  refine gf_X15_545 C hW k_x0 dX15_onward_8 ?_
  refine lv_imul C.1 C.2.1 dX15_onward_11 ?_
  refine lv_iadd C.1 C.2.1 dX15_onward_12 ?_
  obtain ⟨v_2, ev_2, hE⟩ := nm_e2 hE
  refine x_nmI ev_2 ?_
  refine lv_istore_n (lv' := [(3, .int v_2), (0, .ref x0), (1, .int x1), (2, .int x2)]) C.1 C.2.1 dX15_onward_13 rfl hl (by decide) rfl (fun ls hl => ?_)
  refine lv_iload_n C.1 C.2.1 dX15_onward_14 rfl (lv_at hl 2 rfl) ?_
  refine lv_aload_n C.1 C.2.1 dX15_onward_15 rfl (lv_at hl 1 rfl) ?_
  refine gf_X15_382 C hW k_x0 dX15_onward_16 ?_
  obtain ⟨g_3, hE⟩ := gd_e hE
  refine lv_idiv C.1 C.2.1 dX15_onward_19 g_3 ?_
  refine lv_iload_n C.1 C.2.1 dX15_onward_20 rfl (lv_at hl 3 rfl) ?_
  refine lv_aload_n C.1 C.2.1 dX15_onward_21 rfl (lv_at hl 1 rfl) ?_
  refine gf_X15_548 C hW k_x0 dX15_onward_22 ?_
  refine lv_imul C.1 C.2.1 dX15_onward_25 ?_
  refine lv_iadd C.1 C.2.1 dX15_onward_26 ?_
  obtain ⟨v_4, ev_4, hE⟩ := nm_e2 hE
  refine x_nmI ev_4 ?_
  refine lv_istore (lv' := [(4, .int v_4), (3, .int v_2), (0, .ref x0), (1, .int x1), (2, .int x2)]) C.1 C.2.1 dX15_onward_27 hl (by decide) rfl (fun ls hl => ?_)
  refine lv_iload_n C.1 C.2.1 dX15_onward_29 rfl (lv_at hl 1 rfl) ?_
  refine lv_if_lt (tgt := 55) C.1 C.2.1 dX15_onward_30 (by decide) (fun c_5 => ?_) (fun c_5 => ?_)
  · have hE := br_p hE c_5
    exact bX15_onward_55 C hkm hW hZ _ (lv_sub hl [] rfl) hE
  · have hE := br_n hE c_5
    refine lv_iload_n C.1 C.2.1 dX15_onward_33 rfl (lv_at hl 1 rfl) ?_
    refine lv_aload_n C.1 C.2.1 dX15_onward_34 rfl (lv_at hl 2 rfl) ?_
    refine gf_X15_382 C hW k_x0 dX15_onward_35 ?_
    refine lv_icmp_ge (tgt := 55) C.1 C.2.1 dX15_onward_38 (by decide) (fun c_6 => ?_) (fun c_6 => ?_)
    · have hE := br_p hE c_6
      exact bX15_onward_55 C hkm hW hZ _ (lv_sub hl [] rfl) hE
    · have hE := br_n hE c_6
      refine lv_iload C.1 C.2.1 dX15_onward_41 (lv_at hl 0 rfl) ?_
      refine lv_if_lt (tgt := 55) C.1 C.2.1 dX15_onward_43 (by decide) (fun c_7 => ?_) (fun c_7 => ?_)
      · have hE := br_p hE c_7
        exact bX15_onward_55 C hkm hW hZ _ (lv_sub hl [] rfl) hE
      · have hE := br_n hE c_7
        refine lv_iload C.1 C.2.1 dX15_onward_46 (lv_at hl 0 rfl) ?_
        refine lv_aload_n C.1 C.2.1 dX15_onward_48 rfl (lv_at hl 2 rfl) ?_
        refine gf_X15_383 C hW k_x0 dX15_onward_49 ?_
        refine lv_icmp_lt (tgt := 59) C.1 C.2.1 dX15_onward_52 (by decide) (fun c_8 => ?_) (fun c_8 => ?_)
        · have hE := br_p hE c_8
          refine lv_iload C.1 C.2.1 dX15_onward_59 (lv_at hl 0 rfl) ?_
          refine lv_aload_n C.1 C.2.1 dX15_onward_61 rfl (lv_at hl 2 rfl) ?_
          refine gf_X15_382 C hW k_x0 dX15_onward_62 ?_
          refine lv_imul C.1 C.2.1 dX15_onward_65 ?_
          refine lv_iload_n C.1 C.2.1 dX15_onward_66 rfl (lv_at hl 1 rfl) ?_
          refine lv_iadd C.1 C.2.1 dX15_onward_67 ?_
          exact bX15_onward_68 C hkm hW hZ _ (lv_sub hl [] rfl) hE
        · have hE := br_n hE c_8
          exact bX15_onward_55 C hkm hW hZ _ (lv_sub hl [] rfl) hE
