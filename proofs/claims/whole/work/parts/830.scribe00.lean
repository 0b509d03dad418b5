set_option maxRecDepth 100000 in
theorem m_381 : Cond.methodLink RX7 3 objectInit ∈ W0 := w0_in (List.mem_append_right _ (List.mem_of_getElem? (i := 381) rfl)) rfl
set_option maxRecDepth 100000 in
theorem m_382 : Cond.fieldLink RX7 9 (TX7 0).1 (TX7 0).2.1 (TX7 0).2.2.1 ∈ W0 := w0_in (List.mem_append_right _ (List.mem_of_getElem? (i := 382) rfl)) rfl
theorem i_X7 : ∀ w ∈ u_ws RX7 TX7 3, w ∈ W0 := by
  intro w hw
  exact w0_in (List.mem_append_right _ ((by decide +kernel : ∀ w ∈ u_ws RX7 TX7 3, w ∈ tables_1) w hw)) ((by decide +kernel : ∀ w ∈ u_ws RX7 TX7 3, goodWord w = true) w hw)
section
variable {p : Program} {l : Launch} {e : Env} {R : Room} {s : State} {m : MethodId} {args : Array Value} {below : List Frame} {meth : Method} {c : Code} {H : Heap} {locs : List Loc} {cells slots : Nat} {Q : State → Prop}
variable {cc : ByteArray} {pc : Nat} {ls : Array Slot} {rest : List Value} {X : Ec} {h h1 : Hp} {nL : Nat} {rt : Option FieldType} {mn : String}
theorem pf_X7_9 {a r : Nat} (C : Cx X p s m args meth c RX7 cc nL rt mn) (hW : Wx X h H) (hZ : va_S (aA (eB X)) s.heap H locs) (hmn : mn = "<init>") (ha : hK h a = 7) (hr : hK h r = 1) (eh : h1 = wR h a 0 (some r)) (hdg : decode cc pc = .ok (.putfield 9, 3)) (kk : ∀ (H1 : Heap) (locs1 : List Loc), Wx X h1 H1 → Km h h1 → va_S (aA (eB X)) s.heap H1 locs1 → W p l e R s m args below meth c H1 locs1 cells slots Q (F0 m (pc + 3) ls rest)) : W p l e R s m args below meth c H locs cells slots Q (F0 m pc ls (.ref r :: .ref a :: rest)) :=
  y_putrF (ty := .object "GameRules$Law") C hW hZ ha i_X7 tyX7 tyX7_ok nmX7 (by decide) rfl rfl (by decide) m_382 rfl hmn rfl (by decide +kernel) rfl rfl rfl hr rfl (by decide) eh hdg kk
end
theorem dX7_init_0 : decode cX7_init 0 = .ok (.aload_n 0, 1) := by decide +kernel
theorem dX7_init_1 : decode cX7_init 1 = .ok (.invokespecial 3, 3) := by decide +kernel
theorem dX7_init_4 : decode cX7_init 4 = .ok (.aload_n 0, 1) := by decide +kernel
theorem dX7_init_5 : decode cX7_init 5 = .ok (.aload_n 1, 1) := by decide +kernel
theorem dX7_init_6 : decode cX7_init 6 = .ok (.putfield 9, 3) := by decide +kernel
theorem dX7_init_9 : decode cX7_init 9 = .ok (.return_, 1) := by decide +kernel
set_option maxRecDepth 20000 in
theorem moX7_init {o : Hp} {h : Hp} {x0 : Nat} {x1 : Nat} (hE : sX7_init h x0 x1 = some o) : Le h o := by
  obtain ⟨h_1, eh_1, hE⟩ := nm_e2 hE
  refine (le_R eh_1).tr ?_
  exact le_some1 hE
set_option maxRecDepth 20000 in
theorem ct_X7_init (l : Launch) (X : Ec) {h : Hp} {x0 : Nat} {x1 : Nat} {o : Hp} (k_x0 : hK h x0 = 7) (k_x1 : hK h x1 = 1) (hE : sX7_init h x0 x1 = some o) : MetV l yX7_init cX7_init 2 none 1 20 X [.ref x0, .ref x1] h o := by
  refine x_met (by decide) (Nat.le_of_ble_eq_true rfl) ?_
  intro p e s m below meth c ls C hl hW hZ
  have hl : lv_has ls 2 [(0, .ref x0), (1, .ref x1)] := hl
  have hkm : Km h h := Km.rf h
  refine lv_aload_n C.1 C.2.1 dX7_init_0 rfl (lv_at hl 0 rfl) ?_
  refine W.objInit C.1 C.2.1 C.2.2.2.1 (C.2.2.2.2.1 _ m_381) (C.2.2.2.2.1 _ m_32) (C.2.2.2.2.1 _ m_33) rfl (by rw [C.2.2.1]; exact hl.1) rfl dX7_init_1 (Nat.le_of_ble_eq_true rfl) (Nat.le_of_ble_eq_true rfl) ?_
  refine W.eq (g2 := F0 m 4 ls []) rfl ?_
  refine lv_aload_n C.1 C.2.1 dX7_init_4 rfl (lv_at hl 0 rfl) ?_
  refine lv_aload_n C.1 C.2.1 dX7_init_5 rfl (lv_at hl 1 rfl) ?_
  obtain ⟨h_1, eh_1, hE⟩ := nm_e2 hE
  refine pf_X7_9 C hW hZ rfl k_x0 k_x1 eh_1 dX7_init_6 (fun _ _ hW km hZ => ?_)
  replace hkm := hkm.tr km
  replace k_x0 := km.at k_x0 (by decide)
  replace k_x1 := km.at k_x1 (by decide)
  exact x_vret C rfl hW hZ hkm hE dX7_init_9
set_option maxRecDepth 100000 in
theorem m_383 : Cond.fieldLink RX7 15 (TX7 1).1 (TX7 1).2.1 (TX7 1).2.2.1 ∈ W0 := w0_in (List.mem_append_right _ (List.mem_of_getElem? (i := 383) rfl)) rfl
set_option maxRecDepth 100000 in
theorem m_384 : Cond.fieldLink RX7 19 (TX7 2).1 (TX7 2).2.1 (TX7 2).2.2.1 ∈ W0 := w0_in (List.mem_append_right _ (List.mem_of_getElem? (i := 384) rfl)) rfl
set_option maxRecDepth 100000 in
theorem m_955 : Cond.methodLink RX7 54 yX9_byteAt ∈ W0 := w0_in (List.mem_append_right _ (List.mem_of_getElem? (i := 955) rfl)) rfl
section
variable {p : Program} {l : Launch} {e : Env} {R : Room} {s : State} {m : MethodId} {args : Array Value} {below : List Frame} {meth : Method} {c : Code} {H : Heap} {locs : List Loc} {cells slots : Nat} {Q : State → Prop}
variable {cc : ByteArray} {pc : Nat} {ls : Array Slot} {rest : List Value} {X : Ec} {h h1 : Hp} {nL : Nat} {rt : Option FieldType} {mn : String}
theorem gf_X7_15 {a r : Nat} (C : Cx X p s m args meth c RX7 cc nL rt mn) (hW : Wx X h H) (ha : hK h a = 7) (hr : hR h a 1 = some r) (hdg : decode cc pc = .ok (.getfield 15, 3)) (kk : hK h r = 9 → W p l e R s m args below meth c H locs cells slots Q (F0 m (pc + 3) ls (.ref r :: rest))) : W p l e R s m args below meth c H locs cells slots Q (F0 m pc ls (.ref a :: rest)) :=
  y_getr C hW ha i_X7 (by decide) rfl (by decide) m_383 rfl rfl hr hdg kk
theorem gf_X7_19 {a : Nat} (C : Cx X p s m args meth c RX7 cc nL rt mn) (hW : Wx X h H) (ha : hK h a = 7) (hdg : decode cc pc = .ok (.getfield 19, 3)) (kk : W p l e R s m args below meth c H locs cells slots Q (F0 m (pc + 3) ls (.int (hI h a 2) :: rest))) : W p l e R s m args below meth c H locs cells slots Q (F0 m pc ls (.ref a :: rest)) :=
  y_geti C hW ha i_X7 (by decide) rfl (by decide) m_384 rfl hdg kk
theorem pf_X7_19 {a : Nat} {v : Int32} (C : Cx X p s m args meth c RX7 cc nL rt mn) (hW : Wx X h H) (hZ : va_S (aA (eB X)) s.heap H locs) (ha : hK h a = 7) (eh : h1 = wI h a 2 v) (hdg : decode cc pc = .ok (.putfield 19, 3)) (kk : ∀ (H1 : Heap) (locs1 : List Loc), Wx X h1 H1 → Km h h1 → va_S (aA (eB X)) s.heap H1 locs1 → W p l e R s m args below meth c H1 locs1 cells slots Q (F0 m (pc + 3) ls rest)) : W p l e R s m args below meth c H locs cells slots Q (F0 m pc ls (.int v :: .ref a :: rest)) :=
  y_puti (ty := .int) C hW hZ ha i_X7 tyX7 tyX7_ok nmX7 (by decide) rfl rfl (by decide) m_384 rfl (by decide +kernel) rfl rfl rfl eh hdg kk
end
theorem cw_X7_54 : cwd RX7 54 yX9_byteAt cX9_byteAt 2 (some .int) false 1 := ⟨m_660, m_955, m_2, ⟨m_658, m_659⟩, by decide, by decide, by decide +kernel⟩
theorem dX7_takeByte_0 : decode cX7_takeByte 0 = .ok (.aload_n 0, 1) := by decide +kernel
theorem dX7_takeByte_1 : decode cX7_takeByte 1 = .ok (.getfield 15, 3) := by decide +kernel
theorem dX7_takeByte_4 : decode cX7_takeByte 4 = .ok (.aload_n 0, 1) := by decide +kernel
theorem dX7_takeByte_5 : decode cX7_takeByte 5 = .ok (.getfield 19, 3) := by decide +kernel
theorem dX7_takeByte_8 : decode cX7_takeByte 8 = .ok (.invokevirtual 54, 3) := by decide +kernel
theorem dX7_takeByte_11 : decode cX7_takeByte 11 = .ok (.iload_n 1, 1) := by decide +kernel
theorem dX7_takeByte_12 : decode cX7_takeByte 12 = .ok (.if_icmp .eq 5, 3) := by decide +kernel
theorem dX7_takeByte_15 : decode cX7_takeByte 15 = .ok (.iconst 0, 1) := by decide +kernel
theorem dX7_takeByte_16 : decode cX7_takeByte 16 = .ok (.ireturn, 1) := by decide +kernel
theorem dX7_takeByte_17 : decode cX7_takeByte 17 = .ok (.aload_n 0, 1) := by decide +kernel
theorem dX7_takeByte_18 : decode cX7_takeByte 18 = .ok (.dup, 1) := by decide +kernel
theorem dX7_takeByte_19 : decode cX7_takeByte 19 = .ok (.getfield 19, 3) := by decide +kernel
theorem dX7_takeByte_22 : decode cX7_takeByte 22 = .ok (.iconst 1, 1) := by decide +kernel
theorem dX7_takeByte_23 : decode cX7_takeByte 23 = .ok (.iadd, 1) := by decide +kernel
theorem dX7_takeByte_24 : decode cX7_takeByte 24 = .ok (.putfield 19, 3) := by decide +kernel
theorem dX7_takeByte_27 : decode cX7_takeByte 27 = .ok (.iconst 1, 1) := by decide +kernel
theorem dX7_takeByte_28 : decode cX7_takeByte 28 = .ok (.ireturn, 1) := by decide +kernel
set_option maxRecDepth 20000 in
theorem moX7_takeByte {o : Int32 × Hp} {h : Hp} {x0 : Nat} {x1 : Int32} (hE : sX7_takeByte h x0 x1 = some o) : Le h o.2 := by
  obtain ⟨r_1, er_1, hE⟩ := cl_e hE
  obtain ⟨o_2, eo_2, hE⟩ := cl_e hE
  refine (moX9_byteAt eo_2).tr ?_
  rcases br_e hE with ⟨_, hE⟩ | ⟨_, hE⟩
  · obtain ⟨h_4, eh_4, hE⟩ := nm_e2 hE
    refine (le_I eh_4).tr ?_
    exact le_some2 hE
  · exact le_some2 hE
set_option maxRecDepth 20000 in
theorem ct_X7_takeByte (l : Launch) (X : Ec) {h : Hp} {x0 : Nat} {x1 : Int32} {o : Int32 × Hp} (k_x0 : hK h x0 = 7) (hE : sX7_takeByte h x0 x1 = some o) : MetI l yX7_takeByte cX7_takeByte 2 (some .boolean) 1 21 X [.ref x0, .int x1] h o := by
  refine x_met (by decide) (Nat.le_of_ble_eq_true rfl) ?_
  intro p e s m below meth c ls C hl hW hZ
  have hl : lv_has ls 2 [(0, .ref x0), (1, .int x1)] := hl
  have hkm : Km h h := Km.rf h
  refine lv_aload_n C.1 C.2.1 dX7_takeByte_0 rfl (lv_at hl 0 rfl) ?_
  obtain ⟨r_1, er_1, hE⟩ := cl_e hE
  refine gf_X7_15 C hW k_x0 er_1 dX7_takeByte_1 (fun k_r_1 => ?_)
  refine lv_aload_n C.1 C.2.1 dX7_takeByte_4 rfl (lv_at hl 0 rfl) ?_
  refine gf_X7_19 C hW k_x0 dX7_takeByte_5 ?_
  obtain ⟨o_2, eo_2, hE⟩ := cl_e hE
  refine x_kI (o := o_2) (z_runV (As := [.int (hI h x0 2)]) (rest := []) C (ct_X9_byteAt l X k_r_1 eo_2) cw_X7_54 hW hZ k_r_1 (by decide) rfl rfl rfl hl.1 (Nat.le_of_ble_eq_true rfl) rfl dX7_takeByte_8 ⟨Nat.le_of_ble_eq_true rfl, Nat.le_of_ble_eq_true rfl⟩ ⟨Nat.le_refl _, Nat.le_refl _⟩) hZ (fun _ _ hW km hZ => ?_)
  replace hkm := hkm.tr km
  replace k_x0 := km.at k_x0 (by decide)
  refine lv_iload_n C.1 C.2.1 dX7_takeByte_11 rfl (lv_at hl 1 rfl) ?_
  refine lv_icmp_eq (tgt := 17) C.1 C.2.1 dX7_takeByte_12 (by decide) (fun c_3 => ?_) (fun c_3 => ?_)
  · have hE := br_p hE c_3
    refine lv_aload_n C.1 C.2.1 dX7_takeByte_17 rfl (lv_at hl 0 rfl) ?_
    refine lv_dup C.1 C.2.1 dX7_takeByte_18 rfl ?_
    refine gf_X7_19 C hW k_x0 dX7_takeByte_19 ?_
    refine lv_iconst (v := (1 : Int32)) C.1 C.2.1 dX7_takeByte_22 (by decide) ?_
    refine lv_iadd C.1 C.2.1 dX7_takeByte_23 ?_
    obtain ⟨h_4, eh_4, hE⟩ := nm_e2 hE
    refine pf_X7_19 C hW hZ k_x0 eh_4 dX7_takeByte_24 (fun _ _ hW km hZ => ?_)
    replace hkm := hkm.tr km
    replace k_x0 := km.at k_x0 (by decide)
    refine lv_iconst (v := (1 : Int32)) C.1 C.2.1 dX7_takeByte_27 (by decide) ?_
    exact x_iret C rfl (by decide) hW hZ hkm hE dX7_takeByte_28
  · have hE := br_n hE c_3
    refine lv_iconst (v := (0 : Int32)) C.1 C.2.1 dX7_takeByte_15 (by decide) ?_
    exact x_iret C rfl (by decide) hW hZ hkm hE dX7_takeByte_16
set_option maxRecDepth 100000 in
theorem ms_32 : Cond.selects RX7 yX7_takeByte yX7_takeByte ∈ W0 := w0_in (List.mem_append_left _ (List.mem_of_getElem? (i := 32) rfl)) rfl
set_option maxRecDepth 100000 in
theorem m_10 : Cond.initialized RX7 ∈ W0 := w0_in (List.mem_append_right _ (List.mem_of_getElem? (i := 10) rfl)) rfl
set_option maxRecDepth 100000 in
theorem m_62 : Cond.fieldLink RX7 65 (TX1 0).1 (TX1 0).2.1 (TX1 0).2.2.1 ∈ W0 := w0_in (List.mem_append_right _ (List.mem_of_getElem? (i := 62) rfl)) rfl
set_option maxRecDepth 100000 in
theorem m_68 : Cond.fieldLink RX7 60 (TX1 1).1 (TX1 1).2.1 (TX1 1).2.2.1 ∈ W0 := w0_in (List.mem_append_right _ (List.mem_of_getElem? (i := 68) rfl)) rfl
set_option maxRecDepth 100000 in
theorem m_89 : Cond.fieldLink RX7 71 (TX1 4).1 (TX1 4).2.1 (TX1 4).2.2.1 ∈ W0 := w0_in (List.mem_append_right _ (List.mem_of_getElem? (i := 89) rfl)) rfl
set_option maxRecDepth 100000 in
theorem m_951 : Cond.methodLink RX7 32 yX7_takeByte ∈ W0 := w0_in (List.mem_append_right _ (List.mem_of_getElem? (i := 951) rfl)) rfl
set_option maxRecDepth 100000 in
theorem m_953 : Cond.instanceMethod yX7_takeByte ∈ W0 := w0_in (List.mem_append_right _ (List.mem_of_getElem? (i := 953) rfl)) rfl
set_option maxRecDepth 100000 in
theorem m_954 : Cond.code yX7_takeByte cX7_takeByte 2 (some .boolean) ∈ W0 := w0_in (List.mem_append_right _ (List.mem_of_getElem? (i := 954) rfl)) rfl
set_option maxRecDepth 100000 in
theorem m_956 : Cond.methodLink RX7 68 yX1_codeOf ∈ W0 := w0_in (List.mem_append_right _ (List.mem_of_getElem? (i := 956) rfl)) rfl
set_option maxRecDepth 100000 in
theorem m_957 : Cond.instanceMethod yX1_codeOf ∈ W0 := w0_in (List.mem_append_right _ (List.mem_of_getElem? (i := 957) rfl)) rfl
set_option maxRecDepth 100000 in
theorem m_958 : Cond.selects RX1 yX1_codeOf yX1_codeOf ∈ W0 := w0_in (List.mem_append_right _ (List.mem_of_getElem? (i := 958) rfl)) rfl
set_option maxRecDepth 100000 in
theorem m_959 : Cond.code yX1_codeOf cX1_codeOf 4 (some .int) ∈ W0 := w0_in (List.mem_append_right _ (List.mem_of_getElem? (i := 959) rfl)) rfl
set_option maxRecDepth 100000 in
theorem m_961 : Cond.methodLink RX7 74 yX3_put ∈ W0 := w0_in (List.mem_append_right _ (List.mem_of_getElem? (i := 961) rfl)) rfl
set_option maxRecDepth 100000 in
theorem m_962 : Cond.instanceMethod yX3_put ∈ W0 := w0_in (List.mem_append_right _ (List.mem_of_getElem? (i := 962) rfl)) rfl
set_option maxRecDepth 100000 in
theorem m_963 : Cond.selects RX3 yX3_put yX3_put ∈ W0 := w0_in (List.mem_append_right _ (List.mem_of_getElem? (i := 963) rfl)) rfl
set_option maxRecDepth 100000 in
theorem m_964 : Cond.code yX3_put cX3_put 7 none ∈ W0 := w0_in (List.mem_append_right _ (List.mem_of_getElem? (i := 964) rfl)) rfl
section
variable {p : Program} {l : Launch} {e : Env} {R : Room} {s : State} {m : MethodId} {args : Array Value} {below : List Frame} {meth : Method} {c : Code} {H : Heap} {locs : List Loc} {cells slots : Nat} {Q : State → Prop}
variable {cc : ByteArray} {pc : Nat} {ls : Array Slot} {rest : List Value} {X : Ec} {h h1 : Hp} {nL : Nat} {rt : Option FieldType} {mn : String}
theorem gf_X7_9 {a r : Nat} (C : Cx X p s m args meth c RX7 cc nL rt mn) (hW : Wx X h H) (ha : hK h a = 7) (hr : hR h a 0 = some r) (hdg : decode cc pc = .ok (.getfield 9, 3)) (kk : hK h r = 1 → W p l e R s m args below meth c H locs cells slots Q (F0 m (pc + 3) ls (.ref r :: rest))) : W p l e R s m args below meth c H locs cells slots Q (F0 m pc ls (.ref a :: rest)) :=
  y_getr C hW ha i_X7 (by decide) rfl (by decide) m_382 rfl rfl hr hdg kk
theorem gf_X7_65 {a : Nat} (C : Cx X p s m args meth c RX7 cc nL rt mn) (hW : Wx X h H) (ha : hK h a = 1) (hdg : decode cc pc = .ok (.getfield 65, 3)) (kk : W p l e R s m args below meth c H locs cells slots Q (F0 m (pc + 3) ls (.int (hI h a 0) :: rest))) : W p l e R s m args below meth c H locs cells slots Q (F0 m pc ls (.ref a :: rest)) :=
  y_geti C hW ha i_X1 (by decide) rfl (by decide) m_62 rfl hdg kk
theorem gf_X7_71 {a : Nat} (C : Cx X p s m args meth c RX7 cc nL rt mn) (hW : Wx X h H) (ha : hK h a = 1) (hdg : decode cc pc = .ok (.getfield 71, 3)) (kk : W p l e R s m args below meth c H locs cells slots Q (F0 m (pc + 3) ls (.int (hI h a 4) :: rest))) : W p l e R s m args below meth c H locs cells slots Q (F0 m pc ls (.ref a :: rest)) :=
  y_geti C hW ha i_X1 (by decide) rfl (by decide) m_89 rfl hdg kk
theorem gf_X7_60 {a : Nat} (C : Cx X p s m args meth c RX7 cc nL rt mn) (hW : Wx X h H) (ha : hK h a = 1) (hdg : decode cc pc = .ok (.getfield 60, 3)) (kk : W p l e R s m args below meth c H locs cells slots Q (F0 m (pc + 3) ls (.int (hI h a 1) :: rest))) : W p l e R s m args below meth c H locs cells slots Q (F0 m pc ls (.ref a :: rest)) :=
  y_geti C hW ha i_X1 (by decide) rfl (by decide) m_68 rfl hdg kk
end
theorem cw_X7_74 : cwd RX7 74 yX3_put cX3_put 7 none false 3 := ⟨m_964, m_961, m_8, ⟨m_962, m_963⟩, by decide, by decide, by decide +kernel⟩
theorem cw_X7_68 : cwd RX7 68 yX1_codeOf cX1_codeOf 4 (some .int) false 1 := ⟨m_959, m_956, m_4, ⟨m_957, m_958⟩, by decide, by decide, by decide +kernel⟩
theorem cw_X7_32 : cwd RX7 32 yX7_takeByte cX7_takeByte 2 (some .boolean) false 1 := ⟨m_954, m_951, m_10, ⟨m_953, ms_32⟩, by decide, by decide, by decide +kernel⟩
theorem dX7_readRanks_0 : decode cX7_readRanks 0 = .ok (.aload_n 0, 1) := by decide +kernel
theorem dX7_readRanks_1 : decode cX7_readRanks 1 = .ok (.getfield 9, 3) := by decide +kernel
theorem dX7_readRanks_4 : decode cX7_readRanks 4 = .ok (.getfield 60, 3) := by decide +kernel
theorem dX7_readRanks_7 : decode cX7_readRanks 7 = .ok (.iconst 1, 1) := by decide +kernel
theorem dX7_readRanks_8 : decode cX7_readRanks 8 = .ok (.isub, 1) := by decide +kernel
theorem dX7_readRanks_9 : decode cX7_readRanks 9 = .ok (.istore_n 2, 1) := by decide +kernel
theorem dX7_readRanks_10 : decode cX7_readRanks 10 = .ok (.iload_n 2, 1) := by decide +kernel
theorem dX7_readRanks_11 : decode cX7_readRanks 11 = .ok (.ifCond .lt 180, 3) := by decide +kernel
theorem dX7_readRanks_14 : decode cX7_readRanks 14 = .ok (.iload_n 2, 1) := by decide +kernel
theorem dX7_readRanks_15 : decode cX7_readRanks 15 = .ok (.aload_n 0, 1) := by decide +kernel
theorem dX7_readRanks_16 : decode cX7_readRanks 16 = .ok (.getfield 9, 3) := by decide +kernel
theorem dX7_readRanks_19 : decode cX7_readRanks 19 = .ok (.getfield 60, 3) := by decide +kernel
theorem dX7_readRanks_22 : decode cX7_readRanks 22 = .ok (.iconst 1, 1) := by decide +kernel
theorem dX7_readRanks_23 : decode cX7_readRanks 23 = .ok (.isub, 1) := by decide +kernel
theorem dX7_readRanks_24 : decode cX7_readRanks 24 = .ok (.if_icmp .ge 14, 3) := by decide +kernel
theorem dX7_readRanks_27 : decode cX7_readRanks 27 = .ok (.aload_n 0, 1) := by decide +kernel
theorem dX7_readRanks_28 : decode cX7_readRanks 28 = .ok (.bipush 47, 2) := by decide +kernel
theorem dX7_readRanks_30 : decode cX7_readRanks 30 = .ok (.invokevirtual 32, 3) := by decide +kernel
theorem dX7_readRanks_33 : decode cX7_readRanks 33 = .ok (.ifCond .ne 5, 3) := by decide +kernel
theorem dX7_readRanks_36 : decode cX7_readRanks 36 = .ok (.iconst 0, 1) := by decide +kernel
theorem dX7_readRanks_37 : decode cX7_readRanks 37 = .ok (.ireturn, 1) := by decide +kernel
theorem dX7_readRanks_38 : decode cX7_readRanks 38 = .ok (.iconst 0, 1) := by decide +kernel
theorem dX7_readRanks_39 : decode cX7_readRanks 39 = .ok (.istore_n 3, 1) := by decide +kernel
theorem dX7_readRanks_40 : decode cX7_readRanks 40 = .ok (.iload_n 3, 1) := by decide +kernel
theorem dX7_readRanks_41 : decode cX7_readRanks 41 = .ok (.aload_n 0, 1) := by decide +kernel
theorem dX7_readRanks_42 : decode cX7_readRanks 42 = .ok (.getfield 9, 3) := by decide +kernel
theorem dX7_readRanks_45 : decode cX7_readRanks 45 = .ok (.getfield 65, 3) := by decide +kernel
theorem dX7_readRanks_48 : decode cX7_readRanks 48 = .ok (.if_icmp .ge 137, 3) := by decide +kernel
theorem dX7_readRanks_51 : decode cX7_readRanks 51 = .ok (.aload_n 0, 1) := by decide +kernel
theorem dX7_readRanks_52 : decode cX7_readRanks 52 = .ok (.getfield 15, 3) := by decide +kernel
theorem dX7_readRanks_55 : decode cX7_readRanks 55 = .ok (.aload_n 0, 1) := by decide +kernel
theorem dX7_readRanks_56 : decode cX7_readRanks 56 = .ok (.getfield 19, 3) := by decide +kernel
theorem dX7_readRanks_59 : decode cX7_readRanks 59 = .ok (.invokevirtual 54, 3) := by decide +kernel
theorem dX7_readRanks_62 : decode cX7_readRanks 62 = .ok (.istore 4, 2) := by decide +kernel
theorem dX7_readRanks_64 : decode cX7_readRanks 64 = .ok (.aload_n 0, 1) := by decide +kernel
theorem dX7_readRanks_65 : decode cX7_readRanks 65 = .ok (.getfield 9, 3) := by decide +kernel
theorem dX7_readRanks_68 : decode cX7_readRanks 68 = .ok (.iload 4, 2) := by decide +kernel
theorem dX7_readRanks_70 : decode cX7_readRanks 70 = .ok (.invokevirtual 68, 3) := by decide +kernel
theorem dX7_readRanks_73 : decode cX7_readRanks 73 = .ok (.istore 5, 2) := by decide +kernel
theorem dX7_readRanks_75 : decode cX7_readRanks 75 = .ok (.iload 4, 2) := by decide +kernel
theorem dX7_readRanks_77 : decode cX7_readRanks 77 = .ok (.bipush 49, 2) := by decide +kernel
theorem dX7_readRanks_79 : decode cX7_readRanks 79 = .ok (.if_icmp .lt 18, 3) := by decide +kernel
theorem dX7_readRanks_82 : decode cX7_readRanks 82 = .ok (.iload 4, 2) := by decide +kernel
theorem dX7_readRanks_84 : decode cX7_readRanks 84 = .ok (.bipush 56, 2) := by decide +kernel
theorem dX7_readRanks_86 : decode cX7_readRanks 86 = .ok (.if_icmp .gt 11, 3) := by decide +kernel
theorem dX7_readRanks_89 : decode cX7_readRanks 89 = .ok (.iload 4, 2) := by decide +kernel
theorem dX7_readRanks_91 : decode cX7_readRanks 91 = .ok (.bipush 48, 2) := by decide +kernel
theorem dX7_readRanks_93 : decode cX7_readRanks 93 = .ok (.isub, 1) := by decide +kernel
theorem dX7_readRanks_94 : decode cX7_readRanks 94 = .ok (.goto 4, 3) := by decide +kernel
theorem dX7_readRanks_97 : decode cX7_readRanks 97 = .ok (.iconst 0, 1) := by decide +kernel
theorem dX7_readRanks_98 : decode cX7_readRanks 98 = .ok (.istore 6, 2) := by decide +kernel
theorem dX7_readRanks_100 : decode cX7_readRanks 100 = .ok (.iload 5, 2) := by decide +kernel
theorem dX7_readRanks_102 : decode cX7_readRanks 102 = .ok (.iconst (-1), 1) := by decide +kernel
theorem dX7_readRanks_103 : decode cX7_readRanks 103 = .ok (.if_icmp .ne 24, 3) := by decide +kernel
theorem dX7_readRanks_106 : decode cX7_readRanks 106 = .ok (.iload 6, 2) := by decide +kernel
theorem dX7_readRanks_108 : decode cX7_readRanks 108 = .ok (.ifCond .eq 17, 3) := by decide +kernel
theorem dX7_readRanks_111 : decode cX7_readRanks 111 = .ok (.iload_n 3, 1) := by decide +kernel
theorem dX7_readRanks_112 : decode cX7_readRanks 112 = .ok (.iload 6, 2) := by decide +kernel
theorem dX7_readRanks_114 : decode cX7_readRanks 114 = .ok (.iadd, 1) := by decide +kernel
theorem dX7_readRanks_115 : decode cX7_readRanks 115 = .ok (.aload_n 0, 1) := by decide +kernel
theorem dX7_readRanks_116 : decode cX7_readRanks 116 = .ok (.getfield 9, 3) := by decide +kernel
theorem dX7_readRanks_119 : decode cX7_readRanks 119 = .ok (.getfield 65, 3) := by decide +kernel
theorem dX7_readRanks_122 : decode cX7_readRanks 122 = .ok (.if_icmp .le 5, 3) := by decide +kernel
theorem dX7_readRanks_125 : decode cX7_readRanks 125 = .ok (.iconst 0, 1) := by decide +kernel
theorem dX7_readRanks_126 : decode cX7_readRanks 126 = .ok (.ireturn, 1) := by decide +kernel
theorem dX7_readRanks_127 : decode cX7_readRanks 127 = .ok (.iload 5, 2) := by decide +kernel
theorem dX7_readRanks_129 : decode cX7_readRanks 129 = .ok (.iconst (-1), 1) := by decide +kernel
theorem dX7_readRanks_130 : decode cX7_readRanks 130 = .ok (.if_icmp .eq 27, 3) := by decide +kernel
theorem dX7_readRanks_133 : decode cX7_readRanks 133 = .ok (.aload_n 1, 1) := by decide +kernel
theorem dX7_readRanks_134 : decode cX7_readRanks 134 = .ok (.iload_n 2, 1) := by decide +kernel
theorem dX7_readRanks_135 : decode cX7_readRanks 135 = .ok (.aload_n 0, 1) := by decide +kernel
theorem dX7_readRanks_136 : decode cX7_readRanks 136 = .ok (.getfield 9, 3) := by decide +kernel
theorem dX7_readRanks_139 : decode cX7_readRanks 139 = .ok (.getfield 65, 3) := by decide +kernel
theorem dX7_readRanks_142 : decode cX7_readRanks 142 = .ok (.imul, 1) := by decide +kernel
theorem dX7_readRanks_143 : decode cX7_readRanks 143 = .ok (.iload_n 3, 1) := by decide +kernel
theorem dX7_readRanks_144 : decode cX7_readRanks 144 = .ok (.iadd, 1) := by decide +kernel
theorem dX7_readRanks_145 : decode cX7_readRanks 145 = .ok (.iload 5, 2) := by decide +kernel
theorem dX7_readRanks_147 : decode cX7_readRanks 147 = .ok (.aload_n 0, 1) := by decide +kernel
theorem dX7_readRanks_148 : decode cX7_readRanks 148 = .ok (.getfield 9, 3) := by decide +kernel
theorem dX7_readRanks_151 : decode cX7_readRanks 151 = .ok (.getfield 71, 3) := by decide +kernel
theorem dX7_readRanks_154 : decode cX7_readRanks 154 = .ok (.invokevirtual 74, 3) := by decide +kernel
theorem dX7_readRanks_157 : decode cX7_readRanks 157 = .ok (.iload_n 3, 1) := by decide +kernel
theorem dX7_readRanks_158 : decode cX7_readRanks 158 = .ok (.iload 5, 2) := by decide +kernel
theorem dX7_readRanks_160 : decode cX7_readRanks 160 = .ok (.iconst (-1), 1) := by decide +kernel
theorem dX7_readRanks_161 : decode cX7_readRanks 161 = .ok (.if_icmp .eq 7, 3) := by decide +kernel
theorem dX7_readRanks_164 : decode cX7_readRanks 164 = .ok (.iconst 1, 1) := by decide +kernel
theorem dX7_readRanks_165 : decode cX7_readRanks 165 = .ok (.goto 5, 3) := by decide +kernel
theorem dX7_readRanks_168 : decode cX7_readRanks 168 = .ok (.iload 6, 2) := by decide +kernel
theorem dX7_readRanks_170 : decode cX7_readRanks 170 = .ok (.iadd, 1) := by decide +kernel
theorem dX7_readRanks_171 : decode cX7_readRanks 171 = .ok (.istore_n 3, 1) := by decide +kernel
theorem dX7_readRanks_172 : decode cX7_readRanks 172 = .ok (.aload_n 0, 1) := by decide +kernel
theorem dX7_readRanks_173 : decode cX7_readRanks 173 = .ok (.dup, 1) := by decide +kernel
theorem dX7_readRanks_174 : decode cX7_readRanks 174 = .ok (.getfield 19, 3) := by decide +kernel
theorem dX7_readRanks_177 : decode cX7_readRanks 177 = .ok (.iconst 1, 1) := by decide +kernel
theorem dX7_readRanks_178 : decode cX7_readRanks 178 = .ok (.iadd, 1) := by decide +kernel
theorem dX7_readRanks_179 : decode cX7_readRanks 179 = .ok (.putfield 19, 3) := by decide +kernel
theorem dX7_readRanks_182 : decode cX7_readRanks 182 = .ok (.goto (-142), 3) := by decide +kernel
theorem dX7_readRanks_185 : decode cX7_readRanks 185 = .ok (.iinc 2 (-1), 3) := by decide +kernel
theorem dX7_readRanks_188 : decode cX7_readRanks 188 = .ok (.goto (-178), 3) := by decide +kernel
theorem dX7_readRanks_191 : decode cX7_readRanks 191 = .ok (.iconst 1, 1) := by decide +kernel
theorem dX7_readRanks_192 : decode cX7_readRanks 192 = .ok (.ireturn, 1) := by decide +kernel
set_option maxRecDepth 20000 in
theorem moX7_readRanks_170 {o : Int32 × Hp} {k_10 : Hp → Nat → Nat → Int32 → Option (Int32 × Hp)} {k_40 : Hp → Nat → Nat → Int32 → Int32 → Option (Int32 × Hp)} {F : Nat} (mk_10 : ∀ (h : Hp) (x0 : Nat) (x1 : Nat) (x2 : Int32), k_10 h x0 x1 x2 = some o → Le h o.2) (mk_40 : ∀ (h : Hp) (x0 : Nat) (x1 : Nat) (x2 : Int32) (x3 : Int32), k_40 h x0 x1 x2 x3 = some o → Le h o.2) {h : Hp} {x0 : Nat} {x1 : Nat} {x2 : Int32} {t0 : Int32} {t1 : Int32} (hE : sX7_readRanks_170 F k_10 k_40 h x0 x1 x2 t0 t1 = some o) : Le h o.2 := by
  obtain ⟨v_1, ev_1, hE⟩ := nm_e2 hE
  obtain ⟨h_2, eh_2, hE⟩ := nm_e2 hE
  refine (le_I eh_2).tr ?_
  exact mk_40 _ _ _ _ _ hE
set_option maxRecDepth 20000 in
theorem moX7_readRanks_157 {o : Int32 × Hp} {k_10 : Hp → Nat → Nat → Int32 → Option (Int32 × Hp)} {k_40 : Hp → Nat → Nat → Int32 → Int32 → Option (Int32 × Hp)} {F : Nat} (mk_10 : ∀ (h : Hp) (x0 : Nat) (x1 : Nat) (x2 : Int32), k_10 h x0 x1 x2 = some o → Le h o.2) (mk_40 : ∀ (h : Hp) (x0 : Nat) (x1 : Nat) (x2 : Int32) (x3 : Int32), k_40 h x0 x1 x2 x3 = some o → Le h o.2) {h : Hp} {x0 : Nat} {x1 : Nat} {x2 : Int32} {x3 : Int32} {x5 : Int32} {x6 : Int32} (hE : sX7_readRanks_157 F k_10 k_40 h x0 x1 x2 x3 x5 x6 = some o) : Le h o.2 := by
  rcases br_e hE with ⟨_, hE⟩ | ⟨_, hE⟩
  · exact moX7_readRanks_170 mk_10 mk_40 hE
  · exact moX7_readRanks_170 mk_10 mk_40 hE
set_option maxRecDepth 20000 in
theorem moX7_readRanks_127 {o : Int32 × Hp} {k_10 : Hp → Nat → Nat → Int32 → Option (Int32 × Hp)} {k_40 : Hp → Nat → Nat → Int32 → Int32 → Option (Int32 × Hp)} {F : Nat} (mk_10 : ∀ (h : Hp) (x0 : Nat) (x1 : Nat) (x2 : Int32), k_10 h x0 x1 x2 = some o → Le h o.2) (mk_40 : ∀ (h : Hp) (x0 : Nat) (x1 : Nat) (x2 : Int32) (x3 : Int32), k_40 h x0 x1 x2 x3 = some o → Le h o.2) {h : Hp} {x0 : Nat} {x1 : Nat} {x2 : Int32} {x3 : Int32} {x5 : Int32} {x6 : Int32} (hE : sX7_readRanks_127 F k_10 k_40 h x0 x1 x2 x3 x5 x6 = some o) : Le h o.2 := by
  rcases br_e hE with ⟨_, hE⟩ | ⟨_, hE⟩
  · exact moX7_readRanks_157 mk_10 mk_40 hE
  · obtain ⟨r_2, er_2, hE⟩ := cl_e hE
    obtain ⟨r_3, er_3, hE⟩ := cl_e hE
    obtain ⟨o_4, eo_4, hE⟩ := cl_e hE
    refine (moX3_put eo_4).tr ?_
    exact moX7_readRanks_157 mk_10 mk_40 hE
set_option maxRecDepth 20000 in
theorem moX7_readRanks_125 {o : Int32 × Hp} {F : Nat} {h : Hp} (hE : sX7_readRanks_125 F h  = some o) : Le h o.2 := by
  exact le_some2 hE
set_option maxRecDepth 20000 in
theorem moX7_readRanks_98 {o : Int32 × Hp} {k_10 : Hp → Nat → Nat → Int32 → Option (Int32 × Hp)} {k_40 : Hp → Nat → Nat → Int32 → Int32 → Option (Int32 × Hp)} {F : Nat} (mk_10 : ∀ (h : Hp) (x0 : Nat) (x1 : Nat) (x2 : Int32), k_10 h x0 x1 x2 = some o → Le h o.2) (mk_40 : ∀ (h : Hp) (x0 : Nat) (x1 : Nat) (x2 : Int32) (x3 : Int32), k_40 h x0 x1 x2 x3 = some o → Le h o.2) {h : Hp} {x0 : Nat} {x1 : Nat} {x2 : Int32} {x3 : Int32} {x5 : Int32} {t0 : Int32} (hE : sX7_readRanks_98 F k_10 k_40 h x0 x1 x2 x3 x5 t0 = some o) : Le h o.2 := by
  rcases br_e hE with ⟨_, hE⟩ | ⟨_, hE⟩
  · rcases br_e hE with ⟨_, hE⟩ | ⟨_, hE⟩
    · exact moX7_readRanks_125 hE
    · obtain ⟨r_3, er_3, hE⟩ := cl_e hE
      rcases br_e hE with ⟨_, hE⟩ | ⟨_, hE⟩
      · exact moX7_readRanks_127 mk_10 mk_40 hE
      · exact moX7_readRanks_125 hE
  · exact moX7_readRanks_127 mk_10 mk_40 hE
set_option maxRecDepth 20000 in
theorem moX7_readRanks_97 {o : Int32 × Hp} {k_10 : Hp → Nat → Nat → Int32 → Option (Int32 × Hp)} {k_40 : Hp → Nat → Nat → Int32 → Int32 → Option (Int32 × Hp)} {F : Nat} (mk_10 : ∀ (h : Hp) (x0 : Nat) (x1 : Nat) (x2 : Int32), k_10 h x0 x1 x2 = some o → Le h o.2) (mk_40 : ∀ (h : Hp) (x0 : Nat) (x1 : Nat) (x2 : Int32) (x3 : Int32), k_40 h x0 x1 x2 x3 = some o → Le h o.2) {h : Hp} {x0 : Nat} {x1 : Nat} {x2 : Int32} {x3 : Int32} {x5 : Int32} (hE : sX7_readRanks_97 F k_10 k_40 h x0 x1 x2 x3 x5 = some o) : Le h o.2 := by
  exact moX7_readRanks_98 mk_10 mk_40 hE
set_option maxRecDepth 20000 in
theorem moX7_readRanks_40 {o : Int32 × Hp} {k_10 : Hp → Nat → Nat → Int32 → Option (Int32 × Hp)} {F : Nat} (mk_10 : ∀ (h : Hp) (x0 : Nat) (x1 : Nat) (x2 : Int32), k_10 h x0 x1 x2 = some o → Le h o.2) : ∀ (f : Nat) {h : Hp} {x0 : Nat} {x1 : Nat} {x2 : Int32} {x3 : Int32}, sX7_readRanks_40 F k_10 f h x0 x1 x2 x3 = some o → Le h o.2 := by
  intro f
  induction f with
  | zero =>
    intro h x0 x1 x2 x3 hE
    rw [sX7_readRanks_40] at hE
    cases hE
  | succ f ih =>
    intro h x0 x1 x2 x3 hE
    rw [sX7_readRanks_40] at hE
    have mk_40 : ∀ (h : Hp) (x0 : Nat) (x1 : Nat) (x2 : Int32) (x3 : Int32), sX7_readRanks_40 F k_10 f h x0 x1 x2 x3 = some o → Le h o.2 := fun h x0 x1 x2 x3 hE => ih hE
    obtain ⟨r_1, er_1, hE⟩ := cl_e hE
    rcases br_e hE with ⟨_, hE⟩ | ⟨_, hE⟩
    · obtain ⟨v_3, ev_3, hE⟩ := nm_e2 hE
      exact mk_10 _ _ _ _ hE
    · obtain ⟨r_4, er_4, hE⟩ := cl_e hE
      obtain ⟨o_5, eo_5, hE⟩ := cl_e hE
      refine (moX9_byteAt eo_5).tr ?_
      obtain ⟨r_6, er_6, hE⟩ := cl_e hE
      obtain ⟨o_7, eo_7, hE⟩ := cl_e hE
      refine (moX1_codeOf eo_7).tr ?_
      rcases br_e hE with ⟨_, hE⟩ | ⟨_, hE⟩
      · exact moX7_readRanks_97 mk_10 mk_40 hE
      · rcases br_e hE with ⟨_, hE⟩ | ⟨_, hE⟩
        · exact moX7_readRanks_97 mk_10 mk_40 hE
        · exact moX7_readRanks_98 mk_10 mk_40 hE
set_option maxRecDepth 20000 in
theorem moX7_readRanks_38 {o : Int32 × Hp} {k_10 : Hp → Nat → Nat → Int32 → Option (Int32 × Hp)} {F : Nat} (mk_10 : ∀ (h : Hp) (x0 : Nat) (x1 : Nat) (x2 : Int32), k_10 h x0 x1 x2 = some o → Le h o.2) {h : Hp} {x0 : Nat} {x1 : Nat} {x2 : Int32} (hE : sX7_readRanks_38 F k_10 h x0 x1 x2 = some o) : Le h o.2 := by
  exact moX7_readRanks_40 mk_10 _ hE
set_option maxRecDepth 20000 in
theorem moX7_readRanks_10 {o : Int32 × Hp} {F : Nat} : ∀ (f : Nat) {h : Hp} {x0 : Nat} {x1 : Nat} {x2 : Int32}, sX7_readRanks_10 F f h x0 x1 x2 = some o → Le h o.2 := by
  intro f
  induction f with
  | zero =>
    intro h x0 x1 x2 hE
    rw [sX7_readRanks_10] at hE
    cases hE
  | succ f ih =>
    intro h x0 x1 x2 hE
    rw [sX7_readRanks_10] at hE
    have mk_10 : ∀ (h : Hp) (x0 : Nat) (x1 : Nat) (x2 : Int32), sX7_readRanks_10 F f h x0 x1 x2 = some o → Le h o.2 := fun h x0 x1 x2 hE => ih hE
    rcases br_e hE with ⟨_, hE⟩ | ⟨_, hE⟩
    · exact le_some2 hE
    · obtain ⟨r_2, er_2, hE⟩ := cl_e hE
      rcases br_e hE with ⟨_, hE⟩ | ⟨_, hE⟩
      · exact moX7_readRanks_38 mk_10 hE
      · obtain ⟨o_4, eo_4, hE⟩ := cl_e hE
        refine (moX7_takeByte eo_4).tr ?_
        rcases br_e hE with ⟨_, hE⟩ | ⟨_, hE⟩
        · exact le_some2 hE
        · exact moX7_readRanks_38 mk_10 hE
set_option maxRecDepth 20000 in
theorem moX7_readRanks {o : Int32 × Hp} {F : Nat} {h : Hp} {x0 : Nat} {x1 : Nat} (hE : sX7_readRanks F h x0 x1 = some o) : Le h o.2 := by
  obtain ⟨r_1, er_1, hE⟩ := cl_e hE
  obtain ⟨v_2, ev_2, hE⟩ := nm_e2 hE
  exact moX7_readRanks_10 _ hE
set_option maxRecDepth 20000 in
theorem bX7_readRanks_170 {p : Program} {l : Launch} {e : Env} {s : State} {m : MethodId} {args : Array Value} {below : List Frame} {meth : Method} {c : Code} {X : Ec} {h0 : Hp} {o : Int32 × Hp} {k_10 : Hp → Nat → Nat → Int32 → Option (Int32 × Hp)} {k_40 : Hp → Nat → Nat → Int32 → Int32 → Option (Int32 × Hp)} {F : Nat} (C : Cx X p s m args meth c RX7 cX7_readRanks 7 (some .boolean) "readRanks") (hk_10 : ∀ (h : Hp) (x0 : Nat) (x1 : Nat) (x2 : Int32) (H : Heap) (locs : List Loc), hK h x0 = 7 → hK h x1 = 3 → Km h0 h → Wx X h H → va_S (aA (eB X)) s.heap H locs → ∀ (ls : Array Slot), lv_has ls 7 [(0, .ref x0), (1, .ref x1), (2, .int x2)] → k_10 h x0 x1 x2 = some o → W p l e (rm 2 45) s m args below meth c H locs 0 0 (MQ below (QI X h0 o.1 o.2) args s 0 0 (aA (eB X))) (F0 m 10 ls [])) (hk_40 : ∀ (h : Hp) (x0 : Nat) (x1 : Nat) (x2 : Int32) (x3 : Int32) (H : Heap) (locs : List Loc), hK h x0 = 7 → hK h x1 = 3 → Km h0 h → Wx X h H → va_S (aA (eB X)) s.heap H locs → ∀ (ls : Array Slot), lv_has ls 7 [(0, .ref x0), (1, .ref x1), (2, .int x2), (3, .int x3)] → k_40 h x0 x1 x2 x3 = some o → W p l e (rm 2 45) s m args below meth c H locs 0 0 (MQ below (QI X h0 o.1 o.2) args s 0 0 (aA (eB X))) (F0 m 40 ls [])) {h : Hp} {x0 : Nat} {x1 : Nat} {x2 : Int32} {t0 : Int32} {t1 : Int32} {H : Heap} {locs : List Loc} (k_x0 : hK h x0 = 7) (k_x1 : hK h x1 = 3) (hkm : Km h0 h) (hW : Wx X h H) (hZ : va_S (aA (eB X)) s.heap H locs) (ls : Array Slot) (hl : lv_has ls 7 [(0, .ref x0), (1, .ref x1), (2, .int x2)]) (hE : sX7_readRanks_170 F k_10 k_40 h x0 x1 x2 t0 t1 = some o) : W p l e (rm 2 45) s m args below meth c H locs 0 0 (MQ below (QI X h0 o.1 o.2) args s 0 0 (aA (eB X))) (F0 m 170 ls [.int t0, .int t1]) := by
  refine lv_iadd C.1 C.2.1 dX7_readRanks_170 ?_
  obtain ⟨v_1, ev_1, hE⟩ := nm_e2 hE
  refine x_nmI ev_1 ?_
  refine lv_istore_n (lv' := [(3, .int v_1), (0, .ref x0), (1, .ref x1), (2, .int x2)]) C.1 C.2.1 dX7_readRanks_171 rfl hl (by decide) rfl (fun ls hl => ?_)
  refine lv_aload_n C.1 C.2.1 dX7_readRanks_172 rfl (lv_at hl 1 rfl) ?_
  refine lv_dup C.1 C.2.1 dX7_readRanks_173 rfl ?_
  refine gf_X7_19 C hW k_x0 dX7_readRanks_174 ?_
  refine lv_iconst (v := (1 : Int32)) C.1 C.2.1 dX7_readRanks_177 (by decide) ?_
  refine lv_iadd C.1 C.2.1 dX7_readRanks_178 ?_
  obtain ⟨h_2, eh_2, hE⟩ := nm_e2 hE
  refine pf_X7_19 C hW hZ k_x0 eh_2 dX7_readRanks_179 (fun _ _ hW km hZ => ?_)
  replace hkm := hkm.tr km
  replace k_x0 := km.at k_x0 (by decide)
  replace k_x1 := km.at k_x1 (by decide)
  refine lv_goto (tgt := 40) C.1 C.2.1 dX7_readRanks_182 (by decide) ?_
  exact hk_40 _ _ _ _ _ _ _ k_x0 k_x1 hkm hW hZ _ (lv_sub hl [1, 2, 3, 0] rfl) hE
set_option maxRecDepth 20000 in
theorem bX7_readRanks_157 {p : Program} {l : Launch} {e : Env} {s : State} {m : MethodId} {args : Array Value} {below : List Frame} {meth : Method} {c : Code} {X : Ec} {h0 : Hp} {o : Int32 × Hp} {k_10 : Hp → Nat → Nat → Int32 → Option (Int32 × Hp)} {k_40 : Hp → Nat → Nat → Int32 → Int32 → Option (Int32 × Hp)} {F : Nat} (C : Cx X p s m args meth c RX7 cX7_readRanks 7 (some .boolean) "readRanks") (hk_10 : ∀ (h : Hp) (x0 : Nat) (x1 : Nat) (x2 : Int32) (H : Heap) (locs : List Loc), hK h x0 = 7 → hK h x1 = 3 → Km h0 h → Wx X h H → va_S (aA (eB X)) s.heap H locs → ∀ (ls : Array Slot), lv_has ls 7 [(0, .ref x0), (1, .ref x1), (2, .int x2)] → k_10 h x0 x1 x2 = some o → W p l e (rm 2 45) s m args below meth c H locs 0 0 (MQ below (QI X h0 o.1 o.2) args s 0 0 (aA (eB X))) (F0 m 10 ls [])) (hk_40 : ∀ (h : Hp) (x0 : Nat) (x1 : Nat) (x2 : Int32) (x3 : Int32) (H : Heap) (locs : List Loc), hK h x0 = 7 → hK h x1 = 3 → Km h0 h → Wx X h H → va_S (aA (eB X)) s.heap H locs → ∀ (ls : Array Slot), lv_has ls 7 [(0, .ref x0), (1, .ref x1), (2, .int x2), (3, .int x3)] → k_40 h x0 x1 x2 x3 = some o → W p l e (rm 2 45) s m args below meth c H locs 0 0 (MQ below (QI X h0 o.1 o.2) args s 0 0 (aA (eB X))) (F0 m 40 ls [])) {h : Hp} {x0 : Nat} {x1 : Nat} {x2 : Int32} {x3 : Int32} {x5 : Int32} {x6 : Int32} {H : Heap} {locs : List Loc} (k_x0 : hK h x0 = 7) (k_x1 : hK h x1 = 3) (hkm : Km h0 h) (hW : Wx X h H) (hZ : va_S (aA (eB X)) s.heap H locs) (ls : Array Slot) (hl : lv_has ls 7 [(0, .ref x0), (1, .ref x1), (2, .int x2), (3, .int x3), (5, .int x5), (6, .int x6)]) (hE : sX7_readRanks_157 F k_10 k_40 h x0 x1 x2 x3 x5 x6 = some o) : W p l e (rm 2 45) s m args below meth c H locs 0 0 (MQ below (QI X h0 o.1 o.2) args s 0 0 (aA (eB X))) (F0 m 157 ls []) := by
  refine lv_iload_n C.1 C.2.1 dX7_readRanks_157 rfl (lv_at hl 3 rfl) ?_
  refine lv_iload C.1 C.2.1 dX7_readRanks_158 (lv_at hl 4 rfl) ?_
  refine lv_iconst (v := (-1 : Int32)) C.1 C.2.1 dX7_readRanks_160 (by decide) ?_
  refine lv_icmp_eq (tgt := 168) C.1 C.2.1 dX7_readRanks_161 (by decide) (fun c_1 => ?_) (fun c_1 => ?_)
  · have hE := br_p hE c_1
    refine lv_iload C.1 C.2.1 dX7_readRanks_168 (lv_at hl 5 rfl) ?_
    exact bX7_readRanks_170 C hk_10 hk_40 k_x0 k_x1 hkm hW hZ _ (lv_sub hl [0, 1, 2] rfl) hE
  · have hE := br_n hE c_1
    refine lv_iconst (v := (1 : Int32)) C.1 C.2.1 dX7_readRanks_164 (by decide) ?_
    refine lv_goto (tgt := 170) C.1 C.2.1 dX7_readRanks_165 (by decide) ?_
    exact bX7_readRanks_170 C hk_10 hk_40 k_x0 k_x1 hkm hW hZ _ (lv_sub hl [0, 1, 2] rfl) hE
set_option maxRecDepth 20000 in
theorem bX7_readRanks_127 {p : Program} {l : Launch} {e : Env} {s : State} {m : MethodId} {args : Array Value} {below : List Frame} {meth : Method} {c : Code} {X : Ec} {h0 : Hp} {o : Int32 × Hp} {k_10 : Hp → Nat → Nat → Int32 → Option (Int32 × Hp)} {k_40 : Hp → Nat → Nat → Int32 → Int32 → Option (Int32 × Hp)} {F : Nat} (C : Cx X p s m args meth c RX7 cX7_readRanks 7 (some .boolean) "readRanks") (hk_10 : ∀ (h : Hp) (x0 : Nat) (x1 : Nat) (x2 : Int32) (H : Heap) (locs : List Loc), hK h x0 = 7 → hK h x1 = 3 → Km h0 h → Wx X h H → va_S (aA (eB X)) s.heap H locs → ∀ (ls : Array Slot), lv_has ls 7 [(0, .ref x0), (1, .ref x1), (2, .int x2)] → k_10 h x0 x1 x2 = some o → W p l e (rm 2 45) s m args below meth c H locs 0 0 (MQ below (QI X h0 o.1 o.2) args s 0 0 (aA (eB X))) (F0 m 10 ls [])) (hk_40 : ∀ (h : Hp) (x0 : Nat) (x1 : Nat) (x2 : Int32) (x3 : Int32) (H : Heap) (locs : List Loc), hK h x0 = 7 → hK h x1 = 3 → Km h0 h → Wx X h H → va_S (aA (eB X)) s.heap H locs → ∀ (ls : Array Slot), lv_has ls 7 [(0, .ref x0), (1, .ref x1), (2, .int x2), (3, .int x3)] → k_40 h x0 x1 x2 x3 = some o → W p l e (rm 2 45) s m args below meth c H locs 0 0 (MQ below (QI X h0 o.1 o.2) args s 0 0 (aA (eB X))) (F0 m 40 ls [])) {h : Hp} {x0 : Nat} {x1 : Nat} {x2 : Int32} {x3 : Int32} {x5 : Int32} {x6 : Int32} {H : Heap} {locs : List Loc} (k_x0 : hK h x0 = 7) (k_x1 : hK h x1 = 3) (hkm : Km h0 h) (hW : Wx X h H) (hZ : va_S (aA (eB X)) s.heap H locs) (ls : Array Slot) (hl : lv_has ls 7 [(0, .ref x0), (1, .ref x1), (2, .int x2), (3, .int x3), (5, .int x5), (6, .int x6)]) (hE : sX7_readRanks_127 F k_10 k_40 h x0 x1 x2 x3 x5 x6 = some o) : W p l e (rm 2 45) s m args below meth c H locs 0 0 (MQ below (QI X h0 o.1 o.2) args s 0 0 (aA (eB X))) (F0 m 127 ls []) := by
  refine lv_iload C.1 C.2.1 dX7_readRanks_127 (lv_at hl 4 rfl) ?_
  refine lv_iconst (v := (-1 : Int32)) C.1 C.2.1 dX7_readRanks_129 (by decide) ?_
  refine lv_icmp_eq (tgt := 157) C.1 C.2.1 dX7_readRanks_130 (by decide) (fun c_1 => ?_) (fun c_1 => ?_)
  · have hE := br_p hE c_1
    exact bX7_readRanks_157 C hk_10 hk_40 k_x0 k_x1 hkm hW hZ _ (lv_sub hl [0, 1, 2, 3, 4, 5] rfl) hE
  · have hE := br_n hE c_1
    refine lv_aload_n C.1 C.2.1 dX7_readRanks_133 rfl (lv_at hl 1 rfl) ?_
    refine lv_iload_n C.1 C.2.1 dX7_readRanks_134 rfl (lv_at hl 2 rfl) ?_
    refine lv_aload_n C.1 C.2.1 dX7_readRanks_135 rfl (lv_at hl 0 rfl) ?_
    obtain ⟨r_2, er_2, hE⟩ := cl_e hE
    refine gf_X7_9 C hW k_x0 er_2 dX7_readRanks_136 (fun k_r_2 => ?_)
    refine gf_X7_65 C hW k_r_2 dX7_readRanks_139 ?_
    refine lv_imul C.1 C.2.1 dX7_readRanks_142 ?_
    refine lv_iload_n C.1 C.2.1 dX7_readRanks_143 rfl (lv_at hl 3 rfl) ?_
    refine lv_iadd C.1 C.2.1 dX7_readRanks_144 ?_
    refine lv_iload C.1 C.2.1 dX7_readRanks_145 (lv_at hl 4 rfl) ?_
    refine lv_aload_n C.1 C.2.1 dX7_readRanks_147 rfl (lv_at hl 0 rfl) ?_
    obtain ⟨r_3, er_3, hE⟩ := cl_e hE
    refine gf_X7_9 C hW k_x0 er_3 dX7_readRanks_148 (fun k_r_3 => ?_)
    refine gf_X7_71 C hW k_r_3 dX7_readRanks_151 ?_
    obtain ⟨o_4, eo_4, hE⟩ := cl_e hE
    refine x_kV (o := o_4) (z_runV (As := [.int ((x2 * (hI h r_2 0)) + x3), .int x5, .int (hI h r_3 4)]) (rest := []) C (ct_X3_put l X k_x1 eo_4) cw_X7_74 hW hZ k_x1 (by decide) rfl rfl rfl hl.1 (Nat.le_of_ble_eq_true rfl) rfl dX7_readRanks_154 ⟨Nat.le_of_ble_eq_true rfl, Nat.le_of_ble_eq_true rfl⟩ ⟨Nat.le_refl _, Nat.le_refl _⟩) hZ (fun _ _ hW km hZ => ?_)
    replace hkm := hkm.tr km
    replace k_x0 := km.at k_x0 (by decide)
    replace k_x1 := km.at k_x1 (by decide)
    exact bX7_readRanks_157 C hk_10 hk_40 k_x0 k_x1 hkm hW hZ _ (lv_sub hl [0, 1, 2, 3, 4, 5] rfl) hE
set_option maxRecDepth 20000 in
theorem bX7_readRanks_125 {p : Program} {l : Launch} {e : Env} {s : State} {m : MethodId} {args : Array Value} {below : List Frame} {meth : Method} {c : Code} {X : Ec} {h0 : Hp} {o : Int32 × Hp} {F : Nat} (C : Cx X p s m args meth c RX7 cX7_readRanks 7 (some .boolean) "readRanks") {h : Hp} {H : Heap} {locs : List Loc} (hkm : Km h0 h) (hW : Wx X h H) (hZ : va_S (aA (eB X)) s.heap H locs) (ls : Array Slot) (hl : lv_has ls 7 []) (hE : sX7_readRanks_125 F h  = some o) : W p l e (rm 2 45) s m args below meth c H locs 0 0 (MQ below (QI X h0 o.1 o.2) args s 0 0 (aA (eB X))) (F0 m 125 ls []) := by
  refine lv_iconst (v := (0 : Int32)) C.1 C.2.1 dX7_readRanks_125 (by decide) ?_
  exact x_iret C rfl (by decide) hW hZ hkm hE dX7_readRanks_126
set_option maxRecDepth 20000 in
theorem bX7_readRanks_98 {p : Program} {l : Launch} {e : Env} {s : State} {m : MethodId} {args : Array Value} {below : List Frame} {meth : Method} {c : Code} {X : Ec} {h0 : Hp} {o : Int32 × Hp} {k_10 : Hp → Nat → Nat → Int32 → Option (Int32 × Hp)} {k_40 : Hp → Nat → Nat → Int32 → Int32 → Option (Int32 × Hp)} {F : Nat} (C : Cx X p s m args meth c RX7 cX7_readRanks 7 (some .boolean) "readRanks") (hk_10 : ∀ (h : Hp) (x0 : Nat) (x1 : Nat) (x2 : Int32) (H : Heap) (locs : List Loc), hK h x0 = 7 → hK h x1 = 3 → Km h0 h → Wx X h H → va_S (aA (eB X)) s.heap H locs → ∀ (ls : Array Slot), lv_has ls 7 [(0, .ref x0), (1, .ref x1), (2, .int x2)] → k_10 h x0 x1 x2 = some o → W p l e (rm 2 45) s m args below meth c H locs 0 0 (MQ below (QI X h0 o.1 o.2) args s 0 0 (aA (eB X))) (F0 m 10 ls [])) (hk_40 : ∀ (h : Hp) (x0 : Nat) (x1 : Nat) (x2 : Int32) (x3 : Int32) (H : Heap) (locs : List Loc), hK h x0 = 7 → hK h x1 = 3 → Km h0 h → Wx X h H → va_S (aA (eB X)) s.heap H locs → ∀ (ls : Array Slot), lv_has ls 7 [(0, .ref x0), (1, .ref x1), (2, .int x2), (3, .int x3)] → k_40 h x0 x1 x2 x3 = some o → W p l e (rm 2 45) s m args below meth c H locs 0 0 (MQ below (QI X h0 o.1 o.2) args s 0 0 (aA (eB X))) (F0 m 40 ls [])) {h : Hp} {x0 : Nat} {x1 : Nat} {x2 : Int32} {x3 : Int32} {x5 : Int32} {t0 : Int32} {H : Heap} {locs : List Loc} (k_x0 : hK h x0 = 7) (k_x1 : hK h x1 = 3) (hkm : Km h0 h) (hW : Wx X h H) (hZ : va_S (aA (eB X)) s.heap H locs) (ls : Array Slot) (hl : lv_has ls 7 [(0, .ref x0), (1, .ref x1), (2, .int x2), (3, .int x3), (5, .int x5)]) (hE : sX7_readRanks_98 F k_10 k_40 h x0 x1 x2 x3 x5 t0 = some o) : W p l e (rm 2 45) s m args below meth c H locs 0 0 (MQ below (QI X h0 o.1 o.2) args s 0 0 (aA (eB X))) (F0 m 98 ls [.int t0]) := by
  refine lv_istore (lv' := [(6, .int t0), (0, .ref x0), (1, .ref x1), (2, .int x2), (3, .int x3), (5, .int x5)]) C.1 C.2.1 dX7_readRanks_98 hl (by decide) rfl (fun ls hl => ?_)
  refine lv_iload C.1 C.2.1 dX7_readRanks_100 (lv_at hl 5 rfl) ?_
  refine lv_iconst (v := (-1 : Int32)) C.1 C.2.1 dX7_readRanks_102 (by decide) ?_
  refine lv_icmp_ne (tgt := 127) C.1 C.2.1 dX7_readRanks_103 (by decide) (fun c_1 => ?_) (fun c_1 => ?_)
  · have hE := br_n hE c_1
    exact bX7_readRanks_127 C hk_10 hk_40 k_x0 k_x1 hkm hW hZ _ (lv_sub hl [1, 2, 3, 4, 5, 0] rfl) hE
  · have hE := br_p hE c_1
    refine lv_iload C.1 C.2.1 dX7_readRanks_106 (lv_at hl 0 rfl) ?_
    refine lv_if_eq (tgt := 125) C.1 C.2.1 dX7_readRanks_108 (by decide) (fun c_2 => ?_) (fun c_2 => ?_)
    · have hE := br_p hE c_2
      exact bX7_readRanks_125 C hkm hW hZ _ (lv_sub hl [] rfl) hE
    · have hE := br_n hE c_2
      refine lv_iload_n C.1 C.2.1 dX7_readRanks_111 rfl (lv_at hl 4 rfl) ?_
      refine lv_iload C.1 C.2.1 dX7_readRanks_112 (lv_at hl 0 rfl) ?_
      refine lv_iadd C.1 C.2.1 dX7_readRanks_114 ?_
      refine lv_aload_n C.1 C.2.1 dX7_readRanks_115 rfl (lv_at hl 1 rfl) ?_
      obtain ⟨r_3, er_3, hE⟩ := cl_e hE
      refine gf_X7_9 C hW k_x0 er_3 dX7_readRanks_116 (fun k_r_3 => ?_)
      refine gf_X7_65 C hW k_r_3 dX7_readRanks_119 ?_
      refine lv_icmp_le (tgt := 127) C.1 C.2.1 dX7_readRanks_122 (by decide) (fun c_4 => ?_) (fun c_4 => ?_)
      · have hE := br_p hE c_4
        exact bX7_readRanks_127 C hk_10 hk_40 k_x0 k_x1 hkm hW hZ _ (lv_sub hl [1, 2, 3, 4, 5, 0] rfl) hE
      · have hE := br_n hE c_4
        exact bX7_readRanks_125 C hkm hW hZ _ (lv_sub hl [] rfl) hE
set_option maxRecDepth 20000 in
theorem bX7_readRanks_97 {p : Program} {l : Launch} {e : Env} {s : State} {m : MethodId} {args : Array Value} {below : List Frame} {meth : Method} {c : Code} {X : Ec} {h0 : Hp} {o : Int32 × Hp} {k_10 : Hp → Nat → Nat → Int32 → Option (Int32 × Hp)} {k_40 : Hp → Nat → Nat → Int32 → Int32 → Option (Int32 × Hp)} {F : Nat} (C : Cx X p s m args meth c RX7 cX7_readRanks 7 (some .boolean) "readRanks") (hk_10 : ∀ (h : Hp) (x0 : Nat) (x1 : Nat) (x2 : Int32) (H : Heap) (locs : List Loc), hK h x0 = 7 → hK h x1 = 3 → Km h0 h → Wx X h H → va_S (aA (eB X)) s.heap H locs → ∀ (ls : Array Slot), lv_has ls 7 [(0, .ref x0), (1, .ref x1), (2, .int x2)] → k_10 h x0 x1 x2 = some o → W p l e (rm 2 45) s m args below meth c H locs 0 0 (MQ below (QI X h0 o.1 o.2) args s 0 0 (aA (eB X))) (F0 m 10 ls [])) (hk_40 : ∀ (h : Hp) (x0 : Nat) (x1 : Nat) (x2 : Int32) (x3 : Int32) (H : Heap) (locs : List Loc), hK h x0 = 7 → hK h x1 = 3 → Km h0 h → Wx X h H → va_S (aA (eB X)) s.heap H locs → ∀ (ls : Array Slot), lv_has ls 7 [(0, .ref x0), (1, .ref x1), (2, .int x2), (3, .int x3)] → k_40 h x0 x1 x2 x3 = some o → W p l e (rm 2 45) s m args below meth c H locs 0 0 (MQ below (QI X h0 o.1 o.2) args s 0 0 (aA (eB X))) (F0 m 40 ls [])) {h : Hp} {x0 : Nat} {x1 : Nat} {x2 : Int32} {x3 : Int32} {x5 : Int32} {H : Heap} {locs : List Loc} (k_x0 : hK h x0 = 7) (k_x1 : hK h x1 = 3) (hkm : Km h0 h) (hW : Wx X h H) (hZ : va_S (aA (eB X)) s.heap H locs) (ls : Array Slot) (hl : lv_has ls 7 [(0, .ref x0), (1, .ref x1), (2, .int x2), (3, .int x3), (5, .int x5)]) (hE : sX7_readRanks_97 F k_10 k_40 h x0 x1 x2 x3 x5 = some o) : W p l e (rm 2 45) s m args below meth c H locs 0 0 (MQ below (QI X h0 o.1 o.2) args s 0 0 (aA (eB X))) (F0 m 97 ls []) := by
  refine lv_iconst (v := (0 : Int32)) C.1 C.2.1 dX7_readRanks_97 (by decide) ?_
  exact bX7_readRanks_98 C hk_10 hk_40 k_x0 k_x1 hkm hW hZ _ (lv_sub hl [0, 1, 2, 3, 4] rfl) hE
set_option maxRecDepth 20000 in
theorem bX7_readRanks_40 {p : Program} {l : Launch} {e : Env} {s : State} {m : MethodId} {args : Array Value} {below : List Frame} {meth : Method} {c : Code} {X : Ec} {h0 : Hp} {o : Int32 × Hp} {k_10 : Hp → Nat → Nat → Int32 → Option (Int32 × Hp)} {F : Nat} (C : Cx X p s m args meth c RX7 cX7_readRanks 7 (some .boolean) "readRanks") (hk_10 : ∀ (h : Hp) (x0 : Nat) (x1 : Nat) (x2 : Int32) (H : Heap) (locs : List Loc), hK h x0 = 7 → hK h x1 = 3 → Km h0 h → Wx X h H → va_S (aA (eB X)) s.heap H locs → ∀ (ls : Array Slot), lv_has ls 7 [(0, .ref x0), (1, .ref x1), (2, .int x2)] → k_10 h x0 x1 x2 = some o → W p l e (rm 2 45) s m args below meth c H locs 0 0 (MQ below (QI X h0 o.1 o.2) args s 0 0 (aA (eB X))) (F0 m 10 ls [])) : ∀ (f : Nat) {h : Hp} {x0 : Nat} {x1 : Nat} {x2 : Int32} {x3 : Int32} {H : Heap} {locs : List Loc} (k_x0 : hK h x0 = 7) (k_x1 : hK h x1 = 3), Km h0 h → Wx X h H → va_S (aA (eB X)) s.heap H locs → ∀ (ls : Array Slot), lv_has ls 7 [(0, .ref x0), (1, .ref x1), (2, .int x2), (3, .int x3)] → sX7_readRanks_40 F k_10 f h x0 x1 x2 x3 = some o → W p l e (rm 2 45) s m args below meth c H locs 0 0 (MQ below (QI X h0 o.1 o.2) args s 0 0 (aA (eB X))) (F0 m 40 ls []) := by
  intro f
  induction f with
  | zero =>
    intro h x0 x1 x2 x3 H locs k_x0 k_x1 hkm hW hZ ls hl hE
    rw [sX7_readRanks_40] at hE
    cases hE
  | succ f ih =>
    intro h x0 x1 x2 x3 H locs k_x0 k_x1 hkm hW hZ ls hl hE
    rw [sX7_readRanks_40] at hE
    have hk_40 : ∀ (h : Hp) (x0 : Nat) (x1 : Nat) (x2 : Int32) (x3 : Int32) (H : Heap) (locs : List Loc), hK h x0 = 7 → hK h x1 = 3 → Km h0 h → Wx X h H → va_S (aA (eB X)) s.heap H locs → ∀ (ls : Array Slot), lv_has ls 7 [(0, .ref x0), (1, .ref x1), (2, .int x2), (3, .int x3)] → sX7_readRanks_40 F k_10 f h x0 x1 x2 x3 = some o → W p l e (rm 2 45) s m args below meth c H locs 0 0 (MQ below (QI X h0 o.1 o.2) args s 0 0 (aA (eB X))) (F0 m 40 ls []) := fun h x0 x1 x2 x3 H locs k_x0 k_x1 a b c ls hl hE => ih k_x0 k_x1 a b c ls hl hE
    refine lv_iload_n C.1 C.2.1 dX7_readRanks_40 rfl (lv_at hl 3 rfl) ?_
    refine lv_aload_n C.1 C.2.1 dX7_readRanks_41 rfl (lv_at hl 0 rfl) ?_
    obtain ⟨r_1, er_1, hE⟩ := cl_e hE
    refine gf_X7_9 C hW k_x0 er_1 dX7_readRanks_42 (fun k_r_1 => ?_)
    refine gf_X7_65 C hW k_r_1 dX7_readRanks_45 ?_
    refine lv_icmp_ge (tgt := 185) C.1 C.2.1 dX7_readRanks_48 (by decide) (fun c_2 => ?_) (fun c_2 => ?_)
    · have hE := br_p hE c_2
      obtain ⟨v_3, ev_3, hE⟩ := nm_e2 hE
      refine lv_iinc (v := v_3) (lv' := [(2, .int v_3), (0, .ref x0), (1, .ref x1), (3, .int x3)]) C.1 C.2.1 dX7_readRanks_185 hl (k := 2) rfl (by rw [ev_3]; rfl) (by decide) rfl (fun ls hl => ?_)
      refine lv_goto (tgt := 10) C.1 C.2.1 dX7_readRanks_188 (by decide) ?_
      exact hk_10 _ _ _ _ _ _ k_x0 k_x1 hkm hW hZ _ (lv_sub hl [1, 2, 0] rfl) hE
    · have hE := br_n hE c_2
      refine lv_aload_n C.1 C.2.1 dX7_readRanks_51 rfl (lv_at hl 0 rfl) ?_
      obtain ⟨r_4, er_4, hE⟩ := cl_e hE
      refine gf_X7_15 C hW k_x0 er_4 dX7_readRanks_52 (fun k_r_4 => ?_)
      refine lv_aload_n C.1 C.2.1 dX7_readRanks_55 rfl (lv_at hl 0 rfl) ?_
      refine gf_X7_19 C hW k_x0 dX7_readRanks_56 ?_
      obtain ⟨o_5, eo_5, hE⟩ := cl_e hE
      refine x_kI (o := o_5) (z_runV (As := [.int (hI h x0 2)]) (rest := []) C (ct_X9_byteAt l X k_r_4 eo_5) cw_X7_54 hW hZ k_r_4 (by decide) rfl rfl rfl hl.1 (Nat.le_of_ble_eq_true rfl) rfl dX7_readRanks_59 ⟨Nat.le_of_ble_eq_true rfl, Nat.le_of_ble_eq_true rfl⟩ ⟨Nat.le_refl _, Nat.le_refl _⟩) hZ (fun _ _ hW km hZ => ?_)
      replace hkm := hkm.tr km
      replace k_x0 := km.at k_x0 (by decide)
      replace k_x1 := km.at k_x1 (by decide)
      refine lv_istore (lv' := [(4, .int o_5.1), (0, .ref x0), (1, .ref x1), (2, .int x2), (3, .int x3)]) C.1 C.2.1 dX7_readRanks_62 hl (by decide) rfl (fun ls hl => ?_)
      refine lv_aload_n C.1 C.2.1 dX7_readRanks_64 rfl (lv_at hl 1 rfl) ?_
      obtain ⟨r_6, er_6, hE⟩ := cl_e hE
      refine gf_X7_9 C hW k_x0 er_6 dX7_readRanks_65 (fun k_r_6 => ?_)
      refine lv_iload C.1 C.2.1 dX7_readRanks_68 (lv_at hl 0 rfl) ?_
      obtain ⟨o_7, eo_7, hE⟩ := cl_e hE
      refine x_kI (o := o_7) (z_runV (As := [.int o_5.1]) (rest := []) C (ct_X1_codeOf l X F k_r_6 eo_7) cw_X7_68 hW hZ k_r_6 (by decide) rfl rfl rfl hl.1 (Nat.le_of_ble_eq_true rfl) rfl dX7_readRanks_70 ⟨Nat.le_of_ble_eq_true rfl, Nat.le_of_ble_eq_true rfl⟩ ⟨Nat.le_refl _, Nat.le_refl _⟩) hZ (fun _ _ hW km hZ => ?_)
      replace hkm := hkm.tr km
      replace k_x0 := km.at k_x0 (by decide)
      replace k_x1 := km.at k_x1 (by decide)
      refine lv_istore (lv' := [(5, .int o_7.1), (4, .int o_5.1), (0, .ref x0), (1, .ref x1), (2, .int x2), (3, .int x3)]) C.1 C.2.1 dX7_readRanks_73 hl (by decide) rfl (fun ls hl => ?_)
      refine lv_iload C.1 C.2.1 dX7_readRanks_75 (lv_at hl 1 rfl) ?_
      refine lv_bipush (v := (49 : Int32)) C.1 C.2.1 dX7_readRanks_77 (by decide) ?_
      refine lv_icmp_lt (tgt := 97) C.1 C.2.1 dX7_readRanks_79 (by decide) (fun c_8 => ?_) (fun c_8 => ?_)
      · have hE := br_p hE c_8
        exact bX7_readRanks_97 C hk_10 hk_40 k_x0 k_x1 hkm hW hZ _ (lv_sub hl [2, 3, 4, 5, 0] rfl) hE
      · have hE := br_n hE c_8
        refine lv_iload C.1 C.2.1 dX7_readRanks_82 (lv_at hl 1 rfl) ?_
        refine lv_bipush (v := (56 : Int32)) C.1 C.2.1 dX7_readRanks_84 (by decide) ?_
        refine lv_icmp_gt (tgt := 97) C.1 C.2.1 dX7_readRanks_86 (by decide) (fun c_9 => ?_) (fun c_9 => ?_)
        · have hE := br_p hE c_9
          exact bX7_readRanks_97 C hk_10 hk_40 k_x0 k_x1 hkm hW hZ _ (lv_sub hl [2, 3, 4, 5, 0] rfl) hE
        · have hE := br_n hE c_9
          refine lv_iload C.1 C.2.1 dX7_readRanks_89 (lv_at hl 1 rfl) ?_
          refine lv_bipush (v := (48 : Int32)) C.1 C.2.1 dX7_readRanks_91 (by decide) ?_
          refine lv_isub C.1 C.2.1 dX7_readRanks_93 ?_
          refine lv_goto (tgt := 98) C.1 C.2.1 dX7_readRanks_94 (by decide) ?_
          exact bX7_readRanks_98 C hk_10 hk_40 k_x0 k_x1 hkm hW hZ _ (lv_sub hl [2, 3, 4, 5, 0] rfl) hE
set_option maxRecDepth 20000 in
theorem bX7_readRanks_38 {p : Program} {l : Launch} {e : Env} {s : State} {m : MethodId} {args : Array Value} {below : List Frame} {meth : Method} {c : Code} {X : Ec} {h0 : Hp} {o : Int32 × Hp} {k_10 : Hp → Nat → Nat → Int32 → Option (Int32 × Hp)} {F : Nat} (C : Cx X p s m args meth c RX7 cX7_readRanks 7 (some .boolean) "readRanks") (hk_10 : ∀ (h : Hp) (x0 : Nat) (x1 : Nat) (x2 : Int32) (H : Heap) (locs : List Loc), hK h x0 = 7 → hK h x1 = 3 → Km h0 h → Wx X h H → va_S (aA (eB X)) s.heap H locs → ∀ (ls : Array Slot), lv_has ls 7 [(0, .ref x0), (1, .ref x1), (2, .int x2)] → k_10 h x0 x1 x2 = some o → W p l e (rm 2 45) s m args below meth c H locs 0 0 (MQ below (QI X h0 o.1 o.2) args s 0 0 (aA (eB X))) (F0 m 10 ls [])) {h : Hp} {x0 : Nat} {x1 : Nat} {x2 : Int32} {H : Heap} {locs : List Loc} (k_x0 : hK h x0 = 7) (k_x1 : hK h x1 = 3) (hkm : Km h0 h) (hW : Wx X h H) (hZ : va_S (aA (eB X)) s.heap H locs) (ls : Array Slot) (hl : lv_has ls 7 [(0, .ref x0), (1, .ref x1), (2, .int x2)]) (hE : sX7_readRanks_38 F k_10 h x0 x1 x2 = some o) : W p l e (rm 2 45) s m args below meth c H locs 0 0 (MQ below (QI X h0 o.1 o.2) args s 0 0 (aA (eB X))) (F0 m 38 ls []) := by
  refine lv_iconst (v := (0 : Int32)) C.1 C.2.1 dX7_readRanks_38 (by decide) ?_
  refine lv_istore_n (lv' := [(3, .int (0 : Int32)), (0, .ref x0), (1, .ref x1), (2, .int x2)]) C.1 C.2.1 dX7_readRanks_39 rfl hl (by decide) rfl (fun ls hl => ?_)
  exact bX7_readRanks_40 C hk_10 F k_x0 k_x1 hkm hW hZ _ (lv_sub hl [1, 2, 3, 0] rfl) hE
set_option maxRecDepth 20000 in
theorem bX7_readRanks_10 {p : Program} {l : Launch} {e : Env} {s : State} {m : MethodId} {args : Array Value} {below : List Frame} {meth : Method} {c : Code} {X : Ec} {h0 : Hp} {o : Int32 × Hp} {F : Nat} (C : Cx X p s m args meth c RX7 cX7_readRanks 7 (some .boolean) "readRanks") : ∀ (f : Nat) {h : Hp} {x0 : Nat} {x1 : Nat} {x2 : Int32} {H : Heap} {locs : List Loc} (k_x0 : hK h x0 = 7) (k_x1 : hK h x1 = 3), Km h0 h → Wx X h H → va_S (aA (eB X)) s.heap H locs → ∀ (ls : Array Slot), lv_has ls 7 [(0, .ref x0), (1, .ref x1), (2, .int x2)] → sX7_readRanks_10 F f h x0 x1 x2 = some o → W p l e (rm 2 45) s m args below meth c H locs 0 0 (MQ below (QI X h0 o.1 o.2) args s 0 0 (aA (eB X))) (F0 m 10 ls []) := by
  intro f
  induction f with
  | zero =>
    intro h x0 x1 x2 H locs k_x0 k_x1 hkm hW hZ ls hl hE
    rw [sX7_readRanks_10] at hE
    cases hE
  | succ f ih =>
    intro h x0 x1 x2 H locs k_x0 k_x1 hkm hW hZ ls hl hE
    rw [sX7_readRanks_10] at hE
    have hk_10 : ∀ (h : Hp) (x0 : Nat) (x1 : Nat) (x2 : Int32) (H : Heap) (locs : List Loc), hK h x0 = 7 → hK h x1 = 3 → Km h0 h → Wx X h H → va_S (aA (eB X)) s.heap H locs → ∀ (ls : Array Slot), lv_has ls 7 [(0, .ref x0), (1, .ref x1), (2, .int x2)] → sX7_readRanks_10 F f h x0 x1 x2 = some o → W p l e (rm 2 45) s m args below meth c H locs 0 0 (MQ below (QI X h0 o.1 o.2) args s 0 0 (aA (eB X))) (F0 m 10 ls []) := fun h x0 x1 x2 H locs k_x0 k_x1 a b c ls hl hE => ih k_x0 k_x1 a b c ls hl hE
    refine lv_iload_n C.1 C.2.1 dX7_readRanks_10 rfl (lv_at hl 2 rfl) ?_
    refine lv_if_lt (tgt := 191) C.1 C.2.1 dX7_readRanks_11 (by decide) (fun c_1 => ?_) (fun c_1 => ?_)
    · have hE := br_p hE c_1
      refine lv_iconst (v := (1 : Int32)) C.1 C.2.1 dX7_readRanks_191 (by decide) ?_
      exact x_iret C rfl (by decide) hW hZ hkm hE dX7_readRanks_192
    · have hE := br_n hE c_1
      refine lv_iload_n C.1 C.2.1 dX7_readRanks_14 rfl (lv_at hl 2 rfl) ?_
      refine lv_aload_n C.1 C.2.1 dX7_readRanks_15 rfl (lv_at hl 0 rfl) ?_
      obtain ⟨r_2, er_2, hE⟩ := cl_e hE
      refine gf_X7_9 C hW k_x0 er_2 dX7_readRanks_16 (fun k_r_2 => ?_)
      refine gf_X7_60 C hW k_r_2 dX7_readRanks_19 ?_
      refine lv_iconst (v := (1 : Int32)) C.1 C.2.1 dX7_readRanks_22 (by decide) ?_
      refine lv_isub C.1 C.2.1 dX7_readRanks_23 ?_
      refine lv_icmp_ge (tgt := 38) C.1 C.2.1 dX7_readRanks_24 (by decide) (fun c_3 => ?_) (fun c_3 => ?_)
      · have hE := br_p hE c_3
        exact bX7_readRanks_38 C hk_10 k_x0 k_x1 hkm hW hZ _ (lv_sub hl [0, 1, 2] rfl) hE
      · have hE := br_n hE c_3
        refine lv_aload_n C.1 C.2.1 dX7_readRanks_27 rfl (lv_at hl 0 rfl) ?_
        refine lv_bipush (v := (47 : Int32)) C.1 C.2.1 dX7_readRanks_28 (by decide) ?_
        obtain ⟨o_4, eo_4, hE⟩ := cl_e hE
        refine x_kI (o := o_4) (z_runV (As := [.int (47 : Int32)]) (rest := []) C (ct_X7_takeByte l X k_x0 eo_4) cw_X7_32 hW hZ k_x0 (by decide) rfl rfl rfl hl.1 (Nat.le_of_ble_eq_true rfl) rfl dX7_readRanks_30 ⟨Nat.le_of_ble_eq_true rfl, Nat.le_of_ble_eq_true rfl⟩ ⟨Nat.le_refl _, Nat.le_refl _⟩) hZ (fun _ _ hW km hZ => ?_)
        replace hkm := hkm.tr km
        replace k_x0 := km.at k_x0 (by decide)
        replace k_x1 := km.at k_x1 (by decide)
        refine lv_if_ne (tgt := 38) C.1 C.2.1 dX7_readRanks_33 (by decide) (fun c_5 => ?_) (fun c_5 => ?_)
        · have hE := br_n hE c_5
          exact bX7_readRanks_38 C hk_10 k_x0 k_x1 hkm hW hZ _ (lv_sub hl [0, 1, 2] rfl) hE
        · have hE := br_p hE c_5
          refine lv_iconst (v := (0 : Int32)) C.1 C.2.1 dX7_readRanks_36 (by decide) ?_
          exact x_iret C rfl (by decide) hW hZ hkm hE dX7_readRanks_37
set_option maxRecDepth 20000 in
theorem ct_X7_readRanks (l : Launch) (X : Ec) (F : Nat) {h : Hp} {x0 : Nat} {x1 : Nat} {o : Int32 × Hp} (k_x0 : hK h x0 = 7) (k_x1 : hK h x1 = 3) (hE : sX7_readRanks F h x0 x1 = some o) : MetI l yX7_readRanks cX7_readRanks 7 (some .boolean) 2 45 X [.ref x0, .ref x1] h o := by
  refine x_met (by decide) (Nat.le_of_ble_eq_true rfl) ?_
  intro p e s m below meth c ls C hl hW hZ
  have hl : lv_has ls 7 [(0, .ref x0), (1, .ref x1)] := hl
  have hkm : Km h h := Km.rf h
  refine lv_aload_n C.1 C.2.1 dX7_readRanks_0 rfl (lv_at hl 0 rfl) ?_
  obtain ⟨r_1, er_1, hE⟩ := cl_e hE
  refine gf_X7_9 C hW k_x0 er_1 dX7_readRanks_1 (fun k_r_1 => ?_)
  refine gf_X7_60 C hW k_r_1 dX7_readRanks_4 ?_
  refine lv_iconst (v := (1 : Int32)) C.1 C.2.1 dX7_readRanks_7 (by decide) ?_
  refine lv_isub C.1 C.2.1 dX7_readRanks_8 ?_
  obtain ⟨v_2, ev_2, hE⟩ := nm_e2 hE
  refine x_nmI ev_2 ?_
  refine lv_istore_n (lv' := [(2, .int v_2), (0, .ref x0), (1, .ref x1)]) C.1 C.2.1 dX7_readRanks_9 rfl hl (by decide) rfl (fun ls hl => ?_)
  exact bX7_readRanks_10 C F k_x0 k_x1 hkm hW hZ _ (lv_sub hl [1, 2, 0] rfl) hE
set_option maxRecDepth 100000 in
theorem m_298 : Cond.fieldLink RX7 78 (TX3 5).1 (TX3 5).2.1 (TX3 5).2.2.1 ∈ W0 := w0_in (List.mem_append_right _ (List.mem_of_getElem? (i := 298) rfl)) rfl
section
variable {p : Program} {l : Launch} {e : Env} {R : Room} {s : State} {m : MethodId} {args : Array Value} {below : List Frame} {meth : Method} {c : Code} {H : Heap} {locs : List Loc} {cells slots : Nat} {Q : State → Prop}
variable {cc : ByteArray} {pc : Nat} {ls : Array Slot} {rest : List Value} {X : Ec} {h h1 : Hp} {nL : Nat} {rt : Option FieldType} {mn : String}
theorem pf_X7_78 {a : Nat} {v : Int32} (C : Cx X p s m args meth c RX7 cc nL rt mn) (hW : Wx X h H) (hZ : va_S (aA (eB X)) s.heap H locs) (ha : hK h a = 3) (eh : h1 = wI h a 5 v) (hdg : decode cc pc = .ok (.putfield 78, 3)) (kk : ∀ (H1 : Heap) (locs1 : List Loc), Wx X h1 H1 → Km h h1 → va_S (aA (eB X)) s.heap H1 locs1 → W p l e R s m args below meth c H1 locs1 cells slots Q (F0 m (pc + 3) ls rest)) : W p l e R s m args below meth c H locs cells slots Q (F0 m pc ls (.int v :: .ref a :: rest)) :=
  y_puti (ty := .int) C hW hZ ha i_X3 tyX3 tyX3_ok nmX3 (by decide) rfl rfl (by decide) m_298 rfl (by decide +kernel) rfl rfl rfl eh hdg kk
end
theorem dX7_readSide_0 : decode cX7_readSide 0 = .ok (.aload_n 0, 1) := by decide +kernel
theorem dX7_readSide_1 : decode cX7_readSide 1 = .ok (.getfield 15, 3) := by decide +kernel
theorem dX7_readSide_4 : decode cX7_readSide 4 = .ok (.aload_n 0, 1) := by decide +kernel
theorem dX7_readSide_5 : decode cX7_readSide 5 = .ok (.getfield 19, 3) := by decide +kernel
theorem dX7_readSide_8 : decode cX7_readSide 8 = .ok (.invokevirtual 54, 3) := by decide +kernel
theorem dX7_readSide_11 : decode cX7_readSide 11 = .ok (.istore_n 2, 1) := by decide +kernel
theorem dX7_readSide_12 : decode cX7_readSide 12 = .ok (.iload_n 2, 1) := by decide +kernel
theorem dX7_readSide_13 : decode cX7_readSide 13 = .ok (.bipush 119, 2) := by decide +kernel
theorem dX7_readSide_15 : decode cX7_readSide 15 = .ok (.if_icmp .eq 11, 3) := by decide +kernel
theorem dX7_readSide_18 : decode cX7_readSide 18 = .ok (.iload_n 2, 1) := by decide +kernel
theorem dX7_readSide_19 : decode cX7_readSide 19 = .ok (.bipush 98, 2) := by decide +kernel
theorem dX7_readSide_21 : decode cX7_readSide 21 = .ok (.if_icmp .eq 5, 3) := by decide +kernel
theorem dX7_readSide_24 : decode cX7_readSide 24 = .ok (.iconst 0, 1) := by decide +kernel
theorem dX7_readSide_25 : decode cX7_readSide 25 = .ok (.ireturn, 1) := by decide +kernel
theorem dX7_readSide_26 : decode cX7_readSide 26 = .ok (.aload_n 1, 1) := by decide +kernel
theorem dX7_readSide_27 : decode cX7_readSide 27 = .ok (.iload_n 2, 1) := by decide +kernel
theorem dX7_readSide_28 : decode cX7_readSide 28 = .ok (.bipush 119, 2) := by decide +kernel
theorem dX7_readSide_30 : decode cX7_readSide 30 = .ok (.if_icmp .ne 7, 3) := by decide +kernel
theorem dX7_readSide_33 : decode cX7_readSide 33 = .ok (.iconst 0, 1) := by decide +kernel
theorem dX7_readSide_34 : decode cX7_readSide 34 = .ok (.goto 4, 3) := by decide +kernel
theorem dX7_readSide_37 : decode cX7_readSide 37 = .ok (.iconst 1, 1) := by decide +kernel
theorem dX7_readSide_38 : decode cX7_readSide 38 = .ok (.putfield 78, 3) := by decide +kernel
theorem dX7_readSide_41 : decode cX7_readSide 41 = .ok (.aload_n 0, 1) := by decide +kernel
theorem dX7_readSide_42 : decode cX7_readSide 42 = .ok (.dup, 1) := by decide +kernel
theorem dX7_readSide_43 : decode cX7_readSide 43 = .ok (.getfield 19, 3) := by decide +kernel
theorem dX7_readSide_46 : decode cX7_readSide 46 = .ok (.iconst 1, 1) := by decide +kernel
theorem dX7_readSide_47 : decode cX7_readSide 47 = .ok (.iadd, 1) := by decide +kernel
theorem dX7_readSide_48 : decode cX7_readSide 48 = .ok (.putfield 19, 3) := by decide +kernel
theorem dX7_readSide_51 : decode cX7_readSide 51 = .ok (.iconst 1, 1) := by decide +kernel
theorem dX7_readSide_52 : decode cX7_readSide 52 = .ok (.ireturn, 1) := by decide +kernel
set_option maxRecDepth 20000 in
theorem moX7_readSide_38 {o : Int32 × Hp} {h : Hp} {x0 : Nat} {t0 : Int32} {t1 : Nat} (hE : sX7_readSide_38 h x0 t0 t1 = some o) : Le h o.2 := by
  obtain ⟨h_1, eh_1, hE⟩ := nm_e2 hE
  refine (le_I eh_1).tr ?_
  obtain ⟨h_2, eh_2, hE⟩ := nm_e2 hE
  refine (le_I eh_2).tr ?_
  exact le_some2 hE
set_option maxRecDepth 20000 in
theorem moX7_readSide_26 {o : Int32 × Hp} {h : Hp} {x0 : Nat} {x1 : Nat} {x2 : Int32} (hE : sX7_readSide_26 h x0 x1 x2 = some o) : Le h o.2 := by
  rcases br_e hE with ⟨_, hE⟩ | ⟨_, hE⟩
  · exact moX7_readSide_38 hE
  · exact moX7_readSide_38 hE
set_option maxRecDepth 20000 in
theorem moX7_readSide {o : Int32 × Hp} {h : Hp} {x0 : Nat} {x1 : Nat} (hE : sX7_readSide h x0 x1 = some o) : Le h o.2 := by
  obtain ⟨r_1, er_1, hE⟩ := cl_e hE
  obtain ⟨o_2, eo_2, hE⟩ := cl_e hE
  refine (moX9_byteAt eo_2).tr ?_
  rcases br_e hE with ⟨_, hE⟩ | ⟨_, hE⟩
  · exact moX7_readSide_26 hE
  · rcases br_e hE with ⟨_, hE⟩ | ⟨_, hE⟩
    · exact moX7_readSide_26 hE
    · exact le_some2 hE
set_option maxRecDepth 20000 in
theorem bX7_readSide_38 {p : Program} {l : Launch} {e : Env} {s : State} {m : MethodId} {args : Array Value} {below : List Frame} {meth : Method} {c : Code} {X : Ec} {h0 : Hp} {o : Int32 × Hp} (C : Cx X p s m args meth c RX7 cX7_readSide 3 (some .boolean) "readSide") {h : Hp} {x0 : Nat} {t0 : Int32} {t1 : Nat} {H : Heap} {locs : List Loc} (k_x0 : hK h x0 = 7) (k_t1 : hK h t1 = 3) (hkm : Km h0 h) (hW : Wx X h H) (hZ : va_S (aA (eB X)) s.heap H locs) (ls : Array Slot) (hl : lv_has ls 3 [(0, .ref x0)]) (hE : sX7_readSide_38 h x0 t0 t1 = some o) : W p l e (rm 1 21) s m args below meth c H locs 0 0 (MQ below (QI X h0 o.1 o.2) args s 0 0 (aA (eB X))) (F0 m 38 ls [.int t0, .ref t1]) := by
  obtain ⟨h_1, eh_1, hE⟩ := nm_e2 hE
  refine pf_X7_78 C hW hZ k_t1 eh_1 dX7_readSide_38 (fun _ _ hW km hZ => ?_)
  replace hkm := hkm.tr km
  replace k_x0 := km.at k_x0 (by decide)
  refine lv_aload_n C.1 C.2.1 dX7_readSide_41 rfl (lv_at hl 0 rfl) ?_
  refine lv_dup C.1 C.2.1 dX7_readSide_42 rfl ?_
  refine gf_X7_19 C hW k_x0 dX7_readSide_43 ?_
  refine lv_iconst (v := (1 : Int32)) C.1 C.2.1 dX7_readSide_46 (by decide) ?_
  refine lv_iadd C.1 C.2.1 dX7_readSide_47 ?_
  obtain ⟨h_2, eh_2, hE⟩ := nm_e2 hE
  refine pf_X7_19 C hW hZ k_x0 eh_2 dX7_readSide_48 (fun _ _ hW km hZ => ?_)
  replace hkm := hkm.tr km
  replace k_x0 := km.at k_x0 (by decide)
  refine lv_iconst (v := (1 : Int32)) C.1 C.2.1 dX7_readSide_51 (by decide) ?_
  exact x_iret C rfl (by decide) hW hZ hkm hE dX7_readSide_52
set_option maxRecDepth 20000 in
theorem bX7_readSide_26 {p : Program} {l : Launch} {e : Env} {s : State} {m : MethodId} {args : Array Value} {below : List Frame} {meth : Method} {c : Code} {X : Ec} {h0 : Hp} {o : Int32 × Hp} (C : Cx X p s m args meth c RX7 cX7_readSide 3 (some .boolean) "readSide") {h : Hp} {x0 : Nat} {x1 : Nat} {x2 : Int32} {H : Heap} {locs : List Loc} (k_x0 : hK h x0 = 7) (k_x1 : hK h x1 = 3) (hkm : Km h0 h) (hW : Wx X h H) (hZ : va_S (aA (eB X)) s.heap H locs) (ls : Array Slot) (hl : lv_has ls 3 [(0, .ref x0), (1, .ref x1), (2, .int x2)]) (hE : sX7_readSide_26 h x0 x1 x2 = some o) : W p l e (rm 1 21) s m args below meth c H locs 0 0 (MQ below (QI X h0 o.1 o.2) args s 0 0 (aA (eB X))) (F0 m 26 ls []) := by
  refine lv_aload_n C.1 C.2.1 dX7_readSide_26 rfl (lv_at hl 1 rfl) ?_
  refine lv_iload_n C.1 C.2.1 dX7_readSide_27 rfl (lv_at hl 2 rfl) ?_
  refine lv_bipush (v := (119 : Int32)) C.1 C.2.1 dX7_readSide_28 (by decide) ?_
  refine lv_icmp_ne (tgt := 37) C.1 C.2.1 dX7_readSide_30 (by decide) (fun c_1 => ?_) (fun c_1 => ?_)
  · have hE := br_n hE c_1
    refine lv_iconst (v := (1 : Int32)) C.1 C.2.1 dX7_readSide_37 (by decide) ?_
    exact bX7_readSide_38 C k_x0 k_x1 hkm hW hZ _ (lv_sub hl [0] rfl) hE
  · have hE := br_p hE c_1
    refine lv_iconst (v := (0 : Int32)) C.1 C.2.1 dX7_readSide_33 (by decide) ?_
    refine lv_goto (tgt := 38) C.1 C.2.1 dX7_readSide_34 (by decide) ?_
    exact bX7_readSide_38 C k_x0 k_x1 hkm hW hZ _ (lv_sub hl [0] rfl) hE
set_option maxRecDepth 20000 in
theorem ct_X7_readSide (l : Launch) (X : Ec) {h : Hp} {x0 : Nat} {x1 : Nat} {o : Int32 × Hp} (k_x0 : hK h x0 = 7) (k_x1 : hK h x1 = 3) (hE : sX7_readSide h x0 x1 = some o) : MetI l yX7_readSide cX7_readSide 3 (some .boolean) 1 21 X [.ref x0, .ref x1] h o := by
  refine x_met (by decide) (Nat.le_of_ble_eq_true rfl) ?_
  intro p e s m below meth c ls C hl hW hZ
  have hl : lv_has ls 3 [(0, .ref x0), (1, .ref x1)] := hl
  have hkm : Km h h := Km.rf h
  refine lv_aload_n C.1 C.2.1 dX7_readSide_0 rfl (lv_at hl 0 rfl) ?_
  obtain ⟨r_1, er_1, hE⟩ := cl_e hE
  refine gf_X7_15 C hW k_x0 er_1 dX7_readSide_1 (fun k_r_1 => ?_)
  refine lv_aload_n C.1 C.2.1 dX7_readSide_4 rfl (lv_at hl 0 rfl) ?_
  refine gf_X7_19 C hW k_x0 dX7_readSide_5 ?_
  obtain ⟨o_2, eo_2, hE⟩ := cl_e hE
  refine x_kI (o := o_2) (z_runV (As := [.int (hI h x0 2)]) (rest := []) C (ct_X9_byteAt l X k_r_1 eo_2) cw_X7_54 hW hZ k_r_1 (by decide) rfl rfl rfl hl.1 (Nat.le_of_ble_eq_true rfl) rfl dX7_readSide_8 ⟨Nat.le_of_ble_eq_true rfl, Nat.le_of_ble_eq_true rfl⟩ ⟨Nat.le_refl _, Nat.le_refl _⟩) hZ (fun _ _ hW km hZ => ?_)
  replace hkm := hkm.tr km
  replace k_x0 := km.at k_x0 (by decide)
  replace k_x1 := km.at k_x1 (by decide)
  refine lv_istore_n (lv' := [(2, .int o_2.1), (0, .ref x0), (1, .ref x1)]) C.1 C.2.1 dX7_readSide_11 rfl hl (by decide) rfl (fun ls hl => ?_)
  refine lv_iload_n C.1 C.2.1 dX7_readSide_12 rfl (lv_at hl 0 rfl) ?_
  refine lv_bipush (v := (119 : Int32)) C.1 C.2.1 dX7_readSide_13 (by decide) ?_
  refine lv_icmp_eq (tgt := 26) C.1 C.2.1 dX7_readSide_15 (by decide) (fun c_3 => ?_) (fun c_3 => ?_)
  · have hE := br_p hE c_3
    exact bX7_readSide_26 C k_x0 k_x1 hkm hW hZ _ (lv_sub hl [1, 2, 0] rfl) hE
  · have hE := br_n hE c_3
    refine lv_iload_n C.1 C.2.1 dX7_readSide_18 rfl (lv_at hl 0 rfl) ?_
    refine lv_bipush (v := (98 : Int32)) C.1 C.2.1 dX7_readSide_19 (by decide) ?_
    refine lv_icmp_eq (tgt := 26) C.1 C.2.1 dX7_readSide_21 (by decide) (fun c_4 => ?_) (fun c_4 => ?_)
    · have hE := br_p hE c_4
      exact bX7_readSide_26 C k_x0 k_x1 hkm hW hZ _ (lv_sub hl [1, 2, 0] rfl) hE
    · have hE := br_n hE c_4
      refine lv_iconst (v := (0 : Int32)) C.1 C.2.1 dX7_readSide_24 (by decide) ?_
      exact x_iret C rfl (by decide) hW hZ hkm hE dX7_readSide_25
theorem dX7_readSquare_0 : decode cX7_readSquare 0 = .ok (.aload_n 0, 1) := by decide +kernel
theorem dX7_readSquare_1 : decode cX7_readSquare 1 = .ok (.getfield 15, 3) := by decide +kernel
theorem dX7_readSquare_4 : decode cX7_readSquare 4 = .ok (.aload_n 0, 1) := by decide +kernel
theorem dX7_readSquare_5 : decode cX7_readSquare 5 = .ok (.getfield 19, 3) := by decide +kernel
theorem dX7_readSquare_8 : decode cX7_readSquare 8 = .ok (.invokevirtual 54, 3) := by decide +kernel
theorem dX7_readSquare_11 : decode cX7_readSquare 11 = .ok (.bipush 97, 2) := by decide +kernel
theorem dX7_readSquare_13 : decode cX7_readSquare 13 = .ok (.isub, 1) := by decide +kernel
theorem dX7_readSquare_14 : decode cX7_readSquare 14 = .ok (.istore_n 1, 1) := by decide +kernel
theorem dX7_readSquare_15 : decode cX7_readSquare 15 = .ok (.iload_n 1, 1) := by decide +kernel
theorem dX7_readSquare_16 : decode cX7_readSquare 16 = .ok (.ifCond .lt 14, 3) := by decide +kernel
theorem dX7_readSquare_19 : decode cX7_readSquare 19 = .ok (.iload_n 1, 1) := by decide +kernel
theorem dX7_readSquare_20 : decode cX7_readSquare 20 = .ok (.aload_n 0, 1) := by decide +kernel
theorem dX7_readSquare_21 : decode cX7_readSquare 21 = .ok (.getfield 9, 3) := by decide +kernel
theorem dX7_readSquare_24 : decode cX7_readSquare 24 = .ok (.getfield 65, 3) := by decide +kernel
theorem dX7_readSquare_27 : decode cX7_readSquare 27 = .ok (.if_icmp .lt 5, 3) := by decide +kernel
theorem dX7_readSquare_30 : decode cX7_readSquare 30 = .ok (.iconst (-1), 1) := by decide +kernel
theorem dX7_readSquare_31 : decode cX7_readSquare 31 = .ok (.ireturn, 1) := by decide +kernel
theorem dX7_readSquare_32 : decode cX7_readSquare 32 = .ok (.aload_n 0, 1) := by decide +kernel
theorem dX7_readSquare_33 : decode cX7_readSquare 33 = .ok (.dup, 1) := by decide +kernel
theorem dX7_readSquare_34 : decode cX7_readSquare 34 = .ok (.getfield 19, 3) := by decide +kernel
theorem dX7_readSquare_37 : decode cX7_readSquare 37 = .ok (.iconst 1, 1) := by decide +kernel
theorem dX7_readSquare_38 : decode cX7_readSquare 38 = .ok (.iadd, 1) := by decide +kernel
theorem dX7_readSquare_39 : decode cX7_readSquare 39 = .ok (.putfield 19, 3) := by decide +kernel
theorem dX7_readSquare_42 : decode cX7_readSquare 42 = .ok (.aload_n 0, 1) := by decide +kernel
theorem dX7_readSquare_43 : decode cX7_readSquare 43 = .ok (.getfield 15, 3) := by decide +kernel
theorem dX7_readSquare_46 : decode cX7_readSquare 46 = .ok (.aload_n 0, 1) := by decide +kernel
theorem dX7_readSquare_47 : decode cX7_readSquare 47 = .ok (.getfield 19, 3) := by decide +kernel
theorem dX7_readSquare_50 : decode cX7_readSquare 50 = .ok (.invokevirtual 54, 3) := by decide +kernel
theorem dX7_readSquare_53 : decode cX7_readSquare 53 = .ok (.bipush 49, 2) := by decide +kernel
theorem dX7_readSquare_55 : decode cX7_readSquare 55 = .ok (.isub, 1) := by decide +kernel
theorem dX7_readSquare_56 : decode cX7_readSquare 56 = .ok (.istore_n 2, 1) := by decide +kernel
theorem dX7_readSquare_57 : decode cX7_readSquare 57 = .ok (.iload_n 2, 1) := by decide +kernel
theorem dX7_readSquare_58 : decode cX7_readSquare 58 = .ok (.ifCond .lt 14, 3) := by decide +kernel
theorem dX7_readSquare_61 : decode cX7_readSquare 61 = .ok (.iload_n 2, 1) := by decide +kernel
theorem dX7_readSquare_62 : decode cX7_readSquare 62 = .ok (.aload_n 0, 1) := by decide +kernel
theorem dX7_readSquare_63 : decode cX7_readSquare 63 = .ok (.getfield 9, 3) := by decide +kernel
theorem dX7_readSquare_66 : decode cX7_readSquare 66 = .ok (.getfield 60, 3) := by decide +kernel
theorem dX7_readSquare_69 : decode cX7_readSquare 69 = .ok (.if_icmp .lt 5, 3) := by decide +kernel
theorem dX7_readSquare_72 : decode cX7_readSquare 72 = .ok (.iconst (-1), 1) := by decide +kernel
theorem dX7_readSquare_73 : decode cX7_readSquare 73 = .ok (.ireturn, 1) := by decide +kernel
theorem dX7_readSquare_74 : decode cX7_readSquare 74 = .ok (.aload_n 0, 1) := by decide +kernel
theorem dX7_readSquare_75 : decode cX7_readSquare 75 = .ok (.dup, 1) := by decide +kernel
theorem dX7_readSquare_76 : decode cX7_readSquare 76 = .ok (.getfield 19, 3) := by decide +kernel
theorem dX7_readSquare_79 : decode cX7_readSquare 79 = .ok (.iconst 1, 1) := by decide +kernel
theorem dX7_readSquare_80 : decode cX7_readSquare 80 = .ok (.iadd, 1) := by decide +kernel
theorem dX7_readSquare_81 : decode cX7_readSquare 81 = .ok (.putfield 19, 3) := by decide +kernel
theorem dX7_readSquare_84 : decode cX7_readSquare 84 = .ok (.iload_n 2, 1) := by decide +kernel
theorem dX7_readSquare_85 : decode cX7_readSquare 85 = .ok (.aload_n 0, 1) := by decide +kernel
theorem dX7_readSquare_86 : decode cX7_readSquare 86 = .ok (.getfield 9, 3) := by decide +kernel
theorem dX7_readSquare_89 : decode cX7_readSquare 89 = .ok (.getfield 65, 3) := by decide +kernel
theorem dX7_readSquare_92 : decode cX7_readSquare 92 = .ok (.imul, 1) := by decide +kernel
theorem dX7_readSquare_93 : decode cX7_readSquare 93 = .ok (.iload_n 1, 1) := by decide +kernel
theorem dX7_readSquare_94 : decode cX7_readSquare 94 = .ok (.iadd, 1) := by decide +kernel
theorem dX7_readSquare_95 : decode cX7_readSquare 95 = .ok (.ireturn, 1) := by decide +kernel
set_option maxRecDepth 20000 in
theorem moX7_readSquare_30 {o : Int32 × Hp} {h : Hp} (hE : sX7_readSquare_30 h  = some o) : Le h o.2 := by
  exact le_some2 hE
set_option maxRecDepth 20000 in
theorem moX7_readSquare_72 {o : Int32 × Hp} {h : Hp} (hE : sX7_readSquare_72 h  = some o) : Le h o.2 := by
  exact le_some2 hE
set_option maxRecDepth 20000 in
theorem moX7_readSquare {o : Int32 × Hp} {h : Hp} {x0 : Nat} (hE : sX7_readSquare h x0 = some o) : Le h o.2 := by
  obtain ⟨r_1, er_1, hE⟩ := cl_e hE
  obtain ⟨o_2, eo_2, hE⟩ := cl_e hE
  refine (moX9_byteAt eo_2).tr ?_
  obtain ⟨v_3, ev_3, hE⟩ := nm_e2 hE
  rcases br_e hE with ⟨_, hE⟩ | ⟨_, hE⟩
  · exact moX7_readSquare_30 hE
  · obtain ⟨r_5, er_5, hE⟩ := cl_e hE
    rcases br_e hE with ⟨_, hE⟩ | ⟨_, hE⟩
    · obtain ⟨h_7, eh_7, hE⟩ := nm_e2 hE
      refine (le_I eh_7).tr ?_
      obtain ⟨r_8, er_8, hE⟩ := cl_e hE
      obtain ⟨o_9, eo_9, hE⟩ := cl_e hE
      refine (moX9_byteAt eo_9).tr ?_
      obtain ⟨v_10, ev_10, hE⟩ := nm_e2 hE
      rcases br_e hE with ⟨_, hE⟩ | ⟨_, hE⟩
      · exact moX7_readSquare_72 hE
      · obtain ⟨r_12, er_12, hE⟩ := cl_e hE
        rcases br_e hE with ⟨_, hE⟩ | ⟨_, hE⟩
        · obtain ⟨h_14, eh_14, hE⟩ := nm_e2 hE
          refine (le_I eh_14).tr ?_
          obtain ⟨r_15, er_15, hE⟩ := cl_e hE
          exact le_some2 hE
        · exact moX7_readSquare_72 hE
    · exact moX7_readSquare_30 hE
set_option maxRecDepth 20000 in
theorem bX7_readSquare_30 {p : Program} {l : Launch} {e : Env} {s : State} {m : MethodId} {args : Array Value} {below : List Frame} {meth : Method} {c : Code} {X : Ec} {h0 : Hp} {o : Int32 × Hp} (C : Cx X p s m args meth c RX7 cX7_readSquare 3 (some .int) "readSquare") {h : Hp} {H : Heap} {locs : List Loc} (hkm : Km h0 h) (hW : Wx X h H) (hZ : va_S (aA (eB X)) s.heap H locs) (ls : Array Slot) (hl : lv_has ls 3 []) (hE : sX7_readSquare_30 h  = some o) : W p l e (rm 1 21) s m args below meth c H locs 0 0 (MQ below (QI X h0 o.1 o.2) args s 0 0 (aA (eB X))) (F0 m 30 ls []) := by
  refine lv_iconst (v := (-1 : Int32)) C.1 C.2.1 dX7_readSquare_30 (by decide) ?_
  exact x_iret C rfl rfl hW hZ hkm hE dX7_readSquare_31
set_option maxRecDepth 20000 in
theorem bX7_readSquare_72 {p : Program} {l : Launch} {e : Env} {s : State} {m : MethodId} {args : Array Value} {below : List Frame} {meth : Method} {c : Code} {X : Ec} {h0 : Hp} {o : Int32 × Hp} (C : Cx X p s m args meth c RX7 cX7_readSquare 3 (some .int) "readSquare") {h : Hp} {H : Heap} {locs : List Loc} (hkm : Km h0 h) (hW : Wx X h H) (hZ : va_S (aA (eB X)) s.heap H locs) (ls : Array Slot) (hl : lv_has ls 3 []) (hE : sX7_readSquare_72 h  = some o) : W p l e (rm 1 21) s m args below meth c H locs 0 0 (MQ below (QI X h0 o.1 o.2) args s 0 0 (aA (eB X))) (F0 m 72 ls []) := by
  refine lv_iconst (v := (-1 : Int32)) C.1 C.2.1 dX7_readSquare_72 (by decide) ?_
  exact x_iret C rfl rfl hW hZ hkm hE dX7_readSquare_73
set_option maxRecDepth 20000 in
theorem ct_X7_readSquare (l : Launch) (X : Ec) {h : Hp} {x0 : Nat} {o : Int32 × Hp} (k_x0 : hK h x0 = 7) (hE : sX7_readSquare h x0 = some o) : MetI l yX7_readSquare cX7_readSquare 3 (some .int) 1 21 X [.ref x0] h o := by
  refine x_met (by decide) (Nat.le_of_ble_eq_true rfl) ?_
  intro p e s m below meth c ls C hl hW hZ
  have hl : lv_has ls 3 [(0, .ref x0)] := hl
  have hkm : Km h h := Km.rf h
  refine lv_aload_n C.1 C.2.1 dX7_readSquare_0 rfl (lv_at hl 0 rfl) ?_
  obtain ⟨r_1, er_1, hE⟩ := cl_e hE
  refine gf_X7_15 C hW k_x0 er_1 dX7_readSquare_1 (fun k_r_1 => ?_)
  refine lv_aload_n C.1 C.2.1 dX7_readSquare_4 rfl (lv_at hl 0 rfl) ?_
  refine gf_X7_19 C hW k_x0 dX7_readSquare_5 ?_
  obtain ⟨o_2, eo_2, hE⟩ := cl_e hE
  refine x_kI (o := o_2) (z_runV (As := [.int (hI h x0 2)]) (rest := []) C (ct_X9_byteAt l X k_r_1 eo_2) cw_X7_54 hW hZ k_r_1 (by decide) rfl rfl rfl hl.1 (Nat.le_of_ble_eq_true rfl) rfl dX7_readSquare_8 ⟨Nat.le_of_ble_eq_true rfl, Nat.le_of_ble_eq_true rfl⟩ ⟨Nat.le_refl _, Nat.le_refl _⟩) hZ (fun _ _ hW km hZ => ?_)
  replace hkm := hkm.tr km
  replace k_x0 := km.at k_x0 (by decide)
  refine lv_bipush (v := (97 : Int32)) C.1 C.2.1 dX7_readSquare_11 (by decide) ?_
  refine lv_isub C.1 C.2.1 dX7_readSquare_13 ?_
  obtain ⟨v_3, ev_3, hE⟩ := nm_e2 hE
  refine x_nmI ev_3 ?_
  refine lv_istore_n (lv' := [(1, .int v_3), (0, .ref x0)]) C.1 C.2.1 dX7_readSquare_14 rfl hl (by decide) rfl (fun ls hl => ?_)
  refine lv_iload_n C.1 C.2.1 dX7_readSquare_15 rfl (lv_at hl 0 rfl) ?_
  refine lv_if_lt (tgt := 30) C.1 C.2.1 dX7_readSquare_16 (by decide) (fun c_4 => ?_) (fun c_4 => ?_)
  · have hE := br_p hE c_4
    exact bX7_readSquare_30 C hkm hW hZ _ (lv_sub hl [] rfl) hE
  · have hE := br_n hE c_4
    refine lv_iload_n C.1 C.2.1 dX7_readSquare_19 rfl (lv_at hl 0 rfl) ?_
    refine lv_aload_n C.1 C.2.1 dX7_readSquare_20 rfl (lv_at hl 1 rfl) ?_
    obtain ⟨r_5, er_5, hE⟩ := cl_e hE
    refine gf_X7_9 C hW k_x0 er_5 dX7_readSquare_21 (fun k_r_5 => ?_)
    refine gf_X7_65 C hW k_r_5 dX7_readSquare_24 ?_
    refine lv_icmp_lt (tgt := 32) C.1 C.2.1 dX7_readSquare_27 (by decide) (fun c_6 => ?_) (fun c_6 => ?_)
    · have hE := br_p hE c_6
      refine lv_aload_n C.1 C.2.1 dX7_readSquare_32 rfl (lv_at hl 1 rfl) ?_
      refine lv_dup C.1 C.2.1 dX7_readSquare_33 rfl ?_
      refine gf_X7_19 C hW k_x0 dX7_readSquare_34 ?_
      refine lv_iconst (v := (1 : Int32)) C.1 C.2.1 dX7_readSquare_37 (by decide) ?_
      refine lv_iadd C.1 C.2.1 dX7_readSquare_38 ?_
      obtain ⟨h_7, eh_7, hE⟩ := nm_e2 hE
      refine pf_X7_19 C hW hZ k_x0 eh_7 dX7_readSquare_39 (fun _ _ hW km hZ => ?_)
      replace hkm := hkm.tr km
      replace k_x0 := km.at k_x0 (by decide)
      refine lv_aload_n C.1 C.2.1 dX7_readSquare_42 rfl (lv_at hl 1 rfl) ?_
      obtain ⟨r_8, er_8, hE⟩ := cl_e hE
      refine gf_X7_15 C hW k_x0 er_8 dX7_readSquare_43 (fun k_r_8 => ?_)
      refine lv_aload_n C.1 C.2.1 dX7_readSquare_46 rfl (lv_at hl 1 rfl) ?_
      refine gf_X7_19 C hW k_x0 dX7_readSquare_47 ?_
      obtain ⟨o_9, eo_9, hE⟩ := cl_e hE
      refine x_kI (o := o_9) (z_runV (As := [.int (hI h_7 x0 2)]) (rest := []) C (ct_X9_byteAt l X k_r_8 eo_9) cw_X7_54 hW hZ k_r_8 (by decide) rfl rfl rfl hl.1 (Nat.le_of_ble_eq_true rfl) rfl dX7_readSquare_50 ⟨Nat.le_of_ble_eq_true rfl, Nat.le_of_ble_eq_true rfl⟩ ⟨Nat.le_refl _, Nat.le_refl _⟩) hZ (fun _ _ hW km hZ => ?_)
      replace hkm := hkm.tr km
      replace k_x0 := km.at k_x0 (by decide)
      refine lv_bipush (v := (49 : Int32)) C.1 C.2.1 dX7_readSquare_53 (by decide) ?_
      refine lv_isub C.1 C.2.1 dX7_readSquare_55 ?_
      obtain ⟨v_10, ev_10, hE⟩ := nm_e2 hE
      refine x_nmI ev_10 ?_
      refine lv_istore_n (lv' := [(2, .int v_10), (1, .int v_3), (0, .ref x0)]) C.1 C.2.1 dX7_readSquare_56 rfl hl (by decide) rfl (fun ls hl => ?_)
      refine lv_iload_n C.1 C.2.1 dX7_readSquare_57 rfl (lv_at hl 0 rfl) ?_
      refine lv_if_lt (tgt := 72) C.1 C.2.1 dX7_readSquare_58 (by decide) (fun c_11 => ?_) (fun c_11 => ?_)
      · have hE := br_p hE c_11
        exact bX7_readSquare_72 C hkm hW hZ _ (lv_sub hl [] rfl) hE
      · have hE := br_n hE c_11
        refine lv_iload_n C.1 C.2.1 dX7_readSquare_61 rfl (lv_at hl 0 rfl) ?_
        refine lv_aload_n C.1 C.2.1 dX7_readSquare_62 rfl (lv_at hl 2 rfl) ?_
        obtain ⟨r_12, er_12, hE⟩ := cl_e hE
        refine gf_X7_9 C hW k_x0 er_12 dX7_readSquare_63 (fun k_r_12 => ?_)
        refine gf_X7_60 C hW k_r_12 dX7_readSquare_66 ?_
        refine lv_icmp_lt (tgt := 74) C.1 C.2.1 dX7_readSquare_69 (by decide) (fun c_13 => ?_) (fun c_13 => ?_)
        · have hE := br_p hE c_13
          refine lv_aload_n C.1 C.2.1 dX7_readSquare_74 rfl (lv_at hl 2 rfl) ?_
          refine lv_dup C.1 C.2.1 dX7_readSquare_75 rfl ?_
          refine gf_X7_19 C hW k_x0 dX7_readSquare_76 ?_
          refine lv_iconst (v := (1 : Int32)) C.1 C.2.1 dX7_readSquare_79 (by decide) ?_
          refine lv_iadd C.1 C.2.1 dX7_readSquare_80 ?_
          obtain ⟨h_14, eh_14, hE⟩ := nm_e2 hE
          refine pf_X7_19 C hW hZ k_x0 eh_14 dX7_readSquare_81 (fun _ _ hW km hZ => ?_)
          replace hkm := hkm.tr km
          replace k_x0 := km.at k_x0 (by decide)
          refine lv_iload_n C.1 C.2.1 dX7_readSquare_84 rfl (lv_at hl 0 rfl) ?_
          refine lv_aload_n C.1 C.2.1 dX7_readSquare_85 rfl (lv_at hl 2 rfl) ?_
          obtain ⟨r_15, er_15, hE⟩ := cl_e hE
          refine gf_X7_9 C hW k_x0 er_15 dX7_readSquare_86 (fun k_r_15 => ?_)
          refine gf_X7_65 C hW k_r_15 dX7_readSquare_89 ?_
          refine lv_imul C.1 C.2.1 dX7_readSquare_92 ?_
          refine lv_iload_n C.1 C.2.1 dX7_readSquare_93 rfl (lv_at hl 1 rfl) ?_
          refine lv_iadd C.1 C.2.1 dX7_readSquare_94 ?_
          exact x_iret C rfl rfl hW hZ hkm hE dX7_readSquare_95
        · have hE := br_n hE c_13
          exact bX7_readSquare_72 C hkm hW hZ _ (lv_sub hl [] rfl) hE
    · have hE := br_n hE c_6
      exact bX7_readSquare_30 C hkm hW hZ _ (lv_sub hl [] rfl) hE
set_option maxRecDepth 100000 in
theorem ms_35 : Cond.selects RX7 yX7_readSquare yX7_readSquare ∈ W0 := w0_in (List.mem_append_left _ (List.mem_of_getElem? (i := 35) rfl)) rfl
set_option maxRecDepth 100000 in
theorem m_311 : Cond.fieldLink RX7 85 (TX3 8).1 (TX3 8).2.1 (TX3 8).2.2.1 ∈ W0 := w0_in (List.mem_append_right _ (List.mem_of_getElem? (i := 311) rfl)) rfl
set_option maxRecDepth 100000 in
theorem m_974 : Cond.methodLink RX7 81 yX7_readSquare ∈ W0 := w0_in (List.mem_append_right _ (List.mem_of_getElem? (i := 974) rfl)) rfl
set_option maxRecDepth 100000 in
theorem m_976 : Cond.instanceMethod yX7_readSquare ∈ W0 := w0_in (List.mem_append_right _ (List.mem_of_getElem? (i := 976) rfl)) rfl
set_option maxRecDepth 100000 in
theorem m_977 : Cond.code yX7_readSquare cX7_readSquare 3 (some .int) ∈ W0 := w0_in (List.mem_append_right _ (List.mem_of_getElem? (i := 977) rfl)) rfl
section
variable {p : Program} {l : Launch} {e : Env} {R : Room} {s : State} {m : MethodId} {args : Array Value} {below : List Frame} {meth : Method} {c : Code} {H : Heap} {locs : List Loc} {cells slots : Nat} {Q : State → Prop}
variable {cc : ByteArray} {pc : Nat} {ls : Array Slot} {rest : List Value} {X : Ec} {h h1 : Hp} {nL : Nat} {rt : Option FieldType} {mn : String}
theorem gf_X7_85 {a : Nat} (C : Cx X p s m args meth c RX7 cc nL rt mn) (hW : Wx X h H) (ha : hK h a = 3) (hdg : decode cc pc = .ok (.getfield 85, 3)) (kk : W p l e R s m args below meth c H locs cells slots Q (F0 m (pc + 3) ls (.long (hJ h a 8) :: rest))) : W p l e R s m args below meth c H locs cells slots Q (F0 m pc ls (.ref a :: rest)) :=
  y_getj C hW ha i_X3 (by decide) rfl (by decide) m_311 rfl hdg kk
theorem pf_X7_85 {a : Nat} {v : Int64} (C : Cx X p s m args meth c RX7 cc nL rt mn) (hW : Wx X h H) (hZ : va_S (aA (eB X)) s.heap H locs) (ha : hK h a = 3) (eh : h1 = wJ h a 8 v) (hdg : decode cc pc = .ok (.putfield 85, 3)) (kk : ∀ (H1 : Heap) (locs1 : List Loc), Wx X h1 H1 → Km h h1 → va_S (aA (eB X)) s.heap H1 locs1 → W p l e R s m args below meth c H1 locs1 cells slots Q (F0 m (pc + 3) ls rest)) : W p l e R s m args below meth c H locs cells slots Q (F0 m pc ls (.long v :: .ref a :: rest)) :=
  y_putj C hW hZ ha i_X3 tyX3 tyX3_ok nmX3 (by decide) rfl rfl (by decide) m_311 rfl (by decide +kernel) rfl eh hdg kk
end
theorem cw_X7_81 : cwd RX7 81 yX7_readSquare cX7_readSquare 3 (some .int) false 0 := ⟨m_977, m_974, m_10, ⟨m_976, ms_35⟩, by decide, by decide, by decide +kernel⟩
theorem dX7_readRights_0 : decode cX7_readRights 0 = .ok (.aload_n 0, 1) := by decide +kernel
theorem dX7_readRights_1 : decode cX7_readRights 1 = .ok (.bipush 45, 2) := by decide +kernel
theorem dX7_readRights_3 : decode cX7_readRights 3 = .ok (.invokevirtual 32, 3) := by decide +kernel
theorem dX7_readRights_6 : decode cX7_readRights 6 = .ok (.ifCond .eq 5, 3) := by decide +kernel
theorem dX7_readRights_9 : decode cX7_readRights 9 = .ok (.iconst 1, 1) := by decide +kernel
theorem dX7_readRights_10 : decode cX7_readRights 10 = .ok (.ireturn, 1) := by decide +kernel
theorem dX7_readRights_11 : decode cX7_readRights 11 = .ok (.iconst (-1), 1) := by decide +kernel
theorem dX7_readRights_12 : decode cX7_readRights 12 = .ok (.istore_n 2, 1) := by decide +kernel
theorem dX7_readRights_13 : decode cX7_readRights 13 = .ok (.iconst 0, 1) := by decide +kernel
theorem dX7_readRights_14 : decode cX7_readRights 14 = .ok (.istore_n 3, 1) := by decide +kernel
theorem dX7_readRights_15 : decode cX7_readRights 15 = .ok (.iload_n 3, 1) := by decide +kernel
theorem dX7_readRights_16 : decode cX7_readRights 16 = .ok (.bipush 64, 2) := by decide +kernel
theorem dX7_readRights_18 : decode cX7_readRights 18 = .ok (.if_icmp .gt 79, 3) := by decide +kernel
theorem dX7_readRights_21 : decode cX7_readRights 21 = .ok (.iload_n 3, 1) := by decide +kernel
theorem dX7_readRights_22 : decode cX7_readRights 22 = .ok (.ifCond .eq 19, 3) := by decide +kernel
theorem dX7_readRights_25 : decode cX7_readRights 25 = .ok (.aload_n 0, 1) := by decide +kernel
theorem dX7_readRights_26 : decode cX7_readRights 26 = .ok (.getfield 15, 3) := by decide +kernel
theorem dX7_readRights_29 : decode cX7_readRights 29 = .ok (.aload_n 0, 1) := by decide +kernel
theorem dX7_readRights_30 : decode cX7_readRights 30 = .ok (.getfield 19, 3) := by decide +kernel
theorem dX7_readRights_33 : decode cX7_readRights 33 = .ok (.invokevirtual 54, 3) := by decide +kernel
theorem dX7_readRights_36 : decode cX7_readRights 36 = .ok (.bipush 32, 2) := by decide +kernel
theorem dX7_readRights_38 : decode cX7_readRights 38 = .ok (.if_icmp .eq 59, 3) := by decide +kernel
theorem dX7_readRights_41 : decode cX7_readRights 41 = .ok (.aload_n 0, 1) := by decide +kernel
theorem dX7_readRights_42 : decode cX7_readRights 42 = .ok (.getfield 19, 3) := by decide +kernel
theorem dX7_readRights_45 : decode cX7_readRights 45 = .ok (.istore 4, 2) := by decide +kernel
theorem dX7_readRights_47 : decode cX7_readRights 47 = .ok (.aload_n 0, 1) := by decide +kernel
theorem dX7_readRights_48 : decode cX7_readRights 48 = .ok (.invokevirtual 81, 3) := by decide +kernel
theorem dX7_readRights_51 : decode cX7_readRights 51 = .ok (.istore 5, 2) := by decide +kernel
theorem dX7_readRights_53 : decode cX7_readRights 53 = .ok (.iload 5, 2) := by decide +kernel
theorem dX7_readRights_55 : decode cX7_readRights 55 = .ok (.iconst (-1), 1) := by decide +kernel
theorem dX7_readRights_56 : decode cX7_readRights 56 = .ok (.if_icmp .ne 5, 3) := by decide +kernel
theorem dX7_readRights_59 : decode cX7_readRights 59 = .ok (.iconst 0, 1) := by decide +kernel
theorem dX7_readRights_60 : decode cX7_readRights 60 = .ok (.ireturn, 1) := by decide +kernel
theorem dX7_readRights_61 : decode cX7_readRights 61 = .ok (.iload 5, 2) := by decide +kernel
theorem dX7_readRights_63 : decode cX7_readRights 63 = .ok (.iload_n 2, 1) := by decide +kernel
theorem dX7_readRights_64 : decode cX7_readRights 64 = .ok (.if_icmp .gt 11, 3) := by decide +kernel
theorem dX7_readRights_67 : decode cX7_readRights 67 = .ok (.aload_n 0, 1) := by decide +kernel
theorem dX7_readRights_68 : decode cX7_readRights 68 = .ok (.iload 4, 2) := by decide +kernel
theorem dX7_readRights_70 : decode cX7_readRights 70 = .ok (.putfield 19, 3) := by decide +kernel
theorem dX7_readRights_73 : decode cX7_readRights 73 = .ok (.iconst 0, 1) := by decide +kernel
theorem dX7_readRights_74 : decode cX7_readRights 74 = .ok (.ireturn, 1) := by decide +kernel
theorem dX7_readRights_75 : decode cX7_readRights 75 = .ok (.iload 5, 2) := by decide +kernel
theorem dX7_readRights_77 : decode cX7_readRights 77 = .ok (.istore_n 2, 1) := by decide +kernel
theorem dX7_readRights_78 : decode cX7_readRights 78 = .ok (.aload_n 1, 1) := by decide +kernel
theorem dX7_readRights_79 : decode cX7_readRights 79 = .ok (.dup, 1) := by decide +kernel
theorem dX7_readRights_80 : decode cX7_readRights 80 = .ok (.getfield 85, 3) := by decide +kernel
theorem dX7_readRights_83 : decode cX7_readRights 83 = .ok (.lconst 1, 1) := by decide +kernel
theorem dX7_readRights_84 : decode cX7_readRights 84 = .ok (.iload 5, 2) := by decide +kernel
theorem dX7_readRights_86 : decode cX7_readRights 86 = .ok (.lshl, 1) := by decide +kernel
theorem dX7_readRights_87 : decode cX7_readRights 87 = .ok (.lor, 1) := by decide +kernel
theorem dX7_readRights_88 : decode cX7_readRights 88 = .ok (.putfield 85, 3) := by decide +kernel
theorem dX7_readRights_91 : decode cX7_readRights 91 = .ok (.iinc 3 1, 3) := by decide +kernel
theorem dX7_readRights_94 : decode cX7_readRights 94 = .ok (.goto (-79), 3) := by decide +kernel
theorem dX7_readRights_97 : decode cX7_readRights 97 = .ok (.iconst 1, 1) := by decide +kernel
theorem dX7_readRights_98 : decode cX7_readRights 98 = .ok (.ireturn, 1) := by decide +kernel
set_option maxRecDepth 20000 in
theorem moX7_readRights_97 {o : Int32 × Hp} {F : Nat} {h : Hp} (hE : sX7_readRights_97 F h  = some o) : Le h o.2 := by
  exact le_some2 hE
set_option maxRecDepth 20000 in
theorem moX7_readRights_41 {o : Int32 × Hp} {k_15 : Hp → Nat → Nat → Int32 → Int32 → Option (Int32 × Hp)} {F : Nat} (mk_15 : ∀ (h : Hp) (x0 : Nat) (x1 : Nat) (x2 : Int32) (x3 : Int32), k_15 h x0 x1 x2 x3 = some o → Le h o.2) {h : Hp} {x0 : Nat} {x1 : Nat} {x2 : Int32} {x3 : Int32} (hE : sX7_readRights_41 F k_15 h x0 x1 x2 x3 = some o) : Le h o.2 := by
  obtain ⟨v_1, ev_1, hE⟩ := nm_e2 hE
  obtain ⟨o_2, eo_2, hE⟩ := cl_e hE
  refine (moX7_readSquare eo_2).tr ?_
  rcases br_e hE with ⟨_, hE⟩ | ⟨_, hE⟩
  · exact le_some2 hE
  · rcases br_e hE with ⟨_, hE⟩ | ⟨_, hE⟩
    · obtain ⟨h_5, eh_5, hE⟩ := nm_e2 hE
      refine (le_J eh_5).tr ?_
      obtain ⟨v_6, ev_6, hE⟩ := nm_e2 hE
      exact mk_15 _ _ _ _ _ hE
    · obtain ⟨h_7, eh_7, hE⟩ := nm_e2 hE
      refine (le_I eh_7).tr ?_
      exact le_some2 hE
set_option maxRecDepth 20000 in
theorem moX7_readRights_15 {o : Int32 × Hp} {F : Nat} : ∀ (f : Nat) {h : Hp} {x0 : Nat} {x1 : Nat} {x2 : Int32} {x3 : Int32}, sX7_readRights_15 F f h x0 x1 x2 x3 = some o → Le h o.2 := by
  intro f
  induction f with
  | zero =>
    intro h x0 x1 x2 x3 hE
    rw [sX7_readRights_15] at hE
    cases hE
  | succ f ih =>
    intro h x0 x1 x2 x3 hE
    rw [sX7_readRights_15] at hE
    have mk_15 : ∀ (h : Hp) (x0 : Nat) (x1 : Nat) (x2 : Int32) (x3 : Int32), sX7_readRights_15 F f h x0 x1 x2 x3 = some o → Le h o.2 := fun h x0 x1 x2 x3 hE => ih hE
    rcases br_e hE with ⟨_, hE⟩ | ⟨_, hE⟩
    · exact moX7_readRights_97 hE
    · rcases br_e hE with ⟨_, hE⟩ | ⟨_, hE⟩
      · exact moX7_readRights_41 mk_15 hE
      · obtain ⟨r_3, er_3, hE⟩ := cl_e hE
        obtain ⟨o_4, eo_4, hE⟩ := cl_e hE
        refine (moX9_byteAt eo_4).tr ?_
        rcases br_e hE with ⟨_, hE⟩ | ⟨_, hE⟩
        · exact moX7_readRights_97 hE
        · exact moX7_readRights_41 mk_15 hE
set_option maxRecDepth 20000 in
theorem moX7_readRights {o : Int32 × Hp} {F : Nat} {h : Hp} {x0 : Nat} {x1 : Nat} (hE : sX7_readRights F h x0 x1 = some o) : Le h o.2 := by
  obtain ⟨o_1, eo_1, hE⟩ := cl_e hE
  refine (moX7_takeByte eo_1).tr ?_
  rcases br_e hE with ⟨_, hE⟩ | ⟨_, hE⟩
  · exact moX7_readRights_15 _ hE
  · exact le_some2 hE
set_option maxRecDepth 20000 in
theorem bX7_readRights_97 {p : Program} {l : Launch} {e : Env} {s : State} {m : MethodId} {args : Array Value} {below : List Frame} {meth : Method} {c : Code} {X : Ec} {h0 : Hp} {o : Int32 × Hp} {F : Nat} (C : Cx X p s m args meth c RX7 cX7_readRights 6 (some .boolean) "readRights") {h : Hp} {H : Heap} {locs : List Loc} (hkm : Km h0 h) (hW : Wx X h H) (hZ : va_S (aA (eB X)) s.heap H locs) (ls : Array Slot) (hl : lv_has ls 6 []) (hE : sX7_readRights_97 F h  = some o) : W p l e (rm 2 43) s m args below meth c H locs 0 0 (MQ below (QI X h0 o.1 o.2) args s 0 0 (aA (eB X))) (F0 m 97 ls []) := by
  refine lv_iconst (v := (1 : Int32)) C.1 C.2.1 dX7_readRights_97 (by decide) ?_
  exact x_iret C rfl (by decide) hW hZ hkm hE dX7_readRights_98
set_option maxRecDepth 20000 in
theorem bX7_readRights_41 {p : Program} {l : Launch} {e : Env} {s : State} {m : MethodId} {args : Array Value} {below : List Frame} {meth : Method} {c : Code} {X : Ec} {h0 : Hp} {o : Int32 × Hp} {k_15 : Hp → Nat → Nat → Int32 → Int32 → Option (Int32 × Hp)} {F : Nat} (C : Cx X p s m args meth c RX7 cX7_readRights 6 (some .boolean) "readRights") (hk_15 : ∀ (h : Hp) (x0 : Nat) (x1 : Nat) (x2 : Int32) (x3 : Int32) (H : Heap) (locs : List Loc), hK h x0 = 7 → hK h x1 = 3 → Km h0 h → Wx X h H → va_S (aA (eB X)) s.heap H locs → ∀ (ls : Array Slot), lv_has ls 6 [(0, .ref x0), (1, .ref x1), (2, .int x2), (3, .int x3)] → k_15 h x0 x1 x2 x3 = some o → W p l e (rm 2 43) s m args below meth c H locs 0 0 (MQ below (QI X h0 o.1 o.2) args s 0 0 (aA (eB X))) (F0 m 15 ls [])) {h : Hp} {x0 : Nat} {x1 : Nat} {x2 : Int32} {x3 : Int32} {H : Heap} {locs : List Loc} (k_x0 : hK h x0 = 7) (k_x1 : hK h x1 = 3) (hkm : Km h0 h) (hW : Wx X h H) (hZ : va_S (aA (eB X)) s.heap H locs) (ls : Array Slot) (hl : lv_has ls 6 [(0, .ref x0), (1, .ref x1), (2, .int x2), (3, .int x3)]) (hE : sX7_readRights_41 F k_15 h x0 x1 x2 x3 = some o) : W p l e (rm 2 43) s m args below meth c H locs 0 0 (MQ below (QI X h0 o.1 o.2) args s 0 0 (aA (eB X))) (F0 m 41 ls []) := by
  refine lv_aload_n C.1 C.2.1 dX7_readRights_41 rfl (lv_at hl 0 rfl) ?_
  refine gf_X7_19 C hW k_x0 dX7_readRights_42 ?_
  obtain ⟨v_1, ev_1, hE⟩ := nm_e2 hE
  refine x_nmI ev_1 ?_
  refine lv_istore (lv' := [(4, .int v_1), (0, .ref x0), (1, .ref x1), (2, .int x2), (3, .int x3)]) C.1 C.2.1 dX7_readRights_45 hl (by decide) rfl (fun ls hl => ?_)
  refine lv_aload_n C.1 C.2.1 dX7_readRights_47 rfl (lv_at hl 1 rfl) ?_
  obtain ⟨o_2, eo_2, hE⟩ := cl_e hE
  refine x_kI (o := o_2) (z_runV (As := []) (rest := []) C (ct_X7_readSquare l X k_x0 eo_2) cw_X7_81 hW hZ k_x0 (by decide) rfl rfl rfl hl.1 (Nat.le_of_ble_eq_true rfl) rfl dX7_readRights_48 ⟨Nat.le_of_ble_eq_true rfl, Nat.le_of_ble_eq_true rfl⟩ ⟨Nat.le_refl _, Nat.le_refl _⟩) hZ (fun _ _ hW km hZ => ?_)
  replace hkm := hkm.tr km
  replace k_x0 := km.at k_x0 (by decide)
  replace k_x1 := km.at k_x1 (by decide)
  refine lv_istore (lv' := [(5, .int o_2.1), (4, .int v_1), (0, .ref x0), (1, .ref x1), (2, .int x2), (3, .int x3)]) C.1 C.2.1 dX7_readRights_51 hl (by decide) rfl (fun ls hl => ?_)
  refine lv_iload C.1 C.2.1 dX7_readRights_53 (lv_at hl 0 rfl) ?_
  refine lv_iconst (v := (-1 : Int32)) C.1 C.2.1 dX7_readRights_55 (by decide) ?_
  refine lv_icmp_ne (tgt := 61) C.1 C.2.1 dX7_readRights_56 (by decide) (fun c_3 => ?_) (fun c_3 => ?_)
  · have hE := br_n hE c_3
    refine lv_iload C.1 C.2.1 dX7_readRights_61 (lv_at hl 0 rfl) ?_
    refine lv_iload_n C.1 C.2.1 dX7_readRights_63 rfl (lv_at hl 4 rfl) ?_
    refine lv_icmp_gt (tgt := 75) C.1 C.2.1 dX7_readRights_64 (by decide) (fun c_4 => ?_) (fun c_4 => ?_)
    · have hE := br_p hE c_4
      refine lv_iload C.1 C.2.1 dX7_readRights_75 (lv_at hl 0 rfl) ?_
      refine lv_istore_n (lv' := [(2, .int o_2.1), (5, .int o_2.1), (4, .int v_1), (0, .ref x0), (1, .ref x1), (3, .int x3)]) C.1 C.2.1 dX7_readRights_77 rfl hl (by decide) rfl (fun ls hl => ?_)
      refine lv_aload_n C.1 C.2.1 dX7_readRights_78 rfl (lv_at hl 4 rfl) ?_
      refine lv_dup C.1 C.2.1 dX7_readRights_79 rfl ?_
      refine gf_X7_85 C hW k_x1 dX7_readRights_80 ?_
      refine lv_lconst (v := (1 : Int64)) C.1 C.2.1 dX7_readRights_83 (by decide) ?_
      refine lv_iload C.1 C.2.1 dX7_readRights_84 (lv_at hl 1 rfl) ?_
      refine lv_lshl C.1 C.2.1 dX7_readRights_86 rfl ?_
      refine lv_lor C.1 C.2.1 dX7_readRights_87 ?_
      obtain ⟨h_5, eh_5, hE⟩ := nm_e2 hE
      refine pf_X7_85 C hW hZ k_x1 eh_5 dX7_readRights_88 (fun _ _ hW km hZ => ?_)
      replace hkm := hkm.tr km
      replace k_x0 := km.at k_x0 (by decide)
      replace k_x1 := km.at k_x1 (by decide)
      obtain ⟨v_6, ev_6, hE⟩ := nm_e2 hE
      refine lv_iinc (v := v_6) (lv' := [(3, .int v_6), (2, .int o_2.1), (5, .int o_2.1), (4, .int v_1), (0, .ref x0), (1, .ref x1)]) C.1 C.2.1 dX7_readRights_91 hl (k := 5) rfl (by rw [ev_6]; rfl) (by decide) rfl (fun ls hl => ?_)
      refine lv_goto (tgt := 15) C.1 C.2.1 dX7_readRights_94 (by decide) ?_
      exact hk_15 _ _ _ _ _ _ _ k_x0 k_x1 hkm hW hZ _ (lv_sub hl [4, 5, 1, 0] rfl) hE
    · have hE := br_n hE c_4
      refine lv_aload_n C.1 C.2.1 dX7_readRights_67 rfl (lv_at hl 2 rfl) ?_
      refine lv_iload C.1 C.2.1 dX7_readRights_68 (lv_at hl 1 rfl) ?_
      obtain ⟨h_7, eh_7, hE⟩ := nm_e2 hE
      refine pf_X7_19 C hW hZ k_x0 eh_7 dX7_readRights_70 (fun _ _ hW km hZ => ?_)
      replace hkm := hkm.tr km
      replace k_x0 := km.at k_x0 (by decide)
      replace k_x1 := km.at k_x1 (by decide)
      refine lv_iconst (v := (0 : Int32)) C.1 C.2.1 dX7_readRights_73 (by decide) ?_
      exact x_iret C rfl (by decide) hW hZ hkm hE dX7_readRights_74
  · have hE := br_p hE c_3
    refine lv_iconst (v := (0 : Int32)) C.1 C.2.1 dX7_readRights_59 (by decide) ?_
    exact x_iret C rfl (by decide) hW hZ hkm hE dX7_readRights_60
set_option maxRecDepth 20000 in
theorem bX7_readRights_15 {p : Program} {l : Launch} {e : Env} {s : State} {m : MethodId} {args : Array Value} {below : List Frame} {meth : Method} {c : Code} {X : Ec} {h0 : Hp} {o : Int32 × Hp} {F : Nat} (C : Cx X p s m args meth c RX7 cX7_readRights 6 (some .boolean) "readRights") : ∀ (f : Nat) {h : Hp} {x0 : Nat} {x1 : Nat} {x2 : Int32} {x3 : Int32} {H : Heap} {locs : List Loc} (k_x0 : hK h x0 = 7) (k_x1 : hK h x1 = 3), Km h0 h → Wx X h H → va_S (aA (eB X)) s.heap H locs → ∀ (ls : Array Slot), lv_has ls 6 [(0, .ref x0), (1, .ref x1), (2, .int x2), (3, .int x3)] → sX7_readRights_15 F f h x0 x1 x2 x3 = some o → W p l e (rm 2 43) s m args below meth c H locs 0 0 (MQ below (QI X h0 o.1 o.2) args s 0 0 (aA (eB X))) (F0 m 15 ls []) := by
  intro f
  induction f with
  | zero =>
    intro h x0 x1 x2 x3 H locs k_x0 k_x1 hkm hW hZ ls hl hE
    rw [sX7_readRights_15] at hE
    cases hE
  | succ f ih =>
    intro h x0 x1 x2 x3 H locs k_x0 k_x1 hkm hW hZ ls hl hE
    rw [sX7_readRights_15] at hE
    have hk_15 : ∀ (h : Hp) (x0 : Nat) (x1 : Nat) (x2 : Int32) (x3 : Int32) (H : Heap) (locs : List Loc), hK h x0 = 7 → hK h x1 = 3 → Km h0 h → Wx X h H → va_S (aA (eB X)) s.heap H locs → ∀ (ls : Array Slot), lv_has ls 6 [(0, .ref x0), (1, .ref x1), (2, .int x2), (3, .int x3)] → sX7_readRights_15 F f h x0 x1 x2 x3 = some o → W p l e (rm 2 43) s m args below meth c H locs 0 0 (MQ below (QI X h0 o.1 o.2) args s 0 0 (aA (eB X))) (F0 m 15 ls []) := fun h x0 x1 x2 x3 H locs k_x0 k_x1 a b c ls hl hE => ih k_x0 k_x1 a b c ls hl hE
    refine lv_iload_n C.1 C.2.1 dX7_readRights_15 rfl (lv_at hl 3 rfl) ?_
    refine lv_bipush (v := (64 : Int32)) C.1 C.2.1 dX7_readRights_16 (by decide) ?_
    refine lv_icmp_gt (tgt := 97) C.1 C.2.1 dX7_readRights_18 (by decide) (fun c_1 => ?_) (fun c_1 => ?_)
    · have hE := br_p hE c_1
      exact bX7_readRights_97 C hkm hW hZ _ (lv_sub hl [] rfl) hE
    · have hE := br_n hE c_1
      refine lv_iload_n C.1 C.2.1 dX7_readRights_21 rfl (lv_at hl 3 rfl) ?_
      refine lv_if_eq (tgt := 41) C.1 C.2.1 dX7_readRights_22 (by decide) (fun c_2 => ?_) (fun c_2 => ?_)
      · have hE := br_p hE c_2
        exact bX7_readRights_41 C hk_15 k_x0 k_x1 hkm hW hZ _ (lv_sub hl [0, 1, 2, 3] rfl) hE
      · have hE := br_n hE c_2
        refine lv_aload_n C.1 C.2.1 dX7_readRights_25 rfl (lv_at hl 0 rfl) ?_
        obtain ⟨r_3, er_3, hE⟩ := cl_e hE
        refine gf_X7_15 C hW k_x0 er_3 dX7_readRights_26 (fun k_r_3 => ?_)
        refine lv_aload_n C.1 C.2.1 dX7_readRights_29 rfl (lv_at hl 0 rfl) ?_
        refine gf_X7_19 C hW k_x0 dX7_readRights_30 ?_
        obtain ⟨o_4, eo_4, hE⟩ := cl_e hE
        refine x_kI (o := o_4) (z_runV (As := [.int (hI h x0 2)]) (rest := []) C (ct_X9_byteAt l X k_r_3 eo_4) cw_X7_54 hW hZ k_r_3 (by decide) rfl rfl rfl hl.1 (Nat.le_of_ble_eq_true rfl) rfl dX7_readRights_33 ⟨Nat.le_of_ble_eq_true rfl, Nat.le_of_ble_eq_true rfl⟩ ⟨Nat.le_refl _, Nat.le_refl _⟩) hZ (fun _ _ hW km hZ => ?_)
        replace hkm := hkm.tr km
        replace k_x0 := km.at k_x0 (by decide)
        replace k_x1 := km.at k_x1 (by decide)
        refine lv_bipush (v := (32 : Int32)) C.1 C.2.1 dX7_readRights_36 (by decide) ?_
        refine lv_icmp_eq (tgt := 97) C.1 C.2.1 dX7_readRights_38 (by decide) (fun c_5 => ?_) (fun c_5 => ?_)
        · have hE := br_p hE c_5
          exact bX7_readRights_97 C hkm hW hZ _ (lv_sub hl [] rfl) hE
        · have hE := br_n hE c_5
          exact bX7_readRights_41 C hk_15 k_x0 k_x1 hkm hW hZ _ (lv_sub hl [0, 1, 2, 3] rfl) hE
set_option maxRecDepth 20000 in
theorem ct_X7_readRights (l : Launch) (X : Ec) (F : Nat) {h : Hp} {x0 : Nat} {x1 : Nat} {o : Int32 × Hp} (k_x0 : hK h x0 = 7) (k_x1 : hK h x1 = 3) (hE : sX7_readRights F h x0 x1 = some o) : MetI l yX7_readRights cX7_readRights 6 (some .boolean) 2 43 X [.ref x0, .ref x1] h o := by
  refine x_met (by decide) (Nat.le_of_ble_eq_true rfl) ?_
  intro p e s m below meth c ls C hl hW hZ
  have hl : lv_has ls 6 [(0, .ref x0), (1, .ref x1)] := hl
  have hkm : Km h h := Km.rf h
  refine lv_aload_n C.1 C.2.1 dX7_readRights_0 rfl (lv_at hl 0 rfl) ?_
  refine lv_bipush (v := (45 : Int32)) C.1 C.2.1 dX7_readRights_1 (by decide) ?_
  obtain ⟨o_1, eo_1, hE⟩ := cl_e hE
  refine x_kI (o := o_1) (z_runV (As := [.int (45 : Int32)]) (rest := []) C (ct_X7_takeByte l X k_x0 eo_1) cw_X7_32 hW hZ k_x0 (by decide) rfl rfl rfl hl.1 (Nat.le_of_ble_eq_true rfl) rfl dX7_readRights_3 ⟨Nat.le_of_ble_eq_true rfl, Nat.le_of_ble_eq_true rfl⟩ ⟨Nat.le_refl _, Nat.le_refl _⟩) hZ (fun _ _ hW km hZ => ?_)
  replace hkm := hkm.tr km
  replace k_x0 := km.at k_x0 (by decide)
  replace k_x1 := km.at k_x1 (by decide)
  refine lv_if_eq (tgt := 11) C.1 C.2.1 dX7_readRights_6 (by decide) (fun c_2 => ?_) (fun c_2 => ?_)
  · have hE := br_p hE c_2
    refine lv_iconst (v := (-1 : Int32)) C.1 C.2.1 dX7_readRights_11 (by decide) ?_
    refine lv_istore_n (lv' := [(2, .int (-1 : Int32)), (0, .ref x0), (1, .ref x1)]) C.1 C.2.1 dX7_readRights_12 rfl hl (by decide) rfl (fun ls hl => ?_)
    refine lv_iconst (v := (0 : Int32)) C.1 C.2.1 dX7_readRights_13 (by decide) ?_
    refine lv_istore_n (lv' := [(3, .int (0 : Int32)), (2, .int (-1 : Int32)), (0, .ref x0), (1, .ref x1)]) C.1 C.2.1 dX7_readRights_14 rfl hl (by decide) rfl (fun ls hl => ?_)
    exact bX7_readRights_15 C F k_x0 k_x1 hkm hW hZ _ (lv_sub hl [2, 3, 1, 0] rfl) hE
  · have hE := br_n hE c_2
    refine lv_iconst (v := (1 : Int32)) C.1 C.2.1 dX7_readRights_9 (by decide) ?_
    exact x_iret C rfl (by decide) hW hZ hkm hE dX7_readRights_10
set_option maxRecDepth 100000 in
theorem m_982 : Cond.methodLink RX7 89 yX3_addPass ∈ W0 := w0_in (List.mem_append_right _ (List.mem_of_getElem? (i := 982) rfl)) rfl
set_option maxRecDepth 100000 in
theorem m_983 : Cond.instanceMethod yX3_addPass ∈ W0 := w0_in (List.mem_append_right _ (List.mem_of_getElem? (i := 983) rfl)) rfl
set_option maxRecDepth 100000 in
theorem m_984 : Cond.selects RX3 yX3_addPass yX3_addPass ∈ W0 := w0_in (List.mem_append_right _ (List.mem_of_getElem? (i := 984) rfl)) rfl
set_option maxRecDepth 100000 in
theorem m_985 : Cond.code yX3_addPass cX3_addPass 3 none ∈ W0 := w0_in (List.mem_append_right _ (List.mem_of_getElem? (i := 985) rfl)) rfl
theorem cw_X7_89 : cwd RX7 89 yX3_addPass cX3_addPass 3 none false 1 := ⟨m_985, m_982, m_8, ⟨m_983, m_984⟩, by decide, by decide, by decide +kernel⟩
theorem dX7_readPass_0 : decode cX7_readPass 0 = .ok (.aload_n 0, 1) := by decide +kernel
theorem dX7_readPass_1 : decode cX7_readPass 1 = .ok (.bipush 45, 2) := by decide +kernel
theorem dX7_readPass_3 : decode cX7_readPass 3 = .ok (.invokevirtual 32, 3) := by decide +kernel
theorem dX7_readPass_6 : decode cX7_readPass 6 = .ok (.ifCond .eq 5, 3) := by decide +kernel
theorem dX7_readPass_9 : decode cX7_readPass 9 = .ok (.iconst 1, 1) := by decide +kernel
theorem dX7_readPass_10 : decode cX7_readPass 10 = .ok (.ireturn, 1) := by decide +kernel
theorem dX7_readPass_11 : decode cX7_readPass 11 = .ok (.iconst 0, 1) := by decide +kernel
theorem dX7_readPass_12 : decode cX7_readPass 12 = .ok (.istore_n 2, 1) := by decide +kernel
theorem dX7_readPass_13 : decode cX7_readPass 13 = .ok (.iload_n 2, 1) := by decide +kernel
theorem dX7_readPass_14 : decode cX7_readPass 14 = .ok (.sipush 1200, 3) := by decide +kernel
theorem dX7_readPass_17 : decode cX7_readPass 17 = .ok (.if_icmp .ge 47, 3) := by decide +kernel
theorem dX7_readPass_20 : decode cX7_readPass 20 = .ok (.iload_n 2, 1) := by decide +kernel
theorem dX7_readPass_21 : decode cX7_readPass 21 = .ok (.iconst 2, 1) := by decide +kernel
theorem dX7_readPass_22 : decode cX7_readPass 22 = .ok (.if_icmp .lt 19, 3) := by decide +kernel
theorem dX7_readPass_25 : decode cX7_readPass 25 = .ok (.aload_n 0, 1) := by decide +kernel
theorem dX7_readPass_26 : decode cX7_readPass 26 = .ok (.getfield 15, 3) := by decide +kernel
theorem dX7_readPass_29 : decode cX7_readPass 29 = .ok (.aload_n 0, 1) := by decide +kernel
theorem dX7_readPass_30 : decode cX7_readPass 30 = .ok (.getfield 19, 3) := by decide +kernel
theorem dX7_readPass_33 : decode cX7_readPass 33 = .ok (.invokevirtual 54, 3) := by decide +kernel
theorem dX7_readPass_36 : decode cX7_readPass 36 = .ok (.bipush 32, 2) := by decide +kernel
theorem dX7_readPass_38 : decode cX7_readPass 38 = .ok (.if_icmp .eq 26, 3) := by decide +kernel
theorem dX7_readPass_41 : decode cX7_readPass 41 = .ok (.aload_n 0, 1) := by decide +kernel
theorem dX7_readPass_42 : decode cX7_readPass 42 = .ok (.invokevirtual 81, 3) := by decide +kernel
theorem dX7_readPass_45 : decode cX7_readPass 45 = .ok (.istore_n 3, 1) := by decide +kernel
theorem dX7_readPass_46 : decode cX7_readPass 46 = .ok (.iload_n 3, 1) := by decide +kernel
theorem dX7_readPass_47 : decode cX7_readPass 47 = .ok (.iconst (-1), 1) := by decide +kernel
theorem dX7_readPass_48 : decode cX7_readPass 48 = .ok (.if_icmp .ne 5, 3) := by decide +kernel
theorem dX7_readPass_51 : decode cX7_readPass 51 = .ok (.iconst 0, 1) := by decide +kernel
theorem dX7_readPass_52 : decode cX7_readPass 52 = .ok (.ireturn, 1) := by decide +kernel
theorem dX7_readPass_53 : decode cX7_readPass 53 = .ok (.aload_n 1, 1) := by decide +kernel
theorem dX7_readPass_54 : decode cX7_readPass 54 = .ok (.iload_n 3, 1) := by decide +kernel
theorem dX7_readPass_55 : decode cX7_readPass 55 = .ok (.invokevirtual 89, 3) := by decide +kernel
theorem dX7_readPass_58 : decode cX7_readPass 58 = .ok (.iinc 2 1, 3) := by decide +kernel
theorem dX7_readPass_61 : decode cX7_readPass 61 = .ok (.goto (-48), 3) := by decide +kernel
theorem dX7_readPass_64 : decode cX7_readPass 64 = .ok (.iconst 1, 1) := by decide +kernel
theorem dX7_readPass_65 : decode cX7_readPass 65 = .ok (.ireturn, 1) := by decide +kernel
set_option maxRecDepth 20000 in
theorem moX7_readPass_64 {o : Int32 × Hp} {F : Nat} {h : Hp} (hE : sX7_readPass_64 F h  = some o) : Le h o.2 := by
  exact le_some2 hE
set_option maxRecDepth 20000 in
theorem moX7_readPass_41 {o : Int32 × Hp} {k_13 : Hp → Nat → Nat → Int32 → Option (Int32 × Hp)} {F : Nat} (mk_13 : ∀ (h : Hp) (x0 : Nat) (x1 : Nat) (x2 : Int32), k_13 h x0 x1 x2 = some o → Le h o.2) {h : Hp} {x0 : Nat} {x1 : Nat} {x2 : Int32} (hE : sX7_readPass_41 F k_13 h x0 x1 x2 = some o) : Le h o.2 := by
  obtain ⟨o_1, eo_1, hE⟩ := cl_e hE
  refine (moX7_readSquare eo_1).tr ?_
  rcases br_e hE with ⟨_, hE⟩ | ⟨_, hE⟩
  · exact le_some2 hE
  · obtain ⟨o_3, eo_3, hE⟩ := cl_e hE
    refine (moX3_addPass eo_3).tr ?_
    obtain ⟨v_4, ev_4, hE⟩ := nm_e2 hE
    exact mk_13 _ _ _ _ hE
set_option maxRecDepth 20000 in
theorem moX7_readPass_13 {o : Int32 × Hp} {F : Nat} : ∀ (f : Nat) {h : Hp} {x0 : Nat} {x1 : Nat} {x2 : Int32}, sX7_readPass_13 F f h x0 x1 x2 = some o → Le h o.2 := by
  intro f
  induction f with
  | zero =>
    intro h x0 x1 x2 hE
    rw [sX7_readPass_13] at hE
    cases hE
  | succ f ih =>
    intro h x0 x1 x2 hE
    rw [sX7_readPass_13] at hE
    have mk_13 : ∀ (h : Hp) (x0 : Nat) (x1 : Nat) (x2 : Int32), sX7_readPass_13 F f h x0 x1 x2 = some o → Le h o.2 := fun h x0 x1 x2 hE => ih hE
    rcases br_e hE with ⟨_, hE⟩ | ⟨_, hE⟩
    · exact moX7_readPass_64 hE
    · rcases br_e hE with ⟨_, hE⟩ | ⟨_, hE⟩
      · exact moX7_readPass_41 mk_13 hE
      · obtain ⟨r_3, er_3, hE⟩ := cl_e hE
        obtain ⟨o_4, eo_4, hE⟩ := cl_e hE
        refine (moX9_byteAt eo_4).tr ?_
        rcases br_e hE with ⟨_, hE⟩ | ⟨_, hE⟩
        · exact moX7_readPass_64 hE
        · exact moX7_readPass_41 mk_13 hE
set_option maxRecDepth 20000 in
theorem moX7_readPass {o : Int32 × Hp} {F : Nat} {h : Hp} {x0 : Nat} {x1 : Nat} (hE : sX7_readPass F h x0 x1 = some o) : Le h o.2 := by
  obtain ⟨o_1, eo_1, hE⟩ := cl_e hE
  refine (moX7_takeByte eo_1).tr ?_
  rcases br_e hE with ⟨_, hE⟩ | ⟨_, hE⟩
  · exact moX7_readPass_13 _ hE
  · exact le_some2 hE
set_option maxRecDepth 20000 in
theorem bX7_readPass_64 {p : Program} {l : Launch} {e : Env} {s : State} {m : MethodId} {args : Array Value} {below : List Frame} {meth : Method} {c : Code} {X : Ec} {h0 : Hp} {o : Int32 × Hp} {F : Nat} (C : Cx X p s m args meth c RX7 cX7_readPass 4 (some .boolean) "readPass") {h : Hp} {H : Heap} {locs : List Loc} (hkm : Km h0 h) (hW : Wx X h H) (hZ : va_S (aA (eB X)) s.heap H locs) (ls : Array Slot) (hl : lv_has ls 4 []) (hE : sX7_readPass_64 F h  = some o) : W p l e (rm 2 43) s m args below meth c H locs 0 0 (MQ below (QI X h0 o.1 o.2) args s 0 0 (aA (eB X))) (F0 m 64 ls []) := by
  refine lv_iconst (v := (1 : Int32)) C.1 C.2.1 dX7_readPass_64 (by decide) ?_
  exact x_iret C rfl (by decide) hW hZ hkm hE dX7_readPass_65
set_option maxRecDepth 20000 in
theorem bX7_readPass_41 {p : Program} {l : Launch} {e : Env} {s : State} {m : MethodId} {args : Array Value} {below : List Frame} {meth : Method} {c : Code} {X : Ec} {h0 : Hp} {o : Int32 × Hp} {k_13 : Hp → Nat → Nat → Int32 → Option (Int32 × Hp)} {F : Nat} (C : Cx X p s m args meth c RX7 cX7_readPass 4 (some .boolean) "readPass") (hk_13 : ∀ (h : Hp) (x0 : Nat) (x1 : Nat) (x2 : Int32) (H : Heap) (locs : List Loc), hK h x0 = 7 → hK h x1 = 3 → Km h0 h → Wx X h H → va_S (aA (eB X)) s.heap H locs → ∀ (ls : Array Slot), lv_has ls 4 [(0, .ref x0), (1, .ref x1), (2, .int x2)] → k_13 h x0 x1 x2 = some o → W p l e (rm 2 43) s m args below meth c H locs 0 0 (MQ below (QI X h0 o.1 o.2) args s 0 0 (aA (eB X))) (F0 m 13 ls [])) {h : Hp} {x0 : Nat} {x1 : Nat} {x2 : Int32} {H : Heap} {locs : List Loc} (k_x0 : hK h x0 = 7) (k_x1 : hK h x1 = 3) (hkm : Km h0 h) (hW : Wx X h H) (hZ : va_S (aA (eB X)) s.heap H locs) (ls : Array Slot) (hl : lv_has ls 4 [(0, .ref x0), (1, .ref x1), (2, .int x2)]) (hE : sX7_readPass_41 F k_13 h x0 x1 x2 = some o) : W p l e (rm 2 43) s m args below meth c H locs 0 0 (MQ below (QI X h0 o.1 o.2) args s 0 0 (aA (eB X))) (F0 m 41 ls []) := by
  refine lv_aload_n C.1 C.2.1 dX7_readPass_41 rfl (lv_at hl 0 rfl) ?_
  obtain ⟨o_1, eo_1, hE⟩ := cl_e hE
  refine x_kI (o := o_1) (z_runV (As := []) (rest := []) C (ct_X7_readSquare l X k_x0 eo_1) cw_X7_81 hW hZ k_x0 (by decide) rfl rfl rfl hl.1 (Nat.le_of_ble_eq_true rfl) rfl dX7_readPass_42 ⟨Nat.le_of_ble_eq_true rfl, Nat.le_of_ble_eq_true rfl⟩ ⟨Nat.le_refl _, Nat.le_refl _⟩) hZ (fun _ _ hW km hZ => ?_)
  replace hkm := hkm.tr km
  replace k_x0 := km.at k_x0 (by decide)
  replace k_x1 := km.at k_x1 (by decide)
  refine lv_istore_n (lv' := [(3, .int o_1.1), (0, .ref x0), (1, .ref x1), (2, .int x2)]) C.1 C.2.1 dX7_readPass_45 rfl hl (by decide) rfl (fun ls hl => ?_)
  refine lv_iload_n C.1 C.2.1 dX7_readPass_46 rfl (lv_at hl 0 rfl) ?_
  refine lv_iconst (v := (-1 : Int32)) C.1 C.2.1 dX7_readPass_47 (by decide) ?_
  refine lv_icmp_ne (tgt := 53) C.1 C.2.1 dX7_readPass_48 (by decide) (fun c_2 => ?_) (fun c_2 => ?_)
  · have hE := br_n hE c_2
    refine lv_aload_n C.1 C.2.1 dX7_readPass_53 rfl (lv_at hl 2 rfl) ?_
    refine lv_iload_n C.1 C.2.1 dX7_readPass_54 rfl (lv_at hl 0 rfl) ?_
    obtain ⟨o_3, eo_3, hE⟩ := cl_e hE
    refine x_kV (o := o_3) (z_runV (As := [.int o_1.1]) (rest := []) C (ct_X3_addPass l X k_x1 eo_3) cw_X7_89 hW hZ k_x1 (by decide) rfl rfl rfl hl.1 (Nat.le_of_ble_eq_true rfl) rfl dX7_readPass_55 ⟨Nat.le_of_ble_eq_true rfl, Nat.le_of_ble_eq_true rfl⟩ ⟨Nat.le_refl _, Nat.le_refl _⟩) hZ (fun _ _ hW km hZ => ?_)
    replace hkm := hkm.tr km
    replace k_x0 := km.at k_x0 (by decide)
    replace k_x1 := km.at k_x1 (by decide)
    obtain ⟨v_4, ev_4, hE⟩ := nm_e2 hE
    refine lv_iinc (v := v_4) (lv' := [(2, .int v_4), (3, .int o_1.1), (0, .ref x0), (1, .ref x1)]) C.1 C.2.1 dX7_readPass_58 hl (k := 3) rfl (by rw [ev_4]; rfl) (by decide) rfl (fun ls hl => ?_)
    refine lv_goto (tgt := 13) C.1 C.2.1 dX7_readPass_61 (by decide) ?_
    exact hk_13 _ _ _ _ _ _ k_x0 k_x1 hkm hW hZ _ (lv_sub hl [2, 3, 0] rfl) hE
  · have hE := br_p hE c_2
    refine lv_iconst (v := (0 : Int32)) C.1 C.2.1 dX7_readPass_51 (by decide) ?_
    exact x_iret C rfl (by decide) hW hZ hkm hE dX7_readPass_52
set_option maxRecDepth 20000 in
theorem bX7_readPass_13 {p : Program} {l : Launch} {e : Env} {s : State} {m : MethodId} {args : Array Value} {below : List Frame} {meth : Method} {c : Code} {X : Ec} {h0 : Hp} {o : Int32 × Hp} {F : Nat} (C : Cx X p s m args meth c RX7 cX7_readPass 4 (some .boolean) "readPass") : ∀ (f : Nat) {h : Hp} {x0 : Nat} {x1 : Nat} {x2 : Int32} {H : Heap} {locs : List Loc} (k_x0 : hK h x0 = 7) (k_x1 : hK h x1 = 3), Km h0 h → Wx X h H → va_S (aA (eB X)) s.heap H locs → ∀ (ls : Array Slot), lv_has ls 4 [(0, .ref x0), (1, .ref x1), (2, .int x2)] → sX7_readPass_13 F f h x0 x1 x2 = some o → W p l e (rm 2 43) s m args below meth c H locs 0 0 (MQ below (QI X h0 o.1 o.2) args s 0 0 (aA (eB X))) (F0 m 13 ls []) := by
  intro f
  induction f with
  | zero =>
    intro h x0 x1 x2 H locs k_x0 k_x1 hkm hW hZ ls hl hE
    rw [sX7_readPass_13] at hE
    cases hE
  | succ f ih =>
    intro h x0 x1 x2 H locs k_x0 k_x1 hkm hW hZ ls hl hE
    rw [sX7_readPass_13] at hE
    have hk_13 : ∀ (h : Hp) (x0 : Nat) (x1 : Nat) (x2 : Int32) (H : Heap) (locs : List Loc), hK h x0 = 7 → hK h x1 = 3 → Km h0 h → Wx X h H → va_S (aA (eB X)) s.heap H locs → ∀ (ls : Array Slot), lv_has ls 4 [(0, .ref x0), (1, .ref x1), (2, .int x2)] → sX7_readPass_13 F f h x0 x1 x2 = some o → W p l e (rm 2 43) s m args below meth c H locs 0 0 (MQ below (QI X h0 o.1 o.2) args s 0 0 (aA (eB X))) (F0 m 13 ls []) := fun h x0 x1 x2 H locs k_x0 k_x1 a b c ls hl hE => ih k_x0 k_x1 a b c ls hl hE
    refine lv_iload_n C.1 C.2.1 dX7_readPass_13 rfl (lv_at hl 2 rfl) ?_
    refine lv_sipush (v := (1200 : Int32)) C.1 C.2.1 dX7_readPass_14 (by decide) ?_
    refine lv_icmp_ge (tgt := 64) C.1 C.2.1 dX7_readPass_17 (by decide) (fun c_1 => ?_) (fun c_1 => ?_)
    · have hE := br_p hE c_1
      exact bX7_readPass_64 C hkm hW hZ _ (lv_sub hl [] rfl) hE
    · have hE := br_n hE c_1
      refine lv_iload_n C.1 C.2.1 dX7_readPass_20 rfl (lv_at hl 2 rfl) ?_
      refine lv_iconst (v := (2 : Int32)) C.1 C.2.1 dX7_readPass_21 (by decide) ?_
      refine lv_icmp_lt (tgt := 41) C.1 C.2.1 dX7_readPass_22 (by decide) (fun c_2 => ?_) (fun c_2 => ?_)
      · have hE := br_p hE c_2
        exact bX7_readPass_41 C hk_13 k_x0 k_x1 hkm hW hZ _ (lv_sub hl [0, 1, 2] rfl) hE
      · have hE := br_n hE c_2
        refine lv_aload_n C.1 C.2.1 dX7_readPass_25 rfl (lv_at hl 0 rfl) ?_
        obtain ⟨r_3, er_3, hE⟩ := cl_e hE
        refine gf_X7_15 C hW k_x0 er_3 dX7_readPass_26 (fun k_r_3 => ?_)
        refine lv_aload_n C.1 C.2.1 dX7_readPass_29 rfl (lv_at hl 0 rfl) ?_
        refine gf_X7_19 C hW k_x0 dX7_readPass_30 ?_
        obtain ⟨o_4, eo_4, hE⟩ := cl_e hE
        refine x_kI (o := o_4) (z_runV (As := [.int (hI h x0 2)]) (rest := []) C (ct_X9_byteAt l X k_r_3 eo_4) cw_X7_54 hW hZ k_r_3 (by decide) rfl rfl rfl hl.1 (Nat.le_of_ble_eq_true rfl) rfl dX7_readPass_33 ⟨Nat.le_of_ble_eq_true rfl, Nat.le_of_ble_eq_true rfl⟩ ⟨Nat.le_refl _, Nat.le_refl _⟩) hZ (fun _ _ hW km hZ => ?_)
        replace hkm := hkm.tr km
        replace k_x0 := km.at k_x0 (by decide)
        replace k_x1 := km.at k_x1 (by decide)
        refine lv_bipush (v := (32 : Int32)) C.1 C.2.1 dX7_readPass_36 (by decide) ?_
        refine lv_icmp_eq (tgt := 64) C.1 C.2.1 dX7_readPass_38 (by decide) (fun c_5 => ?_) (fun c_5 => ?_)
        · have hE := br_p hE c_5
          exact bX7_readPass_64 C hkm hW hZ _ (lv_sub hl [] rfl) hE
        · have hE := br_n hE c_5
          exact bX7_readPass_41 C hk_13 k_x0 k_x1 hkm hW hZ _ (lv_sub hl [0, 1, 2] rfl) hE
set_option maxRecDepth 20000 in
theorem ct_X7_readPass (l : Launch) (X : Ec) (F : Nat) {h : Hp} {x0 : Nat} {x1 : Nat} {o : Int32 × Hp} (k_x0 : hK h x0 = 7) (k_x1 : hK h x1 = 3) (hE : sX7_readPass F h x0 x1 = some o) : MetI l yX7_readPass cX7_readPass 4 (some .boolean) 2 43 X [.ref x0, .ref x1] h o := by
  refine x_met (by decide) (Nat.le_of_ble_eq_true rfl) ?_
  intro p e s m below meth c ls C hl hW hZ
  have hl : lv_has ls 4 [(0, .ref x0), (1, .ref x1)] := hl
  have hkm : Km h h := Km.rf h
  refine lv_aload_n C.1 C.2.1 dX7_readPass_0 rfl (lv_at hl 0 rfl) ?_
  refine lv_bipush (v := (45 : Int32)) C.1 C.2.1 dX7_readPass_1 (by decide) ?_
  obtain ⟨o_1, eo_1, hE⟩ := cl_e hE
  refine x_kI (o := o_1) (z_runV (As := [.int (45 : Int32)]) (rest := []) C (ct_X7_takeByte l X k_x0 eo_1) cw_X7_32 hW hZ k_x0 (by decide) rfl rfl rfl hl.1 (Nat.le_of_ble_eq_true rfl) rfl dX7_readPass_3 ⟨Nat.le_of_ble_eq_true rfl, Nat.le_of_ble_eq_true rfl⟩ ⟨Nat.le_refl _, Nat.le_refl _⟩) hZ (fun _ _ hW km hZ => ?_)
  replace hkm := hkm.tr km
  replace k_x0 := km.at k_x0 (by decide)
  replace k_x1 := km.at k_x1 (by decide)
  refine lv_if_eq (tgt := 11) C.1 C.2.1 dX7_readPass_6 (by decide) (fun c_2 => ?_) (fun c_2 => ?_)
  · have hE := br_p hE c_2
    refine lv_iconst (v := (0 : Int32)) C.1 C.2.1 dX7_readPass_11 (by decide) ?_
    refine lv_istore_n (lv' := [(2, .int (0 : Int32)), (0, .ref x0), (1, .ref x1)]) C.1 C.2.1 dX7_readPass_12 rfl hl (by decide) rfl (fun ls hl => ?_)
    exact bX7_readPass_13 C F k_x0 k_x1 hkm hW hZ _ (lv_sub hl [1, 2, 0] rfl) hE
  · have hE := br_n hE c_2
    refine lv_iconst (v := (1 : Int32)) C.1 C.2.1 dX7_readPass_9 (by decide) ?_
    exact x_iret C rfl (by decide) hW hZ hkm hE dX7_readPass_10
