set_option maxRecDepth 100000 in
theorem m_383 : Cond.fieldLink RX7 15 (TX7 1).1 (TX7 1).2.1 (TX7 1).2.2.1 ∈ W0 := w0_in (List.mem_append_right _ (List.mem_of_getElem? (i := 383) rfl)) rfl
set_option maxRecDepth 100000 in
theorem m_384 : Cond.fieldLink RX7 19 (TX7 2).1 (TX7 2).2.1 (TX7 2).2.2.1 ∈ W0 := w0_in (List.mem_append_right _ (List.mem_of_getElem? (i := 384) rfl)) rfl
set_option maxRecDepth 100000 in
theorem m_955 : Cond.methodLink RX7 54 yX9_byteAt ∈ W0 := w0_in (List.mem_append_right _ (List.mem_of_getElem? (i := 955) rfl)) rfl
section
variable {p : Program} {l : Launch} {e : Env} {R : Room} {s : State} {m : MethodId} {args : Array Value} {below : List Frame} {meth : Method} {c : Code} {H : Heap} {locs : List Loc} {cells slots : Nat} {Q : State → Prop}
variable {cc : ByteArray} {pc : Nat} {ls : Array Slot} {rest : List Value} {X : Ec} {h h1 : Hp} {nL : Nat} {rt : Option FieldType} {mn : String}
theorem gf_X7_15 {a r : Nat} (C : Cx X p s m args meth c RX7 cc nL rt mn) (hW : Wx X h H) (ha : hK h a = 7) (hr : hR h a 1 = some r) (hdg : decode cc pc = .ok (.getfield 15, 3)) (kk : hK h r = 9 → W p l e R s m args below meth c H locs cells slots Q (F0 m (pc + 3) ls (.ref r :: rest))) : W p l e R s m args below meth c H locs cells slots Q (F0 m pc ls (.ref a :: rest)) :=
  y_getr C hW ha i_X7 (by decide) rfl (by decide) m_383 rfl rfl hr hdg kk
theorem gf_X7_19 {a : Nat} (C : Cx X p s m args meth c RX7 cc nL rt mn) (hW : Wx X h H) (ha : hK h a = 7) (hdg : decode cc pc = .ok (.getfield 19, 3)) (kk : W p l e R s m args below meth c H locs cells slots Q (F0 m (pc + 3) ls (.int (hI h a 2) :: rest))) : W p l e R s m args below meth c H locs cells slots Q (F0 m pc ls (.ref a :: rest)) :=
  y_geti C hW ha i_X7 (by decide) rfl (by decide) m_384 rfl hdg kk
theorem pf_X7_19 {a : Nat} {v : Int32} (C : Cx X p s m args meth c RX7 cc nL rt mn) (hW : Wx X h H) (hZ : va_S (aA (eB X)) s.heap H locs) (ha : hK h a = 7) (eh : h1 = wI h a 2 v) (hdg : decode cc pc = .ok (.putfield 19, 3)) (kk : ∀ (H1 : Heap) (locs1 : List Loc), Wx X h1 H1 → Km h h1 → va_S (aA (eB X)) s.heap H1 locs1 → W p l e R s m args below meth c H1 locs1 cells slots Q (F0 m (pc + 3) ls rest)) : W p l e R s m args below meth c H locs cells slots Q (F0 m pc ls (.int v :: .ref a :: rest)) :=
  y_puti (ty := .int) C hW hZ ha i_X7 tyX7 tyX7_ok nmX7 (by decide) rfl rfl (by decide) m_384 rfl (by decide +kernel) rfl rfl rfl eh hdg kk
end
theorem cw_X7_54 : cwd RX7 54 yX9_byteAt cX9_byteAt 2 (some .int) false 1 := ⟨m_660, m_955, m_2, ⟨m_658, m_659⟩, by decide, by decide, by decide +kernel⟩
theorem dX7_takeByte_0 : decode cX7_takeByte 0 = .ok (.aload_n 0, 1) := by decide +kernel
theorem dX7_takeByte_1 : decode cX7_takeByte 1 = .ok (.getfield 15, 3) := by decide +kernel
theorem dX7_takeByte_4 : decode cX7_takeByte 4 = .ok (.aload_n 0, 1) := by decide +kernel
theorem dX7_takeByte_5 : decode cX7_takeByte 5 = .ok (.getfield 19, 3) := by decide +kernel
theorem dX7_takeByte_8 : decode cX7_takeByte 8 = .ok (.invokevirtual 54, 3) := by decide +kernel
theorem dX7_takeByte_11 : decode cX7_takeByte 11 = .ok (.iload_n 1, 1) := by decide +kernel
theorem dX7_takeByte_12 : decode cX7_takeByte 12 = .ok (.if_icmp .eq 5, 3) := by decide +kernel
theorem dX7_takeByte_15 : decode cX7_takeByte 15 = .ok (.iconst 0, 1) := by decide +kernel
theorem dX7_takeByte_16 : decode cX7_takeByte 16 = .ok (.ireturn, 1) := by decide +kernel
theorem dX7_takeByte_17 : decode cX7_takeByte 17 = .ok (.aload_n 0, 1) := by decide +kernel
theorem dX7_takeByte_18 : decode cX7_takeByte 18 = .ok (.dup, 1) := by decide +kernel
theorem dX7_takeByte_19 : decode cX7_takeByte 19 = .ok (.getfield 19, 3) := by decide +kernel
theorem dX7_takeByte_22 : decode cX7_takeByte 22 = .ok (.iconst 1, 1) := by decide +kernel
theorem dX7_takeByte_23 : decode cX7_takeByte 23 = .ok (.iadd, 1) := by decide +kernel
theorem dX7_takeByte_24 : decode cX7_takeByte 24 = .ok (.putfield 19, 3) := by decide +kernel
theorem dX7_takeByte_27 : decode cX7_takeByte 27 = .ok (.iconst 1, 1) := by decide +kernel
theorem dX7_takeByte_28 : decode cX7_takeByte 28 = .ok (.ireturn, 1) := by decide +kernel
set_option maxRecDepth 20000 in
theorem moX7_takeByte {o : Int32 × Hp} {h : Hp} {x0 : Nat} {x1 : Int32} (hE : sX7_takeByte h x0 x1 = some o) : Le h o.2 := by
  obtain ⟨r_1, er_1, hE⟩ := cl_e hE
  obtain ⟨o_2, eo_2, hE⟩ := cl_e hE
  refine (moX9_byteAt eo_2).tr ?_
  rcases br_e hE with ⟨_, hE⟩ | ⟨_, hE⟩
  · obtain ⟨h_4, eh_4, hE⟩ := nm_e2 hE
    refine (le_I eh_4).tr ?_
    exact le_some2 hE
  · exact le_some2 hE
set_option maxRecDepth 20000 in
theorem ct_X7_takeByte (l : Launch) (X : Ec) {h : Hp} {x0 : Nat} {x1 : Int32} {o : Int32 × Hp} (k_x0 : hK h x0 = 7) (hE : sX7_takeByte h x0 x1 = some o) : MetI l yX7_takeByte cX7_takeByte 2 (some .boolean) 1 21 X [.ref x0, .int x1] h o := by
  refine x_met (by decide) (Nat.le_of_ble_eq_true rfl) ?_
  intro p e s m below meth c ls C hl hW hZ
  have hl : lv_has ls 2 [(0, .ref x0), (1, .int x1)] := hl
  have hkm : Km h h := Km.rf h
  refine lv_aload_n C.1 C.2.1 dX7_takeByte_0 rfl (lv_at hl 0 rfl) ?_
  obtain ⟨r_1, er_1, hE⟩ := cl_e hE
  refine gf_X7_15 C hW k_x0 er_1 dX7_takeByte_1 (fun k_r_1 => ?_)
  refine lv_aload_n C.1 C.2.1 dX7_takeByte_4 rfl (lv_at hl 0 rfl) ?_
  refine gf_X7_19 C hW k_x0 dX7_takeByte_5 ?_
  obtain ⟨o_2, eo_2, hE⟩ := cl_e hE
  refine x_kI (o := o_2) (z_runV (As := [.int (hI h x0 2)]) (rest := []) C (ct_X9_byteAt l X k_r_1 eo_2) cw_X7_54 hW hZ k_r_1 (by decide) rfl rfl rfl hl.1 (Nat.le_of_ble_eq_true rfl) rfl dX7_takeByte_8 ⟨Nat.le_of_ble_eq_true rfl, Nat.le_of_ble_eq_true rfl⟩ ⟨Nat.le_refl _, Nat.le_refl _⟩) hZ (fun _ _ hW km hZ => ?_)
  replace hkm := hkm.tr km
  replace k_x0 := km.at k_x0 (by decide)
  refine lv_iload_n C.1 C.2.1 dX7_takeByte_11 rfl (lv_at hl 1 rfl) ?_
  refine lv_icmp_eq (tgt := 17) C.1 C.2.1 dX7_takeByte_12 (by decide) (fun c_3 => ?_) (fun c_3 => ?_)
  · have hE := br_p hE c_3
    refine lv_aload_n C.1 C.2.1 dX7_takeByte_17 rfl (lv_at hl 0 rfl) ?_
    refine lv_dup C.1 C.2.1 dX7_takeByte_18 rfl ?_
    refine gf_X7_19 C hW k_x0 dX7_takeByte_19 ?_
    refine lv_iconst (v := (1 : Int32)) C.1 C.2.1 dX7_takeByte_22 (by decide) ?_
    refine lv_iadd C.1 C.2.1 dX7_takeByte_23 ?_
    obtain ⟨h_4, eh_4, hE⟩ := nm_e2 hE
    refine pf_X7_19 C hW hZ k_x0 eh_4 dX7_takeByte_24 (fun _ _ hW km hZ => ?_)
    replace hkm := hkm.tr km
    replace k_x0 := km.at k_x0 (by decide)
    refine lv_iconst (v := (1 : Int32)) C.1 C.2.1 dX7_takeByte_27 (by decide) ?_
    exact x_iret C rfl (by decide) hW hZ hkm hE dX7_takeByte_28
  · have hE := br_n hE c_3
    refine lv_iconst (v := (0 : Int32)) C.1 C.2.1 dX7_takeByte_15 (by decide) ?_
    exact x_iret C rfl (by decide) hW hZ hkm hE dX7_takeByte_16
set_option maxRecDepth 100000 in
theorem ms_32 : Cond.selects RX7 yX7_takeByte yX7_takeByte ∈ W0 := w0_in (List.mem_append_left _ (List.mem_of_getElem? (i := 32) rfl)) rfl
set_option maxRecDepth 100000 in
theorem m_10 : Cond.initialized RX7 ∈ W0 := w0_in (List.mem_append_right _ (List.mem_of_getElem? (i := 10) rfl)) rfl
set_option maxRecDepth 100000 in
theorem m_62 : Cond.fieldLink RX7 65 (TX1 0).1 (TX1 0).2.1 (TX1 0).2.2.1 ∈ W0 := w0_in (List.mem_append_right _ (List.mem_of_getElem? (i := 62) rfl)) rfl
set_option maxRecDepth 100000 in
theorem m_68 : Cond.fieldLink RX7 60 (TX1 1).1 (TX1 1).2.1 (TX1 1).2.2.1 ∈ W0 := w0_in (List.mem_append_right _ (List.mem_of_getElem? (i := 68) rfl)) rfl
set_option maxRecDepth 100000 in
theorem m_89 : Cond.fieldLink RX7 71 (TX1 4).1 (TX1 4).2.1 (TX1 4).2.2.1 ∈ W0 := w0_in (List.mem_append_right _ (List.mem_of_getElem? (i := 89) rfl)) rfl
set_option maxRecDepth 100000 in
theorem m_951 : Cond.methodLink RX7 32 yX7_takeByte ∈ W0 := w0_in (List.mem_append_right _ (List.mem_of_getElem? (i := 951) rfl)) rfl
set_option maxRecDepth 100000 in
theorem m_953 : Cond.instanceMethod yX7_takeByte ∈ W0 := w0_in (List.mem_append_right _ (List.mem_of_getElem? (i := 953) rfl)) rfl
set_option maxRecDepth 100000 in
theorem m_954 : Cond.code yX7_takeByte cX7_takeByte 2 (some .boolean) ∈ W0 := w0_in (List.mem_append_right _ (List.mem_of_getElem? (i := 954) rfl)) rfl
set_option maxRecDepth 100000 in
theorem m_956 : Cond.methodLink RX7 68 yX1_codeOf ∈ W0 := w0_in (List.mem_append_right _ (List.mem_of_getElem? (i := 956) rfl)) rfl
set_option maxRecDepth 100000 in
theorem m_957 : Cond.instanceMethod yX1_codeOf ∈ W0 := w0_in (List.mem_append_right _ (List.mem_of_getElem? (i := 957) rfl)) rfl
set_option maxRecDepth 100000 in
theorem m_958 : Cond.selects RX1 yX1_codeOf yX1_codeOf ∈ W0 := w0_in (List.mem_append_right _ (List.mem_of_getElem? (i := 958) rfl)) rfl
set_option maxRecDepth 100000 in
theorem m_959 : Cond.code yX1_codeOf cX1_codeOf 4 (some .int) ∈ W0 := w0_in (List.mem_append_right _ (List.mem_of_getElem? (i := 959) rfl)) rfl
section
variable {p : Program} {l : Launch} {e : Env} {R : Room} {s : State} {m : MethodId} {args : Array Value} {below : List Frame} {meth : Method} {c : Code} {H : Heap} {locs : List Loc} {cells slots : Nat} {Q : State → Prop}
variable {cc : ByteArray} {pc : Nat} {ls : Array Slot} {rest : List Value} {X : Ec} {h h1 : Hp} {nL : Nat} {rt : Option FieldType} {mn : String}
theorem gf_X7_9 {a r : Nat} (C : Cx X p s m args meth c RX7 cc nL rt mn) (hW : Wx X h H) (ha : hK h a = 7) (hr : hR h a 0 = some r) (hdg : decode cc pc = .ok (.getfield 9, 3)) (kk : hK h r = 1 → W p l e R s m args below meth c H locs cells slots Q (F0 m (pc + 3) ls (.ref r :: rest))) : W p l e R s m args below meth c H locs cells slots Q (F0 m pc ls (.ref a :: rest)) :=
  y_getr C hW ha i_X7 (by decide) rfl (by decide) m_382 rfl rfl hr hdg kk
theorem gf_X7_65 {a : Nat} (C : Cx X p s m args meth c RX7 cc nL rt mn) (hW : Wx X h H) (ha : hK h a = 1) (hdg : decode cc pc = .ok (.getfield 65, 3)) (kk : W p l e R s m args below meth c H locs cells slots Q (F0 m (pc + 3) ls (.int (hI h a 0) :: rest))) : W p l e R s m args below meth c H locs cells slots Q (F0 m pc ls (.ref a :: rest)) :=
  y_geti C hW ha i_X1 (by decide) rfl (by decide) m_62 rfl hdg kk
theorem gf_X7_71 {a : Nat} (C : Cx X p s m args meth c RX7 cc nL rt mn) (hW : Wx X h H) (ha : hK h a = 1) (hdg : decode cc pc = .ok (.getfield 71, 3)) (kk : W p l e R s m args below meth c H locs cells slots Q (F0 m (pc + 3) ls (.int (hI h a 4) :: rest))) : W p l e R s m args below meth c H locs cells slots Q (F0 m pc ls (.ref a :: rest)) :=
  y_geti C hW ha i_X1 (by decide) rfl (by decide) m_89 rfl hdg kk
theorem gf_X7_60 {a : Nat} (C : Cx X p s m args meth c RX7 cc nL rt mn) (hW : Wx X h H) (ha : hK h a = 1) (hdg : decode cc pc = .ok (.getfield 60, 3)) (kk : W p l e R s m args below meth c H locs cells slots Q (F0 m (pc + 3) ls (.int (hI h a 1) :: rest))) : W p l e R s m args below meth c H locs cells slots Q (F0 m pc ls (.ref a :: rest)) :=
  y_geti C hW ha i_X1 (by decide) rfl (by decide) m_68 rfl hdg kk
end
theorem cw_X7_68 : cwd RX7 68 yX1_codeOf cX1_codeOf 4 (some .int) false 1 := ⟨m_959, m_956, m_4, ⟨m_957, m_958⟩, by decide, by decide, by decide +kernel⟩
theorem cw_X7_32 : cwd RX7 32 yX7_takeByte cX7_takeByte 2 (some .boolean) false 1 := ⟨m_954, m_951, m_10, ⟨m_953, ms_32⟩, by decide, by decide, by decide +kernel⟩
theorem dX7_readRanks_0 : decode cX7_readRanks 0 = .ok (.aload_n 0, 1) := by decide +kernel
theorem dX7_readRanks_1 : decode cX7_readRanks 1 = .ok (.getfield 9, 3) := by decide +kernel
theorem dX7_readRanks_4 : decode cX7_readRanks 4 = .ok (.getfield 60, 3) := by decide +kernel
theorem dX7_readRanks_7 : decode cX7_readRanks 7 = .ok (.iconst 1, 1) := by decide +kernel
theorem dX7_readRanks_8 : decode cX7_readRanks 8 = .ok (.isub, 1) := by decide +kernel
theorem dX7_readRanks_9 : decode cX7_readRanks 9 = .ok (.istore_n 2, 1) := by decide +kernel
theorem dX7_readRanks_10 : decode cX7_readRanks 10 = .ok (.iload_n 2, 1) := by decide +kernel
theorem dX7_readRanks_11 : decode cX7_readRanks 11 = .ok (.ifCond .lt 180, 3) := by decide +kernel
theorem dX7_readRanks_14 : decode cX7_readRanks 14 = .ok (.iload_n 2, 1) := by decide +kernel
theorem dX7_readRanks_15 : decode cX7_readRanks 15 = .ok (.aload_n 0, 1) := by decide +kernel
theorem dX7_readRanks_16 : decode cX7_readRanks 16 = .ok (.getfield 9, 3) := by decide +kernel
theorem dX7_readRanks_19 : decode cX7_readRanks 19 = .ok (.getfield 60, 3) := by decide +kernel
theorem dX7_readRanks_22 : decode cX7_readRanks 22 = .ok (.iconst 1, 1) := by decide +kernel
theorem dX7_readRanks_23 : decode cX7_readRanks 23 = .ok (.isub, 1) := by decide +kernel
theorem dX7_readRanks_24 : decode cX7_readRanks 24 = .ok (.if_icmp .ge 14, 3) := by decide +kernel
theorem dX7_readRanks_27 : decode cX7_readRanks 27 = .ok (.aload_n 0, 1) := by decide +kernel
theorem dX7_readRanks_28 : decode cX7_readRanks 28 = .ok (.bipush 47, 2) := by decide +kernel
theorem dX7_readRanks_30 : decode cX7_readRanks 30 = .ok (.invokevirtual 32, 3) := by decide +kernel
theorem dX7_readRanks_33 : decode cX7_readRanks 33 = .ok (.ifCond .ne 5, 3) := by decide +kernel
theorem dX7_readRanks_36 : decode cX7_readRanks 36 = .ok (.iconst 0, 1) := by decide +kernel
theorem dX7_readRanks_37 : decode cX7_readRanks 37 = .ok (.ireturn, 1) := by decide +kernel
theorem dX7_readRanks_38 : decode cX7_readRanks 38 = .ok (.iconst 0, 1) := by decide +kernel
theorem dX7_readRanks_39 : decode cX7_readRanks 39 = .ok (.istore_n 3, 1) := by decide +kernel
theorem dX7_readRanks_40 : decode cX7_readRanks 40 = .ok (.iload_n 3, 1) := by decide +kernel
theorem dX7_readRanks_41 : decode cX7_readRanks 41 = .ok (.aload_n 0, 1) := by decide +kernel
theorem dX7_readRanks_42 : decode cX7_readRanks 42 = .ok (.getfield 9, 3) := by decide +kernel
theorem dX7_readRanks_45 : decode cX7_readRanks 45 = .ok (.getfield 65, 3) := by decide +kernel
theorem dX7_readRanks_48 : decode cX7_readRanks 48 = .ok (.if_icmp .ge 137, 3) := by decide +kernel
theorem dX7_readRanks_51 : decode cX7_readRanks 51 = .ok (.aload_n 0, 1) := by decide +kernel
theorem dX7_readRanks_52 : decode cX7_readRanks 52 = .ok (.getfield 15, 3) := by decide +kernel
theorem dX7_readRanks_55 : decode cX7_readRanks 55 = .ok (.aload_n 0, 1) := by decide +kernel
theorem dX7_readRanks_56 : decode cX7_readRanks 56 = .ok (.getfield 19, 3) := by decide +kernel
theorem dX7_readRanks_59 : decode cX7_readRanks 59 = .ok (.invokevirtual 54, 3) := by decide +kernel
theorem dX7_readRanks_62 : decode cX7_readRanks 62 = .ok (.istore 4, 2) := by decide +kernel
theorem dX7_readRanks_64 : decode cX7_readRanks 64 = .ok (.aload_n 0, 1) := by decide +kernel
theorem dX7_readRanks_65 : decode cX7_readRanks 65 = .ok (.getfield 9, 3) := by decide +kernel
theorem dX7_readRanks_68 : decode cX7_readRanks 68 = .ok (.iload 4, 2) := by decide +kernel
theorem dX7_readRanks_70 : decode cX7_readRanks 70 = .ok (.invokevirtual 68, 3) := by decide +kernel
theorem dX7_readRanks_73 : decode cX7_readRanks 73 = .ok (.istore 5, 2) := by decide +kernel
theorem dX7_readRanks_75 : decode cX7_readRanks 75 = .ok (.iload 4, 2) := by decide +kernel
theorem dX7_readRanks_77 : decode cX7_readRanks 77 = .ok (.bipush 49, 2) := by decide +kernel
theorem dX7_readRanks_79 : decode cX7_readRanks 79 = .ok (.if_icmp .lt 18, 3) := by decide +kernel
theorem dX7_readRanks_82 : decode cX7_readRanks 82 = .ok (.iload 4, 2) := by decide +kernel
theorem dX7_readRanks_84 : decode cX7_readRanks 84 = .ok (.bipush 56, 2) := by decide +kernel
theorem dX7_readRanks_86 : decode cX7_readRanks 86 = .ok (.if_icmp .gt 11, 3) := by decide +kernel
theorem dX7_readRanks_89 : decode cX7_readRanks 89 = .ok (.iload 4, 2) := by decide +kernel
theorem dX7_readRanks_91 : decode cX7_readRanks 91 = .ok (.bipush 48, 2) := by decide +kernel
theorem dX7_readRanks_93 : decode cX7_readRanks 93 = .ok (.isub, 1) := by decide +kernel
theorem dX7_readRanks_94 : decode cX7_readRanks 94 = .ok (.goto 4, 3) := by decide +kernel
theorem dX7_readRanks_97 : decode cX7_readRanks 97 = .ok (.iconst 0, 1) := by decide +kernel
theorem dX7_readRanks_98 : decode cX7_readRanks 98 = .ok (.istore 6, 2) := by decide +kernel
theorem dX7_readRanks_100 : decode cX7_readRanks 100 = .ok (.iload 5, 2) := by decide +kernel
theorem dX7_readRanks_102 : decode cX7_readRanks 102 = .ok (.iconst (-1), 1) := by decide +kernel
theorem dX7_readRanks_103 : decode cX7_readRanks 103 = .ok (.if_icmp .ne 24, 3) := by decide +kernel
theorem dX7_readRanks_106 : decode cX7_readRanks 106 = .ok (.iload 6, 2) := by decide +kernel
theorem dX7_readRanks_108 : decode cX7_readRanks 108 = .ok (.ifCond .eq 17, 3) := by decide +kernel
theorem dX7_readRanks_111 : decode cX7_readRanks 111 = .ok (.iload_n 3, 1) := by decide +kernel
theorem dX7_readRanks_112 : decode cX7_readRanks 112 = .ok (.iload 6, 2) := by decide +kernel
theorem dX7_readRanks_114 : decode cX7_readRanks 114 = .ok (.iadd, 1) := by decide +kernel
theorem dX7_readRanks_115 : decode cX7_readRanks 115 = .ok (.aload_n 0, 1) := by decide +kernel
theorem dX7_readRanks_116 : decode cX7_readRanks 116 = .ok (.getfield 9, 3) := by decide +kernel
theorem dX7_readRanks_119 : decode cX7_readRanks 119 = .ok (.getfield 65, 3) := by decide +kernel
theorem dX7_readRanks_122 : decode cX7_readRanks 122 = .ok (.if_icmp .le 5, 3) := by decide +kernel
theorem dX7_readRanks_125 : decode cX7_readRanks 125 = .ok (.iconst 0, 1) := by decide +kernel
theorem dX7_readRanks_126 : decode cX7_readRanks 126 = .ok (.ireturn, 1) := by decide +kernel
theorem dX7_readRanks_127 : decode cX7_readRanks 127 = .ok (.iload 5, 2) := by decide +kernel
theorem dX7_readRanks_129 : decode cX7_readRanks 129 = .ok (.iconst (-1), 1) := by decide +kernel
theorem dX7_readRanks_130 : decode cX7_readRanks 130 = .ok (.if_icmp .eq 27, 3) := by decide +kernel
theorem dX7_readRanks_133 : decode cX7_readRanks 133 = .ok (.aload_n 1, 1) := by decide +kernel
theorem dX7_readRanks_134 : decode cX7_readRanks 134 = .ok (.iload_n 2, 1) := by decide +kernel
theorem dX7_readRanks_135 : decode cX7_readRanks 135 = .ok (.aload_n 0, 1) := by decide +kernel
theorem dX7_readRanks_136 : decode cX7_readRanks 136 = .ok (.getfield 9, 3) := by decide +kernel
theorem dX7_readRanks_139 : decode cX7_readRanks 139 = .ok (.getfield 65, 3) := by decide +kernel
theorem dX7_readRanks_142 : decode cX7_readRanks 142 = .ok (.imul, 1) := by decide +kernel
theorem dX7_readRanks_143 : decode cX7_readRanks 143 = .ok (.iload_n 3, 1) := by decide +kernel
theorem dX7_readRanks_144 : decode cX7_readRanks 144 = .ok (.iadd, 1) := by decide +kernel
theorem dX7_readRanks_145 : decode cX7_readRanks 145 = .ok (.iload 5, 2) := by decide +kernel
theorem dX7_readRanks_147 : decode cX7_readRanks 147 = .ok (.aload_n 0, 1) := by decide +kernel
theorem dX7_readRanks_148 : decode cX7_readRanks 148 = .ok (.getfield 9, 3) := by decide +kernel
theorem dX7_readRanks_151 : decode cX7_readRanks 151 = .ok (.getfield 71, 3) := by decide +kernel
theorem dX7_readRanks_154 : decode cX7_readRanks 154 = .ok (.invokevirtual 74, 3) := by decide +kernel
theorem dX7_readRanks_157 : decode cX7_readRanks 157 = .ok (.iload_n 3, 1) := by decide +kernel
theorem dX7_readRanks_158 : decode cX7_readRanks 158 = .ok (.iload 5, 2) := by decide +kernel
theorem dX7_readRanks_160 : decode cX7_readRanks 160 = .ok (.iconst (-1), 1) := by decide +kernel
theorem dX7_readRanks_161 : decode cX7_readRanks 161 = .ok (.if_icmp .eq 7, 3) := by decide +kernel
theorem dX7_readRanks_164 : decode cX7_readRanks 164 = .ok (.iconst 1, 1) := by decide +kernel
theorem dX7_readRanks_165 : decode cX7_readRanks 165 = .ok (.goto 5, 3) := by decide +kernel
theorem dX7_readRanks_168 : decode cX7_readRanks 168 = .ok (.iload 6, 2) := by decide +kernel
theorem dX7_readRanks_170 : decode cX7_readRanks 170 = .ok (.iadd, 1) := by decide +kernel
theorem dX7_readRanks_171 : decode cX7_readRanks 171 = .ok (.istore_n 3, 1) := by decide +kernel
theorem dX7_readRanks_172 : decode cX7_readRanks 172 = .ok (.aload_n 0, 1) := by decide +kernel
theorem dX7_readRanks_173 : decode cX7_readRanks 173 = .ok (.dup, 1) := by decide +kernel
theorem dX7_readRanks_174 : decode cX7_readRanks 174 = .ok (.getfield 19, 3) := by decide +kernel
theorem dX7_readRanks_177 : decode cX7_readRanks 177 = .ok (.iconst 1, 1) := by decide +kernel
theorem dX7_readRanks_178 : decode cX7_readRanks 178 = .ok (.iadd, 1) := by decide +kernel
theorem dX7_readRanks_179 : decode cX7_readRanks 179 = .ok (.putfield 19, 3) := by decide +kernel
theorem dX7_readRanks_182 : decode cX7_readRanks 182 = .ok (.goto (-142), 3) := by decide +kernel
theorem dX7_readRanks_185 : decode cX7_readRanks 185 = .ok (.iinc 2 (-1), 3) := by decide +kernel
theorem dX7_readRanks_188 : decode cX7_readRanks 188 = .ok (.goto (-178), 3) := by decide +kernel
theorem dX7_readRanks_191 : decode cX7_readRanks 191 = .ok (.iconst 1, 1) := by decide +kernel
theorem dX7_readRanks_192 : decode cX7_readRanks 192 = .ok (.ireturn, 1) := by decide +kernel
set_option maxRecDepth 20000 in
theorem moX7_readRanks_170 {o : Int32 × Hp} {k_10 : Hp → Nat → Nat → Int32 → Option (Int32 × Hp)} {k_40 : Hp → Nat → Nat → Int32 → Int32 → Option (Int32 × Hp)} {F : Nat} (mk_10 : ∀ (h : Hp) (x0 : Nat) (x1 : Nat) (x2 : Int32), k_10 h x0 x1 x2 = some o → Le h o.2) (mk_40 : ∀ (h : Hp) (x0 : Nat) (x1 : Nat) (x2 : Int32) (x3 : Int32), k_40 h x0 x1 x2 x3 = some o → Le h o.2) {h : Hp} {x0 : Nat} {x1 : Nat} {x2 : Int32} {t0 : Int32} {t1 : Int32} (hE : sX7_readRanks_170 F k_10 k_40 h x0 x1 x2 t0 t1 = some o) : Le h o.2 := by
  obtain ⟨v_1, ev_1, hE⟩ := nm_e2 hE
  obtain ⟨h_2, eh_2, hE⟩ := nm_e2 hE
  refine (le_I eh_2).tr ?_
  exact mk_40 _ _ _ _ _ hE
set_option maxRecDepth 20000 in
theorem moX7_readRanks_157 {o : Int32 × Hp} {k_10 : Hp → Nat → Nat → Int32 → Option (Int32 × Hp)} {k_40 : Hp → Nat → Nat → Int32 → Int32 → Option (Int32 × Hp)} {F : Nat} (mk_10 : ∀ (h : Hp) (x0 : Nat) (x1 : Nat) (x2 : Int32), k_10 h x0 x1 x2 = some o → Le h o.2) (mk_40 : ∀ (h : Hp) (x0 : Nat) (x1 : Nat) (x2 : Int32) (x3 : Int32), k_40 h x0 x1 x2 x3 = some o → Le h o.2) {h : Hp} {x0 : Nat} {x1 : Nat} {x2 : Int32} {x3 : Int32} {x5 : Int32} {x6 : Int32} (hE : sX7_readRanks_157 F k_10 k_40 h x0 x1 x2 x3 x5 x6 = some o) : Le h o.2 := by
  rcases br_e hE with ⟨_, hE⟩ | ⟨_, hE⟩
  · exact moX7_readRanks_170 mk_10 mk_40 hE
  · exact moX7_readRanks_170 mk_10 mk_40 hE
set_option maxRecDepth 20000 in
theorem moX7_readRanks_127 {o : Int32 × Hp} {k_10 : Hp → Nat → Nat → Int32 → Option (Int32 × Hp)} {k_40 : Hp → Nat → Nat → Int32 → Int32 → Option (Int32 × Hp)} {F : Nat} (mk_10 : ∀ (h : Hp) (x0 : Nat) (x1 : Nat) (x2 : Int32), k_10 h x0 x1 x2 = some o → Le h o.2) (mk_40 : ∀ (h : Hp) (x0 : Nat) (x1 : Nat) (x2 : Int32) (x3 : Int32), k_40 h x0 x1 x2 x3 = some o → Le h o.2) {h : Hp} {x0 : Nat} {x1 : Nat} {x2 : Int32} {x3 : Int32} {x5 : Int32} {x6 : Int32} (hE : sX7_readRanks_127 F k_10 k_40 h x0 x1 x2 x3 x5 x6 = some o) : Le h o.2 := by
  rcases br_e hE with ⟨_, hE⟩ | ⟨_, hE⟩
  · exact moX7_readRanks_157 mk_10 mk_40 hE
  · obtain ⟨r_2, er_2, hE⟩ := cl_e hE
    obtain ⟨r_3, er_3, hE⟩ := cl_e hE
    cases hE
set_option maxRecDepth 20000 in
theorem moX7_readRanks_125 {o : Int32 × Hp} {F : Nat} {h : Hp} (hE : sX7_readRanks_125 F h  = some o) : Le h o.2 := by
  exact le_some2 hE
set_option maxRecDepth 20000 in
theorem moX7_readRanks_98 {o : Int32 × Hp} {k_10 : Hp → Nat → Nat → Int32 → Option (Int32 × Hp)} {k_40 : Hp → Nat → Nat → Int32 → Int32 → Option (Int32 × Hp)} {F : Nat} (mk_10 : ∀ (h : Hp) (x0 : Nat) (x1 : Nat) (x2 : Int32), k_10 h x0 x1 x2 = some o → Le h o.2) (mk_40 : ∀ (h : Hp) (x0 : Nat) (x1 : Nat) (x2 : Int32) (x3 : Int32), k_40 h x0 x1 x2 x3 = some o → Le h o.2) {h : Hp} {x0 : Nat} {x1 : Nat} {x2 : Int32} {x3 : Int32} {x5 : Int32} {t0 : Int32} (hE : sX7_readRanks_98 F k_10 k_40 h x0 x1 x2 x3 x5 t0 = some o) : Le h o.2 := by
  rcases br_e hE with ⟨_, hE⟩ | ⟨_, hE⟩
  · rcases br_e hE with ⟨_, hE⟩ | ⟨_, hE⟩
    · exact moX7_readRanks_125 hE
    · obtain ⟨r_3, er_3, hE⟩ := cl_e hE
      rcases br_e hE with ⟨_, hE⟩ | ⟨_, hE⟩
      · exact moX7_readRanks_127 mk_10 mk_40 hE
      · exact moX7_readRanks_125 hE
  · exact moX7_readRanks_127 mk_10 mk_40 hE
set_option maxRecDepth 20000 in
theorem moX7_readRanks_97 {o : Int32 × Hp} {k_10 : Hp → Nat → Nat → Int32 → Option (Int32 × Hp)} {k_40 : Hp → Nat → Nat → Int32 → Int32 → Option (Int32 × Hp)} {F : Nat} (mk_10 : ∀ (h : Hp) (x0 : Nat) (x1 : Nat) (x2 : Int32), k_10 h x0 x1 x2 = some o → Le h o.2) (mk_40 : ∀ (h : Hp) (x0 : Nat) (x1 : Nat) (x2 : Int32) (x3 : Int32), k_40 h x0 x1 x2 x3 = some o → Le h o.2) {h : Hp} {x0 : Nat} {x1 : Nat} {x2 : Int32} {x3 : Int32} {x5 : Int32} (hE : sX7_readRanks_97 F k_10 k_40 h x0 x1 x2 x3 x5 = some o) : Le h o.2 := by
  exact moX7_readRanks_98 mk_10 mk_40 hE
set_option maxRecDepth 20000 in
theorem moX7_readRanks_40 {o : Int32 × Hp} {k_10 : Hp → Nat → Nat → Int32 → Option (Int32 × Hp)} {F : Nat} (mk_10 : ∀ (h : Hp) (x0 : Nat) (x1 : Nat) (x2 : Int32), k_10 h x0 x1 x2 = some o → Le h o.2) : ∀ (f : Nat) {h : Hp} {x0 : Nat} {x1 : Nat} {x2 : Int32} {x3 : Int32}, sX7_readRanks_40 F k_10 f h x0 x1 x2 x3 = some o → Le h o.2 := by
  intro f
  induction f with
  | zero =>
    intro h x0 x1 x2 x3 hE
    rw [sX7_readRanks_40] at hE
    cases hE
  | succ f ih =>
    intro h x0 x1 x2 x3 hE
    rw [sX7_readRanks_40] at hE
    have mk_40 : ∀ (h : Hp) (x0 : Nat) (x1 : Nat) (x2 : Int32) (x3 : Int32), sX7_readRanks_40 F k_10 f h x0 x1 x2 x3 = some o → Le h o.2 := fun h x0 x1 x2 x3 hE => ih hE
    obtain ⟨r_1, er_1, hE⟩ := cl_e hE
    rcases br_e hE with ⟨_, hE⟩ | ⟨_, hE⟩
    · obtain ⟨v_3, ev_3, hE⟩ := nm_e2 hE
      exact mk_10 _ _ _ _ hE
    · obtain ⟨r_4, er_4, hE⟩ := cl_e hE
      obtain ⟨o_5, eo_5, hE⟩ := cl_e hE
      refine (moX9_byteAt eo_5).tr ?_
      obtain ⟨r_6, er_6, hE⟩ := cl_e hE
      obtain ⟨o_7, eo_7, hE⟩ := cl_e hE
      refine (moX1_codeOf eo_7).tr ?_
      rcases br_e hE with ⟨_, hE⟩ | ⟨_, hE⟩
      · exact moX7_readRanks_97 mk_10 mk_40 hE
      · rcases br_e hE with ⟨_, hE⟩ | ⟨_, hE⟩
        · exact moX7_readRanks_97 mk_10 mk_40 hE
        · exact moX7_readRanks_98 mk_10 mk_40 hE
set_option maxRecDepth 20000 in
theorem moX7_readRanks_38 {o : Int32 × Hp} {k_10 : Hp → Nat → Nat → Int32 → Option (Int32 × Hp)} {F : Nat} (mk_10 : ∀ (h : Hp) (x0 : Nat) (x1 : Nat) (x2 : Int32), k_10 h x0 x1 x2 = some o → Le h o.2) {h : Hp} {x0 : Nat} {x1 : Nat} {x2 : Int32} (hE : sX7_readRanks_38 F k_10 h x0 x1 x2 = some o) : Le h o.2 := by
  exact moX7_readRanks_40 mk_10 _ hE
set_option maxRecDepth 20000 in
theorem moX7_readRanks_10 {o : Int32 × Hp} {F : Nat} : ∀ (f : Nat) {h : Hp} {x0 : Nat} {x1 : Nat} {x2 : Int32}, sX7_readRanks_10 F f h x0 x1 x2 = some o → Le h o.2 := by
  intro f
  induction f with
  | zero =>
    intro h x0 x1 x2 hE
    rw [sX7_readRanks_10] at hE
    cases hE
  | succ f ih =>
    intro h x0 x1 x2 hE
    rw [sX7_readRanks_10] at hE
    have mk_10 : ∀ (h : Hp) (x0 : Nat) (x1 : Nat) (x2 : Int32), sX7_readRanks_10 F f h x0 x1 x2 = some o → Le h o.2 := fun h x0 x1 x2 hE => ih hE
    rcases br_e hE with ⟨_, hE⟩ | ⟨_, hE⟩
    · exact le_some2 hE
    · obtain ⟨r_2, er_2, hE⟩ := cl_e hE
      rcases br_e hE with ⟨_, hE⟩ | ⟨_, hE⟩
      · exact moX7_readRanks_38 mk_10 hE
      · obtain ⟨o_4, eo_4, hE⟩ := cl_e hE
        refine (moX7_takeByte eo_4).tr ?_
        rcases br_e hE with ⟨_, hE⟩ | ⟨_, hE⟩
        · exact le_some2 hE
        · exact moX7_readRanks_38 mk_10 hE
set_option maxRecDepth 20000 in
theorem moX7_readRanks {o : Int32 × Hp} {F : Nat} {h : Hp} {x0 : Nat} {x1 : Nat} (hE : sX7_readRanks F h x0 x1 = some o) : Le h o.2 := by
  obtain ⟨r_1, er_1, hE⟩ := cl_e hE
  obtain ⟨v_2, ev_2, hE⟩ := nm_e2 hE
  exact moX7_readRanks_10 _ hE
set_option maxRecDepth 20000 in
theorem bX7_readRanks_170 {p : Program} {l : Launch} {e : Env} {s : State} {m : MethodId} {args : Array Value} {below : List Frame} {meth : Method} {c : Code} {X : Ec} {h0 : Hp} {o : Int32 × Hp} {k_10 : Hp → Nat → Nat → Int32 → Option (Int32 × Hp)} {k_40 : Hp → Nat → Nat → Int32 → Int32 → Option (Int32 × Hp)} {F : Nat} (C : Cx X p s m args meth c RX7 cX7_readRanks 7 (some .boolean) "readRanks") (hk_10 : ∀ (h : Hp) (x0 : Nat) (x1 : Nat) (x2 : Int32) (H : Heap) (locs : List Loc), hK h x0 = 7 → hK h x1 = 3 → Km h0 h → Wx X h H → va_S (aA (eB X)) s.heap H locs → ∀ (ls : Array Slot), lv_has ls 7 [(0, .ref x0), (1, .ref x1), (2, .int x2)] → k_10 h x0 x1 x2 = some o → W p l e (rm 2 45) s m args below meth c H locs 0 0 (MQ below (QI X h0 o.1 o.2) args s 0 0 (aA (eB X))) (F0 m 10 ls [])) (hk_40 : ∀ (h : Hp) (x0 : Nat) (x1 : Nat) (x2 : Int32) (x3 : Int32) (H : Heap) (locs : List Loc), hK h x0 = 7 → hK h x1 = 3 → Km h0 h → Wx X h H → va_S (aA (eB X)) s.heap H locs → ∀ (ls : Array Slot), lv_has ls 7 [(0, .ref x0), (1, .ref x1), (2, .int x2), (3, .int x3)] → k_40 h x0 x1 x2 x3 = some o → W p l e (rm 2 45) s m args below meth c H locs 0 0 (MQ below (QI X h0 o.1 o.2) args s 0 0 (aA (eB X))) (F0 m 40 ls [])) {h : Hp} {x0 : Nat} {x1 : Nat} {x2 : Int32} {t0 : Int32} {t1 : Int32} {H : Heap} {locs : List Loc} (k_x0 : hK h x0 = 7) (k_x1 : hK h x1 = 3) (hkm : Km h0 h) (hW : Wx X h H) (hZ : va_S (aA (eB X)) s.heap H locs) (ls : Array Slot) (hl : lv_has ls 7 [(0, .ref x0), (1, .ref x1), (2, .int x2)]) (hE : sX7_readRanks_170 F k_10 k_40 h x0 x1 x2 t0 t1 = some o) : W p l e (rm 2 45) s m args below meth c H locs 0 0 (MQ below (QI X h0 o.1 o.2) args s 0 0 (aA (eB X))) (F0 m 170 ls [.int t0, .int t1]) := by
  refine lv_iadd C.1 C.2.1 dX7_readRanks_170 ?_
  obtain ⟨v_1, ev_1, hE⟩ := nm_e2 hE
  refine x_nmI ev_1 ?_
  refine lv_istore_n (lv' := [(3, .int v_1), (0, .ref x0), (1, .ref x1), (2, .int x2)]) C.1 C.2.1 dX7_readRanks_171 rfl hl (by decide) rfl (fun ls hl => ?_)
  refine lv_aload_n C.1 C.2.1 dX7_readRanks_172 rfl (lv_at hl 1 rfl) ?_
  refine lv_dup C.1 C.2.1 dX7_readRanks_173 rfl ?_
  refine gf_X7_19 C hW k_x0 dX7_readRanks_174 ?_
  refine lv_iconst (v := (1 : Int32)) C.1 C.2.1 dX7_readRanks_177 (by decide) ?_
  refine lv_iadd C.1 C.2.1 dX7_readRanks_178 ?_
  obtain ⟨h_2, eh_2, hE⟩ := nm_e2 hE
  refine pf_X7_19 C hW hZ k_x0 eh_2 dX7_readRanks_179 (fun _ _ hW km hZ => ?_)
  replace hkm := hkm.tr km
  replace k_x0 := km.at k_x0 (by decide)
  replace k_x1 := km.at k_x1 (by decide)
  refine lv_goto (tgt := 40) C.1 C.2.1 dX7_readRanks_182 (by decide) ?_
  exact hk_40 _ _ _ _ _ _ _ k_x0 k_x1 hkm hW hZ _ (lv_sub hl [1, 2, 3, 0] rfl) hE
set_option maxRecDepth 20000 in
theorem bX7_readRanks_157 {p : Program} {l : Launch} {e : Env} {s : State} {m : MethodId} {args : Array Value} {below : List Frame} {meth : Method} {c : Code} {X : Ec} {h0 : Hp} {o : Int32 × Hp} {k_10 : Hp → Nat → Nat → Int32 → Option (Int32 × Hp)} {k_40 : Hp → Nat → Nat → Int32 → Int32 → Option (Int32 × Hp)} {F : Nat} (C : Cx X p s m args meth c RX7 cX7_readRanks 7 (some .boolean) "readRanks") (hk_10 : ∀ (h : Hp) (x0 : Nat) (x1 : Nat) (x2 : Int32) (H : Heap) (locs : List Loc), hK h x0 = 7 → hK h x1 = 3 → Km h0 h → Wx X h H → va_S (aA (eB X)) s.heap H locs → ∀ (ls : Array Slot), lv_has ls 7 [(0, .ref x0), (1, .ref x1), (2, .int x2)] → k_10 h x0 x1 x2 = some o → W p l e (rm 2 45) s m args below meth c H locs 0 0 (MQ below (QI X h0 o.1 o.2) args s 0 0 (aA (eB X))) (F0 m 10 ls [])) (hk_40 : ∀ (h : Hp) (x0 : Nat) (x1 : Nat) (x2 : Int32) (x3 : Int32) (H : Heap) (locs : List Loc), hK h x0 = 7 → hK h x1 = 3 → Km h0 h → Wx X h H → va_S (aA (eB X)) s.heap H locs → ∀ (ls : Array Slot), lv_has ls 7 [(0, .ref x0), (1, .ref x1), (2, .int x2), (3, .int x3)] → k_40 h x0 x1 x2 x3 = some o → W p l e (rm 2 45) s m args below meth c H locs 0 0 (MQ below (QI X h0 o.1 o.2) args s 0 0 (aA (eB X))) (F0 m 40 ls [])) {h : Hp} {x0 : Nat} {x1 : Nat} {x2 : Int32} {x3 : Int32} {x5 : Int32} {x6 : Int32} {H : Heap} {locs : List Loc} (k_x0 : hK h x0 = 7) (k_x1 : hK h x1 = 3) (hkm : Km h0 h) (hW : Wx X h H) (hZ : va_S (aA (eB X)) s.heap H locs) (ls : Array Slot) (hl : lv_has ls 7 [(0, .ref x0), (1, .ref x1), (2, .int x2), (3, .int x3), (5, .int x5), (6, .int x6)]) (hE : sX7_readRanks_157 F k_10 k_40 h x0 x1 x2 x3 x5 x6 = some o) : W p l e (rm 2 45) s m args below meth c H locs 0 0 (MQ below (QI X h0 o.1 o.2) args s 0 0 (aA (eB X))) (F0 m 157 ls []) := by
  refine lv_iload_n C.1 C.2.1 dX7_readRanks_157 rfl (lv_at hl 3 rfl) ?_
  refine lv_iload C.1 C.2.1 dX7_readRanks_158 (lv_at hl 4 rfl) ?_
  refine lv_iconst (v := (-1 : Int32)) C.1 C.2.1 dX7_readRanks_160 (by decide) ?_
  refine lv_icmp_eq (tgt := 168) C.1 C.2.1 dX7_readRanks_161 (by decide) (fun c_1 => ?_) (fun c_1 => ?_)
  · have hE := br_p hE c_1
    refine lv_iload C.1 C.2.1 dX7_readRanks_168 (lv_at hl 5 rfl) ?_
    exact bX7_readRanks_170 C hk_10 hk_40 k_x0 k_x1 hkm hW hZ _ (lv_sub hl [0, 1, 2] rfl) hE
  · have hE := br_n hE c_1
    refine lv_iconst (v := (1 : Int32)) C.1 C.2.1 dX7_readRanks_164 (by decide) ?_
    refine lv_goto (tgt := 170) C.1 C.2.1 dX7_readRanks_165 (by decide) ?_
    exact bX7_readRanks_170 C hk_10 hk_40 k_x0 k_x1 hkm hW hZ _ (lv_sub hl [0, 1, 2] rfl) hE
set_option maxRecDepth 20000 in
theorem bX7_readRanks_127 {p : Program} {l : Launch} {e : Env} {s : State} {m : MethodId} {args : Array Value} {below : List Frame} {meth : Method} {c : Code} {X : Ec} {h0 : Hp} {o : Int32 × Hp} {k_10 : Hp → Nat → Nat → Int32 → Option (Int32 × Hp)} {k_40 : Hp → Nat → Nat → Int32 → Int32 → Option (Int32 × Hp)} {F : Nat} (C : Cx X p s m args meth c RX7 cX7_readRanks 7 (some .boolean) "readRanks") (hk_10 : ∀ (h : Hp) (x0 : Nat) (x1 : Nat) (x2 : Int32) (H : Heap) (locs : List Loc), hK h x0 = 7 → hK h x1 = 3 → Km h0 h → Wx X h H → va_S (aA (eB X)) s.heap H locs → ∀ (ls : Array Slot), lv_has ls 7 [(0, .ref x0), (1, .ref x1), (2, .int x2)] → k_10 h x0 x1 x2 = some o → W p l e (rm 2 45) s m args below meth c H locs 0 0 (MQ below (QI X h0 o.1 o.2) args s 0 0 (aA (eB X))) (F0 m 10 ls [])) (hk_40 : ∀ (h : Hp) (x0 : Nat) (x1 : Nat) (x2 : Int32) (x3 : Int32) (H : Heap) (locs : List Loc), hK h x0 = 7 → hK h x1 = 3 → Km h0 h → Wx X h H → va_S (aA (eB X)) s.heap H locs → ∀ (ls : Array Slot), lv_has ls 7 [(0, .ref x0), (1, .ref x1), (2, .int x2), (3, .int x3)] → k_40 h x0 x1 x2 x3 = some o → W p l e (rm 2 45) s m args below meth c H locs 0 0 (MQ below (QI X h0 o.1 o.2) args s 0 0 (aA (eB X))) (F0 m 40 ls [])) {h : Hp} {x0 : Nat} {x1 : Nat} {x2 : Int32} {x3 : Int32} {x5 : Int32} {x6 : Int32} {H : Heap} {locs : List Loc} (k_x0 : hK h x0 = 7) (k_x1 : hK h x1 = 3) (hkm : Km h0 h) (hW : Wx X h H) (hZ : va_S (aA (eB X)) s.heap H locs) (ls : Array Slot) (hl : lv_has ls 7 [(0, .ref x0), (1, .ref x1), (2, .int x2), (3, .int x3), (5, .int x5), (6, .int x6)]) (hE : sX7_readRanks_127 F k_10 k_40 h x0 x1 x2 x3 x5 x6 = some o) : W p l e (rm 2 45) s m args below meth c H locs 0 0 (MQ below (QI X h0 o.1 o.2) args s 0 0 (aA (eB X))) (F0 m 127 ls []) := by
  refine lv_iload C.1 C.2.1 dX7_readRanks_127 (lv_at hl 4 rfl) ?_
  refine lv_iconst (v := (-1 : Int32)) C.1 C.2.1 dX7_readRanks_129 (by decide) ?_
  refine lv_icmp_eq (tgt := 157) C.1 C.2.1 dX7_readRanks_130 (by decide) (fun c_1 => ?_) (fun c_1 => ?_)
  · have hE := br_p hE c_1
    exact bX7_readRanks_157 C hk_10 hk_40 k_x0 k_x1 hkm hW hZ _ (lv_sub hl [0, 1, 2, 3, 4, 5] rfl) hE
  · have hE := br_n hE c_1
    refine lv_aload_n C.1 C.2.1 dX7_readRanks_133 rfl (lv_at hl 1 rfl) ?_
    refine lv_iload_n C.1 C.2.1 dX7_readRanks_134 rfl (lv_at hl 2 rfl) ?_
    refine lv_aload_n C.1 C.2.1 dX7_readRanks_135 rfl (lv_at hl 0 rfl) ?_
    obtain ⟨r_2, er_2, hE⟩ := cl_e hE
    refine gf_X7_9 C hW k_x0 er_2 dX7_readRanks_136 (fun k_r_2 => ?_)
    refine gf_X7_65 C hW k_r_2 dX7_readRanks_139 ?_
    refine lv_imul C.1 C.2.1 dX7_readRanks_142 ?_
    refine lv_iload_n C.1 C.2.1 dX7_readRanks_143 rfl (lv_at hl 3 rfl) ?_
    refine lv_iadd C.1 C.2.1 dX7_readRanks_144 ?_
    refine lv_iload C.1 C.2.1 dX7_readRanks_145 (lv_at hl 4 rfl) ?_
    refine lv_aload_n C.1 C.2.1 dX7_readRanks_147 rfl (lv_at hl 0 rfl) ?_
    obtain ⟨r_3, er_3, hE⟩ := cl_e hE
    refine gf_X7_9 C hW k_x0 er_3 dX7_readRanks_148 (fun k_r_3 => ?_)
    refine gf_X7_71 C hW k_r_3 dX7_readRanks_151 ?_
    cases hE
set_option maxRecDepth 20000 in
theorem bX7_readRanks_125 {p : Program} {l : Launch} {e : Env} {s : State} {m : MethodId} {args : Array Value} {below : List Frame} {meth : Method} {c : Code} {X : Ec} {h0 : Hp} {o : Int32 × Hp} {F : Nat} (C : Cx X p s m args meth c RX7 cX7_readRanks 7 (some .boolean) "readRanks") {h : Hp} {H : Heap} {locs : List Loc} (hkm : Km h0 h) (hW : Wx X h H) (hZ : va_S (aA (eB X)) s.heap H locs) (ls : Array Slot) (hl : lv_has ls 7 []) (hE : sX7_readRanks_125 F h  = some o) : W p l e (rm 2 45) s m args below meth c H locs 0 0 (MQ below (QI X h0 o.1 o.2) args s 0 0 (aA (eB X))) (F0 m 125 ls []) := by
  refine lv_iconst (v := (0 : Int32)) C.1 C.2.1 dX7_readRanks_125 (by decide) ?_
  exact x_iret C rfl (by decide) hW hZ hkm hE dX7_readRanks_126
set_option maxRecDepth 20000 in
theorem bX7_readRanks_98 {p : Program} {l : Launch} {e : Env} {s : State} {m : MethodId} {args : Array Value} {below : List Frame} {meth : Method} {c : Code} {X : Ec} {h0 : Hp} {o : Int32 × Hp} {k_10 : Hp → Nat → Nat → Int32 → Option (Int32 × Hp)} {k_40 : Hp → Nat → Nat → Int32 → Int32 → Option (Int32 × Hp)} {F : Nat} (C : Cx X p s m args meth c RX7 cX7_readRanks 7 (some .boolean) "readRanks") (hk_10 : ∀ (h : Hp) (x0 : Nat) (x1 : Nat) (x2 : Int32) (H : Heap) (locs : List Loc), hK h x0 = 7 → hK h x1 = 3 → Km h0 h → Wx X h H → va_S (aA (eB X)) s.heap H locs → ∀ (ls : Array Slot), lv_has ls 7 [(0, .ref x0), (1, .ref x1), (2, .int x2)] → k_10 h x0 x1 x2 = some o → W p l e (rm 2 45) s m args below meth c H locs 0 0 (MQ below (QI X h0 o.1 o.2) args s 0 0 (aA (eB X))) (F0 m 10 ls [])) (hk_40 : ∀ (h : Hp) (x0 : Nat) (x1 : Nat) (x2 : Int32) (x3 : Int32) (H : Heap) (locs : List Loc), hK h x0 = 7 → hK h x1 = 3 → Km h0 h → Wx X h H → va_S (aA (eB X)) s.heap H locs → ∀ (ls : Array Slot), lv_has ls 7 [(0, .ref x0), (1, .ref x1), (2, .int x2), (3, .int x3)] → k_40 h x0 x1 x2 x3 = some o → W p l e (rm 2 45) s m args below meth c H locs 0 0 (MQ below (QI X h0 o.1 o.2) args s 0 0 (aA (eB X))) (F0 m 40 ls [])) {h : Hp} {x0 : Nat} {x1 : Nat} {x2 : Int32} {x3 : Int32} {x5 : Int32} {t0 : Int32} {H : Heap} {locs : List Loc} (k_x0 : hK h x0 = 7) (k_x1 : hK h x1 = 3) (hkm : Km h0 h) (hW : Wx X h H) (hZ : va_S (aA (eB X)) s.heap H locs) (ls : Array Slot) (hl : lv_has ls 7 [(0, .ref x0), (1, .ref x1), (2, .int x2), (3, .int x3), (5, .int x5)]) (hE : sX7_readRanks_98 F k_10 k_40 h x0 x1 x2 x3 x5 t0 = some o) : W p l e (rm 2 45) s m args below meth c H locs 0 0 (MQ below (QI X h0 o.1 o.2) args s 0 0 (aA (eB X))) (F0 m 98 ls [.int t0]) := by
  refine lv_istore (lv' := [(6, .int t0), (0, .ref x0), (1, .ref x1), (2, .int x2), (3, .int x3), (5, .int x5)]) C.1 C.2.1 dX7_readRanks_98 hl (by decide) rfl (fun ls hl => ?_)
  refine lv_iload C.1 C.2.1 dX7_readRanks_100 (lv_at hl 5 rfl) ?_
  refine lv_iconst (v := (-1 : Int32)) C.1 C.2.1 dX7_readRanks_102 (by decide) ?_
  refine lv_icmp_ne (tgt := 127) C.1 C.2.1 dX7_readRanks_103 (by decide) (fun c_1 => ?_) (fun c_1 => ?_)
  · have hE := br_n hE c_1
    exact bX7_readRanks_127 C hk_10 hk_40 k_x0 k_x1 hkm hW hZ _ (lv_sub hl [1, 2, 3, 4, 5, 0] rfl) hE
  · have hE := br_p hE c_1
    refine lv_iload C.1 C.2.1 dX7_readRanks_106 (lv_at hl 0 rfl) ?_
    refine lv_if_eq (tgt := 125) C.1 C.2.1 dX7_readRanks_108 (by decide) (fun c_2 => ?_) (fun c_2 => ?_)
    · have hE := br_p hE c_2
      exact bX7_readRanks_125 C hkm hW hZ _ (lv_sub hl [] rfl) hE
    · have hE := br_n hE c_2
      refine lv_iload_n C.1 C.2.1 dX7_readRanks_111 rfl (lv_at hl 4 rfl) ?_
      refine lv_iload C.1 C.2.1 dX7_readRanks_112 (lv_at hl 0 rfl) ?_
      refine lv_iadd C.1 C.2.1 dX7_readRanks_114 ?_
      refine lv_aload_n C.1 C.2.1 dX7_readRanks_115 rfl (lv_at hl 1 rfl) ?_
      obtain ⟨r_3, er_3, hE⟩ := cl_e hE
      refine gf_X7_9 C hW k_x0 er_3 dX7_readRanks_116 (fun k_r_3 => ?_)
      refine gf_X7_65 C hW k_r_3 dX7_readRanks_119 ?_
      refine lv_icmp_le (tgt := 127) C.1 C.2.1 dX7_readRanks_122 (by decide) (fun c_4 => ?_) (fun c_4 => ?_)
      · have hE := br_p hE c_4
        exact bX7_readRanks_127 C hk_10 hk_40 k_x0 k_x1 hkm hW hZ _ (lv_sub hl [1, 2, 3, 4, 5, 0] rfl) hE
      · have hE := br_n hE c_4
        exact bX7_readRanks_125 C hkm hW hZ _ (lv_sub hl [] rfl) hE
set_option maxRecDepth 20000 in
theorem bX7_readRanks_97 {p : Program} {l : Launch} {e : Env} {s : State} {m : MethodId} {args : Array Value} {below : List Frame} {meth : Method} {c : Code} {X : Ec} {h0 : Hp} {o : Int32 × Hp} {k_10 : Hp → Nat → Nat → Int32 → Option (Int32 × Hp)} {k_40 : Hp → Nat → Nat → Int32 → Int32 → Option (Int32 × Hp)} {F : Nat} (C : Cx X p s m args meth c RX7 cX7_readRanks 7 (some .boolean) "readRanks") (hk_10 : ∀ (h : Hp) (x0 : Nat) (x1 : Nat) (x2 : Int32) (H : Heap) (locs : List Loc), hK h x0 = 7 → hK h x1 = 3 → Km h0 h → Wx X h H → va_S (aA (eB X)) s.heap H locs → ∀ (ls : Array Slot), lv_has ls 7 [(0, .ref x0), (1, .ref x1), (2, .int x2)] → k_10 h x0 x1 x2 = some o → W p l e (rm 2 45) s m args below meth c H locs 0 0 (MQ below (QI X h0 o.1 o.2) args s 0 0 (aA (eB X))) (F0 m 10 ls [])) (hk_40 : ∀ (h : Hp) (x0 : Nat) (x1 : Nat) (x2 : Int32) (x3 : Int32) (H : Heap) (locs : List Loc), hK h x0 = 7 → hK h x1 = 3 → Km h0 h → Wx X h H → va_S (aA (eB X)) s.heap H locs → ∀ (ls : Array Slot), lv_has ls 7 [(0, .ref x0), (1, .ref x1), (2, .int x2), (3, .int x3)] → k_40 h x0 x1 x2 x3 = some o → W p l e (rm 2 45) s m args below meth c H locs 0 0 (MQ below (QI X h0 o.1 o.2) args s 0 0 (aA (eB X))) (F0 m 40 ls [])) {h : Hp} {x0 : Nat} {x1 : Nat} {x2 : Int32} {x3 : Int32} {x5 : Int32} {H : Heap} {locs : List Loc} (k_x0 : hK h x0 = 7) (k_x1 : hK h x1 = 3) (hkm : Km h0 h) (hW : Wx X h H) (hZ : va_S (aA (eB X)) s.heap H locs) (ls : Array Slot) (hl : lv_has ls 7 [(0, .ref x0), (1, .ref x1), (2, .int x2), (3, .int x3), (5, .int x5)]) (hE : sX7_readRanks_97 F k_10 k_40 h x0 x1 x2 x3 x5 = some o) : W p l e (rm 2 45) s m args below meth c H locs 0 0 (MQ below (QI X h0 o.1 o.2) args s 0 0 (aA (eB X))) (F0 m 97 ls []) := by
  refine lv_iconst (v := (0 : Int32)) C.1 C.2.1 dX7_readRanks_97 (by decide) ?_
  exact bX7_readRanks_98 C hk_10 hk_40 k_x0 k_x1 hkm hW hZ _ (lv_sub hl [0, 1, 2, 3, 4] rfl) hE
set_option maxRecDepth 20000 in
theorem bX7_readRanks_40 {p : Program} {l : Launch} {e : Env} {s : State} {m : MethodId} {args : Array Value} {below : List Frame} {meth : Method} {c : Code} {X : Ec} {h0 : Hp} {o : Int32 × Hp} {k_10 : Hp → Nat → Nat → Int32 → Option (Int32 × Hp)} {F : Nat} (C : Cx X p s m args meth c RX7 cX7_readRanks 7 (some .boolean) "readRanks") (hk_10 : ∀ (h : Hp) (x0 : Nat) (x1 : Nat) (x2 : Int32) (H : Heap) (locs : List Loc), hK h x0 = 7 → hK h x1 = 3 → Km h0 h → Wx X h H → va_S (aA (eB X)) s.heap H locs → ∀ (ls : Array Slot), lv_has ls 7 [(0, .ref x0), (1, .ref x1), (2, .int x2)] → k_10 h x0 x1 x2 = some o → W p l e (rm 2 45) s m args below meth c H locs 0 0 (MQ below (QI X h0 o.1 o.2) args s 0 0 (aA (eB X))) (F0 m 10 ls [])) : ∀ (f : Nat) {h : Hp} {x0 : Nat} {x1 : Nat} {x2 : Int32} {x3 : Int32} {H : Heap} {locs : List Loc} (k_x0 : hK h x0 = 7) (k_x1 : hK h x1 = 3), Km h0 h → Wx X h H → va_S (aA (eB X)) s.heap H locs → ∀ (ls : Array Slot), lv_has ls 7 [(0, .ref x0), (1, .ref x1), (2, .int x2), (3, .int x3)] → sX7_readRanks_40 F k_10 f h x0 x1 x2 x3 = some o → W p l e (rm 2 45) s m args below meth c H locs 0 0 (MQ below (QI X h0 o.1 o.2) args s 0 0 (aA (eB X))) (F0 m 40 ls []) := by
  intro f
  induction f with
  | zero =>
    intro h x0 x1 x2 x3 H locs k_x0 k_x1 hkm hW hZ ls hl hE
    rw [sX7_readRanks_40] at hE
    cases hE
  | succ f ih =>
    intro h x0 x1 x2 x3 H locs k_x0 k_x1 hkm hW hZ ls hl hE
    rw [sX7_readRanks_40] at hE
    have hk_40 : ∀ (h : Hp) (x0 : Nat) (x1 : Nat) (x2 : Int32) (x3 : Int32) (H : Heap) (locs : List Loc), hK h x0 = 7 → hK h x1 = 3 → Km h0 h → Wx X h H → va_S (aA (eB X)) s.heap H locs → ∀ (ls : Array Slot), lv_has ls 7 [(0, .ref x0), (1, .ref x1), (2, .int x2), (3, .int x3)] → sX7_readRanks_40 F k_10 f h x0 x1 x2 x3 = some o → W p l e (rm 2 45) s m args below meth c H locs 0 0 (MQ below (QI X h0 o.1 o.2) args s 0 0 (aA (eB X))) (F0 m 40 ls []) := fun h x0 x1 x2 x3 H locs k_x0 k_x1 a b c ls hl hE => ih k_x0 k_x1 a b c ls hl hE
    refine lv_iload_n C.1 C.2.1 dX7_readRanks_40 rfl (lv_at hl 3 rfl) ?_
    refine lv_aload_n C.1 C.2.1 dX7_readRanks_41 rfl (lv_at hl 0 rfl) ?_
    obtain ⟨r_1, er_1, hE⟩ := cl_e hE
    refine gf_X7_9 C hW k_x0 er_1 dX7_readRanks_42 (fun k_r_1 => ?_)
    refine gf_X7_65 C hW k_r_1 dX7_readRanks_45 ?_
    refine lv_icmp_ge (tgt := 185) C.1 C.2.1 dX7_readRanks_48 (by decide) (fun c_2 => ?_) (fun c_2 => ?_)
    · have hE := br_p hE c_2
      obtain ⟨v_3, ev_3, hE⟩ := nm_e2 hE
      refine lv_iinc (v := v_3) (lv' := [(2, .int v_3), (0, .ref x0), (1, .ref x1), (3, .int x3)]) C.1 C.2.1 dX7_readRanks_185 hl (k := 2) rfl (by rw [ev_3]; rfl) (by decide) rfl (fun ls hl => ?_)
      refine lv_goto (tgt := 10) C.1 C.2.1 dX7_readRanks_188 (by decide) ?_
      exact hk_10 _ _ _ _ _ _ k_x0 k_x1 hkm hW hZ _ (lv_sub hl [1, 2, 0] rfl) hE
    · have hE := br_n hE c_2
      refine lv_aload_n C.1 C.2.1 dX7_readRanks_51 rfl (lv_at hl 0 rfl) ?_
      obtain ⟨r_4, er_4, hE⟩ := cl_e hE
      refine gf_X7_15 C hW k_x0 er_4 dX7_readRanks_52 (fun k_r_4 => ?_)
      refine lv_aload_n C.1 C.2.1 dX7_readRanks_55 rfl (lv_at hl 0 rfl) ?_
      refine gf_X7_19 C hW k_x0 dX7_readRanks_56 ?_
      obtain ⟨o_5, eo_5, hE⟩ := cl_e hE
      refine x_kI (o := o_5) (z_runV (As := [.int (hI h x0 2)]) (rest := []) C (ct_X9_byteAt l X k_r_4 eo_5) cw_X7_54 hW hZ k_r_4 (by decide) rfl rfl rfl hl.1 (Nat.le_of_ble_eq_true rfl) rfl dX7_readRanks_59 ⟨Nat.le_of_ble_eq_true rfl, Nat.le_of_ble_eq_true rfl⟩ ⟨Nat.le_refl _, Nat.le_refl _⟩) hZ (fun _ _ hW km hZ => ?_)
      replace hkm := hkm.tr km
      replace k_x0 := km.at k_x0 (by decide)
      replace k_x1 := km.at k_x1 (by decide)
      refine lv_istore (lv' := [(4, .int o_5.1), (0, .ref x0), (1, .ref x1), (2, .int x2), (3, .int x3)]) C.1 C.2.1 dX7_readRanks_62 hl (by decide) rfl (fun ls hl => ?_)
      refine lv_aload_n C.1 C.2.1 dX7_readRanks_64 rfl (lv_at hl 1 rfl) ?_
      obtain ⟨r_6, er_6, hE⟩ := cl_e hE
      refine gf_X7_9 C hW k_x0 er_6 dX7_readRanks_65 (fun k_r_6 => ?_)
      refine lv_iload C.1 C.2.1 dX7_readRanks_68 (lv_at hl 0 rfl) ?_
      obtain ⟨o_7, eo_7, hE⟩ := cl_e hE
      refine x_kI (o := o_7) (z_runV (As := [.int o_5.1]) (rest := []) C (ct_X1_codeOf l X F k_r_6 eo_7) cw_X7_68 hW hZ k_r_6 (by decide) rfl rfl rfl hl.1 (Nat.le_of_ble_eq_true rfl) rfl dX7_readRanks_70 ⟨Nat.le_of_ble_eq_true rfl, Nat.le_of_ble_eq_true rfl⟩ ⟨Nat.le_refl _, Nat.le_refl _⟩) hZ (fun _ _ hW km hZ => ?_)
      replace hkm := hkm.tr km
      replace k_x0 := km.at k_x0 (by decide)
      replace k_x1 := km.at k_x1 (by decide)
      refine lv_istore (lv' := [(5, .int o_7.1), (4, .int o_5.1), (0, .ref x0), (1, .ref x1), (2, .int x2), (3, .int x3)]) C.1 C.2.1 dX7_readRanks_73 hl (by decide) rfl (fun ls hl => ?_)
      refine lv_iload C.1 C.2.1 dX7_readRanks_75 (lv_at hl 1 rfl) ?_
      refine lv_bipush (v := (49 : Int32)) C.1 C.2.1 dX7_readRanks_77 (by decide) ?_
      refine lv_icmp_lt (tgt := 97) C.1 C.2.1 dX7_readRanks_79 (by decide) (fun c_8 => ?_) (fun c_8 => ?_)
      · have hE := br_p hE c_8
        exact bX7_readRanks_97 C hk_10 hk_40 k_x0 k_x1 hkm hW hZ _ (lv_sub hl [2, 3, 4, 5, 0] rfl) hE
      · have hE := br_n hE c_8
        refine lv_iload C.1 C.2.1 dX7_readRanks_82 (lv_at hl 1 rfl) ?_
        refine lv_bipush (v := (56 : Int32)) C.1 C.2.1 dX7_readRanks_84 (by decide) ?_
        refine lv_icmp_gt (tgt := 97) C.1 C.2.1 dX7_readRanks_86 (by decide) (fun c_9 => ?_) (fun c_9 => ?_)
        · have hE := br_p hE c_9
          exact bX7_readRanks_97 C hk_10 hk_40 k_x0 k_x1 hkm hW hZ _ (lv_sub hl [2, 3, 4, 5, 0] rfl) hE
        · have hE := br_n hE c_9
          refine lv_iload C.1 C.2.1 dX7_readRanks_89 (lv_at hl 1 rfl) ?_
          refine lv_bipush (v := (48 : Int32)) C.1 C.2.1 dX7_readRanks_91 (by decide) ?_
          refine lv_isub C.1 C.2.1 dX7_readRanks_93 ?_
          refine lv_goto (tgt := 98) C.1 C.2.1 dX7_readRanks_94 (by decide) ?_
          exact bX7_readRanks_98 C hk_10 hk_40 k_x0 k_x1 hkm hW hZ _ (lv_sub hl [2, 3, 4, 5, 0] rfl) hE
set_option maxRecDepth 20000 in
theorem bX7_readRanks_38 {p : Program} {l : Launch} {e : Env} {s : State} {m : MethodId} {args : Array Value} {below : List Frame} {meth : Method} {c : Code} {X : Ec} {h0 : Hp} {o : Int32 × Hp} {k_10 : Hp → Nat → Nat → Int32 → Option (Int32 × Hp)} {F : Nat} (C : Cx X p s m args meth c RX7 cX7_readRanks 7 (some .boolean) "readRanks") (hk_10 : ∀ (h : Hp) (x0 : Nat) (x1 : Nat) (x2 : Int32) (H : Heap) (locs : List Loc), hK h x0 = 7 → hK h x1 = 3 → Km h0 h → Wx X h H → va_S (aA (eB X)) s.heap H locs → ∀ (ls : Array Slot), lv_has ls 7 [(0, .ref x0), (1, .ref x1), (2, .int x2)] → k_10 h x0 x1 x2 = some o → W p l e (rm 2 45) s m args below meth c H locs 0 0 (MQ below (QI X h0 o.1 o.2) args s 0 0 (aA (eB X))) (F0 m 10 ls [])) {h : Hp} {x0 : Nat} {x1 : Nat} {x2 : Int32} {H : Heap} {locs : List Loc} (k_x0 : hK h x0 = 7) (k_x1 : hK h x1 = 3) (hkm : Km h0 h) (hW : Wx X h H) (hZ : va_S (aA (eB X)) s.heap H locs) (ls : Array Slot) (hl : lv_has ls 7 [(0, .ref x0), (1, .ref x1), (2, .int x2)]) (hE : sX7_readRanks_38 F k_10 h x0 x1 x2 = some o) : W p l e (rm 2 45) s m args below meth c H locs 0 0 (MQ below (QI X h0 o.1 o.2) args s 0 0 (aA (eB X))) (F0 m 38 ls []) := by
  refine lv_iconst (v := (0 : Int32)) C.1 C.2.1 dX7_readRanks_38 (by decide) ?_
  refine lv_istore_n (lv' := [(3, .int (0 : Int32)), (0, .ref x0), (1, .ref x1), (2, .int x2)]) C.1 C.2.1 dX7_readRanks_39 rfl hl (by decide) rfl (fun ls hl => ?_)
  exact bX7_readRanks_40 C hk_10 F k_x0 k_x1 hkm hW hZ _ (lv_sub hl [1, 2, 3, 0] rfl) hE
set_option maxRecDepth 20000 in
theorem bX7_readRanks_10 {p : Program} {l : Launch} {e : Env} {s : State} {m : MethodId} {args : Array Value} {below : List Frame} {meth : Method} {c : Code} {X : Ec} {h0 : Hp} {o : Int32 × Hp} {F : Nat} (C : Cx X p s m args meth c RX7 cX7_readRanks 7 (some .boolean) "readRanks") : ∀ (f : Nat) {h : Hp} {x0 : Nat} {x1 : Nat} {x2 : Int32} {H : Heap} {locs : List Loc} (k_x0 : hK h x0 = 7) (k_x1 : hK h x1 = 3), Km h0 h → Wx X h H → va_S (aA (eB X)) s.heap H locs → ∀ (ls : Array Slot), lv_has ls 7 [(0, .ref x0), (1, .ref x1), (2, .int x2)] → sX7_readRanks_10 F f h x0 x1 x2 = some o → W p l e (rm 2 45) s m args below meth c H locs 0 0 (MQ below (QI X h0 o.1 o.2) args s 0 0 (aA (eB X))) (F0 m 10 ls []) := by
  intro f
  induction f with
  | zero =>
    intro h x0 x1 x2 H locs k_x0 k_x1 hkm hW hZ ls hl hE
    rw [sX7_readRanks_10] at hE
    cases hE
  | succ f ih =>
    intro h x0 x1 x2 H locs k_x0 k_x1 hkm hW hZ ls hl hE
    rw [sX7_readRanks_10] at hE
    have hk_10 : ∀ (h : Hp) (x0 : Nat) (x1 : Nat) (x2 : Int32) (H : Heap) (locs : List Loc), hK h x0 = 7 → hK h x1 = 3 → Km h0 h → Wx X h H → va_S (aA (eB X)) s.heap H locs → ∀ (ls : Array Slot), lv_has ls 7 [(0, .ref x0), (1, .ref x1), (2, .int x2)] → sX7_readRanks_10 F f h x0 x1 x2 = some o → W p l e (rm 2 45) s m args below meth c H locs 0 0 (MQ below (QI X h0 o.1 o.2) args s 0 0 (aA (eB X))) (F0 m 10 ls []) := fun h x0 x1 x2 H locs k_x0 k_x1 a b c ls hl hE => ih k_x0 k_x1 a b c ls hl hE
    refine lv_iload_n C.1 C.2.1 dX7_readRanks_10 rfl (lv_at hl 2 rfl) ?_
    refine lv_if_lt (tgt := 191) C.1 C.2.1 dX7_readRanks_11 (by decide) (fun c_1 => ?_) (fun c_1 => ?_)
    · have hE := br_p hE c_1
      refine lv_iconst (v := (1 : Int32)) C.1 C.2.1 dX7_readRanks_191 (by decide) ?_
      exact x_iret C rfl (by decide) hW hZ hkm hE dX7_readRanks_192
    · have hE := br_n hE c_1
      refine lv_iload_n C.1 C.2.1 dX7_readRanks_14 rfl (lv_at hl 2 rfl) ?_
      refine lv_aload_n C.1 C.2.1 dX7_readRanks_15 rfl (lv_at hl 0 rfl) ?_
      obtain ⟨r_2, er_2, hE⟩ := cl_e hE
      refine gf_X7_9 C hW k_x0 er_2 dX7_readRanks_16 (fun k_r_2 => ?_)
      refine gf_X7_60 C hW k_r_2 dX7_readRanks_19 ?_
      refine lv_iconst (v := (1 : Int32)) C.1 C.2.1 dX7_readRanks_22 (by decide) ?_
      refine lv_isub C.1 C.2.1 dX7_readRanks_23 ?_
      refine lv_icmp_ge (tgt := 38) C.1 C.2.1 dX7_readRanks_24 (by decide) (fun c_3 => ?_) (fun c_3 => ?_)
      · have hE := br_p hE c_3
        exact bX7_readRanks_38 C hk_10 k_x0 k_x1 hkm hW hZ _ (lv_sub hl [0, 1, 2] rfl) hE
      · have hE := br_n hE c_3
        refine lv_aload_n C.1 C.2.1 dX7_readRanks_27 rfl (lv_at hl 0 rfl) ?_
        refine lv_bipush (v := (47 : Int32)) C.1 C.2.1 dX7_readRanks_28 (by decide) ?_
        obtain ⟨o_4, eo_4, hE⟩ := cl_e hE
        refine x_kI (o := o_4) (z_runV (As := [.int (47 : Int32)]) (rest := []) C (ct_X7_takeByte l X k_x0 eo_4) cw_X7_32 hW hZ k_x0 (by decide) rfl rfl rfl hl.1 (Nat.le_of_ble_eq_true rfl) rfl dX7_readRanks_30 ⟨Nat.le_of_ble_eq_true rfl, Nat.le_of_ble_eq_true rfl⟩ ⟨Nat.le_refl _, Nat.le_refl _⟩) hZ (fun _ _ hW km hZ => ?_)
        replace hkm := hkm.tr km
        replace k_x0 := km.at k_x0 (by decide)
        replace k_x1 := km.at k_x1 (by decide)
        refine lv_if_ne (tgt := 38) C.1 C.2.1 dX7_readRanks_33 (by decide) (fun c_5 => ?_) (fun c_5 => ?_)
        · have hE := br_n hE c_5
          exact bX7_readRanks_38 C hk_10 k_x0 k_x1 hkm hW hZ _ (lv_sub hl [0, 1, 2] rfl) hE
        · have hE := br_p hE c_5
          refine lv_iconst (v := (0 : Int32)) C.1 C.2.1 dX7_readRanks_36 (by decide) ?_
          exact x_iret C rfl (by decide) hW hZ hkm hE dX7_readRanks_37
set_option maxRecDepth 20000 in
theorem ct_X7_readRanks (l : Launch) (X : Ec) (F : Nat) {h : Hp} {x0 : Nat} {x1 : Nat} {o : Int32 × Hp} (k_x0 : hK h x0 = 7) (k_x1 : hK h x1 = 3) (hE : sX7_readRanks F h x0 x1 = some o) : MetI l yX7_readRanks cX7_readRanks 7 (some .boolean) 2 45 X [.ref x0, .ref x1] h o := by
  refine x_met (by decide) (Nat.le_of_ble_eq_true rfl) ?_
  intro p e s m below meth c ls C hl hW hZ
  have hl : lv_has ls 7 [(0, .ref x0), (1, .ref x1)] := hl
  have hkm : Km h h := Km.rf h
  refine lv_aload_n C.1 C.2.1 dX7_readRanks_0 rfl (lv_at hl 0 rfl) ?_
  obtain ⟨r_1, er_1, hE⟩ := cl_e hE
  refine gf_X7_9 C hW k_x0 er_1 dX7_readRanks_1 (fun k_r_1 => ?_)
  refine gf_X7_60 C hW k_r_1 dX7_readRanks_4 ?_
  refine lv_iconst (v := (1 : Int32)) C.1 C.2.1 dX7_readRanks_7 (by decide) ?_
  refine lv_isub C.1 C.2.1 dX7_readRanks_8 ?_
  obtain ⟨v_2, ev_2, hE⟩ := nm_e2 hE
  refine x_nmI ev_2 ?_
  refine lv_istore_n (lv' := [(2, .int v_2), (0, .ref x0), (1, .ref x1)]) C.1 C.2.1 dX7_readRanks_9 rfl hl (by decide) rfl (fun ls hl => ?_)
  exact bX7_readRanks_10 C F k_x0 k_x1 hkm hW hZ _ (lv_sub hl [1, 2, 0] rfl) hE
set_option maxRecDepth 100000 in
theorem ms_31 : Cond.selects RX7 yX7_readRanks yX7_readRanks ∈ W0 := w0_in (List.mem_append_left _ (List.mem_of_getElem? (i := 31) rfl)) rfl
set_option maxRecDepth 100000 in
theorem m_938 : Cond.methodLink RX7 23 yX3_clear ∈ W0 := w0_in (List.mem_append_right _ (List.mem_of_getElem? (i := 938) rfl)) rfl
set_option maxRecDepth 100000 in
theorem m_939 : Cond.instanceMethod yX3_clear ∈ W0 := w0_in (List.mem_append_right _ (List.mem_of_getElem? (i := 939) rfl)) rfl
set_option maxRecDepth 100000 in
theorem m_940 : Cond.selects RX3 yX3_clear yX3_clear ∈ W0 := w0_in (List.mem_append_right _ (List.mem_of_getElem? (i := 940) rfl)) rfl
set_option maxRecDepth 100000 in
theorem m_941 : Cond.code yX3_clear cX3_clear 1 none ∈ W0 := w0_in (List.mem_append_right _ (List.mem_of_getElem? (i := 941) rfl)) rfl
set_option maxRecDepth 100000 in
theorem m_947 : Cond.methodLink RX7 28 yX7_readRanks ∈ W0 := w0_in (List.mem_append_right _ (List.mem_of_getElem? (i := 947) rfl)) rfl
set_option maxRecDepth 100000 in
theorem m_949 : Cond.instanceMethod yX7_readRanks ∈ W0 := w0_in (List.mem_append_right _ (List.mem_of_getElem? (i := 949) rfl)) rfl
set_option maxRecDepth 100000 in
theorem m_950 : Cond.code yX7_readRanks cX7_readRanks 7 (some .boolean) ∈ W0 := w0_in (List.mem_append_right _ (List.mem_of_getElem? (i := 950) rfl)) rfl
section
variable {p : Program} {l : Launch} {e : Env} {R : Room} {s : State} {m : MethodId} {args : Array Value} {below : List Frame} {meth : Method} {c : Code} {H : Heap} {locs : List Loc} {cells slots : Nat} {Q : State → Prop}
variable {cc : ByteArray} {pc : Nat} {ls : Array Slot} {rest : List Value} {X : Ec} {h h1 : Hp} {nL : Nat} {rt : Option FieldType} {mn : String}
theorem pf_X7_15 {a r : Nat} (C : Cx X p s m args meth c RX7 cc nL rt mn) (hW : Wx X h H) (hZ : va_S (aA (eB X)) s.heap H locs) (ha : hK h a = 7) (hr : hK h r = 9) (eh : h1 = wR h a 1 (some r)) (hdg : decode cc pc = .ok (.putfield 15, 3)) (kk : ∀ (H1 : Heap) (locs1 : List Loc), Wx X h1 H1 → Km h h1 → va_S (aA (eB X)) s.heap H1 locs1 → W p l e R s m args below meth c H1 locs1 cells slots Q (F0 m (pc + 3) ls rest)) : W p l e R s m args below meth c H locs cells slots Q (F0 m pc ls (.ref r :: .ref a :: rest)) :=
  y_putr (ty := .object "GameRules$Text") C hW hZ ha i_X7 tyX7 tyX7_ok nmX7 (by decide) rfl rfl (by decide) m_383 rfl (by decide +kernel) rfl rfl rfl hr rfl (by decide) eh hdg kk
end
theorem cw_X7_23 : cwd RX7 23 yX3_clear cX3_clear 1 none false 0 := ⟨m_941, m_938, m_8, ⟨m_939, m_940⟩, by decide, by decide, by decide +kernel⟩
theorem cw_X7_28 : cwd RX7 28 yX7_readRanks cX7_readRanks 7 (some .boolean) false 1 := ⟨m_950, m_947, m_10, ⟨m_949, ms_31⟩, by decide, by decide, by decide +kernel⟩
theorem dX7_read_0 : decode cX7_read 0 = .ok (.aload_n 0, 1) := by decide +kernel
theorem dX7_read_1 : decode cX7_read 1 = .ok (.aload_n 1, 1) := by decide +kernel
theorem dX7_read_2 : decode cX7_read 2 = .ok (.putfield 15, 3) := by decide +kernel
theorem dX7_read_5 : decode cX7_read 5 = .ok (.aload_n 0, 1) := by decide +kernel
theorem dX7_read_6 : decode cX7_read 6 = .ok (.iconst 0, 1) := by decide +kernel
theorem dX7_read_7 : decode cX7_read 7 = .ok (.putfield 19, 3) := by decide +kernel
theorem dX7_read_10 : decode cX7_read 10 = .ok (.aload_n 2, 1) := by decide +kernel
theorem dX7_read_11 : decode cX7_read 11 = .ok (.invokevirtual 23, 3) := by decide +kernel
theorem dX7_read_14 : decode cX7_read 14 = .ok (.aload_n 0, 1) := by decide +kernel
theorem dX7_read_15 : decode cX7_read 15 = .ok (.aload_n 2, 1) := by decide +kernel
theorem dX7_read_16 : decode cX7_read 16 = .ok (.invokevirtual 28, 3) := by decide +kernel
theorem dX7_read_19 : decode cX7_read 19 = .ok (.ifCond .eq 124, 3) := by decide +kernel
theorem dX7_read_22 : decode cX7_read 22 = .ok (.aload_n 0, 1) := by decide +kernel
theorem dX7_read_23 : decode cX7_read 23 = .ok (.bipush 32, 2) := by decide +kernel
theorem dX7_read_25 : decode cX7_read 25 = .ok (.invokevirtual 32, 3) := by decide +kernel
theorem dX7_read_28 : decode cX7_read 28 = .ok (.ifCond .eq 115, 3) := by decide +kernel
theorem dX7_read_31 : decode cX7_read 31 = .ok (.aload_n 0, 1) := by decide +kernel
theorem dX7_read_32 : decode cX7_read 32 = .ok (.aload_n 2, 1) := by decide +kernel
theorem dX7_read_33 : decode cX7_read 33 = .ok (.invokevirtual 36, 3) := by decide +kernel
theorem dX7_read_143 : decode cX7_read 143 = .ok (.iconst 0, 1) := by decide +kernel
theorem dX7_read_144 : decode cX7_read 144 = .ok (.istore_n 3, 1) := by decide +kernel
theorem dX7_read_145 : decode cX7_read 145 = .ok (.iload_n 3, 1) := by decide +kernel
theorem dX7_read_146 : decode cX7_read 146 = .ok (.ifCond .eq 7, 3) := by decide +kernel
theorem dX7_read_149 : decode cX7_read 149 = .ok (.iconst (-1), 1) := by decide +kernel
theorem dX7_read_150 : decode cX7_read 150 = .ok (.goto 7, 3) := by decide +kernel
theorem dX7_read_153 : decode cX7_read 153 = .ok (.aload_n 0, 1) := by decide +kernel
theorem dX7_read_154 : decode cX7_read 154 = .ok (.getfield 19, 3) := by decide +kernel
theorem dX7_read_157 : decode cX7_read 157 = .ok (.ireturn, 1) := by decide +kernel
set_option maxRecDepth 20000 in
theorem moX7_read_157 {o : Int32 × Hp} {F : Nat} {h : Hp} {t0 : Int32} (hE : sX7_read_157 F h  t0 = some o) : Le h o.2 := by
  exact le_some2 hE
set_option maxRecDepth 20000 in
theorem moX7_read_144 {o : Int32 × Hp} {F : Nat} {h : Hp} {x0 : Nat} {t0 : Int32} (hE : sX7_read_144 F h x0 t0 = some o) : Le h o.2 := by
  rcases br_e hE with ⟨_, hE⟩ | ⟨_, hE⟩
  · exact moX7_read_157 hE
  · exact moX7_read_157 hE
set_option maxRecDepth 20000 in
theorem moX7_read_143 {o : Int32 × Hp} {F : Nat} {h : Hp} {x0 : Nat} (hE : sX7_read_143 F h x0 = some o) : Le h o.2 := by
  exact moX7_read_144 hE
set_option maxRecDepth 20000 in
theorem moX7_read {o : Int32 × Hp} {F : Nat} {h : Hp} {x0 : Nat} {x1 : Nat} {x2 : Nat} (hE : sX7_read F h x0 x1 x2 = some o) : Le h o.2 := by
  obtain ⟨h_1, eh_1, hE⟩ := nm_e2 hE
  refine (le_R eh_1).tr ?_
  obtain ⟨h_2, eh_2, hE⟩ := nm_e2 hE
  refine (le_I eh_2).tr ?_
  obtain ⟨o_3, eo_3, hE⟩ := cl_e hE
  refine (moX3_clear eo_3).tr ?_
  obtain ⟨o_4, eo_4, hE⟩ := cl_e hE
  refine (moX7_readRanks eo_4).tr ?_
  rcases br_e hE with ⟨_, hE⟩ | ⟨_, hE⟩
  · exact moX7_read_143 hE
  · obtain ⟨o_6, eo_6, hE⟩ := cl_e hE
    refine (moX7_takeByte eo_6).tr ?_
    rcases br_e hE with ⟨_, hE⟩ | ⟨_, hE⟩
    · exact moX7_read_143 hE
    · cases hE
set_option maxRecDepth 20000 in
theorem bX7_read_157 {p : Program} {l : Launch} {e : Env} {s : State} {m : MethodId} {args : Array Value} {below : List Frame} {meth : Method} {c : Code} {X : Ec} {h0 : Hp} {o : Int32 × Hp} {F : Nat} (C : Cx X p s m args meth c RX7 cX7_read 4 (some .int) "read") {h : Hp} {t0 : Int32} {H : Heap} {locs : List Loc} (hkm : Km h0 h) (hW : Wx X h H) (hZ : va_S (aA (eB X)) s.heap H locs) (ls : Array Slot) (hl : lv_has ls 4 []) (hE : sX7_read_157 F h  t0 = some o) : W p l e (rm 3 71) s m args below meth c H locs 0 0 (MQ below (QI X h0 o.1 o.2) args s 0 0 (aA (eB X))) (F0 m 157 ls [.int t0]) := by
  exact x_iret C rfl rfl hW hZ hkm hE dX7_read_157
set_option maxRecDepth 20000 in
theorem bX7_read_144 {p : Program} {l : Launch} {e : Env} {s : State} {m : MethodId} {args : Array Value} {below : List Frame} {meth : Method} {c : Code} {X : Ec} {h0 : Hp} {o : Int32 × Hp} {F : Nat} (C : Cx X p s m args meth c RX7 cX7_read 4 (some .int) "read") {h : Hp} {x0 : Nat} {t0 : Int32} {H : Heap} {locs : List Loc} (k_x0 : hK h x0 = 7) (hkm : Km h0 h) (hW : Wx X h H) (hZ : va_S (aA (eB X)) s.heap H locs) (ls : Array Slot) (hl : lv_has ls 4 [(0, .ref x0)]) (hE : sX7_read_144 F h x0 t0 = some o) : W p l e (rm 3 71) s m args below meth c H locs 0 0 (MQ below (QI X h0 o.1 o.2) args s 0 0 (aA (eB X))) (F0 m 144 ls [.int t0]) := by
  refine lv_istore_n (lv' := [(3, .int t0), (0, .ref x0)]) C.1 C.2.1 dX7_read_144 rfl hl (by decide) rfl (fun ls hl => ?_)
  refine lv_iload_n C.1 C.2.1 dX7_read_145 rfl (lv_at hl 0 rfl) ?_
  refine lv_if_eq (tgt := 153) C.1 C.2.1 dX7_read_146 (by decide) (fun c_1 => ?_) (fun c_1 => ?_)
  · have hE := br_p hE c_1
    refine lv_aload_n C.1 C.2.1 dX7_read_153 rfl (lv_at hl 1 rfl) ?_
    refine gf_X7_19 C hW k_x0 dX7_read_154 ?_
    exact bX7_read_157 C hkm hW hZ _ (lv_sub hl [] rfl) hE
  · have hE := br_n hE c_1
    refine lv_iconst (v := (-1 : Int32)) C.1 C.2.1 dX7_read_149 (by decide) ?_
    refine lv_goto (tgt := 157) C.1 C.2.1 dX7_read_150 (by decide) ?_
    exact bX7_read_157 C hkm hW hZ _ (lv_sub hl [] rfl) hE
set_option maxRecDepth 20000 in
theorem bX7_read_143 {p : Program} {l : Launch} {e : Env} {s : State} {m : MethodId} {args : Array Value} {below : List Frame} {meth : Method} {c : Code} {X : Ec} {h0 : Hp} {o : Int32 × Hp} {F : Nat} (C : Cx X p s m args meth c RX7 cX7_read 4 (some .int) "read") {h : Hp} {x0 : Nat} {H : Heap} {locs : List Loc} (k_x0 : hK h x0 = 7) (hkm : Km h0 h) (hW : Wx X h H) (hZ : va_S (aA (eB X)) s.heap H locs) (ls : Array Slot) (hl : lv_has ls 4 [(0, .ref x0)]) (hE : sX7_read_143 F h x0 = some o) : W p l e (rm 3 71) s m args below meth c H locs 0 0 (MQ below (QI X h0 o.1 o.2) args s 0 0 (aA (eB X))) (F0 m 143 ls []) := by
  refine lv_iconst (v := (0 : Int32)) C.1 C.2.1 dX7_read_143 (by decide) ?_
  exact bX7_read_144 C k_x0 hkm hW hZ _ (lv_sub hl [0] rfl) hE
set_option maxRecDepth 20000 in
theorem ct_X7_read (l : Launch) (X : Ec) (F : Nat) {h : Hp} {x0 : Nat} {x1 : Nat} {x2 : Nat} {o : Int32 × Hp} (k_x0 : hK h x0 = 7) (k_x1 : hK h x1 = 9) (k_x2 : hK h x2 = 3) (hE : sX7_read F h x0 x1 x2 = some o) : MetI l yX7_read cX7_read 4 (some .int) 3 71 X [.ref x0, .ref x1, .ref x2] h o := by
  refine x_met (by decide) (Nat.le_of_ble_eq_true rfl) ?_
  intro p e s m below meth c ls C hl hW hZ
  have hl : lv_has ls 4 [(0, .ref x0), (1, .ref x1), (2, .ref x2)] := hl
  have hkm : Km h h := Km.rf h
  refine lv_aload_n C.1 C.2.1 dX7_read_0 rfl (lv_at hl 0 rfl) ?_
  refine lv_aload_n C.1 C.2.1 dX7_read_1 rfl (lv_at hl 1 rfl) ?_
  obtain ⟨h_1, eh_1, hE⟩ := nm_e2 hE
  refine pf_X7_15 C hW hZ k_x0 k_x1 eh_1 dX7_read_2 (fun _ _ hW km hZ => ?_)
  replace hkm := hkm.tr km
  replace k_x0 := km.at k_x0 (by decide)
  replace k_x1 := km.at k_x1 (by decide)
  replace k_x2 := km.at k_x2 (by decide)
  refine lv_aload_n C.1 C.2.1 dX7_read_5 rfl (lv_at hl 0 rfl) ?_
  refine lv_iconst (v := (0 : Int32)) C.1 C.2.1 dX7_read_6 (by decide) ?_
  obtain ⟨h_2, eh_2, hE⟩ := nm_e2 hE
  refine pf_X7_19 C hW hZ k_x0 eh_2 dX7_read_7 (fun _ _ hW km hZ => ?_)
  replace hkm := hkm.tr km
  replace k_x0 := km.at k_x0 (by decide)
  replace k_x1 := km.at k_x1 (by decide)
  replace k_x2 := km.at k_x2 (by decide)
  refine lv_aload_n C.1 C.2.1 dX7_read_10 rfl (lv_at hl 2 rfl) ?_
  obtain ⟨o_3, eo_3, hE⟩ := cl_e hE
  refine x_kV (o := o_3) (z_runV (As := []) (rest := []) C (ct_X3_clear l X F k_x2 eo_3) cw_X7_23 hW hZ k_x2 (by decide) rfl rfl rfl hl.1 (Nat.le_of_ble_eq_true rfl) rfl dX7_read_11 ⟨Nat.le_of_ble_eq_true rfl, Nat.le_of_ble_eq_true rfl⟩ ⟨Nat.le_refl _, Nat.le_refl _⟩) hZ (fun _ _ hW km hZ => ?_)
  replace hkm := hkm.tr km
  replace k_x0 := km.at k_x0 (by decide)
  replace k_x1 := km.at k_x1 (by decide)
  replace k_x2 := km.at k_x2 (by decide)
  refine lv_aload_n C.1 C.2.1 dX7_read_14 rfl (lv_at hl 0 rfl) ?_
  refine lv_aload_n C.1 C.2.1 dX7_read_15 rfl (lv_at hl 2 rfl) ?_
  obtain ⟨o_4, eo_4, hE⟩ := cl_e hE
  refine x_kI (o := o_4) (z_runV (As := [.ref x2]) (rest := []) C (ct_X7_readRanks l X F k_x0 k_x2 eo_4) cw_X7_28 hW hZ k_x0 (by decide) rfl rfl rfl hl.1 (Nat.le_of_ble_eq_true rfl) rfl dX7_read_16 ⟨Nat.le_of_ble_eq_true rfl, Nat.le_of_ble_eq_true rfl⟩ ⟨Nat.le_refl _, Nat.le_refl _⟩) hZ (fun _ _ hW km hZ => ?_)
  replace hkm := hkm.tr km
  replace k_x0 := km.at k_x0 (by decide)
  replace k_x1 := km.at k_x1 (by decide)
  replace k_x2 := km.at k_x2 (by decide)
  refine lv_if_eq (tgt := 143) C.1 C.2.1 dX7_read_19 (by decide) (fun c_5 => ?_) (fun c_5 => ?_)
  · have hE := br_p hE c_5
    exact bX7_read_143 C k_x0 hkm hW hZ _ (lv_sub hl [0] rfl) hE
  · have hE := br_n hE c_5
    refine lv_aload_n C.1 C.2.1 dX7_read_22 rfl (lv_at hl 0 rfl) ?_
    refine lv_bipush (v := (32 : Int32)) C.1 C.2.1 dX7_read_23 (by decide) ?_
    obtain ⟨o_6, eo_6, hE⟩ := cl_e hE
    refine x_kI (o := o_6) (z_runV (As := [.int (32 : Int32)]) (rest := []) C (ct_X7_takeByte l X k_x0 eo_6) cw_X7_32 hW hZ k_x0 (by decide) rfl rfl rfl hl.1 (Nat.le_of_ble_eq_true rfl) rfl dX7_read_25 ⟨Nat.le_of_ble_eq_true rfl, Nat.le_of_ble_eq_true rfl⟩ ⟨Nat.le_refl _, Nat.le_refl _⟩) hZ (fun _ _ hW km hZ => ?_)
    replace hkm := hkm.tr km
    replace k_x0 := km.at k_x0 (by decide)
    replace k_x1 := km.at k_x1 (by decide)
    replace k_x2 := km.at k_x2 (by decide)
    refine lv_if_eq (tgt := 143) C.1 C.2.1 dX7_read_28 (by decide) (fun c_7 => ?_) (fun c_7 => ?_)
    · have hE := br_p hE c_7
      exact bX7_read_143 C k_x0 hkm hW hZ _ (lv_sub hl [0] rfl) hE
    · have hE := br_n hE c_7
      refine lv_aload_n C.1 C.2.1 dX7_read_31 rfl (lv_at hl 0 rfl) ?_
      refine lv_aload_n C.1 C.2.1 dX7_read_32 rfl (lv_at hl 2 rfl) ?_
      cases hE
set_option maxRecDepth 100000 in
theorem m_544 : Cond.fieldLink RX4 130 (TX4 14).1 (TX4 14).2.1 (TX4 14).2.2.1 ∈ W0 := w0_in (List.mem_append_right _ (List.mem_of_getElem? (i := 544) rfl)) rfl
section
variable {p : Program} {l : Launch} {e : Env} {R : Room} {s : State} {m : MethodId} {args : Array Value} {below : List Frame} {meth : Method} {c : Code} {H : Heap} {locs : List Loc} {cells slots : Nat} {Q : State → Prop}
variable {cc : ByteArray} {pc : Nat} {ls : Array Slot} {rest : List Value} {X : Ec} {h h1 : Hp} {nL : Nat} {rt : Option FieldType} {mn : String}
theorem gf_X4_130 {a : Nat} (C : Cx X p s m args meth c RX4 cc nL rt mn) (hW : Wx X h H) (ha : hK h a = 4) (hdg : decode cc pc = .ok (.getfield 130, 3)) (kk : W p l e R s m args below meth c H locs cells slots Q (F0 m (pc + 3) ls (.int (hI h a 14) :: rest))) : W p l e R s m args below meth c H locs cells slots Q (F0 m pc ls (.ref a :: rest)) :=
  y_geti C hW ha i_X4 (by decide) rfl (by decide) m_544 rfl hdg kk
theorem gf_X4_35 {a r : Nat} (C : Cx X p s m args meth c RX4 cc nL rt mn) (hW : Wx X h H) (ha : hK h a = 4) (hr : hR h a 12 = some r) (hdg : decode cc pc = .ok (.getfield 35, 3)) (kk : hK h r = 17 → W p l e R s m args below meth c H locs cells slots Q (F0 m (pc + 3) ls (.ref r :: rest))) : W p l e R s m args below meth c H locs cells slots Q (F0 m pc ls (.ref a :: rest)) :=
  y_getr C hW ha i_X4 (by decide) rfl (by decide) m_542 rfl rfl hr hdg kk
end
theorem dX4_keyAt_0 : decode cX4_keyAt 0 = .ok (.iload_n 1, 1) := by decide +kernel
theorem dX4_keyAt_1 : decode cX4_keyAt 1 = .ok (.ifCond .lt 20, 3) := by decide +kernel
theorem dX4_keyAt_4 : decode cX4_keyAt 4 = .ok (.iload_n 1, 1) := by decide +kernel
theorem dX4_keyAt_5 : decode cX4_keyAt 5 = .ok (.aload_n 0, 1) := by decide +kernel
theorem dX4_keyAt_6 : decode cX4_keyAt 6 = .ok (.getfield 130, 3) := by decide +kernel
theorem dX4_keyAt_9 : decode cX4_keyAt 9 = .ok (.if_icmp .ge 12, 3) := by decide +kernel
theorem dX4_keyAt_12 : decode cX4_keyAt 12 = .ok (.aload_n 0, 1) := by decide +kernel
theorem dX4_keyAt_13 : decode cX4_keyAt 13 = .ok (.getfield 35, 3) := by decide +kernel
theorem dX4_keyAt_16 : decode cX4_keyAt 16 = .ok (.iload_n 1, 1) := by decide +kernel
theorem dX4_keyAt_17 : decode cX4_keyAt 17 = .ok (.iaload, 1) := by decide +kernel
theorem dX4_keyAt_18 : decode cX4_keyAt 18 = .ok (.goto 4, 3) := by decide +kernel
theorem dX4_keyAt_21 : decode cX4_keyAt 21 = .ok (.iconst (-1), 1) := by decide +kernel
theorem dX4_keyAt_22 : decode cX4_keyAt 22 = .ok (.ireturn, 1) := by decide +kernel
set_option maxRecDepth 20000 in
theorem moX4_keyAt_22 {o : Int32 × Hp} {h : Hp} {t0 : Int32} (hE : sX4_keyAt_22 h  t0 = some o) : Le h o.2 := by
  exact le_some2 hE
set_option maxRecDepth 20000 in
theorem moX4_keyAt_21 {o : Int32 × Hp} {h : Hp} (hE : sX4_keyAt_21 h  = some o) : Le h o.2 := by
  exact moX4_keyAt_22 hE
set_option maxRecDepth 20000 in
theorem moX4_keyAt {o : Int32 × Hp} {h : Hp} {x0 : Nat} {x1 : Int32} (hE : sX4_keyAt h x0 x1 = some o) : Le h o.2 := by
  rcases br_e hE with ⟨_, hE⟩ | ⟨_, hE⟩
  · exact moX4_keyAt_21 hE
  · rcases br_e hE with ⟨_, hE⟩ | ⟨_, hE⟩
    · exact moX4_keyAt_21 hE
    · obtain ⟨r_3, er_3, hE⟩ := cl_e hE
      obtain ⟨g_4, hE⟩ := gd_e hE
      exact moX4_keyAt_22 hE
set_option maxRecDepth 20000 in
theorem bX4_keyAt_22 {p : Program} {l : Launch} {e : Env} {s : State} {m : MethodId} {args : Array Value} {below : List Frame} {meth : Method} {c : Code} {X : Ec} {h0 : Hp} {o : Int32 × Hp} (C : Cx X p s m args meth c RX4 cX4_keyAt 2 (some .int) "keyAt") {h : Hp} {t0 : Int32} {H : Heap} {locs : List Loc} (hkm : Km h0 h) (hW : Wx X h H) (hZ : va_S (aA (eB X)) s.heap H locs) (ls : Array Slot) (hl : lv_has ls 2 []) (hE : sX4_keyAt_22 h  t0 = some o) : W p l e (rm 0 0) s m args below meth c H locs 0 0 (MQ below (QI X h0 o.1 o.2) args s 0 0 (aA (eB X))) (F0 m 22 ls [.int t0]) := by
  exact x_iret C rfl rfl hW hZ hkm hE dX4_keyAt_22
set_option maxRecDepth 20000 in
theorem bX4_keyAt_21 {p : Program} {l : Launch} {e : Env} {s : State} {m : MethodId} {args : Array Value} {below : List Frame} {meth : Method} {c : Code} {X : Ec} {h0 : Hp} {o : Int32 × Hp} (C : Cx X p s m args meth c RX4 cX4_keyAt 2 (some .int) "keyAt") {h : Hp} {H : Heap} {locs : List Loc} (hkm : Km h0 h) (hW : Wx X h H) (hZ : va_S (aA (eB X)) s.heap H locs) (ls : Array Slot) (hl : lv_has ls 2 []) (hE : sX4_keyAt_21 h  = some o) : W p l e (rm 0 0) s m args below meth c H locs 0 0 (MQ below (QI X h0 o.1 o.2) args s 0 0 (aA (eB X))) (F0 m 21 ls []) := by
  refine lv_iconst (v := (-1 : Int32)) C.1 C.2.1 dX4_keyAt_21 (by decide) ?_
  exact bX4_keyAt_22 C hkm hW hZ _ (lv_sub hl [] rfl) hE
set_option maxRecDepth 20000 in
theorem ct_X4_keyAt (l : Launch) (X : Ec) {h : Hp} {x0 : Nat} {x1 : Int32} {o : Int32 × Hp} (k_x0 : hK h x0 = 4) (hE : sX4_keyAt h x0 x1 = some o) : MetI l yX4_keyAt cX4_keyAt 2 (some .int) 0 0 X [.ref x0, .int x1] h o := by
  refine x_met (by decide) (Nat.le_of_ble_eq_true rfl) ?_
  intro p e s m below meth c ls C hl hW hZ
  have hl : lv_has ls 2 [(0, .ref x0), (1, .int x1)] := hl
  have hkm : Km h h := Km.rf h
  refine lv_iload_n C.1 C.2.1 dX4_keyAt_0 rfl (lv_at hl 1 rfl) ?_
  refine lv_if_lt (tgt := 21) C.1 C.2.1 dX4_keyAt_1 (by decide) (fun c_1 => ?_) (fun c_1 => ?_)
  · have hE := br_p hE c_1
    exact bX4_keyAt_21 C hkm hW hZ _ (lv_sub hl [] rfl) hE
  · have hE := br_n hE c_1
    refine lv_iload_n C.1 C.2.1 dX4_keyAt_4 rfl (lv_at hl 1 rfl) ?_
    refine lv_aload_n C.1 C.2.1 dX4_keyAt_5 rfl (lv_at hl 0 rfl) ?_
    refine gf_X4_130 C hW k_x0 dX4_keyAt_6 ?_
    refine lv_icmp_ge (tgt := 21) C.1 C.2.1 dX4_keyAt_9 (by decide) (fun c_2 => ?_) (fun c_2 => ?_)
    · have hE := br_p hE c_2
      exact bX4_keyAt_21 C hkm hW hZ _ (lv_sub hl [] rfl) hE
    · have hE := br_n hE c_2
      refine lv_aload_n C.1 C.2.1 dX4_keyAt_12 rfl (lv_at hl 0 rfl) ?_
      obtain ⟨r_3, er_3, hE⟩ := cl_e hE
      refine gf_X4_35 C hW k_x0 er_3 dX4_keyAt_13 (fun k_r_3 => ?_)
      refine lv_iload_n C.1 C.2.1 dX4_keyAt_16 rfl (lv_at hl 1 rfl) ?_
      obtain ⟨g_4, hE⟩ := gd_e hE
      refine y_iald C hW k_r_3 g_4 dX4_keyAt_17 ?_
      refine lv_goto (tgt := 22) C.1 C.2.1 dX4_keyAt_18 (by decide) ?_
      exact bX4_keyAt_22 C hkm hW hZ _ (lv_sub hl [] rfl) hE
set_option maxRecDepth 100000 in
theorem m_545 : Cond.fieldLink RX4 133 (TX4 15).1 (TX4 15).2.1 (TX4 15).2.2.1 ∈ W0 := w0_in (List.mem_append_right _ (List.mem_of_getElem? (i := 545) rfl)) rfl
section
variable {p : Program} {l : Launch} {e : Env} {R : Room} {s : State} {m : MethodId} {args : Array Value} {below : List Frame} {meth : Method} {c : Code} {H : Heap} {locs : List Loc} {cells slots : Nat} {Q : State → Prop}
variable {cc : ByteArray} {pc : Nat} {ls : Array Slot} {rest : List Value} {X : Ec} {h h1 : Hp} {nL : Nat} {rt : Option FieldType} {mn : String}
theorem gf_X4_133 {a : Nat} (C : Cx X p s m args meth c RX4 cc nL rt mn) (hW : Wx X h H) (ha : hK h a = 4) (hdg : decode cc pc = .ok (.getfield 133, 3)) (kk : W p l e R s m args below meth c H locs cells slots Q (F0 m (pc + 3) ls (.int (hI h a 15) :: rest))) : W p l e R s m args below meth c H locs cells slots Q (F0 m pc ls (.ref a :: rest)) :=
  y_geti C hW ha i_X4 (by decide) rfl (by decide) m_545 rfl hdg kk
theorem gf_X4_38 {a r : Nat} (C : Cx X p s m args meth c RX4 cc nL rt mn) (hW : Wx X h H) (ha : hK h a = 4) (hr : hR h a 13 = some r) (hdg : decode cc pc = .ok (.getfield 38, 3)) (kk : hK h r = 17 → W p l e R s m args below meth c H locs cells slots Q (F0 m (pc + 3) ls (.ref r :: rest))) : W p l e R s m args below meth c H locs cells slots Q (F0 m pc ls (.ref a :: rest)) :=
  y_getr C hW ha i_X4 (by decide) rfl (by decide) m_543 rfl rfl hr hdg kk
end
theorem dX4_refutesOf_0 : decode cX4_refutesOf 0 = .ok (.iload_n 1, 1) := by decide +kernel
theorem dX4_refutesOf_1 : decode cX4_refutesOf 1 = .ok (.ifCond .lt 20, 3) := by decide +kernel
theorem dX4_refutesOf_4 : decode cX4_refutesOf 4 = .ok (.iload_n 1, 1) := by decide +kernel
theorem dX4_refutesOf_5 : decode cX4_refutesOf 5 = .ok (.aload_n 0, 1) := by decide +kernel
theorem dX4_refutesOf_6 : decode cX4_refutesOf 6 = .ok (.getfield 133, 3) := by decide +kernel
theorem dX4_refutesOf_9 : decode cX4_refutesOf 9 = .ok (.if_icmp .ge 12, 3) := by decide +kernel
theorem dX4_refutesOf_12 : decode cX4_refutesOf 12 = .ok (.aload_n 0, 1) := by decide +kernel
theorem dX4_refutesOf_13 : decode cX4_refutesOf 13 = .ok (.getfield 38, 3) := by decide +kernel
theorem dX4_refutesOf_16 : decode cX4_refutesOf 16 = .ok (.iload_n 1, 1) := by decide +kernel
theorem dX4_refutesOf_17 : decode cX4_refutesOf 17 = .ok (.iaload, 1) := by decide +kernel
theorem dX4_refutesOf_18 : decode cX4_refutesOf 18 = .ok (.goto 4, 3) := by decide +kernel
theorem dX4_refutesOf_21 : decode cX4_refutesOf 21 = .ok (.iconst (-1), 1) := by decide +kernel
theorem dX4_refutesOf_22 : decode cX4_refutesOf 22 = .ok (.ireturn, 1) := by decide +kernel
set_option maxRecDepth 20000 in
theorem moX4_refutesOf_22 {o : Int32 × Hp} {h : Hp} {t0 : Int32} (hE : sX4_refutesOf_22 h  t0 = some o) : Le h o.2 := by
  exact le_some2 hE
set_option maxRecDepth 20000 in
theorem moX4_refutesOf_21 {o : Int32 × Hp} {h : Hp} (hE : sX4_refutesOf_21 h  = some o) : Le h o.2 := by
  exact moX4_refutesOf_22 hE
set_option maxRecDepth 20000 in
theorem moX4_refutesOf {o : Int32 × Hp} {h : Hp} {x0 : Nat} {x1 : Int32} (hE : sX4_refutesOf h x0 x1 = some o) : Le h o.2 := by
  rcases br_e hE with ⟨_, hE⟩ | ⟨_, hE⟩
  · exact moX4_refutesOf_21 hE
  · rcases br_e hE with ⟨_, hE⟩ | ⟨_, hE⟩
    · exact moX4_refutesOf_21 hE
    · obtain ⟨r_3, er_3, hE⟩ := cl_e hE
      obtain ⟨g_4, hE⟩ := gd_e hE
      exact moX4_refutesOf_22 hE
set_option maxRecDepth 20000 in
theorem bX4_refutesOf_22 {p : Program} {l : Launch} {e : Env} {s : State} {m : MethodId} {args : Array Value} {below : List Frame} {meth : Method} {c : Code} {X : Ec} {h0 : Hp} {o : Int32 × Hp} (C : Cx X p s m args meth c RX4 cX4_refutesOf 2 (some .int) "refutesOf") {h : Hp} {t0 : Int32} {H : Heap} {locs : List Loc} (hkm : Km h0 h) (hW : Wx X h H) (hZ : va_S (aA (eB X)) s.heap H locs) (ls : Array Slot) (hl : lv_has ls 2 []) (hE : sX4_refutesOf_22 h  t0 = some o) : W p l e (rm 0 0) s m args below meth c H locs 0 0 (MQ below (QI X h0 o.1 o.2) args s 0 0 (aA (eB X))) (F0 m 22 ls [.int t0]) := by
  exact x_iret C rfl rfl hW hZ hkm hE dX4_refutesOf_22
set_option maxRecDepth 20000 in
theorem bX4_refutesOf_21 {p : Program} {l : Launch} {e : Env} {s : State} {m : MethodId} {args : Array Value} {below : List Frame} {meth : Method} {c : Code} {X : Ec} {h0 : Hp} {o : Int32 × Hp} (C : Cx X p s m args meth c RX4 cX4_refutesOf 2 (some .int) "refutesOf") {h : Hp} {H : Heap} {locs : List Loc} (hkm : Km h0 h) (hW : Wx X h H) (hZ : va_S (aA (eB X)) s.heap H locs) (ls : Array Slot) (hl : lv_has ls 2 []) (hE : sX4_refutesOf_21 h  = some o) : W p l e (rm 0 0) s m args below meth c H locs 0 0 (MQ below (QI X h0 o.1 o.2) args s 0 0 (aA (eB X))) (F0 m 21 ls []) := by
  refine lv_iconst (v := (-1 : Int32)) C.1 C.2.1 dX4_refutesOf_21 (by decide) ?_
  exact bX4_refutesOf_22 C hkm hW hZ _ (lv_sub hl [] rfl) hE
set_option maxRecDepth 20000 in
theorem ct_X4_refutesOf (l : Launch) (X : Ec) {h : Hp} {x0 : Nat} {x1 : Int32} {o : Int32 × Hp} (k_x0 : hK h x0 = 4) (hE : sX4_refutesOf h x0 x1 = some o) : MetI l yX4_refutesOf cX4_refutesOf 2 (some .int) 0 0 X [.ref x0, .int x1] h o := by
  refine x_met (by decide) (Nat.le_of_ble_eq_true rfl) ?_
  intro p e s m below meth c ls C hl hW hZ
  have hl : lv_has ls 2 [(0, .ref x0), (1, .int x1)] := hl
  have hkm : Km h h := Km.rf h
  refine lv_iload_n C.1 C.2.1 dX4_refutesOf_0 rfl (lv_at hl 1 rfl) ?_
  refine lv_if_lt (tgt := 21) C.1 C.2.1 dX4_refutesOf_1 (by decide) (fun c_1 => ?_) (fun c_1 => ?_)
  · have hE := br_p hE c_1
    exact bX4_refutesOf_21 C hkm hW hZ _ (lv_sub hl [] rfl) hE
  · have hE := br_n hE c_1
    refine lv_iload_n C.1 C.2.1 dX4_refutesOf_4 rfl (lv_at hl 1 rfl) ?_
    refine lv_aload_n C.1 C.2.1 dX4_refutesOf_5 rfl (lv_at hl 0 rfl) ?_
    refine gf_X4_133 C hW k_x0 dX4_refutesOf_6 ?_
    refine lv_icmp_ge (tgt := 21) C.1 C.2.1 dX4_refutesOf_9 (by decide) (fun c_2 => ?_) (fun c_2 => ?_)
    · have hE := br_p hE c_2
      exact bX4_refutesOf_21 C hkm hW hZ _ (lv_sub hl [] rfl) hE
    · have hE := br_n hE c_2
      refine lv_aload_n C.1 C.2.1 dX4_refutesOf_12 rfl (lv_at hl 0 rfl) ?_
      obtain ⟨r_3, er_3, hE⟩ := cl_e hE
      refine gf_X4_38 C hW k_x0 er_3 dX4_refutesOf_13 (fun k_r_3 => ?_)
      refine lv_iload_n C.1 C.2.1 dX4_refutesOf_16 rfl (lv_at hl 1 rfl) ?_
      obtain ⟨g_4, hE⟩ := gd_e hE
      refine y_iald C hW k_r_3 g_4 dX4_refutesOf_17 ?_
      refine lv_goto (tgt := 22) C.1 C.2.1 dX4_refutesOf_18 (by decide) ?_
      exact bX4_refutesOf_22 C hkm hW hZ _ (lv_sub hl [] rfl) hE
