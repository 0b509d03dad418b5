theorem m_380 : Cond.methodLink RX7 3 objectInit ∈ W0 := w0_in (List.mem_append_right _ (List.mem_of_getElem? (i := 380) (by decide +kernel))) rfl
theorem m_381 : Cond.fieldLink RX7 9 (TX7 0).1 (TX7 0).2.1 (TX7 0).2.2.1 ∈ W0 := w0_in (List.mem_append_right _ (List.mem_of_getElem? (i := 381) (by decide +kernel))) rfl
theorem i_X7 : ∀ w ∈ u_ws RX7 TX7 3, w ∈ W0 := by
  intro w hw
  exact w0_in (List.mem_append_right _ ((by decide +kernel : ∀ w ∈ u_ws RX7 TX7 3, w ∈ tables_1) w hw)) ((by decide +kernel : ∀ w ∈ u_ws RX7 TX7 3, goodWord w = true) w hw)
section
variable {p : Program} {l : Launch} {e : Env} {R : Room} {s : State} {m : MethodId} {args : Array Value} {below : List Frame} {meth : Method} {c : Code} {H : Heap} {locs : List Loc} {cells slots : Nat} {Q : State → Prop}
variable {cc : ByteArray} {pc : Nat} {ls : Array Slot} {rest : List Value} {X : Ec} {h h1 : Hp} {nL : Nat} {rt : Option FieldType} {mn : String}
theorem pf_X7_9 {a r : Nat} (C : Cx X p s m args meth c RX7 cc nL rt mn) (hW : Wx X h H) (hZ : va_S (aA (eB X)) s.heap H locs) (hmn : mn = "<init>") (ha : hK h a = 7) (hr : hK h r = 1) (eh : h1 = wR h a 0 (some r)) (hdg : decode cc pc = .ok (.putfield 9, 3)) (kk : ∀ (H1 : Heap) (locs1 : List Loc), Wx X h1 H1 → Km h h1 → va_S (aA (eB X)) s.heap H1 locs1 → W p l e R s m args below meth c H1 locs1 cells slots Q (F0 m (pc + 3) ls rest)) : W p l e R s m args below meth c H locs cells slots Q (F0 m pc ls (.ref r :: .ref a :: rest)) :=
  y_putrF (ty := .object "GameRules$Law") C hW hZ ha i_X7 tyX7 tyX7_ok nmX7 (by decide) rfl rfl (by decide) m_381 rfl hmn rfl (by decide +kernel) rfl rfl rfl hr rfl (by decide) eh hdg kk
end
theorem dX7_init_0 : decode cX7_init 0 = .ok (.aload_n 0, 1) := by decide +kernel
theorem dX7_init_1 : decode cX7_init 1 = .ok (.invokespecial 3, 3) := by decide +kernel
theorem dX7_init_4 : decode cX7_init 4 = .ok (.aload_n 0, 1) := by decide +kernel
theorem dX7_init_5 : decode cX7_init 5 = .ok (.aload_n 1, 1) := by decide +kernel
theorem dX7_init_6 : decode cX7_init 6 = .ok (.putfield 9, 3) := by decide +kernel
theorem dX7_init_9 : decode cX7_init 9 = .ok (.return_, 1) := by decide +kernel
def sX7_init (h : Hp) (x0 : Nat) (x1 : Nat) : Option (Hp) := nm (wR h x0 0 (some x1)) fun h_1 => some h_1
set_option maxRecDepth 20000 in
theorem moX7_init {o : Hp} {h : Hp} {x0 : Nat} {x1 : Nat} (hE : sX7_init h x0 x1 = some o) : Le h o := by
  obtain ⟨h_1, eh_1, hE⟩ := nm_e2 hE
  refine (le_R eh_1).tr ?_
  cases hE
  exact Le.rf _
set_option maxRecDepth 20000 in
theorem ct_X7_init (l : Launch) (X : Ec) {h : Hp} {x0 : Nat} {x1 : Nat} {o : Hp} (k_x0 : hK h x0 = 7) (k_x1 : hK h x1 = 1) (hE : sX7_init h x0 x1 = some o) : MetV l yX7_init cX7_init 2 none 1 20 X [.ref x0, .ref x1] h o := by
  refine x_met (by decide) (Nat.le_of_ble_eq_true rfl) ?_
  intro p e s m below meth c ls C hl hW hZ
  have hl : lv_has ls 2 [(0, .ref x0), (1, .ref x1)] := hl
  have hkm : Km h h := Km.rf h
  refine lv_aload_n C.1 C.2.1 dX7_init_0 rfl (lv_at hl 0 rfl) ?_
  refine W.objInit C.1 C.2.1 C.2.2.2.1 (C.2.2.2.2.1 _ m_380) (C.2.2.2.2.1 _ m_32) (C.2.2.2.2.1 _ m_33) rfl (by rw [C.2.2.1]; exact hl.1) rfl dX7_init_1 (Nat.le_of_ble_eq_true rfl) (Nat.le_of_ble_eq_true rfl) ?_
  refine W.eq (g2 := F0 m 4 ls []) rfl ?_
  refine lv_aload_n C.1 C.2.1 dX7_init_4 rfl (lv_at hl 0 rfl) ?_
  refine lv_aload_n C.1 C.2.1 dX7_init_5 rfl (lv_at hl 1 rfl) ?_
  obtain ⟨h_1, eh_1, hE⟩ := nm_e2 hE
  refine pf_X7_9 C hW hZ rfl k_x0 k_x1 eh_1 dX7_init_6 (fun _ _ hW km hZ => ?_)
  replace hkm := hkm.tr km
  replace k_x0 := km.at k_x0 (by decide)
  replace k_x1 := km.at k_x1 (by decide)
  exact x_vret C rfl hW hZ hkm hE dX7_init_9
theorem m_382 : Cond.fieldLink RX7 15 (TX7 1).1 (TX7 1).2.1 (TX7 1).2.2.1 ∈ W0 := w0_in (List.mem_append_right _ (List.mem_of_getElem? (i := 382) (by decide +kernel))) rfl
theorem m_383 : Cond.fieldLink RX7 19 (TX7 2).1 (TX7 2).2.1 (TX7 2).2.2.1 ∈ W0 := w0_in (List.mem_append_right _ (List.mem_of_getElem? (i := 383) (by decide +kernel))) rfl
theorem m_978 : Cond.methodLink RX7 54 yX9_byteAt ∈ W0 := w0_in (List.mem_append_right _ (List.mem_of_getElem? (i := 978) (by decide +kernel))) rfl
section
variable {p : Program} {l : Launch} {e : Env} {R : Room} {s : State} {m : MethodId} {args : Array Value} {below : List Frame} {meth : Method} {c : Code} {H : Heap} {locs : List Loc} {cells slots : Nat} {Q : State → Prop}
variable {cc : ByteArray} {pc : Nat} {ls : Array Slot} {rest : List Value} {X : Ec} {h h1 : Hp} {nL : Nat} {rt : Option FieldType} {mn : String}
theorem gf_X7_15 {a r : Nat} (C : Cx X p s m args meth c RX7 cc nL rt mn) (hW : Wx X h H) (ha : hK h a = 7) (hr : hR h a 1 = some r) (hdg : decode cc pc = .ok (.getfield 15, 3)) (kk : hK h r = 9 → W p l e R s m args below meth c H locs cells slots Q (F0 m (pc + 3) ls (.ref r :: rest))) : W p l e R s m args below meth c H locs cells slots Q (F0 m pc ls (.ref a :: rest)) :=
  y_getr C hW ha i_X7 (by decide) rfl (by decide) m_382 rfl rfl hr hdg kk
theorem gf_X7_19 {a : Nat} (C : Cx X p s m args meth c RX7 cc nL rt mn) (hW : Wx X h H) (ha : hK h a = 7) (hdg : decode cc pc = .ok (.getfield 19, 3)) (kk : W p l e R s m args below meth c H locs cells slots Q (F0 m (pc + 3) ls (.int (hI h a 2) :: rest))) : W p l e R s m args below meth c H locs cells slots Q (F0 m pc ls (.ref a :: rest)) :=
  y_geti C hW ha i_X7 (by decide) rfl (by decide) m_383 rfl hdg kk
theorem pf_X7_19 {a : Nat} {v : Int32} (C : Cx X p s m args meth c RX7 cc nL rt mn) (hW : Wx X h H) (hZ : va_S (aA (eB X)) s.heap H locs) (ha : hK h a = 7) (eh : h1 = wI h a 2 v) (hdg : decode cc pc = .ok (.putfield 19, 3)) (kk : ∀ (H1 : Heap) (locs1 : List Loc), Wx X h1 H1 → Km h h1 → va_S (aA (eB X)) s.heap H1 locs1 → W p l e R s m args below meth c H1 locs1 cells slots Q (F0 m (pc + 3) ls rest)) : W p l e R s m args below meth c H locs cells slots Q (F0 m pc ls (.int v :: .ref a :: rest)) :=
  y_puti (ty := .int) C hW hZ ha i_X7 tyX7 tyX7_ok nmX7 (by decide) rfl rfl (by decide) m_383 rfl (by decide +kernel) rfl rfl rfl eh hdg kk
end
theorem cw_X7_54 : cwd RX7 54 yX9_byteAt cX9_byteAt 2 (some .int) false 1 := ⟨m_659, m_978, m_2, ⟨m_657, m_658⟩, by decide, by decide, by decide +kernel⟩
theorem dX7_takeByte_0 : decode cX7_takeByte 0 = .ok (.aload_n 0, 1) := by decide +kernel
theorem dX7_takeByte_1 : decode cX7_takeByte 1 = .ok (.getfield 15, 3) := by decide +kernel
theorem dX7_takeByte_4 : decode cX7_takeByte 4 = .ok (.aload_n 0, 1) := by decide +kernel
theorem dX7_takeByte_5 : decode cX7_takeByte 5 = .ok (.getfield 19, 3) := by decide +kernel
theorem dX7_takeByte_8 : decode cX7_takeByte 8 = .ok (.invokevirtual 54, 3) := by decide +kernel
theorem dX7_takeByte_11 : decode cX7_takeByte 11 = .ok (.iload_n 1, 1) := by decide +kernel
theorem dX7_takeByte_12 : decode cX7_takeByte 12 = .ok (.if_icmp .eq 5, 3) := by decide +kernel
theorem dX7_takeByte_15 : decode cX7_takeByte 15 = .ok (.iconst 0, 1) := by decide +kernel
theorem dX7_takeByte_16 : decode cX7_takeByte 16 = .ok (.ireturn, 1) := by decide +kernel
theorem dX7_takeByte_17 : decode cX7_takeByte 17 = .ok (.aload_n 0, 1) := by decide +kernel
theorem dX7_takeByte_18 : decode cX7_takeByte 18 = .ok (.dup, 1) := by decide +kernel
theorem dX7_takeByte_19 : decode cX7_takeByte 19 = .ok (.getfield 19, 3) := by decide +kernel
theorem dX7_takeByte_22 : decode cX7_takeByte 22 = .ok (.iconst 1, 1) := by decide +kernel
theorem dX7_takeByte_23 : decode cX7_takeByte 23 = .ok (.iadd, 1) := by decide +kernel
theorem dX7_takeByte_24 : decode cX7_takeByte 24 = .ok (.putfield 19, 3) := by decide +kernel
theorem dX7_takeByte_27 : decode cX7_takeByte 27 = .ok (.iconst 1, 1) := by decide +kernel
theorem dX7_takeByte_28 : decode cX7_takeByte 28 = .ok (.ireturn, 1) := by decide +kernel
def sX7_takeByte (h : Hp) (x0 : Nat) (x1 : Int32) : Option (Int32 × Hp) := cl (hR h x0 1) fun r_1 => cl (sX9_byteAt h r_1 (hI h x0 2)) fun o_2 => br (o_2.1 = x1) (nm (wI o_2.2 x0 2 ((hI o_2.2 x0 2) + (1 : Int32))) fun h_4 => some ((1 : Int32), h_4)) (some ((0 : Int32), o_2.2))
set_option maxRecDepth 20000 in
theorem ct_X7_takeByte (l : Launch) (X : Ec) {h : Hp} {x0 : Nat} {x1 : Int32} {o : Int32 × Hp} (k_x0 : hK h x0 = 7) (hE : sX7_takeByte h x0 x1 = some o) : MetI l yX7_takeByte cX7_takeByte 2 (some .boolean) 1 21 X [.ref x0, .int x1] h o := by
  refine x_met (by decide) (Nat.le_of_ble_eq_true rfl) ?_
  intro p e s m below meth c ls C hl hW hZ
  have hl : lv_has ls 2 [(0, .ref x0), (1, .int x1)] := hl
  have hkm : Km h h := Km.rf h
  refine lv_aload_n C.1 C.2.1 dX7_takeByte_0 rfl (lv_at hl 0 rfl) ?_
  obtain ⟨r_1, er_1, hE⟩ := cl_e hE
  refine gf_X7_15 C hW k_x0 er_1 dX7_takeByte_1 (fun k_r_1 => ?_)
  refine lv_aload_n C.1 C.2.1 dX7_takeByte_4 rfl (lv_at hl 0 rfl) ?_
  refine gf_X7_19 C hW k_x0 dX7_takeByte_5 ?_
  obtain ⟨o_2, eo_2, hE⟩ := cl_e hE
  refine x_kI (o := o_2) (z_runV (As := [.int (hI h x0 2)]) (rest := []) C (ct_X9_byteAt l X k_r_1 eo_2) cw_X7_54 hW hZ k_r_1 (by decide) rfl rfl rfl hl.1 (Nat.le_of_ble_eq_true rfl) rfl dX7_takeByte_8 ⟨Nat.le_of_ble_eq_true rfl, Nat.le_of_ble_eq_true rfl⟩ ⟨Nat.le_refl _, Nat.le_refl _⟩) hZ (fun _ _ hW km hZ => ?_)
  replace hkm := hkm.tr km
  replace k_x0 := km.at k_x0 (by decide)
  refine lv_iload_n C.1 C.2.1 dX7_takeByte_11 rfl (lv_at hl 1 rfl) ?_
  refine lv_icmp_eq (tgt := 17) C.1 C.2.1 dX7_takeByte_12 (by decide) (fun c_3 => ?_) (fun c_3 => ?_)
  · have hE := br_p hE c_3
    refine lv_aload_n C.1 C.2.1 dX7_takeByte_17 rfl (lv_at hl 0 rfl) ?_
    refine lv_dup C.1 C.2.1 dX7_takeByte_18 rfl ?_
    refine gf_X7_19 C hW k_x0 dX7_takeByte_19 ?_
    refine lv_iconst (v := (1 : Int32)) C.1 C.2.1 dX7_takeByte_22 (by decide) ?_
    refine lv_iadd C.1 C.2.1 dX7_takeByte_23 ?_
    obtain ⟨h_4, eh_4, hE⟩ := nm_e2 hE
    refine pf_X7_19 C hW hZ k_x0 eh_4 dX7_takeByte_24 (fun _ _ hW km hZ => ?_)
    replace hkm := hkm.tr km
    replace k_x0 := km.at k_x0 (by decide)
    refine lv_iconst (v := (1 : Int32)) C.1 C.2.1 dX7_takeByte_27 (by decide) ?_
    exact x_iret C rfl (by decide) hW hZ hkm hE dX7_takeByte_28
  · have hE := br_n hE c_3
    refine lv_iconst (v := (0 : Int32)) C.1 C.2.1 dX7_takeByte_15 (by decide) ?_
    exact x_iret C rfl (by decide) hW hZ hkm hE dX7_takeByte_16
theorem ms_32 : Cond.selects RX7 yX7_takeByte yX7_takeByte ∈ W0 := w0_in (List.mem_append_left _ (List.mem_of_getElem? (i := 32) (by decide +kernel))) rfl
theorem m_10 : Cond.initialized RX7 ∈ W0 := w0_in (List.mem_append_right _ (List.mem_of_getElem? (i := 10) (by decide +kernel))) rfl
theorem m_62 : Cond.fieldLink RX7 65 (TX1 0).1 (TX1 0).2.1 (TX1 0).2.2.1 ∈ W0 := w0_in (List.mem_append_right _ (List.mem_of_getElem? (i := 62) (by decide +kernel))) rfl
theorem m_68 : Cond.fieldLink RX7 60 (TX1 1).1 (TX1 1).2.1 (TX1 1).2.2.1 ∈ W0 := w0_in (List.mem_append_right _ (List.mem_of_getElem? (i := 68) (by decide +kernel))) rfl
theorem m_89 : Cond.fieldLink RX7 71 (TX1 4).1 (TX1 4).2.1 (TX1 4).2.2.1 ∈ W0 := w0_in (List.mem_append_right _ (List.mem_of_getElem? (i := 89) (by decide +kernel))) rfl
theorem m_974 : Cond.methodLink RX7 32 yX7_takeByte ∈ W0 := w0_in (List.mem_append_right _ (List.mem_of_getElem? (i := 974) (by decide +kernel))) rfl
theorem m_976 : Cond.instanceMethod yX7_takeByte ∈ W0 := w0_in (List.mem_append_right _ (List.mem_of_getElem? (i := 976) (by decide +kernel))) rfl
theorem m_977 : Cond.code yX7_takeByte cX7_takeByte 2 (some .boolean) ∈ W0 := w0_in (List.mem_append_right _ (List.mem_of_getElem? (i := 977) (by decide +kernel))) rfl
theorem m_979 : Cond.methodLink RX7 68 yX1_codeOf ∈ W0 := w0_in (List.mem_append_right _ (List.mem_of_getElem? (i := 979) (by decide +kernel))) rfl
theorem m_980 : Cond.instanceMethod yX1_codeOf ∈ W0 := w0_in (List.mem_append_right _ (List.mem_of_getElem? (i := 980) (by decide +kernel))) rfl
theorem m_981 : Cond.selects RX1 yX1_codeOf yX1_codeOf ∈ W0 := w0_in (List.mem_append_right _ (List.mem_of_getElem? (i := 981) (by decide +kernel))) rfl
theorem m_982 : Cond.code yX1_codeOf cX1_codeOf 4 (some .int) ∈ W0 := w0_in (List.mem_append_right _ (List.mem_of_getElem? (i := 982) (by decide +kernel))) rfl
theorem m_984 : Cond.methodLink RX7 74 yX3_put ∈ W0 := w0_in (List.mem_append_right _ (List.mem_of_getElem? (i := 984) (by decide +kernel))) rfl
theorem m_985 : Cond.instanceMethod yX3_put ∈ W0 := w0_in (List.mem_append_right _ (List.mem_of_getElem? (i := 985) (by decide +kernel))) rfl
theorem m_986 : Cond.selects RX3 yX3_put yX3_put ∈ W0 := w0_in (List.mem_append_right _ (List.mem_of_getElem? (i := 986) (by decide +kernel))) rfl
theorem m_987 : Cond.code yX3_put cX3_put 7 none ∈ W0 := w0_in (List.mem_append_right _ (List.mem_of_getElem? (i := 987) (by decide +kernel))) rfl
section
variable {p : Program} {l : Launch} {e : Env} {R : Room} {s : State} {m : MethodId} {args : Array Value} {below : List Frame} {meth : Method} {c : Code} {H : Heap} {locs : List Loc} {cells slots : Nat} {Q : State → Prop}
variable {cc : ByteArray} {pc : Nat} {ls : Array Slot} {rest : List Value} {X : Ec} {h h1 : Hp} {nL : Nat} {rt : Option FieldType} {mn : String}
theorem gf_X7_9 {a r : Nat} (C : Cx X p s m args meth c RX7 cc nL rt mn) (hW : Wx X h H) (ha : hK h a = 7) (hr : hR h a 0 = some r) (hdg : decode cc pc = .ok (.getfield 9, 3)) (kk : hK h r = 1 → W p l e R s m args below meth c H locs cells slots Q (F0 m (pc + 3) ls (.ref r :: rest))) : W p l e R s m args below meth c H locs cells slots Q (F0 m pc ls (.ref a :: rest)) :=
  y_getr C hW ha i_X7 (by decide) rfl (by decide) m_381 rfl rfl hr hdg kk
theorem gf_X7_65 {a : Nat} (C : Cx X p s m args meth c RX7 cc nL rt mn) (hW : Wx X h H) (ha : hK h a = 1) (hdg : decode cc pc = .ok (.getfield 65, 3)) (kk : W p l e R s m args below meth c H locs cells slots Q (F0 m (pc + 3) ls (.int (hI h a 0) :: rest))) : W p l e R s m args below meth c H locs cells slots Q (F0 m pc ls (.ref a :: rest)) :=
  y_geti C hW ha i_X1 (by decide) rfl (by decide) m_62 rfl hdg kk
theorem gf_X7_71 {a : Nat} (C : Cx X p s m args meth c RX7 cc nL rt mn) (hW : Wx X h H) (ha : hK h a = 1) (hdg : decode cc pc = .ok (.getfield 71, 3)) (kk : W p l e R s m args below meth c H locs cells slots Q (F0 m (pc + 3) ls (.int (hI h a 4) :: rest))) : W p l e R s m args below meth c H locs cells slots Q (F0 m pc ls (.ref a :: rest)) :=
  y_geti C hW ha i_X1 (by decide) rfl (by decide) m_89 rfl hdg kk
theorem gf_X7_60 {a : Nat} (C : Cx X p s m args meth c RX7 cc nL rt mn) (hW : Wx X h H) (ha : hK h a = 1) (hdg : decode cc pc = .ok (.getfield 60, 3)) (kk : W p l e R s m args below meth c H locs cells slots Q (F0 m (pc + 3) ls (.int (hI h a 1) :: rest))) : W p l e R s m args below meth c H locs cells slots Q (F0 m pc ls (.ref a :: rest)) :=
  y_geti C hW ha i_X1 (by decide) rfl (by decide) m_68 rfl hdg kk
end
theorem cw_X7_74 : cwd RX7 74 yX3_put cX3_put 7 none false 3 := ⟨m_987, m_984, m_8, ⟨m_985, m_986⟩, by decide, by decide, by decide +kernel⟩
theorem cw_X7_68 : cwd RX7 68 yX1_codeOf cX1_codeOf 4 (some .int) false 1 := ⟨m_982, m_979, m_4, ⟨m_980, m_981⟩, by decide, by decide, by decide +kernel⟩
theorem cw_X7_32 : cwd RX7 32 yX7_takeByte cX7_takeByte 2 (some .boolean) false 1 := ⟨m_977, m_974, m_10, ⟨m_976, ms_32⟩, by decide, by decide, by decide +kernel⟩
theorem dX7_readRanks_0 : decode cX7_readRanks 0 = .ok (.aload_n 0, 1) := by decide +kernel
theorem dX7_readRanks_1 : decode cX7_readRanks 1 = .ok (.getfield 9, 3) := by decide +kernel
theorem dX7_readRanks_4 : decode cX7_readRanks 4 = .ok (.getfield 60, 3) := by decide +kernel
theorem dX7_readRanks_7 : decode cX7_readRanks 7 = .ok (.iconst 1, 1) := by decide +kernel
theorem dX7_readRanks_8 : decode cX7_readRanks 8 = .ok (.isub, 1) := by decide +kernel
theorem dX7_readRanks_9 : decode cX7_readRanks 9 = .ok (.istore_n 2, 1) := by decide +kernel
theorem dX7_readRanks_10 : decode cX7_readRanks 10 = .ok (.iload_n 2, 1) := by decide +kernel
theorem dX7_readRanks_11 : decode cX7_readRanks 11 = .ok (.ifCond .lt 180, 3) := by decide +kernel
theorem dX7_readRanks_14 : decode cX7_readRanks 14 = .ok (.iload_n 2, 1) := by decide +kernel
theorem dX7_readRanks_15 : decode cX7_readRanks 15 = .ok (.aload_n 0, 1) := by decide +kernel
theorem dX7_readRanks_16 : decode cX7_readRanks 16 = .ok (.getfield 9, 3) := by decide +kernel
theorem dX7_readRanks_19 : decode cX7_readRanks 19 = .ok (.getfield 60, 3) := by decide +kernel
theorem dX7_readRanks_22 : decode cX7_readRanks 22 = .ok (.iconst 1, 1) := by decide +kernel
theorem dX7_readRanks_23 : decode cX7_readRanks 23 = .ok (.isub, 1) := by decide +kernel
theorem dX7_readRanks_24 : decode cX7_readRanks 24 = .ok (.if_icmp .ge 14, 3) := by decide +kernel
theorem dX7_readRanks_27 : decode cX7_readRanks 27 = .ok (.aload_n 0, 1) := by decide +kernel
theorem dX7_readRanks_28 : decode cX7_readRanks 28 = .ok (.bipush 47, 2) := by decide +kernel
theorem dX7_readRanks_30 : decode cX7_readRanks 30 = .ok (.invokevirtual 32, 3) := by decide +kernel
theorem dX7_readRanks_33 : decode cX7_readRanks 33 = .ok (.ifCond .ne 5, 3) := by decide +kernel
theorem dX7_readRanks_36 : decode cX7_readRanks 36 = .ok (.iconst 0, 1) := by decide +kernel
theorem dX7_readRanks_37 : decode cX7_readRanks 37 = .ok (.ireturn, 1) := by decide +kernel
theorem dX7_readRanks_38 : decode cX7_readRanks 38 = .ok (.iconst 0, 1) := by decide +kernel
theorem dX7_readRanks_39 : decode cX7_readRanks 39 = .ok (.istore_n 3, 1) := by decide +kernel
theorem dX7_readRanks_40 : decode cX7_readRanks 40 = .ok (.iload_n 3, 1) := by decide +kernel
theorem dX7_readRanks_41 : decode cX7_readRanks 41 = .ok (.aload_n 0, 1) := by decide +kernel
theorem dX7_readRanks_42 : decode cX7_readRanks 42 = .ok (.getfield 9, 3) := by decide +kernel
theorem dX7_readRanks_45 : decode cX7_readRanks 45 = .ok (.getfield 65, 3) := by decide +kernel
theorem dX7_readRanks_48 : decode cX7_readRanks 48 = .ok (.if_icmp .ge 137, 3) := by decide +kernel
theorem dX7_readRanks_51 : decode cX7_readRanks 51 = .ok (.aload_n 0, 1) := by decide +kernel
theorem dX7_readRanks_52 : decode cX7_readRanks 52 = .ok (.getfield 15, 3) := by decide +kernel
theorem dX7_readRanks_55 : decode cX7_readRanks 55 = .ok (.aload_n 0, 1) := by decide +kernel
theorem dX7_readRanks_56 : decode cX7_readRanks 56 = .ok (.getfield 19, 3) := by decide +kernel
theorem dX7_readRanks_59 : decode cX7_readRanks 59 = .ok (.invokevirtual 54, 3) := by decide +kernel
theorem dX7_readRanks_62 : decode cX7_readRanks 62 = .ok (.istore 4, 2) := by decide +kernel
theorem dX7_readRanks_64 : decode cX7_readRanks 64 = .ok (.aload_n 0, 1) := by decide +kernel
theorem dX7_readRanks_65 : decode cX7_readRanks 65 = .ok (.getfield 9, 3) := by decide +kernel
theorem dX7_readRanks_68 : decode cX7_readRanks 68 = .ok (.iload 4, 2) := by decide +kernel
theorem dX7_readRanks_70 : decode cX7_readRanks 70 = .ok (.invokevirtual 68, 3) := by decide +kernel
theorem dX7_readRanks_73 : decode cX7_readRanks 73 = .ok (.istore 5, 2) := by decide +kernel
theorem dX7_readRanks_75 : decode cX7_readRanks 75 = .ok (.iload 4, 2) := by decide +kernel
theorem dX7_readRanks_77 : decode cX7_readRanks 77 = .ok (.bipush 49, 2) := by decide +kernel
theorem dX7_readRanks_79 : decode cX7_readRanks 79 = .ok (.if_icmp .lt 18, 3) := by decide +kernel
theorem dX7_readRanks_82 : decode cX7_readRanks 82 = .ok (.iload 4, 2) := by decide +kernel
theorem dX7_readRanks_84 : decode cX7_readRanks 84 = .ok (.bipush 56, 2) := by decide +kernel
theorem dX7_readRanks_86 : decode cX7_readRanks 86 = .ok (.if_icmp .gt 11, 3) := by decide +kernel
theorem dX7_readRanks_89 : decode cX7_readRanks 89 = .ok (.iload 4, 2) := by decide +kernel
theorem dX7_readRanks_91 : decode cX7_readRanks 91 = .ok (.bipush 48, 2) := by decide +kernel
theorem dX7_readRanks_93 : decode cX7_readRanks 93 = .ok (.isub, 1) := by decide +kernel
theorem dX7_readRanks_94 : decode cX7_readRanks 94 = .ok (.goto 4, 3) := by decide +kernel
theorem dX7_readRanks_97 : decode cX7_readRanks 97 = .ok (.iconst 0, 1) := by decide +kernel
theorem dX7_readRanks_98 : decode cX7_readRanks 98 = .ok (.istore 6, 2) := by decide +kernel
theorem dX7_readRanks_100 : decode cX7_readRanks 100 = .ok (.iload 5, 2) := by decide +kernel
theorem dX7_readRanks_102 : decode cX7_readRanks 102 = .ok (.iconst (-1), 1) := by decide +kernel
theorem dX7_readRanks_103 : decode cX7_readRanks 103 = .ok (.if_icmp .ne 24, 3) := by decide +kernel
theorem dX7_readRanks_106 : decode cX7_readRanks 106 = .ok (.iload 6, 2) := by decide +kernel
theorem dX7_readRanks_108 : decode cX7_readRanks 108 = .ok (.ifCond .eq 17, 3) := by decide +kernel
theorem dX7_readRanks_111 : decode cX7_readRanks 111 = .ok (.iload_n 3, 1) := by decide +kernel
theorem dX7_readRanks_112 : decode cX7_readRanks 112 = .ok (.iload 6, 2) := by decide +kernel
theorem dX7_readRanks_114 : decode cX7_readRanks 114 = .ok (.iadd, 1) := by decide +kernel
theorem dX7_readRanks_115 : decode cX7_readRanks 115 = .ok (.aload_n 0, 1) := by decide +kernel
theorem dX7_readRanks_116 : decode cX7_readRanks 116 = .ok (.getfield 9, 3) := by decide +kernel
theorem dX7_readRanks_119 : decode cX7_readRanks 119 = .ok (.getfield 65, 3) := by decide +kernel
theorem dX7_readRanks_122 : decode cX7_readRanks 122 = .ok (.if_icmp .le 5, 3) := by decide +kernel
theorem dX7_readRanks_125 : decode cX7_readRanks 125 = .ok (.iconst 0, 1) := by decide +kernel
theorem dX7_readRanks_126 : decode cX7_readRanks 126 = .ok (.ireturn, 1) := by decide +kernel
theorem dX7_readRanks_127 : decode cX7_readRanks 127 = .ok (.iload 5, 2) := by decide +kernel
theorem dX7_readRanks_129 : decode cX7_readRanks 129 = .ok (.iconst (-1), 1) := by decide +kernel
theorem dX7_readRanks_130 : decode cX7_readRanks 130 = .ok (.if_icmp .eq 27, 3) := by decide +kernel
theorem dX7_readRanks_133 : decode cX7_readRanks 133 = .ok (.aload_n 1, 1) := by decide +kernel
theorem dX7_readRanks_134 : decode cX7_readRanks 134 = .ok (.iload_n 2, 1) := by decide +kernel
theorem dX7_readRanks_135 : decode cX7_readRanks 135 = .ok (.aload_n 0, 1) := by decide +kernel
theorem dX7_readRanks_136 : decode cX7_readRanks 136 = .ok (.getfield 9, 3) := by decide +kernel
theorem dX7_readRanks_139 : decode cX7_readRanks 139 = .ok (.getfield 65, 3) := by decide +kernel
theorem dX7_readRanks_142 : decode cX7_readRanks 142 = .ok (.imul, 1) := by decide +kernel
theorem dX7_readRanks_143 : decode cX7_readRanks 143 = .ok (.iload_n 3, 1) := by decide +kernel
theorem dX7_readRanks_144 : decode cX7_readRanks 144 = .ok (.iadd, 1) := by decide +kernel
theorem dX7_readRanks_145 : decode cX7_readRanks 145 = .ok (.iload 5, 2) := by decide +kernel
theorem dX7_readRanks_147 : decode cX7_readRanks 147 = .ok (.aload_n 0, 1) := by decide +kernel
theorem dX7_readRanks_148 : decode cX7_readRanks 148 = .ok (.getfield 9, 3) := by decide +kernel
theorem dX7_readRanks_151 : decode cX7_readRanks 151 = .ok (.getfield 71, 3) := by decide +kernel
theorem dX7_readRanks_154 : decode cX7_readRanks 154 = .ok (.invokevirtual 74, 3) := by decide +kernel
theorem dX7_readRanks_157 : decode cX7_readRanks 157 = .ok (.iload_n 3, 1) := by decide +kernel
theorem dX7_readRanks_158 : decode cX7_readRanks 158 = .ok (.iload 5, 2) := by decide +kernel
theorem dX7_readRanks_160 : decode cX7_readRanks 160 = .ok (.iconst (-1), 1) := by decide +kernel
theorem dX7_readRanks_161 : decode cX7_readRanks 161 = .ok (.if_icmp .eq 7, 3) := by decide +kernel
theorem dX7_readRanks_164 : decode cX7_readRanks 164 = .ok (.iconst 1, 1) := by decide +kernel
theorem dX7_readRanks_165 : decode cX7_readRanks 165 = .ok (.goto 5, 3) := by decide +kernel
theorem dX7_readRanks_168 : decode cX7_readRanks 168 = .ok (.iload 6, 2) := by decide +kernel
theorem dX7_readRanks_170 : decode cX7_readRanks 170 = .ok (.iadd, 1) := by decide +kernel
theorem dX7_readRanks_171 : decode cX7_readRanks 171 = .ok (.istore_n 3, 1) := by decide +kernel
theorem dX7_readRanks_172 : decode cX7_readRanks 172 = .ok (.aload_n 0, 1) := by decide +kernel
theorem dX7_readRanks_173 : decode cX7_readRanks 173 = .ok (.dup, 1) := by decide +kernel
theorem dX7_readRanks_174 : decode cX7_readRanks 174 = .ok (.getfield 19, 3) := by decide +kernel
theorem dX7_readRanks_177 : decode cX7_readRanks 177 = .ok (.iconst 1, 1) := by decide +kernel
theorem dX7_readRanks_178 : decode cX7_readRanks 178 = .ok (.iadd, 1) := by decide +kernel
theorem dX7_readRanks_179 : decode cX7_readRanks 179 = .ok (.putfield 19, 3) := by decide +kernel
theorem dX7_readRanks_182 : decode cX7_readRanks 182 = .ok (.goto (-142), 3) := by decide +kernel
theorem dX7_readRanks_185 : decode cX7_readRanks 185 = .ok (.iinc 2 (-1), 3) := by decide +kernel
theorem dX7_readRanks_188 : decode cX7_readRanks 188 = .ok (.goto (-178), 3) := by decide +kernel
theorem dX7_readRanks_191 : decode cX7_readRanks 191 = .ok (.iconst 1, 1) := by decide +kernel
theorem dX7_readRanks_192 : decode cX7_readRanks 192 = .ok (.ireturn, 1) := by decide +kernel
def sX7_readRanks_170 (F : Nat) (k_10 : Hp → Nat → Nat → Int32 → Option (Int32 × Hp)) (k_40 : Hp → Nat → Nat → Int32 → Int32 → Option (Int32 × Hp)) (h : Hp) (x0 : Nat) (x1 : Nat) (x2 : Int32) (t0 : Int32) (t1 : Int32) : Option (Int32 × Hp) := nm (t1 + t0) fun v_1 => nm (wI h x0 2 ((hI h x0 2) + (1 : Int32))) fun h_2 => k_40 h_2 x0 x1 x2 v_1
def sX7_readRanks_157 (F : Nat) (k_10 : Hp → Nat → Nat → Int32 → Option (Int32 × Hp)) (k_40 : Hp → Nat → Nat → Int32 → Int32 → Option (Int32 × Hp)) (h : Hp) (x0 : Nat) (x1 : Nat) (x2 : Int32) (x3 : Int32) (x5 : Int32) (x6 : Int32) : Option (Int32 × Hp) := br (x5 = (-1 : Int32)) (sX7_readRanks_170 F k_10 k_40 h x0 x1 x2 x6 x3) (sX7_readRanks_170 F k_10 k_40 h x0 x1 x2 (1 : Int32) x3)
def sX7_readRanks_127 (F : Nat) (k_10 : Hp → Nat → Nat → Int32 → Option (Int32 × Hp)) (k_40 : Hp → Nat → Nat → Int32 → Int32 → Option (Int32 × Hp)) (h : Hp) (x0 : Nat) (x1 : Nat) (x2 : Int32) (x3 : Int32) (x5 : Int32) (x6 : Int32) : Option (Int32 × Hp) := br (x5 = (-1 : Int32)) (sX7_readRanks_157 F k_10 k_40 h x0 x1 x2 x3 x5 x6) (cl (hR h x0 0) fun r_2 => cl (hR h x0 0) fun r_3 => cl (sX3_put h x1 ((x2 * (hI h r_2 0)) + x3) x5 (hI h r_3 4)) fun o_4 => sX7_readRanks_157 F k_10 k_40 o_4 x0 x1 x2 x3 x5 x6)
def sX7_readRanks_125 (F : Nat) (h : Hp) : Option (Int32 × Hp) := some ((0 : Int32), h)
def sX7_readRanks_98 (F : Nat) (k_10 : Hp → Nat → Nat → Int32 → Option (Int32 × Hp)) (k_40 : Hp → Nat → Nat → Int32 → Int32 → Option (Int32 × Hp)) (h : Hp) (x0 : Nat) (x1 : Nat) (x2 : Int32) (x3 : Int32) (x5 : Int32) (t0 : Int32) : Option (Int32 × Hp) := br (x5 = (-1 : Int32)) (br (t0 = 0) (sX7_readRanks_125 F h ) (cl (hR h x0 0) fun r_3 => br ((x3 + t0) ≤ (hI h r_3 0)) (sX7_readRanks_127 F k_10 k_40 h x0 x1 x2 x3 x5 t0) (sX7_readRanks_125 F h ))) (sX7_readRanks_127 F k_10 k_40 h x0 x1 x2 x3 x5 t0)
def sX7_readRanks_97 (F : Nat) (k_10 : Hp → Nat → Nat → Int32 → Option (Int32 × Hp)) (k_40 : Hp → Nat → Nat → Int32 → Int32 → Option (Int32 × Hp)) (h : Hp) (x0 : Nat) (x1 : Nat) (x2 : Int32) (x3 : Int32) (x5 : Int32) : Option (Int32 × Hp) := sX7_readRanks_98 F k_10 k_40 h x0 x1 x2 x3 x5 (0 : Int32)
def sX7_readRanks_40 (F : Nat) (k_10 : Hp → Nat → Nat → Int32 → Option (Int32 × Hp)) : Nat → Hp → Nat → Nat → Int32 → Int32 → Option (Int32 × Hp)
  | 0, _, _, _, _, _ => none
  | f + 1, h, x0, x1, x2, x3 => cl (hR h x0 0) fun r_1 => br ((hI h r_1 0) ≤ x3) (nm (x2 + (-1 : Int32)) fun v_3 => k_10 h x0 x1 v_3) (cl (hR h x0 1) fun r_4 => cl (sX9_byteAt h r_4 (hI h x0 2)) fun o_5 => cl (hR o_5.2 x0 0) fun r_6 => cl (sX1_codeOf F o_5.2 r_6 o_5.1) fun o_7 => br (o_5.1 < (49 : Int32)) (sX7_readRanks_97 F k_10 (sX7_readRanks_40 F k_10 f) o_7.2 x0 x1 x2 x3 o_7.1) (br ((56 : Int32) < o_5.1) (sX7_readRanks_97 F k_10 (sX7_readRanks_40 F k_10 f) o_7.2 x0 x1 x2 x3 o_7.1) (sX7_readRanks_98 F k_10 (sX7_readRanks_40 F k_10 f) o_7.2 x0 x1 x2 x3 o_7.1 (o_5.1 - (48 : Int32)))))
def sX7_readRanks_38 (F : Nat) (k_10 : Hp → Nat → Nat → Int32 → Option (Int32 × Hp)) (h : Hp) (x0 : Nat) (x1 : Nat) (x2 : Int32) : Option (Int32 × Hp) := sX7_readRanks_40 F k_10 F h x0 x1 x2 (0 : Int32)
def sX7_readRanks_10 (F : Nat) : Nat → Hp → Nat → Nat → Int32 → Option (Int32 × Hp)
  | 0, _, _, _, _ => none
  | f + 1, h, x0, x1, x2 => br (x2 < 0) (some ((1 : Int32), h)) (cl (hR h x0 0) fun r_2 => br (((hI h r_2 1) - (1 : Int32)) ≤ x2) (sX7_readRanks_38 F (sX7_readRanks_10 F f) h x0 x1 x2) (cl (sX7_takeByte h x0 (47 : Int32)) fun o_4 => br (o_4.1 = 0) (some ((0 : Int32), o_4.2)) (sX7_readRanks_38 F (sX7_readRanks_10 F f) o_4.2 x0 x1 x2)))
def sX7_readRanks (F : Nat) (h : Hp) (x0 : Nat) (x1 : Nat) : Option (Int32 × Hp) := cl (hR h x0 0) fun r_1 => nm ((hI h r_1 1) - (1 : Int32)) fun v_2 => sX7_readRanks_10 F F h x0 x1 v_2
set_option maxRecDepth 20000 in
theorem bX7_readRanks_170 {p : Program} {l : Launch} {e : Env} {s : State} {m : MethodId} {args : Array Value} {below : List Frame} {meth : Method} {c : Code} {X : Ec} {h0 : Hp} {o : Int32 × Hp} {k_10 : Hp → Nat → Nat → Int32 → Option (Int32 × Hp)} {k_40 : Hp → Nat → Nat → Int32 → Int32 → Option (Int32 × Hp)} {F : Nat} (C : Cx X p s m args meth c RX7 cX7_readRanks 7 (some .boolean) "readRanks") (hk_10 : ∀ (h : Hp) (x0 : Nat) (x1 : Nat) (x2 : Int32) (H : Heap) (locs : List Loc), hK h x0 = 7 → hK h x1 = 3 → Km h0 h → Wx X h H → va_S (aA (eB X)) s.heap H locs → ∀ (ls : Array Slot), lv_has ls 7 [(0, .ref x0), (1, .ref x1), (2, .int x2)] → k_10 h x0 x1 x2 = some o → W p l e (rm 2 45) s m args below meth c H locs 0 0 (MQ below (QI X h0 o.1 o.2) args s 0 0 (aA (eB X))) (F0 m 10 ls [])) (hk_40 : ∀ (h : Hp) (x0 : Nat) (x1 : Nat) (x2 : Int32) (x3 : Int32) (H : Heap) (locs : List Loc), hK h x0 = 7 → hK h x1 = 3 → Km h0 h → Wx X h H → va_S (aA (eB X)) s.heap H locs → ∀ (ls : Array Slot), lv_has ls 7 [(0, .ref x0), (1, .ref x1), (2, .int x2), (3, .int x3)] → k_40 h x0 x1 x2 x3 = some o → W p l e (rm 2 45) s m args below meth c H locs 0 0 (MQ below (QI X h0 o.1 o.2) args s 0 0 (aA (eB X))) (F0 m 40 ls [])) {h : Hp} {x0 : Nat} {x1 : Nat} {x2 : Int32} {t0 : Int32} {t1 : Int32} {H : Heap} {locs : List Loc} (k_x0 : hK h x0 = 7) (k_x1 : hK h x1 = 3) (hkm : Km h0 h) (hW : Wx X h H) (hZ : va_S (aA (eB X)) s.heap H locs) (ls : Array Slot) (hl : lv_has ls 7 [(0, .ref x0), (1, .ref x1), (2, .int x2)]) (hE : sX7_readRanks_170 F k_10 k_40 h x0 x1 x2 t0 t1 = some o) : W p l e (rm 2 45) s m args below meth c H locs 0 0 (MQ below (QI X h0 o.1 o.2) args s 0 0 (aA (eB X))) (F0 m 170 ls [.int t0, .int t1]) := by
  refine lv_iadd C.1 C.2.1 dX7_readRanks_170 ?_
  obtain ⟨v_1, ev_1, hE⟩ := nm_e2 hE
  refine x_nmI ev_1 ?_
  refine lv_istore_n (lv' := [(3, .int v_1), (0, .ref x0), (1, .ref x1), (2, .int x2)]) C.1 C.2.1 dX7_readRanks_171 rfl hl (by decide) rfl (fun ls hl => ?_)
  refine lv_aload_n C.1 C.2.1 dX7_readRanks_172 rfl (lv_at hl 1 rfl) ?_
  refine lv_dup C.1 C.2.1 dX7_readRanks_173 rfl ?_
  refine gf_X7_19 C hW k_x0 dX7_readRanks_174 ?_
  refine lv_iconst (v := (1 : Int32)) C.1 C.2.1 dX7_readRanks_177 (by decide) ?_
  refine lv_iadd C.1 C.2.1 dX7_readRanks_178 ?_
  obtain ⟨h_2, eh_2, hE⟩ := nm_e2 hE
  refine pf_X7_19 C hW hZ k_x0 eh_2 dX7_readRanks_179 (fun _ _ hW km hZ => ?_)
  replace hkm := hkm.tr km
  replace k_x0 := km.at k_x0 (by decide)
  replace k_x1 := km.at k_x1 (by decide)
  refine lv_goto (tgt := 40) C.1 C.2.1 dX7_readRanks_182 (by decide) ?_
  exact hk_40 _ _ _ _ _ _ _ k_x0 k_x1 hkm hW hZ _ (lv_sub hl [1, 2, 3, 0] rfl) hE
set_option maxRecDepth 20000 in
theorem bX7_readRanks_157 {p : Program} {l : Launch} {e : Env} {s : State} {m : MethodId} {args : Array Value} {below : List Frame} {meth : Method} {c : Code} {X : Ec} {h0 : Hp} {o : Int32 × Hp} {k_10 : Hp → Nat → Nat → Int32 → Option (Int32 × Hp)} {k_40 : Hp → Nat → Nat → Int32 → Int32 → Option (Int32 × Hp)} {F : Nat} (C : Cx X p s m args meth c RX7 cX7_readRanks 7 (some .boolean) "readRanks") (hk_10 : ∀ (h : Hp) (x0 : Nat) (x1 : Nat) (x2 : Int32) (H : Heap) (locs : List Loc), hK h x0 = 7 → hK h x1 = 3 → Km h0 h → Wx X h H → va_S (aA (eB X)) s.heap H locs → ∀ (ls : Array Slot), lv_has ls 7 [(0, .ref x0), (1, .ref x1), (2, .int x2)] → k_10 h x0 x1 x2 = some o → W p l e (rm 2 45) s m args below meth c H locs 0 0 (MQ below (QI X h0 o.1 o.2) args s 0 0 (aA (eB X))) (F0 m 10 ls [])) (hk_40 : ∀ (h : Hp) (x0 : Nat) (x1 : Nat) (x2 : Int32) (x3 : Int32) (H : Heap) (locs : List Loc), hK h x0 = 7 → hK h x1 = 3 → Km h0 h → Wx X h H → va_S (aA (eB X)) s.heap H locs → ∀ (ls : Array Slot), lv_has ls 7 [(0, .ref x0), (1, .ref x1), (2, .int x2), (3, .int x3)] → k_40 h x0 x1 x2 x3 = some o → W p l e (rm 2 45) s m args below meth c H locs 0 0 (MQ below (QI X h0 o.1 o.2) args s 0 0 (aA (eB X))) (F0 m 40 ls [])) {h : Hp} {x0 : Nat} {x1 : Nat} {x2 : Int32} {x3 : Int32} {x5 : Int32} {x6 : Int32} {H : Heap} {locs : List Loc} (k_x0 : hK h x0 = 7) (k_x1 : hK h x1 = 3) (hkm : Km h0 h) (hW : Wx X h H) (hZ : va_S (aA (eB X)) s.heap H locs) (ls : Array Slot) (hl : lv_has ls 7 [(0, .ref x0), (1, .ref x1), (2, .int x2), (3, .int x3), (5, .int x5), (6, .int x6)]) (hE : sX7_readRanks_157 F k_10 k_40 h x0 x1 x2 x3 x5 x6 = some o) : W p l e (rm 2 45) s m args below meth c H locs 0 0 (MQ below (QI X h0 o.1 o.2) args s 0 0 (aA (eB X))) (F0 m 157 ls []) := by
  refine lv_iload_n C.1 C.2.1 dX7_readRanks_157 rfl (lv_at hl 3 rfl) ?_
  refine lv_iload C.1 C.2.1 dX7_readRanks_158 (lv_at hl 4 rfl) ?_
  refine lv_iconst (v := (-1 : Int32)) C.1 C.2.1 dX7_readRanks_160 (by decide) ?_
  refine lv_icmp_eq (tgt := 168) C.1 C.2.1 dX7_readRanks_161 (by decide) (fun c_1 => ?_) (fun c_1 => ?_)
  · have hE := br_p hE c_1
    refine lv_iload C.1 C.2.1 dX7_readRanks_168 (lv_at hl 5 rfl) ?_
    exact bX7_readRanks_170 C hk_10 hk_40 k_x0 k_x1 hkm hW hZ _ (lv_sub hl [0, 1, 2] rfl) hE
  · have hE := br_n hE c_1
    refine lv_iconst (v := (1 : Int32)) C.1 C.2.1 dX7_readRanks_164 (by decide) ?_
    refine lv_goto (tgt := 170) C.1 C.2.1 dX7_readRanks_165 (by decide) ?_
    exact bX7_readRanks_170 C hk_10 hk_40 k_x0 k_x1 hkm hW hZ _ (lv_sub hl [0, 1, 2] rfl) hE
set_option maxRecDepth 20000 in
theorem bX7_readRanks_127 {p : Program} {l : Launch} {e : Env} {s : State} {m : MethodId} {args : Array Value} {below : List Frame} {meth : Method} {c : Code} {X : Ec} {h0 : Hp} {o : Int32 × Hp} {k_10 : Hp → Nat → Nat → Int32 → Option (Int32 × Hp)} {k_40 : Hp → Nat → Nat → Int32 → Int32 → Option (Int32 × Hp)} {F : Nat} (C : Cx X p s m args meth c RX7 cX7_readRanks 7 (some .boolean) "readRanks") (hk_10 : ∀ (h : Hp) (x0 : Nat) (x1 : Nat) (x2 : Int32) (H : Heap) (locs : List Loc), hK h x0 = 7 → hK h x1 = 3 → Km h0 h → Wx X h H → va_S (aA (eB X)) s.heap H locs → ∀ (ls : Array Slot), lv_has ls 7 [(0, .ref x0), (1, .ref x1), (2, .int x2)] → k_10 h x0 x1 x2 = some o → W p l e (rm 2 45) s m args below meth c H locs 0 0 (MQ below (QI X h0 o.1 o.2) args s 0 0 (aA (eB X))) (F0 m 10 ls [])) (hk_40 : ∀ (h : Hp) (x0 : Nat) (x1 : Nat) (x2 : Int32) (x3 : Int32) (H : Heap) (locs : List Loc), hK h x0 = 7 → hK h x1 = 3 → Km h0 h → Wx X h H → va_S (aA (eB X)) s.heap H locs → ∀ (ls : Array Slot), lv_has ls 7 [(0, .ref x0), (1, .ref x1), (2, .int x2), (3, .int x3)] → k_40 h x0 x1 x2 x3 = some o → W p l e (rm 2 45) s m args below meth c H locs 0 0 (MQ below (QI X h0 o.1 o.2) args s 0 0 (aA (eB X))) (F0 m 40 ls [])) {h : Hp} {x0 : Nat} {x1 : Nat} {x2 : Int32} {x3 : Int32} {x5 : Int32} {x6 : Int32} {H : Heap} {locs : List Loc} (k_x0 : hK h x0 = 7) (k_x1 : hK h x1 = 3) (hkm : Km h0 h) (hW : Wx X h H) (hZ : va_S (aA (eB X)) s.heap H locs) (ls : Array Slot) (hl : lv_has ls 7 [(0, .ref x0), (1, .ref x1), (2, .int x2), (3, .int x3), (5, .int x5), (6, .int x6)]) (hE : sX7_readRanks_127 F k_10 k_40 h x0 x1 x2 x3 x5 x6 = some o) : W p l e (rm 2 45) s m args below meth c H locs 0 0 (MQ below (QI X h0 o.1 o.2) args s 0 0 (aA (eB X))) (F0 m 127 ls []) := by
  refine lv_iload C.1 C.2.1 dX7_readRanks_127 (lv_at hl 4 rfl) ?_
  refine lv_iconst (v := (-1 : Int32)) C.1 C.2.1 dX7_readRanks_129 (by decide) ?_
  refine lv_icmp_eq (tgt := 157) C.1 C.2.1 dX7_readRanks_130 (by decide) (fun c_1 => ?_) (fun c_1 => ?_)
  · have hE := br_p hE c_1
    exact bX7_readRanks_157 C hk_10 hk_40 k_x0 k_x1 hkm hW hZ _ (lv_sub hl [0, 1, 2, 3, 4, 5] rfl) hE
  · have hE := br_n hE c_1
    refine lv_aload_n C.1 C.2.1 dX7_readRanks_133 rfl (lv_at hl 1 rfl) ?_
    refine lv_iload_n C.1 C.2.1 dX7_readRanks_134 rfl (lv_at hl 2 rfl) ?_
    refine lv_aload_n C.1 C.2.1 dX7_readRanks_135 rfl (lv_at hl 0 rfl) ?_
    obtain ⟨r_2, er_2, hE⟩ := cl_e hE
    refine gf_X7_9 C hW k_x0 er_2 dX7_readRanks_136 (fun k_r_2 => ?_)
    refine gf_X7_65 C hW k_r_2 dX7_readRanks_139 ?_
    refine lv_imul C.1 C.2.1 dX7_readRanks_142 ?_
    refine lv_iload_n C.1 C.2.1 dX7_readRanks_143 rfl (lv_at hl 3 rfl) ?_
    refine lv_iadd C.1 C.2.1 dX7_readRanks_144 ?_
    refine lv_iload C.1 C.2.1 dX7_readRanks_145 (lv_at hl 4 rfl) ?_
    refine lv_aload_n C.1 C.2.1 dX7_readRanks_147 rfl (lv_at hl 0 rfl) ?_
    obtain ⟨r_3, er_3, hE⟩ := cl_e hE
    refine gf_X7_9 C hW k_x0 er_3 dX7_readRanks_148 (fun k_r_3 => ?_)
    refine gf_X7_71 C hW k_r_3 dX7_readRanks_151 ?_
    obtain ⟨o_4, eo_4, hE⟩ := cl_e hE
    refine x_kV (o := o_4) (z_runV (As := [.int ((x2 * (hI h r_2 0)) + x3), .int x5, .int (hI h r_3 4)]) (rest := []) C (ct_X3_put l X k_x1 eo_4) cw_X7_74 hW hZ k_x1 (by decide) rfl rfl rfl hl.1 (Nat.le_of_ble_eq_true rfl) rfl dX7_readRanks_154 ⟨Nat.le_of_ble_eq_true rfl, Nat.le_of_ble_eq_true rfl⟩ ⟨Nat.le_refl _, Nat.le_refl _⟩) hZ (fun _ _ hW km hZ => ?_)
    replace hkm := hkm.tr km
    replace k_x0 := km.at k_x0 (by decide)
    replace k_x1 := km.at k_x1 (by decide)
    exact bX7_readRanks_157 C hk_10 hk_40 k_x0 k_x1 hkm hW hZ _ (lv_sub hl [0, 1, 2, 3, 4, 5] rfl) hE
set_option maxRecDepth 20000 in
theorem bX7_readRanks_125 {p : Program} {l : Launch} {e : Env} {s : State} {m : MethodId} {args : Array Value} {below : List Frame} {meth : Method} {c : Code} {X : Ec} {h0 : Hp} {o : Int32 × Hp} {F : Nat} (C : Cx X p s m args meth c RX7 cX7_readRanks 7 (some .boolean) "readRanks") {h : Hp} {H : Heap} {locs : List Loc} (hkm : Km h0 h) (hW : Wx X h H) (hZ : va_S (aA (eB X)) s.heap H locs) (ls : Array Slot) (hl : lv_has ls 7 []) (hE : sX7_readRanks_125 F h  = some o) : W p l e (rm 2 45) s m args below meth c H locs 0 0 (MQ below (QI X h0 o.1 o.2) args s 0 0 (aA (eB X))) (F0 m 125 ls []) := by
  refine lv_iconst (v := (0 : Int32)) C.1 C.2.1 dX7_readRanks_125 (by decide) ?_
  exact x_iret C rfl (by decide) hW hZ hkm hE dX7_readRanks_126
set_option maxRecDepth 20000 in
theorem bX7_readRanks_98 {p : Program} {l : Launch} {e : Env} {s : State} {m : MethodId} {args : Array Value} {below : List Frame} {meth : Method} {c : Code} {X : Ec} {h0 : Hp} {o : Int32 × Hp} {k_10 : Hp → Nat → Nat → Int32 → Option (Int32 × Hp)} {k_40 : Hp → Nat → Nat → Int32 → Int32 → Option (Int32 × Hp)} {F : Nat} (C : Cx X p s m args meth c RX7 cX7_readRanks 7 (some .boolean) "readRanks") (hk_10 : ∀ (h : Hp) (x0 : Nat) (x1 : Nat) (x2 : Int32) (H : Heap) (locs : List Loc), hK h x0 = 7 → hK h x1 = 3 → Km h0 h → Wx X h H → va_S (aA (eB X)) s.heap H locs → ∀ (ls : Array Slot), lv_has ls 7 [(0, .ref x0), (1, .ref x1), (2, .int x2)] → k_10 h x0 x1 x2 = some o → W p l e (rm 2 45) s m args below meth c H locs 0 0 (MQ below (QI X h0 o.1 o.2) args s 0 0 (aA (eB X))) (F0 m 10 ls [])) (hk_40 : ∀ (h : Hp) (x0 : Nat) (x1 : Nat) (x2 : Int32) (x3 : Int32) (H : Heap) (locs : List Loc), hK h x0 = 7 → hK h x1 = 3 → Km h0 h → Wx X h H → va_S (aA (eB X)) s.heap H locs → ∀ (ls : Array Slot), lv_has ls 7 [(0, .ref x0), (1, .ref x1), (2, .int x2), (3, .int x3)] → k_40 h x0 x1 x2 x3 = some o → W p l e (rm 2 45) s m args below meth c H locs 0 0 (MQ below (QI X h0 o.1 o.2) args s 0 0 (aA (eB X))) (F0 m 40 ls [])) {h : Hp} {x0 : Nat} {x1 : Nat} {x2 : Int32} {x3 : Int32} {x5 : Int32} {t0 : Int32} {H : Heap} {locs : List Loc} (k_x0 : hK h x0 = 7) (k_x1 : hK h x1 = 3) (hkm : Km h0 h) (hW : Wx X h H) (hZ : va_S (aA (eB X)) s.heap H locs) (ls : Array Slot) (hl : lv_has ls 7 [(0, .ref x0), (1, .ref x1), (2, .int x2), (3, .int x3), (5, .int x5)]) (hE : sX7_readRanks_98 F k_10 k_40 h x0 x1 x2 x3 x5 t0 = some o) : W p l e (rm 2 45) s m args below meth c H locs 0 0 (MQ below (QI X h0 o.1 o.2) args s 0 0 (aA (eB X))) (F0 m 98 ls [.int t0]) := by
  refine lv_istore (lv' := [(6, .int t0), (0, .ref x0), (1, .ref x1), (2, .int x2), (3, .int x3), (5, .int x5)]) C.1 C.2.1 dX7_readRanks_98 hl (by decide) rfl (fun ls hl => ?_)
  refine lv_iload C.1 C.2.1 dX7_readRanks_100 (lv_at hl 5 rfl) ?_
  refine lv_iconst (v := (-1 : Int32)) C.1 C.2.1 dX7_readRanks_102 (by decide) ?_
  refine lv_icmp_ne (tgt := 127) C.1 C.2.1 dX7_readRanks_103 (by decide) (fun c_1 => ?_) (fun c_1 => ?_)
  · have hE := br_n hE c_1
    exact bX7_readRanks_127 C hk_10 hk_40 k_x0 k_x1 hkm hW hZ _ (lv_sub hl [1, 2, 3, 4, 5, 0] rfl) hE
  · have hE := br_p hE c_1
    refine lv_iload C.1 C.2.1 dX7_readRanks_106 (lv_at hl 0 rfl) ?_
    refine lv_if_eq (tgt := 125) C.1 C.2.1 dX7_readRanks_108 (by decide) (fun c_2 => ?_) (fun c_2 => ?_)
    · have hE := br_p hE c_2
      exact bX7_readRanks_125 C hkm hW hZ _ (lv_sub hl [] rfl) hE
    · have hE := br_n hE c_2
      refine lv_iload_n C.1 C.2.1 dX7_readRanks_111 rfl (lv_at hl 4 rfl) ?_
      refine lv_iload C.1 C.2.1 dX7_readRanks_112 (lv_at hl 0 rfl) ?_
      refine lv_iadd C.1 C.2.1 dX7_readRanks_114 ?_
      refine lv_aload_n C.1 C.2.1 dX7_readRanks_115 rfl (lv_at hl 1 rfl) ?_
      obtain ⟨r_3, er_3, hE⟩ := cl_e hE
      refine gf_X7_9 C hW k_x0 er_3 dX7_readRanks_116 (fun k_r_3 => ?_)
      refine gf_X7_65 C hW k_r_3 dX7_readRanks_119 ?_
      refine lv_icmp_le (tgt := 127) C.1 C.2.1 dX7_readRanks_122 (by decide) (fun c_4 => ?_) (fun c_4 => ?_)
      · have hE := br_p hE c_4
        exact bX7_readRanks_127 C hk_10 hk_40 k_x0 k_x1 hkm hW hZ _ (lv_sub hl [1, 2, 3, 4, 5, 0] rfl) hE
      · have hE := br_n hE c_4
        exact bX7_readRanks_125 C hkm hW hZ _ (lv_sub hl [] rfl) hE
set_option maxRecDepth 20000 in
theorem bX7_readRanks_97 {p : Program} {l : Launch} {e : Env} {s : State} {m : MethodId} {args : Array Value} {below : List Frame} {meth : Method} {c : Code} {X : Ec} {h0 : Hp} {o : Int32 × Hp} {k_10 : Hp → Nat → Nat → Int32 → Option (Int32 × Hp)} {k_40 : Hp → Nat → Nat → Int32 → Int32 → Option (Int32 × Hp)} {F : Nat} (C : Cx X p s m args meth c RX7 cX7_readRanks 7 (some .boolean) "readRanks") (hk_10 : ∀ (h : Hp) (x0 : Nat) (x1 : Nat) (x2 : Int32) (H : Heap) (locs : List Loc), hK h x0 = 7 → hK h x1 = 3 → Km h0 h → Wx X h H → va_S (aA (eB X)) s.heap H locs → ∀ (ls : Array Slot), lv_has ls 7 [(0, .ref x0), (1, .ref x1), (2, .int x2)] → k_10 h x0 x1 x2 = some o → W p l e (rm 2 45) s m args below meth c H locs 0 0 (MQ below (QI X h0 o.1 o.2) args s 0 0 (aA (eB X))) (F0 m 10 ls [])) (hk_40 : ∀ (h : Hp) (x0 : Nat) (x1 : Nat) (x2 : Int32) (x3 : Int32) (H : Heap) (locs : List Loc), hK h x0 = 7 → hK h x1 = 3 → Km h0 h → Wx X h H → va_S (aA (eB X)) s.heap H locs → ∀ (ls : Array Slot), lv_has ls 7 [(0, .ref x0), (1, .ref x1), (2, .int x2), (3, .int x3)] → k_40 h x0 x1 x2 x3 = some o → W p l e (rm 2 45) s m args below meth c H locs 0 0 (MQ below (QI X h0 o.1 o.2) args s 0 0 (aA (eB X))) (F0 m 40 ls [])) {h : Hp} {x0 : Nat} {x1 : Nat} {x2 : Int32} {x3 : Int32} {x5 : Int32} {H : Heap} {locs : List Loc} (k_x0 : hK h x0 = 7) (k_x1 : hK h x1 = 3) (hkm : Km h0 h) (hW : Wx X h H) (hZ : va_S (aA (eB X)) s.heap H locs) (ls : Array Slot) (hl : lv_has ls 7 [(0, .ref x0), (1, .ref x1), (2, .int x2), (3, .int x3), (5, .int x5)]) (hE : sX7_readRanks_97 F k_10 k_40 h x0 x1 x2 x3 x5 = some o) : W p l e (rm 2 45) s m args below meth c H locs 0 0 (MQ below (QI X h0 o.1 o.2) args s 0 0 (aA (eB X))) (F0 m 97 ls []) := by
  refine lv_iconst (v := (0 : Int32)) C.1 C.2.1 dX7_readRanks_97 (by decide) ?_
  exact bX7_readRanks_98 C hk_10 hk_40 k_x0 k_x1 hkm hW hZ _ (lv_sub hl [0, 1, 2, 3, 4] rfl) hE
set_option maxRecDepth 20000 in
theorem bX7_readRanks_40 {p : Program} {l : Launch} {e : Env} {s : State} {m : MethodId} {args : Array Value} {below : List Frame} {meth : Method} {c : Code} {X : Ec} {h0 : Hp} {o : Int32 × Hp} {k_10 : Hp → Nat → Nat → Int32 → Option (Int32 × Hp)} {F : Nat} (C : Cx X p s m args meth c RX7 cX7_readRanks 7 (some .boolean) "readRanks") (hk_10 : ∀ (h : Hp) (x0 : Nat) (x1 : Nat) (x2 : Int32) (H : Heap) (locs : List Loc), hK h x0 = 7 → hK h x1 = 3 → Km h0 h → Wx X h H → va_S (aA (eB X)) s.heap H locs → ∀ (ls : Array Slot), lv_has ls 7 [(0, .ref x0), (1, .ref x1), (2, .int x2)] → k_10 h x0 x1 x2 = some o → W p l e (rm 2 45) s m args below meth c H locs 0 0 (MQ below (QI X h0 o.1 o.2) args s 0 0 (aA (eB X))) (F0 m 10 ls [])) : ∀ (f : Nat) {h : Hp} {x0 : Nat} {x1 : Nat} {x2 : Int32} {x3 : Int32} {H : Heap} {locs : List Loc} (k_x0 : hK h x0 = 7) (k_x1 : hK h x1 = 3), Km h0 h → Wx X h H → va_S (aA (eB X)) s.heap H locs → ∀ (ls : Array Slot), lv_has ls 7 [(0, .ref x0), (1, .ref x1), (2, .int x2), (3, .int x3)] → sX7_readRanks_40 F k_10 f h x0 x1 x2 x3 = some o → W p l e (rm 2 45) s m args below meth c H locs 0 0 (MQ below (QI X h0 o.1 o.2) args s 0 0 (aA (eB X))) (F0 m 40 ls []) := by
  intro f
  induction f with
  | zero =>
    intro h x0 x1 x2 x3 H locs k_x0 k_x1 hkm hW hZ ls hl hE
    rw [sX7_readRanks_40] at hE
    cases hE
  | succ f ih =>
    intro h x0 x1 x2 x3 H locs k_x0 k_x1 hkm hW hZ ls hl hE
    rw [sX7_readRanks_40] at hE
    have hk_40 : ∀ (h : Hp) (x0 : Nat) (x1 : Nat) (x2 : Int32) (x3 : Int32) (H : Heap) (locs : List Loc), hK h x0 = 7 → hK h x1 = 3 → Km h0 h → Wx X h H → va_S (aA (eB X)) s.heap H locs → ∀ (ls : Array Slot), lv_has ls 7 [(0, .ref x0), (1, .ref x1), (2, .int x2), (3, .int x3)] → sX7_readRanks_40 F k_10 f h x0 x1 x2 x3 = some o → W p l e (rm 2 45) s m args below meth c H locs 0 0 (MQ below (QI X h0 o.1 o.2) args s 0 0 (aA (eB X))) (F0 m 40 ls []) := fun h x0 x1 x2 x3 H locs k_x0 k_x1 a b c ls hl hE => ih k_x0 k_x1 a b c ls hl hE
    refine lv_iload_n C.1 C.2.1 dX7_readRanks_40 rfl (lv_at hl 3 rfl) ?_
    refine lv_aload_n C.1 C.2.1 dX7_readRanks_41 rfl (lv_at hl 0 rfl) ?_
    obtain ⟨r_1, er_1, hE⟩ := cl_e hE
    refine gf_X7_9 C hW k_x0 er_1 dX7_readRanks_42 (fun k_r_1 => ?_)
    refine gf_X7_65 C hW k_r_1 dX7_readRanks_45 ?_
    refine lv_icmp_ge (tgt := 185) C.1 C.2.1 dX7_readRanks_48 (by decide) (fun c_2 => ?_) (fun c_2 => ?_)
    · have hE := br_p hE c_2
      obtain ⟨v_3, ev_3, hE⟩ := nm_e2 hE
      refine lv_iinc (v := v_3) (lv' := [(2, .int v_3), (0, .ref x0), (1, .ref x1), (3, .int x3)]) C.1 C.2.1 dX7_readRanks_185 hl (k := 2) rfl (by rw [ev_3]; rfl) (by decide) rfl (fun ls hl => ?_)
      refine lv_goto (tgt := 10) C.1 C.2.1 dX7_readRanks_188 (by decide) ?_
      exact hk_10 _ _ _ _ _ _ k_x0 k_x1 hkm hW hZ _ (lv_sub hl [1, 2, 0] rfl) hE
    · have hE := br_n hE c_2
      refine lv_aload_n C.1 C.2.1 dX7_readRanks_51 rfl (lv_at hl 0 rfl) ?_
      obtain ⟨r_4, er_4, hE⟩ := cl_e hE
      refine gf_X7_15 C hW k_x0 er_4 dX7_readRanks_52 (fun k_r_4 => ?_)
      refine lv_aload_n C.1 C.2.1 dX7_readRanks_55 rfl (lv_at hl 0 rfl) ?_
      refine gf_X7_19 C hW k_x0 dX7_readRanks_56 ?_
      obtain ⟨o_5, eo_5, hE⟩ := cl_e hE
      refine x_kI (o := o_5) (z_runV (As := [.int (hI h x0 2)]) (rest := []) C (ct_X9_byteAt l X k_r_4 eo_5) cw_X7_54 hW hZ k_r_4 (by decide) rfl rfl rfl hl.1 (Nat.le_of_ble_eq_true rfl) rfl dX7_readRanks_59 ⟨Nat.le_of_ble_eq_true rfl, Nat.le_of_ble_eq_true rfl⟩ ⟨Nat.le_refl _, Nat.le_refl _⟩) hZ (fun _ _ hW km hZ => ?_)
      replace hkm := hkm.tr km
      replace k_x0 := km.at k_x0 (by decide)
      replace k_x1 := km.at k_x1 (by decide)
      refine lv_istore (lv' := [(4, .int o_5.1), (0, .ref x0), (1, .ref x1), (2, .int x2), (3, .int x3)]) C.1 C.2.1 dX7_readRanks_62 hl (by decide) rfl (fun ls hl => ?_)
      refine lv_aload_n C.1 C.2.1 dX7_readRanks_64 rfl (lv_at hl 1 rfl) ?_
      obtain ⟨r_6, er_6, hE⟩ := cl_e hE
      refine gf_X7_9 C hW k_x0 er_6 dX7_readRanks_65 (fun k_r_6 => ?_)
      refine lv_iload C.1 C.2.1 dX7_readRanks_68 (lv_at hl 0 rfl) ?_
      obtain ⟨o_7, eo_7, hE⟩ := cl_e hE
      refine x_kI (o := o_7) (z_runV (As := [.int o_5.1]) (rest := []) C (ct_X1_codeOf l X F k_r_6 eo_7) cw_X7_68 hW hZ k_r_6 (by decide) rfl rfl rfl hl.1 (Nat.le_of_ble_eq_true rfl) rfl dX7_readRanks_70 ⟨Nat.le_of_ble_eq_true rfl, Nat.le_of_ble_eq_true rfl⟩ ⟨Nat.le_refl _, Nat.le_refl _⟩) hZ (fun _ _ hW km hZ => ?_)
      replace hkm := hkm.tr km
      replace k_x0 := km.at k_x0 (by decide)
      replace k_x1 := km.at k_x1 (by decide)
      refine lv_istore (lv' := [(5, .int o_7.1), (4, .int o_5.1), (0, .ref x0), (1, .ref x1), (2, .int x2), (3, .int x3)]) C.1 C.2.1 dX7_readRanks_73 hl (by decide) rfl (fun ls hl => ?_)
      refine lv_iload C.1 C.2.1 dX7_readRanks_75 (lv_at hl 1 rfl) ?_
      refine lv_bipush (v := (49 : Int32)) C.1 C.2.1 dX7_readRanks_77 (by decide) ?_
      refine lv_icmp_lt (tgt := 97) C.1 C.2.1 dX7_readRanks_79 (by decide) (fun c_8 => ?_) (fun c_8 => ?_)
      · have hE := br_p hE c_8
        exact bX7_readRanks_97 C hk_10 hk_40 k_x0 k_x1 hkm hW hZ _ (lv_sub hl [2, 3, 4, 5, 0] rfl) hE
      · have hE := br_n hE c_8
        refine lv_iload C.1 C.2.1 dX7_readRanks_82 (lv_at hl 1 rfl) ?_
        refine lv_bipush (v := (56 : Int32)) C.1 C.2.1 dX7_readRanks_84 (by decide) ?_
        refine lv_icmp_gt (tgt := 97) C.1 C.2.1 dX7_readRanks_86 (by decide) (fun c_9 => ?_) (fun c_9 => ?_)
        · have hE := br_p hE c_9
          exact bX7_readRanks_97 C hk_10 hk_40 k_x0 k_x1 hkm hW hZ _ (lv_sub hl [2, 3, 4, 5, 0] rfl) hE
        · have hE := br_n hE c_9
          refine lv_iload C.1 C.2.1 dX7_readRanks_89 (lv_at hl 1 rfl) ?_
          refine lv_bipush (v := (48 : Int32)) C.1 C.2.1 dX7_readRanks_91 (by decide) ?_
          refine lv_isub C.1 C.2.1 dX7_readRanks_93 ?_
          refine lv_goto (tgt := 98) C.1 C.2.1 dX7_readRanks_94 (by decide) ?_
          exact bX7_readRanks_98 C hk_10 hk_40 k_x0 k_x1 hkm hW hZ _ (lv_sub hl [2, 3, 4, 5, 0] rfl) hE
set_option maxRecDepth 20000 in
theorem bX7_readRanks_38 {p : Program} {l : Launch} {e : Env} {s : State} {m : MethodId} {args : Array Value} {below : List Frame} {meth : Method} {c : Code} {X : Ec} {h0 : Hp} {o : Int32 × Hp} {k_10 : Hp → Nat → Nat → Int32 → Option (Int32 × Hp)} {F : Nat} (C : Cx X p s m args meth c RX7 cX7_readRanks 7 (some .boolean) "readRanks") (hk_10 : ∀ (h : Hp) (x0 : Nat) (x1 : Nat) (x2 : Int32) (H : Heap) (locs : List Loc), hK h x0 = 7 → hK h x1 = 3 → Km h0 h → Wx X h H → va_S (aA (eB X)) s.heap H locs → ∀ (ls : Array Slot), lv_has ls 7 [(0, .ref x0), (1, .ref x1), (2, .int x2)] → k_10 h x0 x1 x2 = some o → W p l e (rm 2 45) s m args below meth c H locs 0 0 (MQ below (QI X h0 o.1 o.2) args s 0 0 (aA (eB X))) (F0 m 10 ls [])) {h : Hp} {x0 : Nat} {x1 : Nat} {x2 : Int32} {H : Heap} {locs : List Loc} (k_x0 : hK h x0 = 7) (k_x1 : hK h x1 = 3) (hkm : Km h0 h) (hW : Wx X h H) (hZ : va_S (aA (eB X)) s.heap H locs) (ls : Array Slot) (hl : lv_has ls 7 [(0, .ref x0), (1, .ref x1), (2, .int x2)]) (hE : sX7_readRanks_38 F k_10 h x0 x1 x2 = some o) : W p l e (rm 2 45) s m args below meth c H locs 0 0 (MQ below (QI X h0 o.1 o.2) args s 0 0 (aA (eB X))) (F0 m 38 ls []) := by
  refine lv_iconst (v := (0 : Int32)) C.1 C.2.1 dX7_readRanks_38 (by decide) ?_
  refine lv_istore_n (lv' := [(3, .int (0 : Int32)), (0, .ref x0), (1, .ref x1), (2, .int x2)]) C.1 C.2.1 dX7_readRanks_39 rfl hl (by decide) rfl (fun ls hl => ?_)
  exact bX7_readRanks_40 C hk_10 F k_x0 k_x1 hkm hW hZ _ (lv_sub hl [1, 2, 3, 0] rfl) hE
set_option maxRecDepth 20000 in
theorem bX7_readRanks_10 {p : Program} {l : Launch} {e : Env} {s : State} {m : MethodId} {args : Array Value} {below : List Frame} {meth : Method} {c : Code} {X : Ec} {h0 : Hp} {o : Int32 × Hp} {F : Nat} (C : Cx X p s m args meth c RX7 cX7_readRanks 7 (some .boolean) "readRanks") : ∀ (f : Nat) {h : Hp} {x0 : Nat} {x1 : Nat} {x2 : Int32} {H : Heap} {locs : List Loc} (k_x0 : hK h x0 = 7) (k_x1 : hK h x1 = 3), Km h0 h → Wx X h H → va_S (aA (eB X)) s.heap H locs → ∀ (ls : Array Slot), lv_has ls 7 [(0, .ref x0), (1, .ref x1), (2, .int x2)] → sX7_readRanks_10 F f h x0 x1 x2 = some o → W p l e (rm 2 45) s m args below meth c H locs 0 0 (MQ below (QI X h0 o.1 o.2) args s 0 0 (aA (eB X))) (F0 m 10 ls []) := by
  intro f
  induction f with
  | zero =>
    intro h x0 x1 x2 H locs k_x0 k_x1 hkm hW hZ ls hl hE
    rw [sX7_readRanks_10] at hE
    cases hE
  | succ f ih =>
    intro h x0 x1 x2 H locs k_x0 k_x1 hkm hW hZ ls hl hE
    rw [sX7_readRanks_10] at hE
    have hk_10 : ∀ (h : Hp) (x0 : Nat) (x1 : Nat) (x2 : Int32) (H : Heap) (locs : List Loc), hK h x0 = 7 → hK h x1 = 3 → Km h0 h → Wx X h H → va_S (aA (eB X)) s.heap H locs → ∀ (ls : Array Slot), lv_has ls 7 [(0, .ref x0), (1, .ref x1), (2, .int x2)] → sX7_readRanks_10 F f h x0 x1 x2 = some o → W p l e (rm 2 45) s m args below meth c H locs 0 0 (MQ below (QI X h0 o.1 o.2) args s 0 0 (aA (eB X))) (F0 m 10 ls []) := fun h x0 x1 x2 H locs k_x0 k_x1 a b c ls hl hE => ih k_x0 k_x1 a b c ls hl hE
    refine lv_iload_n C.1 C.2.1 dX7_readRanks_10 rfl (lv_at hl 2 rfl) ?_
    refine lv_if_lt (tgt := 191) C.1 C.2.1 dX7_readRanks_11 (by decide) (fun c_1 => ?_) (fun c_1 => ?_)
    · have hE := br_p hE c_1
      refine lv_iconst (v := (1 : Int32)) C.1 C.2.1 dX7_readRanks_191 (by decide) ?_
      exact x_iret C rfl (by decide) hW hZ hkm hE dX7_readRanks_192
    · have hE := br_n hE c_1
      refine lv_iload_n C.1 C.2.1 dX7_readRanks_14 rfl (lv_at hl 2 rfl) ?_
      refine lv_aload_n C.1 C.2.1 dX7_readRanks_15 rfl (lv_at hl 0 rfl) ?_
      obtain ⟨r_2, er_2, hE⟩ := cl_e hE
      refine gf_X7_9 C hW k_x0 er_2 dX7_readRanks_16 (fun k_r_2 => ?_)
      refine gf_X7_60 C hW k_r_2 dX7_readRanks_19 ?_
      refine lv_iconst (v := (1 : Int32)) C.1 C.2.1 dX7_readRanks_22 (by decide) ?_
      refine lv_isub C.1 C.2.1 dX7_readRanks_23 ?_
      refine lv_icmp_ge (tgt := 38) C.1 C.2.1 dX7_readRanks_24 (by decide) (fun c_3 => ?_) (fun c_3 => ?_)
      · have hE := br_p hE c_3
        exact bX7_readRanks_38 C hk_10 k_x0 k_x1 hkm hW hZ _ (lv_sub hl [0, 1, 2] rfl) hE
      · have hE := br_n hE c_3
        refine lv_aload_n C.1 C.2.1 dX7_readRanks_27 rfl (lv_at hl 0 rfl) ?_
        refine lv_bipush (v := (47 : Int32)) C.1 C.2.1 dX7_readRanks_28 (by decide) ?_
        obtain ⟨o_4, eo_4, hE⟩ := cl_e hE
        refine x_kI (o := o_4) (z_runV (As := [.int (47 : Int32)]) (rest := []) C (ct_X7_takeByte l X k_x0 eo_4) cw_X7_32 hW hZ k_x0 (by decide) rfl rfl rfl hl.1 (Nat.le_of_ble_eq_true rfl) rfl dX7_readRanks_30 ⟨Nat.le_of_ble_eq_true rfl, Nat.le_of_ble_eq_true rfl⟩ ⟨Nat.le_refl _, Nat.le_refl _⟩) hZ (fun _ _ hW km hZ => ?_)
        replace hkm := hkm.tr km
        replace k_x0 := km.at k_x0 (by decide)
        replace k_x1 := km.at k_x1 (by decide)
        refine lv_if_ne (tgt := 38) C.1 C.2.1 dX7_readRanks_33 (by decide) (fun c_5 => ?_) (fun c_5 => ?_)
        · have hE := br_n hE c_5
          exact bX7_readRanks_38 C hk_10 k_x0 k_x1 hkm hW hZ _ (lv_sub hl [0, 1, 2] rfl) hE
        · have hE := br_p hE c_5
          refine lv_iconst (v := (0 : Int32)) C.1 C.2.1 dX7_readRanks_36 (by decide) ?_
          exact x_iret C rfl (by decide) hW hZ hkm hE dX7_readRanks_37
set_option maxRecDepth 20000 in
theorem ct_X7_readRanks (l : Launch) (X : Ec) (F : Nat) {h : Hp} {x0 : Nat} {x1 : Nat} {o : Int32 × Hp} (k_x0 : hK h x0 = 7) (k_x1 : hK h x1 = 3) (hE : sX7_readRanks F h x0 x1 = some o) : MetI l yX7_readRanks cX7_readRanks 7 (some .boolean) 2 45 X [.ref x0, .ref x1] h o := by
  refine x_met (by decide) (Nat.le_of_ble_eq_true rfl) ?_
  intro p e s m below meth c ls C hl hW hZ
  have hl : lv_has ls 7 [(0, .ref x0), (1, .ref x1)] := hl
  have hkm : Km h h := Km.rf h
  refine lv_aload_n C.1 C.2.1 dX7_readRanks_0 rfl (lv_at hl 0 rfl) ?_
  obtain ⟨r_1, er_1, hE⟩ := cl_e hE
  refine gf_X7_9 C hW k_x0 er_1 dX7_readRanks_1 (fun k_r_1 => ?_)
  refine gf_X7_60 C hW k_r_1 dX7_readRanks_4 ?_
  refine lv_iconst (v := (1 : Int32)) C.1 C.2.1 dX7_readRanks_7 (by decide) ?_
  refine lv_isub C.1 C.2.1 dX7_readRanks_8 ?_
  obtain ⟨v_2, ev_2, hE⟩ := nm_e2 hE
  refine x_nmI ev_2 ?_
  refine lv_istore_n (lv' := [(2, .int v_2), (0, .ref x0), (1, .ref x1)]) C.1 C.2.1 dX7_readRanks_9 rfl hl (by decide) rfl (fun ls hl => ?_)
  exact bX7_readRanks_10 C F k_x0 k_x1 hkm hW hZ _ (lv_sub hl [1, 2, 0] rfl) hE
theorem m_297 : Cond.fieldLink RX7 78 (TX3 5).1 (TX3 5).2.1 (TX3 5).2.2.1 ∈ W0 := w0_in (List.mem_append_right _ (List.mem_of_getElem? (i := 297) (by decide +kernel))) rfl
section
variable {p : Program} {l : Launch} {e : Env} {R : Room} {s : State} {m : MethodId} {args : Array Value} {below : List Frame} {meth : Method} {c : Code} {H : Heap} {locs : List Loc} {cells slots : Nat} {Q : State → Prop}
variable {cc : ByteArray} {pc : Nat} {ls : Array Slot} {rest : List Value} {X : Ec} {h h1 : Hp} {nL : Nat} {rt : Option FieldType} {mn : String}
theorem pf_X7_78 {a : Nat} {v : Int32} (C : Cx X p s m args meth c RX7 cc nL rt mn) (hW : Wx X h H) (hZ : va_S (aA (eB X)) s.heap H locs) (ha : hK h a = 3) (eh : h1 = wI h a 5 v) (hdg : decode cc pc = .ok (.putfield 78, 3)) (kk : ∀ (H1 : Heap) (locs1 : List Loc), Wx X h1 H1 → Km h h1 → va_S (aA (eB X)) s.heap H1 locs1 → W p l e R s m args below meth c H1 locs1 cells slots Q (F0 m (pc + 3) ls rest)) : W p l e R s m args below meth c H locs cells slots Q (F0 m pc ls (.int v :: .ref a :: rest)) :=
  y_puti (ty := .int) C hW hZ ha i_X3 tyX3 tyX3_ok nmX3 (by decide) rfl rfl (by decide) m_297 rfl (by decide +kernel) rfl rfl rfl eh hdg kk
end
theorem dX7_readSide_0 : decode cX7_readSide 0 = .ok (.aload_n 0, 1) := by decide +kernel
theorem dX7_readSide_1 : decode cX7_readSide 1 = .ok (.getfield 15, 3) := by decide +kernel
theorem dX7_readSide_4 : decode cX7_readSide 4 = .ok (.aload_n 0, 1) := by decide +kernel
theorem dX7_readSide_5 : decode cX7_readSide 5 = .ok (.getfield 19, 3) := by decide +kernel
theorem dX7_readSide_8 : decode cX7_readSide 8 = .ok (.invokevirtual 54, 3) := by decide +kernel
theorem dX7_readSide_11 : decode cX7_readSide 11 = .ok (.istore_n 2, 1) := by decide +kernel
theorem dX7_readSide_12 : decode cX7_readSide 12 = .ok (.iload_n 2, 1) := by decide +kernel
theorem dX7_readSide_13 : decode cX7_readSide 13 = .ok (.bipush 119, 2) := by decide +kernel
theorem dX7_readSide_15 : decode cX7_readSide 15 = .ok (.if_icmp .eq 11, 3) := by decide +kernel
theorem dX7_readSide_18 : decode cX7_readSide 18 = .ok (.iload_n 2, 1) := by decide +kernel
theorem dX7_readSide_19 : decode cX7_readSide 19 = .ok (.bipush 98, 2) := by decide +kernel
theorem dX7_readSide_21 : decode cX7_readSide 21 = .ok (.if_icmp .eq 5, 3) := by decide +kernel
theorem dX7_readSide_24 : decode cX7_readSide 24 = .ok (.iconst 0, 1) := by decide +kernel
theorem dX7_readSide_25 : decode cX7_readSide 25 = .ok (.ireturn, 1) := by decide +kernel
theorem dX7_readSide_26 : decode cX7_readSide 26 = .ok (.aload_n 1, 1) := by decide +kernel
theorem dX7_readSide_27 : decode cX7_readSide 27 = .ok (.iload_n 2, 1) := by decide +kernel
theorem dX7_readSide_28 : decode cX7_readSide 28 = .ok (.bipush 119, 2) := by decide +kernel
theorem dX7_readSide_30 : decode cX7_readSide 30 = .ok (.if_icmp .ne 7, 3) := by decide +kernel
theorem dX7_readSide_33 : decode cX7_readSide 33 = .ok (.iconst 0, 1) := by decide +kernel
theorem dX7_readSide_34 : decode cX7_readSide 34 = .ok (.goto 4, 3) := by decide +kernel
theorem dX7_readSide_37 : decode cX7_readSide 37 = .ok (.iconst 1, 1) := by decide +kernel
theorem dX7_readSide_38 : decode cX7_readSide 38 = .ok (.putfield 78, 3) := by decide +kernel
theorem dX7_readSide_41 : decode cX7_readSide 41 = .ok (.aload_n 0, 1) := by decide +kernel
theorem dX7_readSide_42 : decode cX7_readSide 42 = .ok (.dup, 1) := by decide +kernel
theorem dX7_readSide_43 : decode cX7_readSide 43 = .ok (.getfield 19, 3) := by decide +kernel
theorem dX7_readSide_46 : decode cX7_readSide 46 = .ok (.iconst 1, 1) := by decide +kernel
theorem dX7_readSide_47 : decode cX7_readSide 47 = .ok (.iadd, 1) := by decide +kernel
theorem dX7_readSide_48 : decode cX7_readSide 48 = .ok (.putfield 19, 3) := by decide +kernel
theorem dX7_readSide_51 : decode cX7_readSide 51 = .ok (.iconst 1, 1) := by decide +kernel
theorem dX7_readSide_52 : decode cX7_readSide 52 = .ok (.ireturn, 1) := by decide +kernel
def sX7_readSide_38 (h : Hp) (x0 : Nat) (t0 : Int32) (t1 : Nat) : Option (Int32 × Hp) := nm (wI h t1 5 t0) fun h_1 => nm (wI h_1 x0 2 ((hI h_1 x0 2) + (1 : Int32))) fun h_2 => some ((1 : Int32), h_2)
def sX7_readSide_26 (h : Hp) (x0 : Nat) (x1 : Nat) (x2 : Int32) : Option (Int32 × Hp) := br (x2 = (119 : Int32)) (sX7_readSide_38  h x0 (0 : Int32) x1) (sX7_readSide_38  h x0 (1 : Int32) x1)
def sX7_readSide (h : Hp) (x0 : Nat) (x1 : Nat) : Option (Int32 × Hp) := cl (hR h x0 1) fun r_1 => cl (sX9_byteAt h r_1 (hI h x0 2)) fun o_2 => br (o_2.1 = (119 : Int32)) (sX7_readSide_26  o_2.2 x0 x1 o_2.1) (br (o_2.1 = (98 : Int32)) (sX7_readSide_26  o_2.2 x0 x1 o_2.1) (some ((0 : Int32), o_2.2)))
set_option maxRecDepth 20000 in
theorem bX7_readSide_38 {p : Program} {l : Launch} {e : Env} {s : State} {m : MethodId} {args : Array Value} {below : List Frame} {meth : Method} {c : Code} {X : Ec} {h0 : Hp} {o : Int32 × Hp} (C : Cx X p s m args meth c RX7 cX7_readSide 3 (some .boolean) "readSide") {h : Hp} {x0 : Nat} {t0 : Int32} {t1 : Nat} {H : Heap} {locs : List Loc} (k_x0 : hK h x0 = 7) (k_t1 : hK h t1 = 3) (hkm : Km h0 h) (hW : Wx X h H) (hZ : va_S (aA (eB X)) s.heap H locs) (ls : Array Slot) (hl : lv_has ls 3 [(0, .ref x0)]) (hE : sX7_readSide_38 h x0 t0 t1 = some o) : W p l e (rm 1 21) s m args below meth c H locs 0 0 (MQ below (QI X h0 o.1 o.2) args s 0 0 (aA (eB X))) (F0 m 38 ls [.int t0, .ref t1]) := by
  obtain ⟨h_1, eh_1, hE⟩ := nm_e2 hE
  refine pf_X7_78 C hW hZ k_t1 eh_1 dX7_readSide_38 (fun _ _ hW km hZ => ?_)
  replace hkm := hkm.tr km
  replace k_x0 := km.at k_x0 (by decide)
  refine lv_aload_n C.1 C.2.1 dX7_readSide_41 rfl (lv_at hl 0 rfl) ?_
  refine lv_dup C.1 C.2.1 dX7_readSide_42 rfl ?_
  refine gf_X7_19 C hW k_x0 dX7_readSide_43 ?_
  refine lv_iconst (v := (1 : Int32)) C.1 C.2.1 dX7_readSide_46 (by decide) ?_
  refine lv_iadd C.1 C.2.1 dX7_readSide_47 ?_
  obtain ⟨h_2, eh_2, hE⟩ := nm_e2 hE
  refine pf_X7_19 C hW hZ k_x0 eh_2 dX7_readSide_48 (fun _ _ hW km hZ => ?_)
  replace hkm := hkm.tr km
  replace k_x0 := km.at k_x0 (by decide)
  refine lv_iconst (v := (1 : Int32)) C.1 C.2.1 dX7_readSide_51 (by decide) ?_
  exact x_iret C rfl (by decide) hW hZ hkm hE dX7_readSide_52
set_option maxRecDepth 20000 in
theorem bX7_readSide_26 {p : Program} {l : Launch} {e : Env} {s : State} {m : MethodId} {args : Array Value} {below : List Frame} {meth : Method} {c : Code} {X : Ec} {h0 : Hp} {o : Int32 × Hp} (C : Cx X p s m args meth c RX7 cX7_readSide 3 (some .boolean) "readSide") {h : Hp} {x0 : Nat} {x1 : Nat} {x2 : Int32} {H : Heap} {locs : List Loc} (k_x0 : hK h x0 = 7) (k_x1 : hK h x1 = 3) (hkm : Km h0 h) (hW : Wx X h H) (hZ : va_S (aA (eB X)) s.heap H locs) (ls : Array Slot) (hl : lv_has ls 3 [(0, .ref x0), (1, .ref x1), (2, .int x2)]) (hE : sX7_readSide_26 h x0 x1 x2 = some o) : W p l e (rm 1 21) s m args below meth c H locs 0 0 (MQ below (QI X h0 o.1 o.2) args s 0 0 (aA (eB X))) (F0 m 26 ls []) := by
  refine lv_aload_n C.1 C.2.1 dX7_readSide_26 rfl (lv_at hl 1 rfl) ?_
  refine lv_iload_n C.1 C.2.1 dX7_readSide_27 rfl (lv_at hl 2 rfl) ?_
  refine lv_bipush (v := (119 : Int32)) C.1 C.2.1 dX7_readSide_28 (by decide) ?_
  refine lv_icmp_ne (tgt := 37) C.1 C.2.1 dX7_readSide_30 (by decide) (fun c_1 => ?_) (fun c_1 => ?_)
  · have hE := br_n hE c_1
    refine lv_iconst (v := (1 : Int32)) C.1 C.2.1 dX7_readSide_37 (by decide) ?_
    exact bX7_readSide_38 C k_x0 k_x1 hkm hW hZ _ (lv_sub hl [0] rfl) hE
  · have hE := br_p hE c_1
    refine lv_iconst (v := (0 : Int32)) C.1 C.2.1 dX7_readSide_33 (by decide) ?_
    refine lv_goto (tgt := 38) C.1 C.2.1 dX7_readSide_34 (by decide) ?_
    exact bX7_readSide_38 C k_x0 k_x1 hkm hW hZ _ (lv_sub hl [0] rfl) hE
set_option maxRecDepth 20000 in
theorem ct_X7_readSide (l : Launch) (X : Ec) {h : Hp} {x0 : Nat} {x1 : Nat} {o : Int32 × Hp} (k_x0 : hK h x0 = 7) (k_x1 : hK h x1 = 3) (hE : sX7_readSide h x0 x1 = some o) : MetI l yX7_readSide cX7_readSide 3 (some .boolean) 1 21 X [.ref x0, .ref x1] h o := by
  refine x_met (by decide) (Nat.le_of_ble_eq_true rfl) ?_
  intro p e s m below meth c ls C hl hW hZ
  have hl : lv_has ls 3 [(0, .ref x0), (1, .ref x1)] := hl
  have hkm : Km h h := Km.rf h
  refine lv_aload_n C.1 C.2.1 dX7_readSide_0 rfl (lv_at hl 0 rfl) ?_
  obtain ⟨r_1, er_1, hE⟩ := cl_e hE
  refine gf_X7_15 C hW k_x0 er_1 dX7_readSide_1 (fun k_r_1 => ?_)
  refine lv_aload_n C.1 C.2.1 dX7_readSide_4 rfl (lv_at hl 0 rfl) ?_
  refine gf_X7_19 C hW k_x0 dX7_readSide_5 ?_
  obtain ⟨o_2, eo_2, hE⟩ := cl_e hE
  refine x_kI (o := o_2) (z_runV (As := [.int (hI h x0 2)]) (rest := []) C (ct_X9_byteAt l X k_r_1 eo_2) cw_X7_54 hW hZ k_r_1 (by decide) rfl rfl rfl hl.1 (Nat.le_of_ble_eq_true rfl) rfl dX7_readSide_8 ⟨Nat.le_of_ble_eq_true rfl, Nat.le_of_ble_eq_true rfl⟩ ⟨Nat.le_refl _, Nat.le_refl _⟩) hZ (fun _ _ hW km hZ => ?_)
  replace hkm := hkm.tr km
  replace k_x0 := km.at k_x0 (by decide)
  replace k_x1 := km.at k_x1 (by decide)
  refine lv_istore_n (lv' := [(2, .int o_2.1), (0, .ref x0), (1, .ref x1)]) C.1 C.2.1 dX7_readSide_11 rfl hl (by decide) rfl (fun ls hl => ?_)
  refine lv_iload_n C.1 C.2.1 dX7_readSide_12 rfl (lv_at hl 0 rfl) ?_
  refine lv_bipush (v := (119 : Int32)) C.1 C.2.1 dX7_readSide_13 (by decide) ?_
  refine lv_icmp_eq (tgt := 26) C.1 C.2.1 dX7_readSide_15 (by decide) (fun c_3 => ?_) (fun c_3 => ?_)
  · have hE := br_p hE c_3
    exact bX7_readSide_26 C k_x0 k_x1 hkm hW hZ _ (lv_sub hl [1, 2, 0] rfl) hE
  · have hE := br_n hE c_3
    refine lv_iload_n C.1 C.2.1 dX7_readSide_18 rfl (lv_at hl 0 rfl) ?_
    refine lv_bipush (v := (98 : Int32)) C.1 C.2.1 dX7_readSide_19 (by decide) ?_
    refine lv_icmp_eq (tgt := 26) C.1 C.2.1 dX7_readSide_21 (by decide) (fun c_4 => ?_) (fun c_4 => ?_)
    · have hE := br_p hE c_4
      exact bX7_readSide_26 C k_x0 k_x1 hkm hW hZ _ (lv_sub hl [1, 2, 0] rfl) hE
    · have hE := br_n hE c_4
      refine lv_iconst (v := (0 : Int32)) C.1 C.2.1 dX7_readSide_24 (by decide) ?_
      exact x_iret C rfl (by decide) hW hZ hkm hE dX7_readSide_25
theorem dX7_readSquare_0 : decode cX7_readSquare 0 = .ok (.aload_n 0, 1) := by decide +kernel
theorem dX7_readSquare_1 : decode cX7_readSquare 1 = .ok (.getfield 15, 3) := by decide +kernel
theorem dX7_readSquare_4 : decode cX7_readSquare 4 = .ok (.aload_n 0, 1) := by decide +kernel
theorem dX7_readSquare_5 : decode cX7_readSquare 5 = .ok (.getfield 19, 3) := by decide +kernel
theorem dX7_readSquare_8 : decode cX7_readSquare 8 = .ok (.invokevirtual 54, 3) := by decide +kernel
theorem dX7_readSquare_11 : decode cX7_readSquare 11 = .ok (.bipush 97, 2) := by decide +kernel
theorem dX7_readSquare_13 : decode cX7_readSquare 13 = .ok (.isub, 1) := by decide +kernel
theorem dX7_readSquare_14 : decode cX7_readSquare 14 = .ok (.istore_n 1, 1) := by decide +kernel
theorem dX7_readSquare_15 : decode cX7_readSquare 15 = .ok (.iload_n 1, 1) := by decide +kernel
theorem dX7_readSquare_16 : decode cX7_readSquare 16 = .ok (.ifCond .lt 14, 3) := by decide +kernel
theorem dX7_readSquare_19 : decode cX7_readSquare 19 = .ok (.iload_n 1, 1) := by decide +kernel
theorem dX7_readSquare_20 : decode cX7_readSquare 20 = .ok (.aload_n 0, 1) := by decide +kernel
theorem dX7_readSquare_21 : decode cX7_readSquare 21 = .ok (.getfield 9, 3) := by decide +kernel
theorem dX7_readSquare_24 : decode cX7_readSquare 24 = .ok (.getfield 65, 3) := by decide +kernel
theorem dX7_readSquare_27 : decode cX7_readSquare 27 = .ok (.if_icmp .lt 5, 3) := by decide +kernel
theorem dX7_readSquare_30 : decode cX7_readSquare 30 = .ok (.iconst (-1), 1) := by decide +kernel
theorem dX7_readSquare_31 : decode cX7_readSquare 31 = .ok (.ireturn, 1) := by decide +kernel
theorem dX7_readSquare_32 : decode cX7_readSquare 32 = .ok (.aload_n 0, 1) := by decide +kernel
theorem dX7_readSquare_33 : decode cX7_readSquare 33 = .ok (.dup, 1) := by decide +kernel
theorem dX7_readSquare_34 : decode cX7_readSquare 34 = .ok (.getfield 19, 3) := by decide +kernel
theorem dX7_readSquare_37 : decode cX7_readSquare 37 = .ok (.iconst 1, 1) := by decide +kernel
theorem dX7_readSquare_38 : decode cX7_readSquare 38 = .ok (.iadd, 1) := by decide +kernel
theorem dX7_readSquare_39 : decode cX7_readSquare 39 = .ok (.putfield 19, 3) := by decide +kernel
theorem dX7_readSquare_42 : decode cX7_readSquare 42 = .ok (.aload_n 0, 1) := by decide +kernel
theorem dX7_readSquare_43 : decode cX7_readSquare 43 = .ok (.getfield 15, 3) := by decide +kernel
theorem dX7_readSquare_46 : decode cX7_readSquare 46 = .ok (.aload_n 0, 1) := by decide +kernel
theorem dX7_readSquare_47 : decode cX7_readSquare 47 = .ok (.getfield 19, 3) := by decide +kernel
theorem dX7_readSquare_50 : decode cX7_readSquare 50 = .ok (.invokevirtual 54, 3) := by decide +kernel
theorem dX7_readSquare_53 : decode cX7_readSquare 53 = .ok (.bipush 49, 2) := by decide +kernel
theorem dX7_readSquare_55 : decode cX7_readSquare 55 = .ok (.isub, 1) := by decide +kernel
theorem dX7_readSquare_56 : decode cX7_readSquare 56 = .ok (.istore_n 2, 1) := by decide +kernel
theorem dX7_readSquare_57 : decode cX7_readSquare 57 = .ok (.iload_n 2, 1) := by decide +kernel
theorem dX7_readSquare_58 : decode cX7_readSquare 58 = .ok (.ifCond .lt 14, 3) := by decide +kernel
theorem dX7_readSquare_61 : decode cX7_readSquare 61 = .ok (.iload_n 2, 1) := by decide +kernel
theorem dX7_readSquare_62 : decode cX7_readSquare 62 = .ok (.aload_n 0, 1) := by decide +kernel
theorem dX7_readSquare_63 : decode cX7_readSquare 63 = .ok (.getfield 9, 3) := by decide +kernel
theorem dX7_readSquare_66 : decode cX7_readSquare 66 = .ok (.getfield 60, 3) := by decide +kernel
theorem dX7_readSquare_69 : decode cX7_readSquare 69 = .ok (.if_icmp .lt 5, 3) := by decide +kernel
theorem dX7_readSquare_72 : decode cX7_readSquare 72 = .ok (.iconst (-1), 1) := by decide +kernel
theorem dX7_readSquare_73 : decode cX7_readSquare 73 = .ok (.ireturn, 1) := by decide +kernel
theorem dX7_readSquare_74 : decode cX7_readSquare 74 = .ok (.aload_n 0, 1) := by decide +kernel
theorem dX7_readSquare_75 : decode cX7_readSquare 75 = .ok (.dup, 1) := by decide +kernel
theorem dX7_readSquare_76 : decode cX7_readSquare 76 = .ok (.getfield 19, 3) := by decide +kernel
theorem dX7_readSquare_79 : decode cX7_readSquare 79 = .ok (.iconst 1, 1) := by decide +kernel
theorem dX7_readSquare_80 : decode cX7_readSquare 80 = .ok (.iadd, 1) := by decide +kernel
theorem dX7_readSquare_81 : decode cX7_readSquare 81 = .ok (.putfield 19, 3) := by decide +kernel
theorem dX7_readSquare_84 : decode cX7_readSquare 84 = .ok (.iload_n 2, 1) := by decide +kernel
theorem dX7_readSquare_85 : decode cX7_readSquare 85 = .ok (.aload_n 0, 1) := by decide +kernel
theorem dX7_readSquare_86 : decode cX7_readSquare 86 = .ok (.getfield 9, 3) := by decide +kernel
theorem dX7_readSquare_89 : decode cX7_readSquare 89 = .ok (.getfield 65, 3) := by decide +kernel
theorem dX7_readSquare_92 : decode cX7_readSquare 92 = .ok (.imul, 1) := by decide +kernel
theorem dX7_readSquare_93 : decode cX7_readSquare 93 = .ok (.iload_n 1, 1) := by decide +kernel
theorem dX7_readSquare_94 : decode cX7_readSquare 94 = .ok (.iadd, 1) := by decide +kernel
theorem dX7_readSquare_95 : decode cX7_readSquare 95 = .ok (.ireturn, 1) := by decide +kernel
def sX7_readSquare_30 (h : Hp) : Option (Int32 × Hp) := some ((-1 : Int32), h)
def sX7_readSquare_72 (h : Hp) : Option (Int32 × Hp) := some ((-1 : Int32), h)
def sX7_readSquare (h : Hp) (x0 : Nat) : Option (Int32 × Hp) := cl (hR h x0 1) fun r_1 => cl (sX9_byteAt h r_1 (hI h x0 2)) fun o_2 => nm (o_2.1 - (97 : Int32)) fun v_3 => br (v_3 < 0) (sX7_readSquare_30  o_2.2 ) (cl (hR o_2.2 x0 0) fun r_5 => br (v_3 < (hI o_2.2 r_5 0)) (nm (wI o_2.2 x0 2 ((hI o_2.2 x0 2) + (1 : Int32))) fun h_7 => cl (hR h_7 x0 1) fun r_8 => cl (sX9_byteAt h_7 r_8 (hI h_7 x0 2)) fun o_9 => nm (o_9.1 - (49 : Int32)) fun v_10 => br (v_10 < 0) (sX7_readSquare_72  o_9.2 ) (cl (hR o_9.2 x0 0) fun r_12 => br (v_10 < (hI o_9.2 r_12 1)) (nm (wI o_9.2 x0 2 ((hI o_9.2 x0 2) + (1 : Int32))) fun h_14 => cl (hR h_14 x0 0) fun r_15 => some ((v_10 * (hI h_14 r_15 0)) + v_3, h_14)) (sX7_readSquare_72  o_9.2 ))) (sX7_readSquare_30  o_2.2 ))
set_option maxRecDepth 20000 in
theorem bX7_readSquare_30 {p : Program} {l : Launch} {e : Env} {s : State} {m : MethodId} {args : Array Value} {below : List Frame} {meth : Method} {c : Code} {X : Ec} {h0 : Hp} {o : Int32 × Hp} (C : Cx X p s m args meth c RX7 cX7_readSquare 3 (some .int) "readSquare") {h : Hp} {H : Heap} {locs : List Loc} (hkm : Km h0 h) (hW : Wx X h H) (hZ : va_S (aA (eB X)) s.heap H locs) (ls : Array Slot) (hl : lv_has ls 3 []) (hE : sX7_readSquare_30 h  = some o) : W p l e (rm 1 21) s m args below meth c H locs 0 0 (MQ below (QI X h0 o.1 o.2) args s 0 0 (aA (eB X))) (F0 m 30 ls []) := by
  refine lv_iconst (v := (-1 : Int32)) C.1 C.2.1 dX7_readSquare_30 (by decide) ?_
  exact x_iret C rfl rfl hW hZ hkm hE dX7_readSquare_31
set_option maxRecDepth 20000 in
theorem bX7_readSquare_72 {p : Program} {l : Launch} {e : Env} {s : State} {m : MethodId} {args : Array Value} {below : List Frame} {meth : Method} {c : Code} {X : Ec} {h0 : Hp} {o : Int32 × Hp} (C : Cx X p s m args meth c RX7 cX7_readSquare 3 (some .int) "readSquare") {h : Hp} {H : Heap} {locs : List Loc} (hkm : Km h0 h) (hW : Wx X h H) (hZ : va_S (aA (eB X)) s.heap H locs) (ls : Array Slot) (hl : lv_has ls 3 []) (hE : sX7_readSquare_72 h  = some o) : W p l e (rm 1 21) s m args below meth c H locs 0 0 (MQ below (QI X h0 o.1 o.2) args s 0 0 (aA (eB X))) (F0 m 72 ls []) := by
  refine lv_iconst (v := (-1 : Int32)) C.1 C.2.1 dX7_readSquare_72 (by decide) ?_
  exact x_iret C rfl rfl hW hZ hkm hE dX7_readSquare_73
set_option maxRecDepth 20000 in
theorem ct_X7_readSquare (l : Launch) (X : Ec) {h : Hp} {x0 : Nat} {o : Int32 × Hp} (k_x0 : hK h x0 = 7) (hE : sX7_readSquare h x0 = some o) : MetI l yX7_readSquare cX7_readSquare 3 (some .int) 1 21 X [.ref x0] h o := by
  refine x_met (by decide) (Nat.le_of_ble_eq_true rfl) ?_
  intro p e s m below meth c ls C hl hW hZ
  have hl : lv_has ls 3 [(0, .ref x0)] := hl
  have hkm : Km h h := Km.rf h
  refine lv_aload_n C.1 C.2.1 dX7_readSquare_0 rfl (lv_at hl 0 rfl) ?_
  obtain ⟨r_1, er_1, hE⟩ := cl_e hE
  refine gf_X7_15 C hW k_x0 er_1 dX7_readSquare_1 (fun k_r_1 => ?_)
  refine lv_aload_n C.1 C.2.1 dX7_readSquare_4 rfl (lv_at hl 0 rfl) ?_
  refine gf_X7_19 C hW k_x0 dX7_readSquare_5 ?_
  obtain ⟨o_2, eo_2, hE⟩ := cl_e hE
  refine x_kI (o := o_2) (z_runV (As := [.int (hI h x0 2)]) (rest := []) C (ct_X9_byteAt l X k_r_1 eo_2) cw_X7_54 hW hZ k_r_1 (by decide) rfl rfl rfl hl.1 (Nat.le_of_ble_eq_true rfl) rfl dX7_readSquare_8 ⟨Nat.le_of_ble_eq_true rfl, Nat.le_of_ble_eq_true rfl⟩ ⟨Nat.le_refl _, Nat.le_refl _⟩) hZ (fun _ _ hW km hZ => ?_)
  replace hkm := hkm.tr km
  replace k_x0 := km.at k_x0 (by decide)
  refine lv_bipush (v := (97 : Int32)) C.1 C.2.1 dX7_readSquare_11 (by decide) ?_
  refine lv_isub C.1 C.2.1 dX7_readSquare_13 ?_
  obtain ⟨v_3, ev_3, hE⟩ := nm_e2 hE
  refine x_nmI ev_3 ?_
  refine lv_istore_n (lv' := [(1, .int v_3), (0, .ref x0)]) C.1 C.2.1 dX7_readSquare_14 rfl hl (by decide) rfl (fun ls hl => ?_)
  refine lv_iload_n C.1 C.2.1 dX7_readSquare_15 rfl (lv_at hl 0 rfl) ?_
  refine lv_if_lt (tgt := 30) C.1 C.2.1 dX7_readSquare_16 (by decide) (fun c_4 => ?_) (fun c_4 => ?_)
  · have hE := br_p hE c_4
    exact bX7_readSquare_30 C hkm hW hZ _ (lv_sub hl [] rfl) hE
  · have hE := br_n hE c_4
    refine lv_iload_n C.1 C.2.1 dX7_readSquare_19 rfl (lv_at hl 0 rfl) ?_
    refine lv_aload_n C.1 C.2.1 dX7_readSquare_20 rfl (lv_at hl 1 rfl) ?_
    obtain ⟨r_5, er_5, hE⟩ := cl_e hE
    refine gf_X7_9 C hW k_x0 er_5 dX7_readSquare_21 (fun k_r_5 => ?_)
    refine gf_X7_65 C hW k_r_5 dX7_readSquare_24 ?_
    refine lv_icmp_lt (tgt := 32) C.1 C.2.1 dX7_readSquare_27 (by decide) (fun c_6 => ?_) (fun c_6 => ?_)
    · have hE := br_p hE c_6
      refine lv_aload_n C.1 C.2.1 dX7_readSquare_32 rfl (lv_at hl 1 rfl) ?_
      refine lv_dup C.1 C.2.1 dX7_readSquare_33 rfl ?_
      refine gf_X7_19 C hW k_x0 dX7_readSquare_34 ?_
      refine lv_iconst (v := (1 : Int32)) C.1 C.2.1 dX7_readSquare_37 (by decide) ?_
      refine lv_iadd C.1 C.2.1 dX7_readSquare_38 ?_
      obtain ⟨h_7, eh_7, hE⟩ := nm_e2 hE
      refine pf_X7_19 C hW hZ k_x0 eh_7 dX7_readSquare_39 (fun _ _ hW km hZ => ?_)
      replace hkm := hkm.tr km
      replace k_x0 := km.at k_x0 (by decide)
      refine lv_aload_n C.1 C.2.1 dX7_readSquare_42 rfl (lv_at hl 1 rfl) ?_
      obtain ⟨r_8, er_8, hE⟩ := cl_e hE
      refine gf_X7_15 C hW k_x0 er_8 dX7_readSquare_43 (fun k_r_8 => ?_)
      refine lv_aload_n C.1 C.2.1 dX7_readSquare_46 rfl (lv_at hl 1 rfl) ?_
      refine gf_X7_19 C hW k_x0 dX7_readSquare_47 ?_
      obtain ⟨o_9, eo_9, hE⟩ := cl_e hE
      refine x_kI (o := o_9) (z_runV (As := [.int (hI h_7 x0 2)]) (rest := []) C (ct_X9_byteAt l X k_r_8 eo_9) cw_X7_54 hW hZ k_r_8 (by decide) rfl rfl rfl hl.1 (Nat.le_of_ble_eq_true rfl) rfl dX7_readSquare_50 ⟨Nat.le_of_ble_eq_true rfl, Nat.le_of_ble_eq_true rfl⟩ ⟨Nat.le_refl _, Nat.le_refl _⟩) hZ (fun _ _ hW km hZ => ?_)
      replace hkm := hkm.tr km
      replace k_x0 := km.at k_x0 (by decide)
      refine lv_bipush (v := (49 : Int32)) C.1 C.2.1 dX7_readSquare_53 (by decide) ?_
      refine lv_isub C.1 C.2.1 dX7_readSquare_55 ?_
      obtain ⟨v_10, ev_10, hE⟩ := nm_e2 hE
      refine x_nmI ev_10 ?_
      refine lv_istore_n (lv' := [(2, .int v_10), (1, .int v_3), (0, .ref x0)]) C.1 C.2.1 dX7_readSquare_56 rfl hl (by decide) rfl (fun ls hl => ?_)
      refine lv_iload_n C.1 C.2.1 dX7_readSquare_57 rfl (lv_at hl 0 rfl) ?_
      refine lv_if_lt (tgt := 72) C.1 C.2.1 dX7_readSquare_58 (by decide) (fun c_11 => ?_) (fun c_11 => ?_)
      · have hE := br_p hE c_11
        exact bX7_readSquare_72 C hkm hW hZ _ (lv_sub hl [] rfl) hE
      · have hE := br_n hE c_11
        refine lv_iload_n C.1 C.2.1 dX7_readSquare_61 rfl (lv_at hl 0 rfl) ?_
        refine lv_aload_n C.1 C.2.1 dX7_readSquare_62 rfl (lv_at hl 2 rfl) ?_
        obtain ⟨r_12, er_12, hE⟩ := cl_e hE
        refine gf_X7_9 C hW k_x0 er_12 dX7_readSquare_63 (fun k_r_12 => ?_)
        refine gf_X7_60 C hW k_r_12 dX7_readSquare_66 ?_
        refine lv_icmp_lt (tgt := 74) C.1 C.2.1 dX7_readSquare_69 (by decide) (fun c_13 => ?_) (fun c_13 => ?_)
        · have hE := br_p hE c_13
          refine lv_aload_n C.1 C.2.1 dX7_readSquare_74 rfl (lv_at hl 2 rfl) ?_
          refine lv_dup C.1 C.2.1 dX7_readSquare_75 rfl ?_
          refine gf_X7_19 C hW k_x0 dX7_readSquare_76 ?_
          refine lv_iconst (v := (1 : Int32)) C.1 C.2.1 dX7_readSquare_79 (by decide) ?_
          refine lv_iadd C.1 C.2.1 dX7_readSquare_80 ?_
          obtain ⟨h_14, eh_14, hE⟩ := nm_e2 hE
          refine pf_X7_19 C hW hZ k_x0 eh_14 dX7_readSquare_81 (fun _ _ hW km hZ => ?_)
          replace hkm := hkm.tr km
          replace k_x0 := km.at k_x0 (by decide)
          refine lv_iload_n C.1 C.2.1 dX7_readSquare_84 rfl (lv_at hl 0 rfl) ?_
          refine lv_aload_n C.1 C.2.1 dX7_readSquare_85 rfl (lv_at hl 2 rfl) ?_
          obtain ⟨r_15, er_15, hE⟩ := cl_e hE
          refine gf_X7_9 C hW k_x0 er_15 dX7_readSquare_86 (fun k_r_15 => ?_)
          refine gf_X7_65 C hW k_r_15 dX7_readSquare_89 ?_
          refine lv_imul C.1 C.2.1 dX7_readSquare_92 ?_
          refine lv_iload_n C.1 C.2.1 dX7_readSquare_93 rfl (lv_at hl 1 rfl) ?_
          refine lv_iadd C.1 C.2.1 dX7_readSquare_94 ?_
          exact x_iret C rfl rfl hW hZ hkm hE dX7_readSquare_95
        · have hE := br_n hE c_13
          exact bX7_readSquare_72 C hkm hW hZ _ (lv_sub hl [] rfl) hE
    · have hE := br_n hE c_6
      exact bX7_readSquare_30 C hkm hW hZ _ (lv_sub hl [] rfl) hE
theorem ms_35 : Cond.selects RX7 yX7_readSquare yX7_readSquare ∈ W0 := w0_in (List.mem_append_left _ (List.mem_of_getElem? (i := 35) (by decide +kernel))) rfl
theorem m_310 : Cond.fieldLink RX7 85 (TX3 8).1 (TX3 8).2.1 (TX3 8).2.2.1 ∈ W0 := w0_in (List.mem_append_right _ (List.mem_of_getElem? (i := 310) (by decide +kernel))) rfl
theorem m_997 : Cond.methodLink RX7 81 yX7_readSquare ∈ W0 := w0_in (List.mem_append_right _ (List.mem_of_getElem? (i := 997) (by decide +kernel))) rfl
theorem m_999 : Cond.instanceMethod yX7_readSquare ∈ W0 := w0_in (List.mem_append_right _ (List.mem_of_getElem? (i := 999) (by decide +kernel))) rfl
theorem m_1000 : Cond.code yX7_readSquare cX7_readSquare 3 (some .int) ∈ W0 := w0_in (List.mem_append_right _ (List.mem_of_getElem? (i := 1000) (by decide +kernel))) rfl
section
variable {p : Program} {l : Launch} {e : Env} {R : Room} {s : State} {m : MethodId} {args : Array Value} {below : List Frame} {meth : Method} {c : Code} {H : Heap} {locs : List Loc} {cells slots : Nat} {Q : State → Prop}
variable {cc : ByteArray} {pc : Nat} {ls : Array Slot} {rest : List Value} {X : Ec} {h h1 : Hp} {nL : Nat} {rt : Option FieldType} {mn : String}
theorem gf_X7_85 {a : Nat} (C : Cx X p s m args meth c RX7 cc nL rt mn) (hW : Wx X h H) (ha : hK h a = 3) (hdg : decode cc pc = .ok (.getfield 85, 3)) (kk : W p l e R s m args below meth c H locs cells slots Q (F0 m (pc + 3) ls (.long (hJ h a 8) :: rest))) : W p l e R s m args below meth c H locs cells slots Q (F0 m pc ls (.ref a :: rest)) :=
  y_getj C hW ha i_X3 (by decide) rfl (by decide) m_310 rfl hdg kk
theorem pf_X7_85 {a : Nat} {v : Int64} (C : Cx X p s m args meth c RX7 cc nL rt mn) (hW : Wx X h H) (hZ : va_S (aA (eB X)) s.heap H locs) (ha : hK h a = 3) (eh : h1 = wJ h a 8 v) (hdg : decode cc pc = .ok (.putfield 85, 3)) (kk : ∀ (H1 : Heap) (locs1 : List Loc), Wx X h1 H1 → Km h h1 → va_S (aA (eB X)) s.heap H1 locs1 → W p l e R s m args below meth c H1 locs1 cells slots Q (F0 m (pc + 3) ls rest)) : W p l e R s m args below meth c H locs cells slots Q (F0 m pc ls (.long v :: .ref a :: rest)) :=
  y_putj C hW hZ ha i_X3 tyX3 tyX3_ok nmX3 (by decide) rfl rfl (by decide) m_310 rfl (by decide +kernel) rfl eh hdg kk
end
theorem cw_X7_81 : cwd RX7 81 yX7_readSquare cX7_readSquare 3 (some .int) false 0 := ⟨m_1000, m_997, m_10, ⟨m_999, ms_35⟩, by decide, by decide, by decide +kernel⟩
theorem dX7_readRights_0 : decode cX7_readRights 0 = .ok (.aload_n 0, 1) := by decide +kernel
theorem dX7_readRights_1 : decode cX7_readRights 1 = .ok (.bipush 45, 2) := by decide +kernel
theorem dX7_readRights_3 : decode cX7_readRights 3 = .ok (.invokevirtual 32, 3) := by decide +kernel
theorem dX7_readRights_6 : decode cX7_readRights 6 = .ok (.ifCond .eq 5, 3) := by decide +kernel
theorem dX7_readRights_9 : decode cX7_readRights 9 = .ok (.iconst 1, 1) := by decide +kernel
theorem dX7_readRights_10 : decode cX7_readRights 10 = .ok (.ireturn, 1) := by decide +kernel
theorem dX7_readRights_11 : decode cX7_readRights 11 = .ok (.iconst (-1), 1) := by decide +kernel
theorem dX7_readRights_12 : decode cX7_readRights 12 = .ok (.istore_n 2, 1) := by decide +kernel
theorem dX7_readRights_13 : decode cX7_readRights 13 = .ok (.iconst 0, 1) := by decide +kernel
theorem dX7_readRights_14 : decode cX7_readRights 14 = .ok (.istore_n 3, 1) := by decide +kernel
theorem dX7_readRights_15 : decode cX7_readRights 15 = .ok (.iload_n 3, 1) := by decide +kernel
theorem dX7_readRights_16 : decode cX7_readRights 16 = .ok (.bipush 64, 2) := by decide +kernel
theorem dX7_readRights_18 : decode cX7_readRights 18 = .ok (.if_icmp .gt 79, 3) := by decide +kernel
theorem dX7_readRights_21 : decode cX7_readRights 21 = .ok (.iload_n 3, 1) := by decide +kernel
theorem dX7_readRights_22 : decode cX7_readRights 22 = .ok (.ifCond .eq 19, 3) := by decide +kernel
theorem dX7_readRights_25 : decode cX7_readRights 25 = .ok (.aload_n 0, 1) := by decide +kernel
theorem dX7_readRights_26 : decode cX7_readRights 26 = .ok (.getfield 15, 3) := by decide +kernel
theorem dX7_readRights_29 : decode cX7_readRights 29 = .ok (.aload_n 0, 1) := by decide +kernel
theorem dX7_readRights_30 : decode cX7_readRights 30 = .ok (.getfield 19, 3) := by decide +kernel
theorem dX7_readRights_33 : decode cX7_readRights 33 = .ok (.invokevirtual 54, 3) := by decide +kernel
theorem dX7_readRights_36 : decode cX7_readRights 36 = .ok (.bipush 32, 2) := by decide +kernel
theorem dX7_readRights_38 : decode cX7_readRights 38 = .ok (.if_icmp .eq 59, 3) := by decide +kernel
theorem dX7_readRights_41 : decode cX7_readRights 41 = .ok (.aload_n 0, 1) := by decide +kernel
theorem dX7_readRights_42 : decode cX7_readRights 42 = .ok (.getfield 19, 3) := by decide +kernel
theorem dX7_readRights_45 : decode cX7_readRights 45 = .ok (.istore 4, 2) := by decide +kernel
theorem dX7_readRights_47 : decode cX7_readRights 47 = .ok (.aload_n 0, 1) := by decide +kernel
theorem dX7_readRights_48 : decode cX7_readRights 48 = .ok (.invokevirtual 81, 3) := by decide +kernel
theorem dX7_readRights_51 : decode cX7_readRights 51 = .ok (.istore 5, 2) := by decide +kernel
theorem dX7_readRights_53 : decode cX7_readRights 53 = .ok (.iload 5, 2) := by decide +kernel
theorem dX7_readRights_55 : decode cX7_readRights 55 = .ok (.iconst (-1), 1) := by decide +kernel
theorem dX7_readRights_56 : decode cX7_readRights 56 = .ok (.if_icmp .ne 5, 3) := by decide +kernel
theorem dX7_readRights_59 : decode cX7_readRights 59 = .ok (.iconst 0, 1) := by decide +kernel
theorem dX7_readRights_60 : decode cX7_readRights 60 = .ok (.ireturn, 1) := by decide +kernel
theorem dX7_readRights_61 : decode cX7_readRights 61 = .ok (.iload 5, 2) := by decide +kernel
theorem dX7_readRights_63 : decode cX7_readRights 63 = .ok (.iload_n 2, 1) := by decide +kernel
theorem dX7_readRights_64 : decode cX7_readRights 64 = .ok (.if_icmp .gt 11, 3) := by decide +kernel
theorem dX7_readRights_67 : decode cX7_readRights 67 = .ok (.aload_n 0, 1) := by decide +kernel
theorem dX7_readRights_68 : decode cX7_readRights 68 = .ok (.iload 4, 2) := by decide +kernel
theorem dX7_readRights_70 : decode cX7_readRights 70 = .ok (.putfield 19, 3) := by decide +kernel
theorem dX7_readRights_73 : decode cX7_readRights 73 = .ok (.iconst 0, 1) := by decide +kernel
theorem dX7_readRights_74 : decode cX7_readRights 74 = .ok (.ireturn, 1) := by decide +kernel
theorem dX7_readRights_75 : decode cX7_readRights 75 = .ok (.iload 5, 2) := by decide +kernel
theorem dX7_readRights_77 : decode cX7_readRights 77 = .ok (.istore_n 2, 1) := by decide +kernel
theorem dX7_readRights_78 : decode cX7_readRights 78 = .ok (.aload_n 1, 1) := by decide +kernel
theorem dX7_readRights_79 : decode cX7_readRights 79 = .ok (.dup, 1) := by decide +kernel
theorem dX7_readRights_80 : decode cX7_readRights 80 = .ok (.getfield 85, 3) := by decide +kernel
theorem dX7_readRights_83 : decode cX7_readRights 83 = .ok (.lconst 1, 1) := by decide +kernel
theorem dX7_readRights_84 : decode cX7_readRights 84 = .ok (.iload 5, 2) := by decide +kernel
theorem dX7_readRights_86 : decode cX7_readRights 86 = .ok (.lshl, 1) := by decide +kernel
theorem dX7_readRights_87 : decode cX7_readRights 87 = .ok (.lor, 1) := by decide +kernel
theorem dX7_readRights_88 : decode cX7_readRights 88 = .ok (.putfield 85, 3) := by decide +kernel
theorem dX7_readRights_91 : decode cX7_readRights 91 = .ok (.iinc 3 1, 3) := by decide +kernel
theorem dX7_readRights_94 : decode cX7_readRights 94 = .ok (.goto (-79), 3) := by decide +kernel
theorem dX7_readRights_97 : decode cX7_readRights 97 = .ok (.iconst 1, 1) := by decide +kernel
theorem dX7_readRights_98 : decode cX7_readRights 98 = .ok (.ireturn, 1) := by decide +kernel
def sX7_readRights_97 (F : Nat) (h : Hp) : Option (Int32 × Hp) := some ((1 : Int32), h)
def sX7_readRights_41 (F : Nat) (k_15 : Hp → Nat → Nat → Int32 → Int32 → Option (Int32 × Hp)) (h : Hp) (x0 : Nat) (x1 : Nat) (x2 : Int32) (x3 : Int32) : Option (Int32 × Hp) := nm (hI h x0 2) fun v_1 => cl (sX7_readSquare h x0) fun o_2 => br (o_2.1 = (-1 : Int32)) (some ((0 : Int32), o_2.2)) (br (x2 < o_2.1) (nm (wJ o_2.2 x1 8 ((hJ o_2.2 x1 8) ||| ((1 : Int64) <<< (o_2.1.toInt64 &&& 63)))) fun h_5 => nm (x3 + (1 : Int32)) fun v_6 => k_15 h_5 x0 x1 o_2.1 v_6) (nm (wI o_2.2 x0 2 v_1) fun h_7 => some ((0 : Int32), h_7)))
def sX7_readRights_15 (F : Nat) : Nat → Hp → Nat → Nat → Int32 → Int32 → Option (Int32 × Hp)
  | 0, _, _, _, _, _ => none
  | f + 1, h, x0, x1, x2, x3 => br ((64 : Int32) < x3) (sX7_readRights_97 F h ) (br (x3 = 0) (sX7_readRights_41 F (sX7_readRights_15 F f) h x0 x1 x2 x3) (cl (hR h x0 1) fun r_3 => cl (sX9_byteAt h r_3 (hI h x0 2)) fun o_4 => br (o_4.1 = (32 : Int32)) (sX7_readRights_97 F o_4.2 ) (sX7_readRights_41 F (sX7_readRights_15 F f) o_4.2 x0 x1 x2 x3)))
def sX7_readRights (F : Nat) (h : Hp) (x0 : Nat) (x1 : Nat) : Option (Int32 × Hp) := cl (sX7_takeByte h x0 (45 : Int32)) fun o_1 => br (o_1.1 = 0) (sX7_readRights_15 F F o_1.2 x0 x1 (-1 : Int32) (0 : Int32)) (some ((1 : Int32), o_1.2))
set_option maxRecDepth 20000 in
theorem bX7_readRights_97 {p : Program} {l : Launch} {e : Env} {s : State} {m : MethodId} {args : Array Value} {below : List Frame} {meth : Method} {c : Code} {X : Ec} {h0 : Hp} {o : Int32 × Hp} {F : Nat} (C : Cx X p s m args meth c RX7 cX7_readRights 6 (some .boolean) "readRights") {h : Hp} {H : Heap} {locs : List Loc} (hkm : Km h0 h) (hW : Wx X h H) (hZ : va_S (aA (eB X)) s.heap H locs) (ls : Array Slot) (hl : lv_has ls 6 []) (hE : sX7_readRights_97 F h  = some o) : W p l e (rm 2 43) s m args below meth c H locs 0 0 (MQ below (QI X h0 o.1 o.2) args s 0 0 (aA (eB X))) (F0 m 97 ls []) := by
  refine lv_iconst (v := (1 : Int32)) C.1 C.2.1 dX7_readRights_97 (by decide) ?_
  exact x_iret C rfl (by decide) hW hZ hkm hE dX7_readRights_98
set_option maxRecDepth 20000 in
theorem bX7_readRights_41 {p : Program} {l : Launch} {e : Env} {s : State} {m : MethodId} {args : Array Value} {below : List Frame} {meth : Method} {c : Code} {X : Ec} {h0 : Hp} {o : Int32 × Hp} {k_15 : Hp → Nat → Nat → Int32 → Int32 → Option (Int32 × Hp)} {F : Nat} (C : Cx X p s m args meth c RX7 cX7_readRights 6 (some .boolean) "readRights") (hk_15 : ∀ (h : Hp) (x0 : Nat) (x1 : Nat) (x2 : Int32) (x3 : Int32) (H : Heap) (locs : List Loc), hK h x0 = 7 → hK h x1 = 3 → Km h0 h → Wx X h H → va_S (aA (eB X)) s.heap H locs → ∀ (ls : Array Slot), lv_has ls 6 [(0, .ref x0), (1, .ref x1), (2, .int x2), (3, .int x3)] → k_15 h x0 x1 x2 x3 = some o → W p l e (rm 2 43) s m args below meth c H locs 0 0 (MQ below (QI X h0 o.1 o.2) args s 0 0 (aA (eB X))) (F0 m 15 ls [])) {h : Hp} {x0 : Nat} {x1 : Nat} {x2 : Int32} {x3 : Int32} {H : Heap} {locs : List Loc} (k_x0 : hK h x0 = 7) (k_x1 : hK h x1 = 3) (hkm : Km h0 h) (hW : Wx X h H) (hZ : va_S (aA (eB X)) s.heap H locs) (ls : Array Slot) (hl : lv_has ls 6 [(0, .ref x0), (1, .ref x1), (2, .int x2), (3, .int x3)]) (hE : sX7_readRights_41 F k_15 h x0 x1 x2 x3 = some o) : W p l e (rm 2 43) s m args below meth c H locs 0 0 (MQ below (QI X h0 o.1 o.2) args s 0 0 (aA (eB X))) (F0 m 41 ls []) := by
  refine lv_aload_n C.1 C.2.1 dX7_readRights_41 rfl (lv_at hl 0 rfl) ?_
  refine gf_X7_19 C hW k_x0 dX7_readRights_42 ?_
  obtain ⟨v_1, ev_1, hE⟩ := nm_e2 hE
  refine x_nmI ev_1 ?_
  refine lv_istore (lv' := [(4, .int v_1), (0, .ref x0), (1, .ref x1), (2, .int x2), (3, .int x3)]) C.1 C.2.1 dX7_readRights_45 hl (by decide) rfl (fun ls hl => ?_)
  refine lv_aload_n C.1 C.2.1 dX7_readRights_47 rfl (lv_at hl 1 rfl) ?_
  obtain ⟨o_2, eo_2, hE⟩ := cl_e hE
  refine x_kI (o := o_2) (z_runV (As := []) (rest := []) C (ct_X7_readSquare l X k_x0 eo_2) cw_X7_81 hW hZ k_x0 (by decide) rfl rfl rfl hl.1 (Nat.le_of_ble_eq_true rfl) rfl dX7_readRights_48 ⟨Nat.le_of_ble_eq_true rfl, Nat.le_of_ble_eq_true rfl⟩ ⟨Nat.le_refl _, Nat.le_refl _⟩) hZ (fun _ _ hW km hZ => ?_)
  replace hkm := hkm.tr km
  replace k_x0 := km.at k_x0 (by decide)
  replace k_x1 := km.at k_x1 (by decide)
  refine lv_istore (lv' := [(5, .int o_2.1), (4, .int v_1), (0, .ref x0), (1, .ref x1), (2, .int x2), (3, .int x3)]) C.1 C.2.1 dX7_readRights_51 hl (by decide) rfl (fun ls hl => ?_)
  refine lv_iload C.1 C.2.1 dX7_readRights_53 (lv_at hl 0 rfl) ?_
  refine lv_iconst (v := (-1 : Int32)) C.1 C.2.1 dX7_readRights_55 (by decide) ?_
  refine lv_icmp_ne (tgt := 61) C.1 C.2.1 dX7_readRights_56 (by decide) (fun c_3 => ?_) (fun c_3 => ?_)
  · have hE := br_n hE c_3
    refine lv_iload C.1 C.2.1 dX7_readRights_61 (lv_at hl 0 rfl) ?_
    refine lv_iload_n C.1 C.2.1 dX7_readRights_63 rfl (lv_at hl 4 rfl) ?_
    refine lv_icmp_gt (tgt := 75) C.1 C.2.1 dX7_readRights_64 (by decide) (fun c_4 => ?_) (fun c_4 => ?_)
    · have hE := br_p hE c_4
      refine lv_iload C.1 C.2.1 dX7_readRights_75 (lv_at hl 0 rfl) ?_
      refine lv_istore_n (lv' := [(2, .int o_2.1), (5, .int o_2.1), (4, .int v_1), (0, .ref x0), (1, .ref x1), (3, .int x3)]) C.1 C.2.1 dX7_readRights_77 rfl hl (by decide) rfl (fun ls hl => ?_)
      refine lv_aload_n C.1 C.2.1 dX7_readRights_78 rfl (lv_at hl 4 rfl) ?_
      refine lv_dup C.1 C.2.1 dX7_readRights_79 rfl ?_
      refine gf_X7_85 C hW k_x1 dX7_readRights_80 ?_
      refine lv_lconst (v := (1 : Int64)) C.1 C.2.1 dX7_readRights_83 (by decide) ?_
      refine lv_iload C.1 C.2.1 dX7_readRights_84 (lv_at hl 1 rfl) ?_
      refine lv_lshl C.1 C.2.1 dX7_readRights_86 rfl ?_
      refine lv_lor C.1 C.2.1 dX7_readRights_87 ?_
      obtain ⟨h_5, eh_5, hE⟩ := nm_e2 hE
      refine pf_X7_85 C hW hZ k_x1 eh_5 dX7_readRights_88 (fun _ _ hW km hZ => ?_)
      replace hkm := hkm.tr km
      replace k_x0 := km.at k_x0 (by decide)
      replace k_x1 := km.at k_x1 (by decide)
      obtain ⟨v_6, ev_6, hE⟩ := nm_e2 hE
      refine lv_iinc (v := v_6) (lv' := [(3, .int v_6), (2, .int o_2.1), (5, .int o_2.1), (4, .int v_1), (0, .ref x0), (1, .ref x1)]) C.1 C.2.1 dX7_readRights_91 hl (k := 5) rfl (by rw [ev_6]; rfl) (by decide) rfl (fun ls hl => ?_)
      refine lv_goto (tgt := 15) C.1 C.2.1 dX7_readRights_94 (by decide) ?_
      exact hk_15 _ _ _ _ _ _ _ k_x0 k_x1 hkm hW hZ _ (lv_sub hl [4, 5, 1, 0] rfl) hE
    · have hE := br_n hE c_4
      refine lv_aload_n C.1 C.2.1 dX7_readRights_67 rfl (lv_at hl 2 rfl) ?_
      refine lv_iload C.1 C.2.1 dX7_readRights_68 (lv_at hl 1 rfl) ?_
      obtain ⟨h_7, eh_7, hE⟩ := nm_e2 hE
      refine pf_X7_19 C hW hZ k_x0 eh_7 dX7_readRights_70 (fun _ _ hW km hZ => ?_)
      replace hkm := hkm.tr km
      replace k_x0 := km.at k_x0 (by decide)
      replace k_x1 := km.at k_x1 (by decide)
      refine lv_iconst (v := (0 : Int32)) C.1 C.2.1 dX7_readRights_73 (by decide) ?_
      exact x_iret C rfl (by decide) hW hZ hkm hE dX7_readRights_74
  · have hE := br_p hE c_3
    refine lv_iconst (v := (0 : Int32)) C.1 C.2.1 dX7_readRights_59 (by decide) ?_
    exact x_iret C rfl (by decide) hW hZ hkm hE dX7_readRights_60
set_option maxRecDepth 20000 in
theorem bX7_readRights_15 {p : Program} {l : Launch} {e : Env} {s : State} {m : MethodId} {args : Array Value} {below : List Frame} {meth : Method} {c : Code} {X : Ec} {h0 : Hp} {o : Int32 × Hp} {F : Nat} (C : Cx X p s m args meth c RX7 cX7_readRights 6 (some .boolean) "readRights") : ∀ (f : Nat) {h : Hp} {x0 : Nat} {x1 : Nat} {x2 : Int32} {x3 : Int32} {H : Heap} {locs : List Loc} (k_x0 : hK h x0 = 7) (k_x1 : hK h x1 = 3), Km h0 h → Wx X h H → va_S (aA (eB X)) s.heap H locs → ∀ (ls : Array Slot), lv_has ls 6 [(0, .ref x0), (1, .ref x1), (2, .int x2), (3, .int x3)] → sX7_readRights_15 F f h x0 x1 x2 x3 = some o → W p l e (rm 2 43) s m args below meth c H locs 0 0 (MQ below (QI X h0 o.1 o.2) args s 0 0 (aA (eB X))) (F0 m 15 ls []) := by
  intro f
  induction f with
  | zero =>
    intro h x0 x1 x2 x3 H locs k_x0 k_x1 hkm hW hZ ls hl hE
    rw [sX7_readRights_15] at hE
    cases hE
  | succ f ih =>
    intro h x0 x1 x2 x3 H locs k_x0 k_x1 hkm hW hZ ls hl hE
    rw [sX7_readRights_15] at hE
    have hk_15 : ∀ (h : Hp) (x0 : Nat) (x1 : Nat) (x2 : Int32) (x3 : Int32) (H : Heap) (locs : List Loc), hK h x0 = 7 → hK h x1 = 3 → Km h0 h → Wx X h H → va_S (aA (eB X)) s.heap H locs → ∀ (ls : Array Slot), lv_has ls 6 [(0, .ref x0), (1, .ref x1), (2, .int x2), (3, .int x3)] → sX7_readRights_15 F f h x0 x1 x2 x3 = some o → W p l e (rm 2 43) s m args below meth c H locs 0 0 (MQ below (QI X h0 o.1 o.2) args s 0 0 (aA (eB X))) (F0 m 15 ls []) := fun h x0 x1 x2 x3 H locs k_x0 k_x1 a b c ls hl hE => ih k_x0 k_x1 a b c ls hl hE
    refine lv_iload_n C.1 C.2.1 dX7_readRights_15 rfl (lv_at hl 3 rfl) ?_
    refine lv_bipush (v := (64 : Int32)) C.1 C.2.1 dX7_readRights_16 (by decide) ?_
    refine lv_icmp_gt (tgt := 97) C.1 C.2.1 dX7_readRights_18 (by decide) (fun c_1 => ?_) (fun c_1 => ?_)
    · have hE := br_p hE c_1
      exact bX7_readRights_97 C hkm hW hZ _ (lv_sub hl [] rfl) hE
    · have hE := br_n hE c_1
      refine lv_iload_n C.1 C.2.1 dX7_readRights_21 rfl (lv_at hl 3 rfl) ?_
      refine lv_if_eq (tgt := 41) C.1 C.2.1 dX7_readRights_22 (by decide) (fun c_2 => ?_) (fun c_2 => ?_)
      · have hE := br_p hE c_2
        exact bX7_readRights_41 C hk_15 k_x0 k_x1 hkm hW hZ _ (lv_sub hl [0, 1, 2, 3] rfl) hE
      · have hE := br_n hE c_2
        refine lv_aload_n C.1 C.2.1 dX7_readRights_25 rfl (lv_at hl 0 rfl) ?_
        obtain ⟨r_3, er_3, hE⟩ := cl_e hE
        refine gf_X7_15 C hW k_x0 er_3 dX7_readRights_26 (fun k_r_3 => ?_)
        refine lv_aload_n C.1 C.2.1 dX7_readRights_29 rfl (lv_at hl 0 rfl) ?_
        refine gf_X7_19 C hW k_x0 dX7_readRights_30 ?_
        obtain ⟨o_4, eo_4, hE⟩ := cl_e hE
        refine x_kI (o := o_4) (z_runV (As := [.int (hI h x0 2)]) (rest := []) C (ct_X9_byteAt l X k_r_3 eo_4) cw_X7_54 hW hZ k_r_3 (by decide) rfl rfl rfl hl.1 (Nat.le_of_ble_eq_true rfl) rfl dX7_readRights_33 ⟨Nat.le_of_ble_eq_true rfl, Nat.le_of_ble_eq_true rfl⟩ ⟨Nat.le_refl _, Nat.le_refl _⟩) hZ (fun _ _ hW km hZ => ?_)
        replace hkm := hkm.tr km
        replace k_x0 := km.at k_x0 (by decide)
        replace k_x1 := km.at k_x1 (by decide)
        refine lv_bipush (v := (32 : Int32)) C.1 C.2.1 dX7_readRights_36 (by decide) ?_
        refine lv_icmp_eq (tgt := 97) C.1 C.2.1 dX7_readRights_38 (by decide) (fun c_5 => ?_) (fun c_5 => ?_)
        · have hE := br_p hE c_5
          exact bX7_readRights_97 C hkm hW hZ _ (lv_sub hl [] rfl) hE
        · have hE := br_n hE c_5
          exact bX7_readRights_41 C hk_15 k_x0 k_x1 hkm hW hZ _ (lv_sub hl [0, 1, 2, 3] rfl) hE
set_option maxRecDepth 20000 in
theorem ct_X7_readRights (l : Launch) (X : Ec) (F : Nat) {h : Hp} {x0 : Nat} {x1 : Nat} {o : Int32 × Hp} (k_x0 : hK h x0 = 7) (k_x1 : hK h x1 = 3) (hE : sX7_readRights F h x0 x1 = some o) : MetI l yX7_readRights cX7_readRights 6 (some .boolean) 2 43 X [.ref x0, .ref x1] h o := by
  refine x_met (by decide) (Nat.le_of_ble_eq_true rfl) ?_
  intro p e s m below meth c ls C hl hW hZ
  have hl : lv_has ls 6 [(0, .ref x0), (1, .ref x1)] := hl
  have hkm : Km h h := Km.rf h
  refine lv_aload_n C.1 C.2.1 dX7_readRights_0 rfl (lv_at hl 0 rfl) ?_
  refine lv_bipush (v := (45 : Int32)) C.1 C.2.1 dX7_readRights_1 (by decide) ?_
  obtain ⟨o_1, eo_1, hE⟩ := cl_e hE
  refine x_kI (o := o_1) (z_runV (As := [.int (45 : Int32)]) (rest := []) C (ct_X7_takeByte l X k_x0 eo_1) cw_X7_32 hW hZ k_x0 (by decide) rfl rfl rfl hl.1 (Nat.le_of_ble_eq_true rfl) rfl dX7_readRights_3 ⟨Nat.le_of_ble_eq_true rfl, Nat.le_of_ble_eq_true rfl⟩ ⟨Nat.le_refl _, Nat.le_refl _⟩) hZ (fun _ _ hW km hZ => ?_)
  replace hkm := hkm.tr km
  replace k_x0 := km.at k_x0 (by decide)
  replace k_x1 := km.at k_x1 (by decide)
  refine lv_if_eq (tgt := 11) C.1 C.2.1 dX7_readRights_6 (by decide) (fun c_2 => ?_) (fun c_2 => ?_)
  · have hE := br_p hE c_2
    refine lv_iconst (v := (-1 : Int32)) C.1 C.2.1 dX7_readRights_11 (by decide) ?_
    refine lv_istore_n (lv' := [(2, .int (-1 : Int32)), (0, .ref x0), (1, .ref x1)]) C.1 C.2.1 dX7_readRights_12 rfl hl (by decide) rfl (fun ls hl => ?_)
    refine lv_iconst (v := (0 : Int32)) C.1 C.2.1 dX7_readRights_13 (by decide) ?_
    refine lv_istore_n (lv' := [(3, .int (0 : Int32)), (2, .int (-1 : Int32)), (0, .ref x0), (1, .ref x1)]) C.1 C.2.1 dX7_readRights_14 rfl hl (by decide) rfl (fun ls hl => ?_)
    exact bX7_readRights_15 C F k_x0 k_x1 hkm hW hZ _ (lv_sub hl [2, 3, 1, 0] rfl) hE
  · have hE := br_n hE c_2
    refine lv_iconst (v := (1 : Int32)) C.1 C.2.1 dX7_readRights_9 (by decide) ?_
    exact x_iret C rfl (by decide) hW hZ hkm hE dX7_readRights_10
theorem m_1005 : Cond.methodLink RX7 89 yX3_addPass ∈ W0 := w0_in (List.mem_append_right _ (List.mem_of_getElem? (i := 1005) (by decide +kernel))) rfl
theorem m_1006 : Cond.instanceMethod yX3_addPass ∈ W0 := w0_in (List.mem_append_right _ (List.mem_of_getElem? (i := 1006) (by decide +kernel))) rfl
theorem m_1007 : Cond.selects RX3 yX3_addPass yX3_addPass ∈ W0 := w0_in (List.mem_append_right _ (List.mem_of_getElem? (i := 1007) (by decide +kernel))) rfl
theorem m_1008 : Cond.code yX3_addPass cX3_addPass 3 none ∈ W0 := w0_in (List.mem_append_right _ (List.mem_of_getElem? (i := 1008) (by decide +kernel))) rfl
theorem cw_X7_89 : cwd RX7 89 yX3_addPass cX3_addPass 3 none false 1 := ⟨m_1008, m_1005, m_8, ⟨m_1006, m_1007⟩, by decide, by decide, by decide +kernel⟩
theorem dX7_readPass_0 : decode cX7_readPass 0 = .ok (.aload_n 0, 1) := by decide +kernel
theorem dX7_readPass_1 : decode cX7_readPass 1 = .ok (.bipush 45, 2) := by decide +kernel
theorem dX7_readPass_3 : decode cX7_readPass 3 = .ok (.invokevirtual 32, 3) := by decide +kernel
theorem dX7_readPass_6 : decode cX7_readPass 6 = .ok (.ifCond .eq 5, 3) := by decide +kernel
theorem dX7_readPass_9 : decode cX7_readPass 9 = .ok (.iconst 1, 1) := by decide +kernel
theorem dX7_readPass_10 : decode cX7_readPass 10 = .ok (.ireturn, 1) := by decide +kernel
theorem dX7_readPass_11 : decode cX7_readPass 11 = .ok (.iconst 0, 1) := by decide +kernel
theorem dX7_readPass_12 : decode cX7_readPass 12 = .ok (.istore_n 2, 1) := by decide +kernel
theorem dX7_readPass_13 : decode cX7_readPass 13 = .ok (.iload_n 2, 1) := by decide +kernel
theorem dX7_readPass_14 : decode cX7_readPass 14 = .ok (.sipush 1200, 3) := by decide +kernel
theorem dX7_readPass_17 : decode cX7_readPass 17 = .ok (.if_icmp .ge 47, 3) := by decide +kernel
theorem dX7_readPass_20 : decode cX7_readPass 20 = .ok (.iload_n 2, 1) := by decide +kernel
theorem dX7_readPass_21 : decode cX7_readPass 21 = .ok (.iconst 2, 1) := by decide +kernel
theorem dX7_readPass_22 : decode cX7_readPass 22 = .ok (.if_icmp .lt 19, 3) := by decide +kernel
theorem dX7_readPass_25 : decode cX7_readPass 25 = .ok (.aload_n 0, 1) := by decide +kernel
theorem dX7_readPass_26 : decode cX7_readPass 26 = .ok (.getfield 15, 3) := by decide +kernel
theorem dX7_readPass_29 : decode cX7_readPass 29 = .ok (.aload_n 0, 1) := by decide +kernel
theorem dX7_readPass_30 : decode cX7_readPass 30 = .ok (.getfield 19, 3) := by decide +kernel
theorem dX7_readPass_33 : decode cX7_readPass 33 = .ok (.invokevirtual 54, 3) := by decide +kernel
theorem dX7_readPass_36 : decode cX7_readPass 36 = .ok (.bipush 32, 2) := by decide +kernel
theorem dX7_readPass_38 : decode cX7_readPass 38 = .ok (.if_icmp .eq 26, 3) := by decide +kernel
theorem dX7_readPass_41 : decode cX7_readPass 41 = .ok (.aload_n 0, 1) := by decide +kernel
theorem dX7_readPass_42 : decode cX7_readPass 42 = .ok (.invokevirtual 81, 3) := by decide +kernel
theorem dX7_readPass_45 : decode cX7_readPass 45 = .ok (.istore_n 3, 1) := by decide +kernel
theorem dX7_readPass_46 : decode cX7_readPass 46 = .ok (.iload_n 3, 1) := by decide +kernel
theorem dX7_readPass_47 : decode cX7_readPass 47 = .ok (.iconst (-1), 1) := by decide +kernel
theorem dX7_readPass_48 : decode cX7_readPass 48 = .ok (.if_icmp .ne 5, 3) := by decide +kernel
theorem dX7_readPass_51 : decode cX7_readPass 51 = .ok (.iconst 0, 1) := by decide +kernel
theorem dX7_readPass_52 : decode cX7_readPass 52 = .ok (.ireturn, 1) := by decide +kernel
theorem dX7_readPass_53 : decode cX7_readPass 53 = .ok (.aload_n 1, 1) := by decide +kernel
theorem dX7_readPass_54 : decode cX7_readPass 54 = .ok (.iload_n 3, 1) := by decide +kernel
theorem dX7_readPass_55 : decode cX7_readPass 55 = .ok (.invokevirtual 89, 3) := by decide +kernel
theorem dX7_readPass_58 : decode cX7_readPass 58 = .ok (.iinc 2 1, 3) := by decide +kernel
theorem dX7_readPass_61 : decode cX7_readPass 61 = .ok (.goto (-48), 3) := by decide +kernel
theorem dX7_readPass_64 : decode cX7_readPass 64 = .ok (.iconst 1, 1) := by decide +kernel
theorem dX7_readPass_65 : decode cX7_readPass 65 = .ok (.ireturn, 1) := by decide +kernel
def sX7_readPass_64 (F : Nat) (h : Hp) : Option (Int32 × Hp) := some ((1 : Int32), h)
def sX7_readPass_41 (F : Nat) (k_13 : Hp → Nat → Nat → Int32 → Option (Int32 × Hp)) (h : Hp) (x0 : Nat) (x1 : Nat) (x2 : Int32) : Option (Int32 × Hp) := cl (sX7_readSquare h x0) fun o_1 => br (o_1.1 = (-1 : Int32)) (some ((0 : Int32), o_1.2)) (cl (sX3_addPass o_1.2 x1 o_1.1) fun o_3 => nm (x2 + (1 : Int32)) fun v_4 => k_13 o_3 x0 x1 v_4)
def sX7_readPass_13 (F : Nat) : Nat → Hp → Nat → Nat → Int32 → Option (Int32 × Hp)
  | 0, _, _, _, _ => none
  | f + 1, h, x0, x1, x2 => br ((1200 : Int32) ≤ x2) (sX7_readPass_64 F h ) (br (x2 < (2 : Int32)) (sX7_readPass_41 F (sX7_readPass_13 F f) h x0 x1 x2) (cl (hR h x0 1) fun r_3 => cl (sX9_byteAt h r_3 (hI h x0 2)) fun o_4 => br (o_4.1 = (32 : Int32)) (sX7_readPass_64 F o_4.2 ) (sX7_readPass_41 F (sX7_readPass_13 F f) o_4.2 x0 x1 x2)))
def sX7_readPass (F : Nat) (h : Hp) (x0 : Nat) (x1 : Nat) : Option (Int32 × Hp) := cl (sX7_takeByte h x0 (45 : Int32)) fun o_1 => br (o_1.1 = 0) (sX7_readPass_13 F F o_1.2 x0 x1 (0 : Int32)) (some ((1 : Int32), o_1.2))
set_option maxRecDepth 20000 in
theorem bX7_readPass_64 {p : Program} {l : Launch} {e : Env} {s : State} {m : MethodId} {args : Array Value} {below : List Frame} {meth : Method} {c : Code} {X : Ec} {h0 : Hp} {o : Int32 × Hp} {F : Nat} (C : Cx X p s m args meth c RX7 cX7_readPass 4 (some .boolean) "readPass") {h : Hp} {H : Heap} {locs : List Loc} (hkm : Km h0 h) (hW : Wx X h H) (hZ : va_S (aA (eB X)) s.heap H locs) (ls : Array Slot) (hl : lv_has ls 4 []) (hE : sX7_readPass_64 F h  = some o) : W p l e (rm 2 43) s m args below meth c H locs 0 0 (MQ below (QI X h0 o.1 o.2) args s 0 0 (aA (eB X))) (F0 m 64 ls []) := by
  refine lv_iconst (v := (1 : Int32)) C.1 C.2.1 dX7_readPass_64 (by decide) ?_
  exact x_iret C rfl (by decide) hW hZ hkm hE dX7_readPass_65
set_option maxRecDepth 20000 in
theorem bX7_readPass_41 {p : Program} {l : Launch} {e : Env} {s : State} {m : MethodId} {args : Array Value} {below : List Frame} {meth : Method} {c : Code} {X : Ec} {h0 : Hp} {o : Int32 × Hp} {k_13 : Hp → Nat → Nat → Int32 → Option (Int32 × Hp)} {F : Nat} (C : Cx X p s m args meth c RX7 cX7_readPass 4 (some .boolean) "readPass") (hk_13 : ∀ (h : Hp) (x0 : Nat) (x1 : Nat) (x2 : Int32) (H : Heap) (locs : List Loc), hK h x0 = 7 → hK h x1 = 3 → Km h0 h → Wx X h H → va_S (aA (eB X)) s.heap H locs → ∀ (ls : Array Slot), lv_has ls 4 [(0, .ref x0), (1, .ref x1), (2, .int x2)] → k_13 h x0 x1 x2 = some o → W p l e (rm 2 43) s m args below meth c H locs 0 0 (MQ below (QI X h0 o.1 o.2) args s 0 0 (aA (eB X))) (F0 m 13 ls [])) {h : Hp} {x0 : Nat} {x1 : Nat} {x2 : Int32} {H : Heap} {locs : List Loc} (k_x0 : hK h x0 = 7) (k_x1 : hK h x1 = 3) (hkm : Km h0 h) (hW : Wx X h H) (hZ : va_S (aA (eB X)) s.heap H locs) (ls : Array Slot) (hl : lv_has ls 4 [(0, .ref x0), (1, .ref x1), (2, .int x2)]) (hE : sX7_readPass_41 F k_13 h x0 x1 x2 = some o) : W p l e (rm 2 43) s m args below meth c H locs 0 0 (MQ below (QI X h0 o.1 o.2) args s 0 0 (aA (eB X))) (F0 m 41 ls []) := by
  refine lv_aload_n C.1 C.2.1 dX7_readPass_41 rfl (lv_at hl 0 rfl) ?_
  obtain ⟨o_1, eo_1, hE⟩ := cl_e hE
  refine x_kI (o := o_1) (z_runV (As := []) (rest := []) C (ct_X7_readSquare l X k_x0 eo_1) cw_X7_81 hW hZ k_x0 (by decide) rfl rfl rfl hl.1 (Nat.le_of_ble_eq_true rfl) rfl dX7_readPass_42 ⟨Nat.le_of_ble_eq_true rfl, Nat.le_of_ble_eq_true rfl⟩ ⟨Nat.le_refl _, Nat.le_refl _⟩) hZ (fun _ _ hW km hZ => ?_)
  replace hkm := hkm.tr km
  replace k_x0 := km.at k_x0 (by decide)
  replace k_x1 := km.at k_x1 (by decide)
  refine lv_istore_n (lv' := [(3, .int o_1.1), (0, .ref x0), (1, .ref x1), (2, .int x2)]) C.1 C.2.1 dX7_readPass_45 rfl hl (by decide) rfl (fun ls hl => ?_)
  refine lv_iload_n C.1 C.2.1 dX7_readPass_46 rfl (lv_at hl 0 rfl) ?_
  refine lv_iconst (v := (-1 : Int32)) C.1 C.2.1 dX7_readPass_47 (by decide) ?_
  refine lv_icmp_ne (tgt := 53) C.1 C.2.1 dX7_readPass_48 (by decide) (fun c_2 => ?_) (fun c_2 => ?_)
  · have hE := br_n hE c_2
    refine lv_aload_n C.1 C.2.1 dX7_readPass_53 rfl (lv_at hl 2 rfl) ?_
    refine lv_iload_n C.1 C.2.1 dX7_readPass_54 rfl (lv_at hl 0 rfl) ?_
    obtain ⟨o_3, eo_3, hE⟩ := cl_e hE
    refine x_kV (o := o_3) (z_runV (As := [.int o_1.1]) (rest := []) C (ct_X3_addPass l X k_x1 eo_3) cw_X7_89 hW hZ k_x1 (by decide) rfl rfl rfl hl.1 (Nat.le_of_ble_eq_true rfl) rfl dX7_readPass_55 ⟨Nat.le_of_ble_eq_true rfl, Nat.le_of_ble_eq_true rfl⟩ ⟨Nat.le_refl _, Nat.le_refl _⟩) hZ (fun _ _ hW km hZ => ?_)
    replace hkm := hkm.tr km
    replace k_x0 := km.at k_x0 (by decide)
    replace k_x1 := km.at k_x1 (by decide)
    obtain ⟨v_4, ev_4, hE⟩ := nm_e2 hE
    refine lv_iinc (v := v_4) (lv' := [(2, .int v_4), (3, .int o_1.1), (0, .ref x0), (1, .ref x1)]) C.1 C.2.1 dX7_readPass_58 hl (k := 3) rfl (by rw [ev_4]; rfl) (by decide) rfl (fun ls hl => ?_)
    refine lv_goto (tgt := 13) C.1 C.2.1 dX7_readPass_61 (by decide) ?_
    exact hk_13 _ _ _ _ _ _ k_x0 k_x1 hkm hW hZ _ (lv_sub hl [2, 3, 0] rfl) hE
  · have hE := br_p hE c_2
    refine lv_iconst (v := (0 : Int32)) C.1 C.2.1 dX7_readPass_51 (by decide) ?_
    exact x_iret C rfl (by decide) hW hZ hkm hE dX7_readPass_52
set_option maxRecDepth 20000 in
theorem bX7_readPass_13 {p : Program} {l : Launch} {e : Env} {s : State} {m : MethodId} {args : Array Value} {below : List Frame} {meth : Method} {c : Code} {X : Ec} {h0 : Hp} {o : Int32 × Hp} {F : Nat} (C : Cx X p s m args meth c RX7 cX7_readPass 4 (some .boolean) "readPass") : ∀ (f : Nat) {h : Hp} {x0 : Nat} {x1 : Nat} {x2 : Int32} {H : Heap} {locs : List Loc} (k_x0 : hK h x0 = 7) (k_x1 : hK h x1 = 3), Km h0 h → Wx X h H → va_S (aA (eB X)) s.heap H locs → ∀ (ls : Array Slot), lv_has ls 4 [(0, .ref x0), (1, .ref x1), (2, .int x2)] → sX7_readPass_13 F f h x0 x1 x2 = some o → W p l e (rm 2 43) s m args below meth c H locs 0 0 (MQ below (QI X h0 o.1 o.2) args s 0 0 (aA (eB X))) (F0 m 13 ls []) := by
  intro f
  induction f with
  | zero =>
    intro h x0 x1 x2 H locs k_x0 k_x1 hkm hW hZ ls hl hE
    rw [sX7_readPass_13] at hE
    cases hE
  | succ f ih =>
    intro h x0 x1 x2 H locs k_x0 k_x1 hkm hW hZ ls hl hE
    rw [sX7_readPass_13] at hE
    have hk_13 : ∀ (h : Hp) (x0 : Nat) (x1 : Nat) (x2 : Int32) (H : Heap) (locs : List Loc), hK h x0 = 7 → hK h x1 = 3 → Km h0 h → Wx X h H → va_S (aA (eB X)) s.heap H locs → ∀ (ls : Array Slot), lv_has ls 4 [(0, .ref x0), (1, .ref x1), (2, .int x2)] → sX7_readPass_13 F f h x0 x1 x2 = some o → W p l e (rm 2 43) s m args below meth c H locs 0 0 (MQ below (QI X h0 o.1 o.2) args s 0 0 (aA (eB X))) (F0 m 13 ls []) := fun h x0 x1 x2 H locs k_x0 k_x1 a b c ls hl hE => ih k_x0 k_x1 a b c ls hl hE
    refine lv_iload_n C.1 C.2.1 dX7_readPass_13 rfl (lv_at hl 2 rfl) ?_
    refine lv_sipush (v := (1200 : Int32)) C.1 C.2.1 dX7_readPass_14 (by decide) ?_
    refine lv_icmp_ge (tgt := 64) C.1 C.2.1 dX7_readPass_17 (by decide) (fun c_1 => ?_) (fun c_1 => ?_)
    · have hE := br_p hE c_1
      exact bX7_readPass_64 C hkm hW hZ _ (lv_sub hl [] rfl) hE
    · have hE := br_n hE c_1
      refine lv_iload_n C.1 C.2.1 dX7_readPass_20 rfl (lv_at hl 2 rfl) ?_
      refine lv_iconst (v := (2 : Int32)) C.1 C.2.1 dX7_readPass_21 (by decide) ?_
      refine lv_icmp_lt (tgt := 41) C.1 C.2.1 dX7_readPass_22 (by decide) (fun c_2 => ?_) (fun c_2 => ?_)
      · have hE := br_p hE c_2
        exact bX7_readPass_41 C hk_13 k_x0 k_x1 hkm hW hZ _ (lv_sub hl [0, 1, 2] rfl) hE
      · have hE := br_n hE c_2
        refine lv_aload_n C.1 C.2.1 dX7_readPass_25 rfl (lv_at hl 0 rfl) ?_
        obtain ⟨r_3, er_3, hE⟩ := cl_e hE
        refine gf_X7_15 C hW k_x0 er_3 dX7_readPass_26 (fun k_r_3 => ?_)
        refine lv_aload_n C.1 C.2.1 dX7_readPass_29 rfl (lv_at hl 0 rfl) ?_
        refine gf_X7_19 C hW k_x0 dX7_readPass_30 ?_
        obtain ⟨o_4, eo_4, hE⟩ := cl_e hE
        refine x_kI (o := o_4) (z_runV (As := [.int (hI h x0 2)]) (rest := []) C (ct_X9_byteAt l X k_r_3 eo_4) cw_X7_54 hW hZ k_r_3 (by decide) rfl rfl rfl hl.1 (Nat.le_of_ble_eq_true rfl) rfl dX7_readPass_33 ⟨Nat.le_of_ble_eq_true rfl, Nat.le_of_ble_eq_true rfl⟩ ⟨Nat.le_refl _, Nat.le_refl _⟩) hZ (fun _ _ hW km hZ => ?_)
        replace hkm := hkm.tr km
        replace k_x0 := km.at k_x0 (by decide)
        replace k_x1 := km.at k_x1 (by decide)
        refine lv_bipush (v := (32 : Int32)) C.1 C.2.1 dX7_readPass_36 (by decide) ?_
        refine lv_icmp_eq (tgt := 64) C.1 C.2.1 dX7_readPass_38 (by decide) (fun c_5 => ?_) (fun c_5 => ?_)
        · have hE := br_p hE c_5
          exact bX7_readPass_64 C hkm hW hZ _ (lv_sub hl [] rfl) hE
        · have hE := br_n hE c_5
          exact bX7_readPass_41 C hk_13 k_x0 k_x1 hkm hW hZ _ (lv_sub hl [0, 1, 2] rfl) hE
set_option maxRecDepth 20000 in
theorem ct_X7_readPass (l : Launch) (X : Ec) (F : Nat) {h : Hp} {x0 : Nat} {x1 : Nat} {o : Int32 × Hp} (k_x0 : hK h x0 = 7) (k_x1 : hK h x1 = 3) (hE : sX7_readPass F h x0 x1 = some o) : MetI l yX7_readPass cX7_readPass 4 (some .boolean) 2 43 X [.ref x0, .ref x1] h o := by
  refine x_met (by decide) (Nat.le_of_ble_eq_true rfl) ?_
  intro p e s m below meth c ls C hl hW hZ
  have hl : lv_has ls 4 [(0, .ref x0), (1, .ref x1)] := hl
  have hkm : Km h h := Km.rf h
  refine lv_aload_n C.1 C.2.1 dX7_readPass_0 rfl (lv_at hl 0 rfl) ?_
  refine lv_bipush (v := (45 : Int32)) C.1 C.2.1 dX7_readPass_1 (by decide) ?_
  obtain ⟨o_1, eo_1, hE⟩ := cl_e hE
  refine x_kI (o := o_1) (z_runV (As := [.int (45 : Int32)]) (rest := []) C (ct_X7_takeByte l X k_x0 eo_1) cw_X7_32 hW hZ k_x0 (by decide) rfl rfl rfl hl.1 (Nat.le_of_ble_eq_true rfl) rfl dX7_readPass_3 ⟨Nat.le_of_ble_eq_true rfl, Nat.le_of_ble_eq_true rfl⟩ ⟨Nat.le_refl _, Nat.le_refl _⟩) hZ (fun _ _ hW km hZ => ?_)
  replace hkm := hkm.tr km
  replace k_x0 := km.at k_x0 (by decide)
  replace k_x1 := km.at k_x1 (by decide)
  refine lv_if_eq (tgt := 11) C.1 C.2.1 dX7_readPass_6 (by decide) (fun c_2 => ?_) (fun c_2 => ?_)
  · have hE := br_p hE c_2
    refine lv_iconst (v := (0 : Int32)) C.1 C.2.1 dX7_readPass_11 (by decide) ?_
    refine lv_istore_n (lv' := [(2, .int (0 : Int32)), (0, .ref x0), (1, .ref x1)]) C.1 C.2.1 dX7_readPass_12 rfl hl (by decide) rfl (fun ls hl => ?_)
    exact bX7_readPass_13 C F k_x0 k_x1 hkm hW hZ _ (lv_sub hl [1, 2, 0] rfl) hE
  · have hE := br_n hE c_2
    refine lv_iconst (v := (1 : Int32)) C.1 C.2.1 dX7_readPass_9 (by decide) ?_
    exact x_iret C rfl (by decide) hW hZ hkm hE dX7_readPass_10
theorem m_1018 : Cond.methodLink RX7 93 yX3_inHand ∈ W0 := w0_in (List.mem_append_right _ (List.mem_of_getElem? (i := 1018) (by decide +kernel))) rfl
theorem m_1022 : Cond.methodLink RX7 97 yX3_addToHand ∈ W0 := w0_in (List.mem_append_right _ (List.mem_of_getElem? (i := 1022) (by decide +kernel))) rfl
theorem m_1023 : Cond.instanceMethod yX3_addToHand ∈ W0 := w0_in (List.mem_append_right _ (List.mem_of_getElem? (i := 1023) (by decide +kernel))) rfl
theorem m_1024 : Cond.selects RX3 yX3_addToHand yX3_addToHand ∈ W0 := w0_in (List.mem_append_right _ (List.mem_of_getElem? (i := 1024) (by decide +kernel))) rfl
theorem m_1025 : Cond.code yX3_addToHand cX3_addToHand 4 none ∈ W0 := w0_in (List.mem_append_right _ (List.mem_of_getElem? (i := 1025) (by decide +kernel))) rfl
theorem cw_X7_93 : cwd RX7 93 yX3_inHand cX3_inHand 3 (some .int) false 2 := ⟨m_1021, m_1018, m_8, ⟨m_1019, m_1020⟩, by decide, by decide, by decide +kernel⟩
theorem cw_X7_97 : cwd RX7 97 yX3_addToHand cX3_addToHand 4 none false 3 := ⟨m_1025, m_1022, m_8, ⟨m_1023, m_1024⟩, by decide, by decide, by decide +kernel⟩
theorem dX7_readHands_0 : decode cX7_readHands 0 = .ok (.aload_n 0, 1) := by decide +kernel
theorem dX7_readHands_1 : decode cX7_readHands 1 = .ok (.bipush 45, 2) := by decide +kernel
theorem dX7_readHands_3 : decode cX7_readHands 3 = .ok (.invokevirtual 32, 3) := by decide +kernel
theorem dX7_readHands_6 : decode cX7_readHands 6 = .ok (.ifCond .eq 5, 3) := by decide +kernel
theorem dX7_readHands_9 : decode cX7_readHands 9 = .ok (.iconst 1, 1) := by decide +kernel
theorem dX7_readHands_10 : decode cX7_readHands 10 = .ok (.ireturn, 1) := by decide +kernel
theorem dX7_readHands_11 : decode cX7_readHands 11 = .ok (.iconst 0, 1) := by decide +kernel
theorem dX7_readHands_12 : decode cX7_readHands 12 = .ok (.istore_n 2, 1) := by decide +kernel
theorem dX7_readHands_13 : decode cX7_readHands 13 = .ok (.iload_n 2, 1) := by decide +kernel
theorem dX7_readHands_14 : decode cX7_readHands 14 = .ok (.bipush 32, 2) := by decide +kernel
theorem dX7_readHands_16 : decode cX7_readHands 16 = .ok (.if_icmp .ge 91, 3) := by decide +kernel
theorem dX7_readHands_19 : decode cX7_readHands 19 = .ok (.iload_n 2, 1) := by decide +kernel
theorem dX7_readHands_20 : decode cX7_readHands 20 = .ok (.ifCond .eq 19, 3) := by decide +kernel
theorem dX7_readHands_23 : decode cX7_readHands 23 = .ok (.aload_n 0, 1) := by decide +kernel
theorem dX7_readHands_24 : decode cX7_readHands 24 = .ok (.getfield 15, 3) := by decide +kernel
theorem dX7_readHands_27 : decode cX7_readHands 27 = .ok (.aload_n 0, 1) := by decide +kernel
theorem dX7_readHands_28 : decode cX7_readHands 28 = .ok (.getfield 19, 3) := by decide +kernel
theorem dX7_readHands_31 : decode cX7_readHands 31 = .ok (.invokevirtual 54, 3) := by decide +kernel
theorem dX7_readHands_34 : decode cX7_readHands 34 = .ok (.bipush 32, 2) := by decide +kernel
theorem dX7_readHands_36 : decode cX7_readHands 36 = .ok (.if_icmp .eq 71, 3) := by decide +kernel
theorem dX7_readHands_39 : decode cX7_readHands 39 = .ok (.aload_n 0, 1) := by decide +kernel
theorem dX7_readHands_40 : decode cX7_readHands 40 = .ok (.getfield 9, 3) := by decide +kernel
theorem dX7_readHands_43 : decode cX7_readHands 43 = .ok (.aload_n 0, 1) := by decide +kernel
theorem dX7_readHands_44 : decode cX7_readHands 44 = .ok (.getfield 15, 3) := by decide +kernel
theorem dX7_readHands_47 : decode cX7_readHands 47 = .ok (.aload_n 0, 1) := by decide +kernel
theorem dX7_readHands_48 : decode cX7_readHands 48 = .ok (.getfield 19, 3) := by decide +kernel
theorem dX7_readHands_51 : decode cX7_readHands 51 = .ok (.invokevirtual 54, 3) := by decide +kernel
theorem dX7_readHands_54 : decode cX7_readHands 54 = .ok (.invokevirtual 68, 3) := by decide +kernel
theorem dX7_readHands_57 : decode cX7_readHands 57 = .ok (.istore_n 3, 1) := by decide +kernel
theorem dX7_readHands_58 : decode cX7_readHands 58 = .ok (.iload_n 3, 1) := by decide +kernel
theorem dX7_readHands_59 : decode cX7_readHands 59 = .ok (.iconst (-1), 1) := by decide +kernel
theorem dX7_readHands_60 : decode cX7_readHands 60 = .ok (.if_icmp .eq 18, 3) := by decide +kernel
theorem dX7_readHands_63 : decode cX7_readHands 63 = .ok (.aload_n 1, 1) := by decide +kernel
theorem dX7_readHands_64 : decode cX7_readHands 64 = .ok (.iload_n 3, 1) := by decide +kernel
theorem dX7_readHands_65 : decode cX7_readHands 65 = .ok (.iconst 1, 1) := by decide +kernel
theorem dX7_readHands_66 : decode cX7_readHands 66 = .ok (.iand, 1) := by decide +kernel
theorem dX7_readHands_67 : decode cX7_readHands 67 = .ok (.iload_n 3, 1) := by decide +kernel
theorem dX7_readHands_68 : decode cX7_readHands 68 = .ok (.iconst 1, 1) := by decide +kernel
theorem dX7_readHands_69 : decode cX7_readHands 69 = .ok (.ishr, 1) := by decide +kernel
theorem dX7_readHands_70 : decode cX7_readHands 70 = .ok (.invokevirtual 93, 3) := by decide +kernel
theorem dX7_readHands_73 : decode cX7_readHands 73 = .ok (.bipush 16, 2) := by decide +kernel
theorem dX7_readHands_75 : decode cX7_readHands 75 = .ok (.if_icmp .lt 5, 3) := by decide +kernel
theorem dX7_readHands_78 : decode cX7_readHands 78 = .ok (.iconst 0, 1) := by decide +kernel
theorem dX7_readHands_79 : decode cX7_readHands 79 = .ok (.ireturn, 1) := by decide +kernel
theorem dX7_readHands_80 : decode cX7_readHands 80 = .ok (.aload_n 1, 1) := by decide +kernel
theorem dX7_readHands_81 : decode cX7_readHands 81 = .ok (.iload_n 3, 1) := by decide +kernel
theorem dX7_readHands_82 : decode cX7_readHands 82 = .ok (.iconst 1, 1) := by decide +kernel
theorem dX7_readHands_83 : decode cX7_readHands 83 = .ok (.iand, 1) := by decide +kernel
theorem dX7_readHands_84 : decode cX7_readHands 84 = .ok (.iload_n 3, 1) := by decide +kernel
theorem dX7_readHands_85 : decode cX7_readHands 85 = .ok (.iconst 1, 1) := by decide +kernel
theorem dX7_readHands_86 : decode cX7_readHands 86 = .ok (.ishr, 1) := by decide +kernel
theorem dX7_readHands_87 : decode cX7_readHands 87 = .ok (.iconst 1, 1) := by decide +kernel
theorem dX7_readHands_88 : decode cX7_readHands 88 = .ok (.invokevirtual 97, 3) := by decide +kernel
theorem dX7_readHands_91 : decode cX7_readHands 91 = .ok (.aload_n 0, 1) := by decide +kernel
theorem dX7_readHands_92 : decode cX7_readHands 92 = .ok (.dup, 1) := by decide +kernel
theorem dX7_readHands_93 : decode cX7_readHands 93 = .ok (.getfield 19, 3) := by decide +kernel
theorem dX7_readHands_96 : decode cX7_readHands 96 = .ok (.iconst 1, 1) := by decide +kernel
theorem dX7_readHands_97 : decode cX7_readHands 97 = .ok (.iadd, 1) := by decide +kernel
theorem dX7_readHands_98 : decode cX7_readHands 98 = .ok (.putfield 19, 3) := by decide +kernel
theorem dX7_readHands_101 : decode cX7_readHands 101 = .ok (.iinc 2 1, 3) := by decide +kernel
theorem dX7_readHands_104 : decode cX7_readHands 104 = .ok (.goto (-91), 3) := by decide +kernel
theorem dX7_readHands_107 : decode cX7_readHands 107 = .ok (.iconst 1, 1) := by decide +kernel
theorem dX7_readHands_108 : decode cX7_readHands 108 = .ok (.ireturn, 1) := by decide +kernel
def sX7_readHands_107 (F : Nat) (h : Hp) : Option (Int32 × Hp) := some ((1 : Int32), h)
def sX7_readHands_78 (F : Nat) (h : Hp) : Option (Int32 × Hp) := some ((0 : Int32), h)
def sX7_readHands_39 (F : Nat) (k_13 : Hp → Nat → Nat → Int32 → Option (Int32 × Hp)) (h : Hp) (x0 : Nat) (x1 : Nat) (x2 : Int32) : Option (Int32 × Hp) := cl (hR h x0 0) fun r_1 => cl (hR h x0 1) fun r_2 => cl (sX9_byteAt h r_2 (hI h x0 2)) fun o_3 => cl (sX1_codeOf F o_3.2 r_1 o_3.1) fun o_4 => br (o_4.1 = (-1 : Int32)) (sX7_readHands_78 F o_4.2 ) (cl (sX3_inHand o_4.2 x1 (o_4.1 &&& (1 : Int32)) (o_4.1 >>> ((1 : Int32) &&& 31))) fun o_6 => br (o_6.1 < (16 : Int32)) (cl (sX3_addToHand o_6.2 x1 (o_4.1 &&& (1 : Int32)) (o_4.1 >>> ((1 : Int32) &&& 31)) (1 : Int32)) fun o_8 => nm (wI o_8 x0 2 ((hI o_8 x0 2) + (1 : Int32))) fun h_9 => nm (x2 + (1 : Int32)) fun v_10 => k_13 h_9 x0 x1 v_10) (sX7_readHands_78 F o_6.2 ))
def sX7_readHands_13 (F : Nat) : Nat → Hp → Nat → Nat → Int32 → Option (Int32 × Hp)
  | 0, _, _, _, _ => none
  | f + 1, h, x0, x1, x2 => br ((32 : Int32) ≤ x2) (sX7_readHands_107 F h ) (br (x2 = 0) (sX7_readHands_39 F (sX7_readHands_13 F f) h x0 x1 x2) (cl (hR h x0 1) fun r_3 => cl (sX9_byteAt h r_3 (hI h x0 2)) fun o_4 => br (o_4.1 = (32 : Int32)) (sX7_readHands_107 F o_4.2 ) (sX7_readHands_39 F (sX7_readHands_13 F f) o_4.2 x0 x1 x2)))
def sX7_readHands (F : Nat) (h : Hp) (x0 : Nat) (x1 : Nat) : Option (Int32 × Hp) := cl (sX7_takeByte h x0 (45 : Int32)) fun o_1 => br (o_1.1 = 0) (sX7_readHands_13 F F o_1.2 x0 x1 (0 : Int32)) (some ((1 : Int32), o_1.2))
set_option maxRecDepth 20000 in
theorem bX7_readHands_107 {p : Program} {l : Launch} {e : Env} {s : State} {m : MethodId} {args : Array Value} {below : List Frame} {meth : Method} {c : Code} {X : Ec} {h0 : Hp} {o : Int32 × Hp} {F : Nat} (C : Cx X p s m args meth c RX7 cX7_readHands 4 (some .boolean) "readHands") {h : Hp} {H : Heap} {locs : List Loc} (hkm : Km h0 h) (hW : Wx X h H) (hZ : va_S (aA (eB X)) s.heap H locs) (ls : Array Slot) (hl : lv_has ls 4 []) (hE : sX7_readHands_107 F h  = some o) : W p l e (rm 2 45) s m args below meth c H locs 0 0 (MQ below (QI X h0 o.1 o.2) args s 0 0 (aA (eB X))) (F0 m 107 ls []) := by
  refine lv_iconst (v := (1 : Int32)) C.1 C.2.1 dX7_readHands_107 (by decide) ?_
  exact x_iret C rfl (by decide) hW hZ hkm hE dX7_readHands_108
set_option maxRecDepth 20000 in
theorem bX7_readHands_78 {p : Program} {l : Launch} {e : Env} {s : State} {m : MethodId} {args : Array Value} {below : List Frame} {meth : Method} {c : Code} {X : Ec} {h0 : Hp} {o : Int32 × Hp} {F : Nat} (C : Cx X p s m args meth c RX7 cX7_readHands 4 (some .boolean) "readHands") {h : Hp} {H : Heap} {locs : List Loc} (hkm : Km h0 h) (hW : Wx X h H) (hZ : va_S (aA (eB X)) s.heap H locs) (ls : Array Slot) (hl : lv_has ls 4 []) (hE : sX7_readHands_78 F h  = some o) : W p l e (rm 2 45) s m args below meth c H locs 0 0 (MQ below (QI X h0 o.1 o.2) args s 0 0 (aA (eB X))) (F0 m 78 ls []) := by
  refine lv_iconst (v := (0 : Int32)) C.1 C.2.1 dX7_readHands_78 (by decide) ?_
  exact x_iret C rfl (by decide) hW hZ hkm hE dX7_readHands_79
set_option maxRecDepth 20000 in
theorem bX7_readHands_39 {p : Program} {l : Launch} {e : Env} {s : State} {m : MethodId} {args : Array Value} {below : List Frame} {meth : Method} {c : Code} {X : Ec} {h0 : Hp} {o : Int32 × Hp} {k_13 : Hp → Nat → Nat → Int32 → Option (Int32 × Hp)} {F : Nat} (C : Cx X p s m args meth c RX7 cX7_readHands 4 (some .boolean) "readHands") (hk_13 : ∀ (h : Hp) (x0 : Nat) (x1 : Nat) (x2 : Int32) (H : Heap) (locs : List Loc), hK h x0 = 7 → hK h x1 = 3 → Km h0 h → Wx X h H → va_S (aA (eB X)) s.heap H locs → ∀ (ls : Array Slot), lv_has ls 4 [(0, .ref x0), (1, .ref x1), (2, .int x2)] → k_13 h x0 x1 x2 = some o → W p l e (rm 2 45) s m args below meth c H locs 0 0 (MQ below (QI X h0 o.1 o.2) args s 0 0 (aA (eB X))) (F0 m 13 ls [])) {h : Hp} {x0 : Nat} {x1 : Nat} {x2 : Int32} {H : Heap} {locs : List Loc} (k_x0 : hK h x0 = 7) (k_x1 : hK h x1 = 3) (hkm : Km h0 h) (hW : Wx X h H) (hZ : va_S (aA (eB X)) s.heap H locs) (ls : Array Slot) (hl : lv_has ls 4 [(0, .ref x0), (1, .ref x1), (2, .int x2)]) (hE : sX7_readHands_39 F k_13 h x0 x1 x2 = some o) : W p l e (rm 2 45) s m args below meth c H locs 0 0 (MQ below (QI X h0 o.1 o.2) args s 0 0 (aA (eB X))) (F0 m 39 ls []) := by
  refine lv_aload_n C.1 C.2.1 dX7_readHands_39 rfl (lv_at hl 0 rfl) ?_
  obtain ⟨r_1, er_1, hE⟩ := cl_e hE
  refine gf_X7_9 C hW k_x0 er_1 dX7_readHands_40 (fun k_r_1 => ?_)
  refine lv_aload_n C.1 C.2.1 dX7_readHands_43 rfl (lv_at hl 0 rfl) ?_
  obtain ⟨r_2, er_2, hE⟩ := cl_e hE
  refine gf_X7_15 C hW k_x0 er_2 dX7_readHands_44 (fun k_r_2 => ?_)
  refine lv_aload_n C.1 C.2.1 dX7_readHands_47 rfl (lv_at hl 0 rfl) ?_
  refine gf_X7_19 C hW k_x0 dX7_readHands_48 ?_
  obtain ⟨o_3, eo_3, hE⟩ := cl_e hE
  refine x_kI (o := o_3) (z_runV (As := [.int (hI h x0 2)]) (rest := [.ref r_1]) C (ct_X9_byteAt l X k_r_2 eo_3) cw_X7_54 hW hZ k_r_2 (by decide) rfl rfl rfl hl.1 (Nat.le_of_ble_eq_true rfl) rfl dX7_readHands_51 ⟨Nat.le_of_ble_eq_true rfl, Nat.le_of_ble_eq_true rfl⟩ ⟨Nat.le_refl _, Nat.le_refl _⟩) hZ (fun _ _ hW km hZ => ?_)
  replace hkm := hkm.tr km
  replace k_x0 := km.at k_x0 (by decide)
  replace k_x1 := km.at k_x1 (by decide)
  replace k_r_1 := km.at k_r_1 (by decide)
  obtain ⟨o_4, eo_4, hE⟩ := cl_e hE
  refine x_kI (o := o_4) (z_runV (As := [.int o_3.1]) (rest := []) C (ct_X1_codeOf l X F k_r_1 eo_4) cw_X7_68 hW hZ k_r_1 (by decide) rfl rfl rfl hl.1 (Nat.le_of_ble_eq_true rfl) rfl dX7_readHands_54 ⟨Nat.le_of_ble_eq_true rfl, Nat.le_of_ble_eq_true rfl⟩ ⟨Nat.le_refl _, Nat.le_refl _⟩) hZ (fun _ _ hW km hZ => ?_)
  replace hkm := hkm.tr km
  replace k_x0 := km.at k_x0 (by decide)
  replace k_x1 := km.at k_x1 (by decide)
  refine lv_istore_n (lv' := [(3, .int o_4.1), (0, .ref x0), (1, .ref x1), (2, .int x2)]) C.1 C.2.1 dX7_readHands_57 rfl hl (by decide) rfl (fun ls hl => ?_)
  refine lv_iload_n C.1 C.2.1 dX7_readHands_58 rfl (lv_at hl 0 rfl) ?_
  refine lv_iconst (v := (-1 : Int32)) C.1 C.2.1 dX7_readHands_59 (by decide) ?_
  refine lv_icmp_eq (tgt := 78) C.1 C.2.1 dX7_readHands_60 (by decide) (fun c_5 => ?_) (fun c_5 => ?_)
  · have hE := br_p hE c_5
    exact bX7_readHands_78 C hkm hW hZ _ (lv_sub hl [] rfl) hE
  · have hE := br_n hE c_5
    refine lv_aload_n C.1 C.2.1 dX7_readHands_63 rfl (lv_at hl 2 rfl) ?_
    refine lv_iload_n C.1 C.2.1 dX7_readHands_64 rfl (lv_at hl 0 rfl) ?_
    refine lv_iconst (v := (1 : Int32)) C.1 C.2.1 dX7_readHands_65 (by decide) ?_
    refine lv_iand C.1 C.2.1 dX7_readHands_66 ?_
    refine lv_iload_n C.1 C.2.1 dX7_readHands_67 rfl (lv_at hl 0 rfl) ?_
    refine lv_iconst (v := (1 : Int32)) C.1 C.2.1 dX7_readHands_68 (by decide) ?_
    refine lv_ishr C.1 C.2.1 dX7_readHands_69 ?_
    obtain ⟨o_6, eo_6, hE⟩ := cl_e hE
    refine x_kI (o := o_6) (z_runV (As := [.int (o_4.1 &&& (1 : Int32)), .int (o_4.1 >>> ((1 : Int32) &&& 31))]) (rest := []) C (ct_X3_inHand l X k_x1 eo_6) cw_X7_93 hW hZ k_x1 (by decide) rfl rfl rfl hl.1 (Nat.le_of_ble_eq_true rfl) rfl dX7_readHands_70 ⟨Nat.le_of_ble_eq_true rfl, Nat.le_of_ble_eq_true rfl⟩ ⟨Nat.le_refl _, Nat.le_refl _⟩) hZ (fun _ _ hW km hZ => ?_)
    replace hkm := hkm.tr km
    replace k_x0 := km.at k_x0 (by decide)
    replace k_x1 := km.at k_x1 (by decide)
    refine lv_bipush (v := (16 : Int32)) C.1 C.2.1 dX7_readHands_73 (by decide) ?_
    refine lv_icmp_lt (tgt := 80) C.1 C.2.1 dX7_readHands_75 (by decide) (fun c_7 => ?_) (fun c_7 => ?_)
    · have hE := br_p hE c_7
      refine lv_aload_n C.1 C.2.1 dX7_readHands_80 rfl (lv_at hl 2 rfl) ?_
      refine lv_iload_n C.1 C.2.1 dX7_readHands_81 rfl (lv_at hl 0 rfl) ?_
      refine lv_iconst (v := (1 : Int32)) C.1 C.2.1 dX7_readHands_82 (by decide) ?_
      refine lv_iand C.1 C.2.1 dX7_readHands_83 ?_
      refine lv_iload_n C.1 C.2.1 dX7_readHands_84 rfl (lv_at hl 0 rfl) ?_
      refine lv_iconst (v := (1 : Int32)) C.1 C.2.1 dX7_readHands_85 (by decide) ?_
      refine lv_ishr C.1 C.2.1 dX7_readHands_86 ?_
      refine lv_iconst (v := (1 : Int32)) C.1 C.2.1 dX7_readHands_87 (by decide) ?_
      obtain ⟨o_8, eo_8, hE⟩ := cl_e hE
      refine x_kV (o := o_8) (z_runV (As := [.int (o_4.1 &&& (1 : Int32)), .int (o_4.1 >>> ((1 : Int32) &&& 31)), .int (1 : Int32)]) (rest := []) C (ct_X3_addToHand l X k_x1 eo_8) cw_X7_97 hW hZ k_x1 (by decide) rfl rfl rfl hl.1 (Nat.le_of_ble_eq_true rfl) rfl dX7_readHands_88 ⟨Nat.le_of_ble_eq_true rfl, Nat.le_of_ble_eq_true rfl⟩ ⟨Nat.le_refl _, Nat.le_refl _⟩) hZ (fun _ _ hW km hZ => ?_)
      replace hkm := hkm.tr km
      replace k_x0 := km.at k_x0 (by decide)
      replace k_x1 := km.at k_x1 (by decide)
      refine lv_aload_n C.1 C.2.1 dX7_readHands_91 rfl (lv_at hl 1 rfl) ?_
      refine lv_dup C.1 C.2.1 dX7_readHands_92 rfl ?_
      refine gf_X7_19 C hW k_x0 dX7_readHands_93 ?_
      refine lv_iconst (v := (1 : Int32)) C.1 C.2.1 dX7_readHands_96 (by decide) ?_
      refine lv_iadd C.1 C.2.1 dX7_readHands_97 ?_
      obtain ⟨h_9, eh_9, hE⟩ := nm_e2 hE
      refine pf_X7_19 C hW hZ k_x0 eh_9 dX7_readHands_98 (fun _ _ hW km hZ => ?_)
      replace hkm := hkm.tr km
      replace k_x0 := km.at k_x0 (by decide)
      replace k_x1 := km.at k_x1 (by decide)
      obtain ⟨v_10, ev_10, hE⟩ := nm_e2 hE
      refine lv_iinc (v := v_10) (lv' := [(2, .int v_10), (3, .int o_4.1), (0, .ref x0), (1, .ref x1)]) C.1 C.2.1 dX7_readHands_101 hl (k := 3) rfl (by rw [ev_10]; rfl) (by decide) rfl (fun ls hl => ?_)
      refine lv_goto (tgt := 13) C.1 C.2.1 dX7_readHands_104 (by decide) ?_
      exact hk_13 _ _ _ _ _ _ k_x0 k_x1 hkm hW hZ _ (lv_sub hl [2, 3, 0] rfl) hE
    · have hE := br_n hE c_7
      exact bX7_readHands_78 C hkm hW hZ _ (lv_sub hl [] rfl) hE
set_option maxRecDepth 20000 in
theorem bX7_readHands_13 {p : Program} {l : Launch} {e : Env} {s : State} {m : MethodId} {args : Array Value} {below : List Frame} {meth : Method} {c : Code} {X : Ec} {h0 : Hp} {o : Int32 × Hp} {F : Nat} (C : Cx X p s m args meth c RX7 cX7_readHands 4 (some .boolean) "readHands") : ∀ (f : Nat) {h : Hp} {x0 : Nat} {x1 : Nat} {x2 : Int32} {H : Heap} {locs : List Loc} (k_x0 : hK h x0 = 7) (k_x1 : hK h x1 = 3), Km h0 h → Wx X h H → va_S (aA (eB X)) s.heap H locs → ∀ (ls : Array Slot), lv_has ls 4 [(0, .ref x0), (1, .ref x1), (2, .int x2)] → sX7_readHands_13 F f h x0 x1 x2 = some o → W p l e (rm 2 45) s m args below meth c H locs 0 0 (MQ below (QI X h0 o.1 o.2) args s 0 0 (aA (eB X))) (F0 m 13 ls []) := by
  intro f
  induction f with
  | zero =>
    intro h x0 x1 x2 H locs k_x0 k_x1 hkm hW hZ ls hl hE
    rw [sX7_readHands_13] at hE
    cases hE
  | succ f ih =>
    intro h x0 x1 x2 H locs k_x0 k_x1 hkm hW hZ ls hl hE
    rw [sX7_readHands_13] at hE
    have hk_13 : ∀ (h : Hp) (x0 : Nat) (x1 : Nat) (x2 : Int32) (H : Heap) (locs : List Loc), hK h x0 = 7 → hK h x1 = 3 → Km h0 h → Wx X h H → va_S (aA (eB X)) s.heap H locs → ∀ (ls : Array Slot), lv_has ls 4 [(0, .ref x0), (1, .ref x1), (2, .int x2)] → sX7_readHands_13 F f h x0 x1 x2 = some o → W p l e (rm 2 45) s m args below meth c H locs 0 0 (MQ below (QI X h0 o.1 o.2) args s 0 0 (aA (eB X))) (F0 m 13 ls []) := fun h x0 x1 x2 H locs k_x0 k_x1 a b c ls hl hE => ih k_x0 k_x1 a b c ls hl hE
    refine lv_iload_n C.1 C.2.1 dX7_readHands_13 rfl (lv_at hl 2 rfl) ?_
    refine lv_bipush (v := (32 : Int32)) C.1 C.2.1 dX7_readHands_14 (by decide) ?_
    refine lv_icmp_ge (tgt := 107) C.1 C.2.1 dX7_readHands_16 (by decide) (fun c_1 => ?_) (fun c_1 => ?_)
    · have hE := br_p hE c_1
      exact bX7_readHands_107 C hkm hW hZ _ (lv_sub hl [] rfl) hE
    · have hE := br_n hE c_1
      refine lv_iload_n C.1 C.2.1 dX7_readHands_19 rfl (lv_at hl 2 rfl) ?_
      refine lv_if_eq (tgt := 39) C.1 C.2.1 dX7_readHands_20 (by decide) (fun c_2 => ?_) (fun c_2 => ?_)
      · have hE := br_p hE c_2
        exact bX7_readHands_39 C hk_13 k_x0 k_x1 hkm hW hZ _ (lv_sub hl [0, 1, 2] rfl) hE
      · have hE := br_n hE c_2
        refine lv_aload_n C.1 C.2.1 dX7_readHands_23 rfl (lv_at hl 0 rfl) ?_
        obtain ⟨r_3, er_3, hE⟩ := cl_e hE
        refine gf_X7_15 C hW k_x0 er_3 dX7_readHands_24 (fun k_r_3 => ?_)
        refine lv_aload_n C.1 C.2.1 dX7_readHands_27 rfl (lv_at hl 0 rfl) ?_
        refine gf_X7_19 C hW k_x0 dX7_readHands_28 ?_
        obtain ⟨o_4, eo_4, hE⟩ := cl_e hE
        refine x_kI (o := o_4) (z_runV (As := [.int (hI h x0 2)]) (rest := []) C (ct_X9_byteAt l X k_r_3 eo_4) cw_X7_54 hW hZ k_r_3 (by decide) rfl rfl rfl hl.1 (Nat.le_of_ble_eq_true rfl) rfl dX7_readHands_31 ⟨Nat.le_of_ble_eq_true rfl, Nat.le_of_ble_eq_true rfl⟩ ⟨Nat.le_refl _, Nat.le_refl _⟩) hZ (fun _ _ hW km hZ => ?_)
        replace hkm := hkm.tr km
        replace k_x0 := km.at k_x0 (by decide)
        replace k_x1 := km.at k_x1 (by decide)
        refine lv_bipush (v := (32 : Int32)) C.1 C.2.1 dX7_readHands_34 (by decide) ?_
        refine lv_icmp_eq (tgt := 107) C.1 C.2.1 dX7_readHands_36 (by decide) (fun c_5 => ?_) (fun c_5 => ?_)
        · have hE := br_p hE c_5
          exact bX7_readHands_107 C hkm hW hZ _ (lv_sub hl [] rfl) hE
        · have hE := br_n hE c_5
          exact bX7_readHands_39 C hk_13 k_x0 k_x1 hkm hW hZ _ (lv_sub hl [0, 1, 2] rfl) hE
set_option maxRecDepth 20000 in
theorem ct_X7_readHands (l : Launch) (X : Ec) (F : Nat) {h : Hp} {x0 : Nat} {x1 : Nat} {o : Int32 × Hp} (k_x0 : hK h x0 = 7) (k_x1 : hK h x1 = 3) (hE : sX7_readHands F h x0 x1 = some o) : MetI l yX7_readHands cX7_readHands 4 (some .boolean) 2 45 X [.ref x0, .ref x1] h o := by
  refine x_met (by decide) (Nat.le_of_ble_eq_true rfl) ?_
  intro p e s m below meth c ls C hl hW hZ
  have hl : lv_has ls 4 [(0, .ref x0), (1, .ref x1)] := hl
  have hkm : Km h h := Km.rf h
  refine lv_aload_n C.1 C.2.1 dX7_readHands_0 rfl (lv_at hl 0 rfl) ?_
  refine lv_bipush (v := (45 : Int32)) C.1 C.2.1 dX7_readHands_1 (by decide) ?_
  obtain ⟨o_1, eo_1, hE⟩ := cl_e hE
  refine x_kI (o := o_1) (z_runV (As := [.int (45 : Int32)]) (rest := []) C (ct_X7_takeByte l X k_x0 eo_1) cw_X7_32 hW hZ k_x0 (by decide) rfl rfl rfl hl.1 (Nat.le_of_ble_eq_true rfl) rfl dX7_readHands_3 ⟨Nat.le_of_ble_eq_true rfl, Nat.le_of_ble_eq_true rfl⟩ ⟨Nat.le_refl _, Nat.le_refl _⟩) hZ (fun _ _ hW km hZ => ?_)
  replace hkm := hkm.tr km
  replace k_x0 := km.at k_x0 (by decide)
  replace k_x1 := km.at k_x1 (by decide)
  refine lv_if_eq (tgt := 11) C.1 C.2.1 dX7_readHands_6 (by decide) (fun c_2 => ?_) (fun c_2 => ?_)
  · have hE := br_p hE c_2
    refine lv_iconst (v := (0 : Int32)) C.1 C.2.1 dX7_readHands_11 (by decide) ?_
    refine lv_istore_n (lv' := [(2, .int (0 : Int32)), (0, .ref x0), (1, .ref x1)]) C.1 C.2.1 dX7_readHands_12 rfl hl (by decide) rfl (fun ls hl => ?_)
    exact bX7_readHands_13 C F k_x0 k_x1 hkm hW hZ _ (lv_sub hl [1, 2, 0] rfl) hE
  · have hE := br_n hE c_2
    refine lv_iconst (v := (1 : Int32)) C.1 C.2.1 dX7_readHands_9 (by decide) ?_
    exact x_iret C rfl (by decide) hW hZ hkm hE dX7_readHands_10
theorem m_292 : Cond.fieldLink RX7 105 (TX3 4).1 (TX3 4).2.1 (TX3 4).2.2.1 ∈ W0 := w0_in (List.mem_append_right _ (List.mem_of_getElem? (i := 292) (by decide +kernel))) rfl
theorem n_1030 : Cond.methodLinkNest RX7 100 yX2_isDigit "GameRules" ∈ tables_1 := List.mem_of_getElem? (i := 1030) (by decide +kernel)
section
variable {p : Program} {l : Launch} {e : Env} {R : Room} {s : State} {m : MethodId} {args : Array Value} {below : List Frame} {meth : Method} {c : Code} {H : Heap} {locs : List Loc} {cells slots : Nat} {Q : State → Prop}
variable {cc : ByteArray} {pc : Nat} {ls : Array Slot} {rest : List Value} {X : Ec} {h h1 : Hp} {nL : Nat} {rt : Option FieldType} {mn : String}
theorem gf_X7_105 {a r : Nat} (C : Cx X p s m args meth c RX7 cc nL rt mn) (hW : Wx X h H) (ha : hK h a = 3) (hr : hR h a 4 = some r) (hdg : decode cc pc = .ok (.getfield 105, 3)) (kk : hK h r = 17 → W p l e R s m args below meth c H locs cells slots Q (F0 m (pc + 3) ls (.ref r :: rest))) : W p l e R s m args below meth c H locs cells slots Q (F0 m pc ls (.ref a :: rest)) :=
  y_getr C hW ha i_X3 (by decide) rfl (by decide) m_292 rfl rfl hr hdg kk
end
theorem cn_X7_100 : cwn RX7 100 "GameRules" yX2_isDigit cX2_isDigit 1 (some .boolean) true 1 := ⟨m_665, n_1030, m_5, m_664, by decide, by decide, by decide +kernel⟩
theorem dX7_readChecks_0 : decode cX7_readChecks 0 = .ok (.iconst 0, 1) := by decide +kernel
theorem dX7_readChecks_1 : decode cX7_readChecks 1 = .ok (.istore_n 2, 1) := by decide +kernel
theorem dX7_readChecks_2 : decode cX7_readChecks 2 = .ok (.iload_n 2, 1) := by decide +kernel
theorem dX7_readChecks_3 : decode cX7_readChecks 3 = .ok (.iconst 2, 1) := by decide +kernel
theorem dX7_readChecks_4 : decode cX7_readChecks 4 = .ok (.if_icmp .ge 58, 3) := by decide +kernel
theorem dX7_readChecks_7 : decode cX7_readChecks 7 = .ok (.aload_n 0, 1) := by decide +kernel
theorem dX7_readChecks_8 : decode cX7_readChecks 8 = .ok (.getfield 15, 3) := by decide +kernel
theorem dX7_readChecks_11 : decode cX7_readChecks 11 = .ok (.aload_n 0, 1) := by decide +kernel
theorem dX7_readChecks_12 : decode cX7_readChecks 12 = .ok (.getfield 19, 3) := by decide +kernel
theorem dX7_readChecks_15 : decode cX7_readChecks 15 = .ok (.invokevirtual 54, 3) := by decide +kernel
theorem dX7_readChecks_18 : decode cX7_readChecks 18 = .ok (.invokestatic 100, 3) := by decide +kernel
theorem dX7_readChecks_21 : decode cX7_readChecks 21 = .ok (.ifCond .ne 5, 3) := by decide +kernel
theorem dX7_readChecks_24 : decode cX7_readChecks 24 = .ok (.iconst 0, 1) := by decide +kernel
theorem dX7_readChecks_25 : decode cX7_readChecks 25 = .ok (.ireturn, 1) := by decide +kernel
theorem dX7_readChecks_26 : decode cX7_readChecks 26 = .ok (.aload_n 1, 1) := by decide +kernel
theorem dX7_readChecks_27 : decode cX7_readChecks 27 = .ok (.getfield 105, 3) := by decide +kernel
theorem dX7_readChecks_30 : decode cX7_readChecks 30 = .ok (.iload_n 2, 1) := by decide +kernel
theorem dX7_readChecks_31 : decode cX7_readChecks 31 = .ok (.aload_n 0, 1) := by decide +kernel
theorem dX7_readChecks_32 : decode cX7_readChecks 32 = .ok (.getfield 15, 3) := by decide +kernel
theorem dX7_readChecks_35 : decode cX7_readChecks 35 = .ok (.aload_n 0, 1) := by decide +kernel
theorem dX7_readChecks_36 : decode cX7_readChecks 36 = .ok (.getfield 19, 3) := by decide +kernel
theorem dX7_readChecks_39 : decode cX7_readChecks 39 = .ok (.invokevirtual 54, 3) := by decide +kernel
theorem dX7_readChecks_42 : decode cX7_readChecks 42 = .ok (.bipush 48, 2) := by decide +kernel
theorem dX7_readChecks_44 : decode cX7_readChecks 44 = .ok (.isub, 1) := by decide +kernel
theorem dX7_readChecks_45 : decode cX7_readChecks 45 = .ok (.iastore, 1) := by decide +kernel
theorem dX7_readChecks_46 : decode cX7_readChecks 46 = .ok (.aload_n 0, 1) := by decide +kernel
theorem dX7_readChecks_47 : decode cX7_readChecks 47 = .ok (.dup, 1) := by decide +kernel
theorem dX7_readChecks_48 : decode cX7_readChecks 48 = .ok (.getfield 19, 3) := by decide +kernel
theorem dX7_readChecks_51 : decode cX7_readChecks 51 = .ok (.iconst 1, 1) := by decide +kernel
theorem dX7_readChecks_52 : decode cX7_readChecks 52 = .ok (.iadd, 1) := by decide +kernel
theorem dX7_readChecks_53 : decode cX7_readChecks 53 = .ok (.putfield 19, 3) := by decide +kernel
theorem dX7_readChecks_56 : decode cX7_readChecks 56 = .ok (.iinc 2 1, 3) := by decide +kernel
theorem dX7_readChecks_59 : decode cX7_readChecks 59 = .ok (.goto (-57), 3) := by decide +kernel
theorem dX7_readChecks_62 : decode cX7_readChecks 62 = .ok (.iconst 1, 1) := by decide +kernel
theorem dX7_readChecks_63 : decode cX7_readChecks 63 = .ok (.ireturn, 1) := by decide +kernel
def sX7_readChecks_2 (F : Nat) : Nat → Hp → Nat → Nat → Int32 → Option (Int32 × Hp)
  | 0, _, _, _, _ => none
  | f + 1, h, x0, x1, x2 => br ((2 : Int32) ≤ x2) (some ((1 : Int32), h)) (cl (hR h x0 1) fun r_2 => cl (sX9_byteAt h r_2 (hI h x0 2)) fun o_3 => cl (sX2_isDigit o_3.2 o_3.1) fun o_4 => br (o_4.1 = 0) (some ((0 : Int32), o_4.2)) (cl (hR o_4.2 x1 4) fun r_6 => cl (hR o_4.2 x0 1) fun r_7 => cl (sX9_byteAt o_4.2 r_7 (hI o_4.2 x0 2)) fun o_8 => gd (inB x2 (hN o_8.2 r_6)) <| nm (wI o_8.2 r_6 x2.toNatClampNeg (o_8.1 - (48 : Int32))) fun h_10 => nm (wI h_10 x0 2 ((hI h_10 x0 2) + (1 : Int32))) fun h_11 => nm (x2 + (1 : Int32)) fun v_12 => sX7_readChecks_2 F f h_11 x0 x1 v_12))
def sX7_readChecks (F : Nat) (h : Hp) (x0 : Nat) (x1 : Nat) : Option (Int32 × Hp) := sX7_readChecks_2 F F h x0 x1 (0 : Int32)
set_option maxRecDepth 20000 in
theorem bX7_readChecks_2 {p : Program} {l : Launch} {e : Env} {s : State} {m : MethodId} {args : Array Value} {below : List Frame} {meth : Method} {c : Code} {X : Ec} {h0 : Hp} {o : Int32 × Hp} {F : Nat} (C : Cx X p s m args meth c RX7 cX7_readChecks 3 (some .boolean) "readChecks") : ∀ (f : Nat) {h : Hp} {x0 : Nat} {x1 : Nat} {x2 : Int32} {H : Heap} {locs : List Loc} (k_x0 : hK h x0 = 7) (k_x1 : hK h x1 = 3), Km h0 h → Wx X h H → va_S (aA (eB X)) s.heap H locs → ∀ (ls : Array Slot), lv_has ls 3 [(0, .ref x0), (1, .ref x1), (2, .int x2)] → sX7_readChecks_2 F f h x0 x1 x2 = some o → W p l e (rm 1 21) s m args below meth c H locs 0 0 (MQ below (QI X h0 o.1 o.2) args s 0 0 (aA (eB X))) (F0 m 2 ls []) := by
  intro f
  induction f with
  | zero =>
    intro h x0 x1 x2 H locs k_x0 k_x1 hkm hW hZ ls hl hE
    rw [sX7_readChecks_2] at hE
    cases hE
  | succ f ih =>
    intro h x0 x1 x2 H locs k_x0 k_x1 hkm hW hZ ls hl hE
    rw [sX7_readChecks_2] at hE
    have hk_2 : ∀ (h : Hp) (x0 : Nat) (x1 : Nat) (x2 : Int32) (H : Heap) (locs : List Loc), hK h x0 = 7 → hK h x1 = 3 → Km h0 h → Wx X h H → va_S (aA (eB X)) s.heap H locs → ∀ (ls : Array Slot), lv_has ls 3 [(0, .ref x0), (1, .ref x1), (2, .int x2)] → sX7_readChecks_2 F f h x0 x1 x2 = some o → W p l e (rm 1 21) s m args below meth c H locs 0 0 (MQ below (QI X h0 o.1 o.2) args s 0 0 (aA (eB X))) (F0 m 2 ls []) := fun h x0 x1 x2 H locs k_x0 k_x1 a b c ls hl hE => ih k_x0 k_x1 a b c ls hl hE
    refine lv_iload_n C.1 C.2.1 dX7_readChecks_2 rfl (lv_at hl 2 rfl) ?_
    refine lv_iconst (v := (2 : Int32)) C.1 C.2.1 dX7_readChecks_3 (by decide) ?_
    refine lv_icmp_ge (tgt := 62) C.1 C.2.1 dX7_readChecks_4 (by decide) (fun c_1 => ?_) (fun c_1 => ?_)
    · have hE := br_p hE c_1
      refine lv_iconst (v := (1 : Int32)) C.1 C.2.1 dX7_readChecks_62 (by decide) ?_
      exact x_iret C rfl (by decide) hW hZ hkm hE dX7_readChecks_63
    · have hE := br_n hE c_1
      refine lv_aload_n C.1 C.2.1 dX7_readChecks_7 rfl (lv_at hl 0 rfl) ?_
      obtain ⟨r_2, er_2, hE⟩ := cl_e hE
      refine gf_X7_15 C hW k_x0 er_2 dX7_readChecks_8 (fun k_r_2 => ?_)
      refine lv_aload_n C.1 C.2.1 dX7_readChecks_11 rfl (lv_at hl 0 rfl) ?_
      refine gf_X7_19 C hW k_x0 dX7_readChecks_12 ?_
      obtain ⟨o_3, eo_3, hE⟩ := cl_e hE
      refine x_kI (o := o_3) (z_runV (As := [.int (hI h x0 2)]) (rest := []) C (ct_X9_byteAt l X k_r_2 eo_3) cw_X7_54 hW hZ k_r_2 (by decide) rfl rfl rfl hl.1 (Nat.le_of_ble_eq_true rfl) rfl dX7_readChecks_15 ⟨Nat.le_of_ble_eq_true rfl, Nat.le_of_ble_eq_true rfl⟩ ⟨Nat.le_refl _, Nat.le_refl _⟩) hZ (fun _ _ hW km hZ => ?_)
      replace hkm := hkm.tr km
      replace k_x0 := km.at k_x0 (by decide)
      replace k_x1 := km.at k_x1 (by decide)
      obtain ⟨o_4, eo_4, hE⟩ := cl_e hE
      refine x_kI (o := o_4) (x_runSN (As := [.int o_3.1]) (rest := []) C (ct_X2_isDigit l X eo_4) cn_X7_100 hW hZ rfl hl.1 (Nat.le_of_ble_eq_true rfl) rfl dX7_readChecks_18 ⟨Nat.le_of_ble_eq_true rfl, Nat.le_of_ble_eq_true rfl⟩ ⟨Nat.le_refl _, Nat.le_refl _⟩) hZ (fun _ _ hW km hZ => ?_)
      replace hkm := hkm.tr km
      replace k_x0 := km.at k_x0 (by decide)
      replace k_x1 := km.at k_x1 (by decide)
      refine lv_if_ne (tgt := 26) C.1 C.2.1 dX7_readChecks_21 (by decide) (fun c_5 => ?_) (fun c_5 => ?_)
      · have hE := br_n hE c_5
        refine lv_aload_n C.1 C.2.1 dX7_readChecks_26 rfl (lv_at hl 1 rfl) ?_
        obtain ⟨r_6, er_6, hE⟩ := cl_e hE
        refine gf_X7_105 C hW k_x1 er_6 dX7_readChecks_27 (fun k_r_6 => ?_)
        refine lv_iload_n C.1 C.2.1 dX7_readChecks_30 rfl (lv_at hl 2 rfl) ?_
        refine lv_aload_n C.1 C.2.1 dX7_readChecks_31 rfl (lv_at hl 0 rfl) ?_
        obtain ⟨r_7, er_7, hE⟩ := cl_e hE
        refine gf_X7_15 C hW k_x0 er_7 dX7_readChecks_32 (fun k_r_7 => ?_)
        refine lv_aload_n C.1 C.2.1 dX7_readChecks_35 rfl (lv_at hl 0 rfl) ?_
        refine gf_X7_19 C hW k_x0 dX7_readChecks_36 ?_
        obtain ⟨o_8, eo_8, hE⟩ := cl_e hE
        refine x_kI (o := o_8) (z_runV (As := [.int (hI o_4.2 x0 2)]) (rest := [.int x2, .ref r_6]) C (ct_X9_byteAt l X k_r_7 eo_8) cw_X7_54 hW hZ k_r_7 (by decide) rfl rfl rfl hl.1 (Nat.le_of_ble_eq_true rfl) rfl dX7_readChecks_39 ⟨Nat.le_of_ble_eq_true rfl, Nat.le_of_ble_eq_true rfl⟩ ⟨Nat.le_refl _, Nat.le_refl _⟩) hZ (fun _ _ hW km hZ => ?_)
        replace hkm := hkm.tr km
        replace k_x0 := km.at k_x0 (by decide)
        replace k_x1 := km.at k_x1 (by decide)
        replace k_r_6 := km.at k_r_6 (by decide)
        refine lv_bipush (v := (48 : Int32)) C.1 C.2.1 dX7_readChecks_42 (by decide) ?_
        refine lv_isub C.1 C.2.1 dX7_readChecks_44 ?_
        obtain ⟨g_9, hE⟩ := gd_e hE
        obtain ⟨h_10, eh_10, hE⟩ := nm_e2 hE
        refine y_iast C hW hZ k_r_6 g_9 eh_10 dX7_readChecks_45 (fun _ _ hW km hZ => ?_)
        replace hkm := hkm.tr km
        replace k_x0 := km.at k_x0 (by decide)
        replace k_x1 := km.at k_x1 (by decide)
        refine lv_aload_n C.1 C.2.1 dX7_readChecks_46 rfl (lv_at hl 0 rfl) ?_
        refine lv_dup C.1 C.2.1 dX7_readChecks_47 rfl ?_
        refine gf_X7_19 C hW k_x0 dX7_readChecks_48 ?_
        refine lv_iconst (v := (1 : Int32)) C.1 C.2.1 dX7_readChecks_51 (by decide) ?_
        refine lv_iadd C.1 C.2.1 dX7_readChecks_52 ?_
        obtain ⟨h_11, eh_11, hE⟩ := nm_e2 hE
        refine pf_X7_19 C hW hZ k_x0 eh_11 dX7_readChecks_53 (fun _ _ hW km hZ => ?_)
        replace hkm := hkm.tr km
        replace k_x0 := km.at k_x0 (by decide)
        replace k_x1 := km.at k_x1 (by decide)
        obtain ⟨v_12, ev_12, hE⟩ := nm_e2 hE
        refine lv_iinc (v := v_12) (lv' := [(2, .int v_12), (0, .ref x0), (1, .ref x1)]) C.1 C.2.1 dX7_readChecks_56 hl (k := 2) rfl (by rw [ev_12]; rfl) (by decide) rfl (fun ls hl => ?_)
        refine lv_goto (tgt := 2) C.1 C.2.1 dX7_readChecks_59 (by decide) ?_
        exact hk_2 _ _ _ _ _ _ k_x0 k_x1 hkm hW hZ _ (lv_sub hl [1, 2, 0] rfl) hE
      · have hE := br_p hE c_5
        refine lv_iconst (v := (0 : Int32)) C.1 C.2.1 dX7_readChecks_24 (by decide) ?_
        exact x_iret C rfl (by decide) hW hZ hkm hE dX7_readChecks_25
set_option maxRecDepth 20000 in
theorem ct_X7_readChecks (l : Launch) (X : Ec) (F : Nat) {h : Hp} {x0 : Nat} {x1 : Nat} {o : Int32 × Hp} (k_x0 : hK h x0 = 7) (k_x1 : hK h x1 = 3) (hE : sX7_readChecks F h x0 x1 = some o) : MetI l yX7_readChecks cX7_readChecks 3 (some .boolean) 1 21 X [.ref x0, .ref x1] h o := by
  refine x_met (by decide) (Nat.le_of_ble_eq_true rfl) ?_
  intro p e s m below meth c ls C hl hW hZ
  have hl : lv_has ls 3 [(0, .ref x0), (1, .ref x1)] := hl
  have hkm : Km h h := Km.rf h
  refine lv_iconst (v := (0 : Int32)) C.1 C.2.1 dX7_readChecks_0 (by decide) ?_
  refine lv_istore_n (lv' := [(2, .int (0 : Int32)), (0, .ref x0), (1, .ref x1)]) C.1 C.2.1 dX7_readChecks_1 rfl hl (by decide) rfl (fun ls hl => ?_)
  exact bX7_readChecks_2 C F k_x0 k_x1 hkm hW hZ _ (lv_sub hl [1, 2, 0] rfl) hE
theorem m_304 : Cond.fieldLink RX7 109 (TX3 6).1 (TX3 6).2.1 (TX3 6).2.2.1 ∈ W0 := w0_in (List.mem_append_right _ (List.mem_of_getElem? (i := 304) (by decide +kernel))) rfl
section
variable {p : Program} {l : Launch} {e : Env} {R : Room} {s : State} {m : MethodId} {args : Array Value} {below : List Frame} {meth : Method} {c : Code} {H : Heap} {locs : List Loc} {cells slots : Nat} {Q : State → Prop}
variable {cc : ByteArray} {pc : Nat} {ls : Array Slot} {rest : List Value} {X : Ec} {h h1 : Hp} {nL : Nat} {rt : Option FieldType} {mn : String}
theorem gf_X7_109 {a : Nat} (C : Cx X p s m args meth c RX7 cc nL rt mn) (hW : Wx X h H) (ha : hK h a = 3) (hdg : decode cc pc = .ok (.getfield 109, 3)) (kk : W p l e R s m args below meth c H locs cells slots Q (F0 m (pc + 3) ls (.int (hI h a 6) :: rest))) : W p l e R s m args below meth c H locs cells slots Q (F0 m pc ls (.ref a :: rest)) :=
  y_geti C hW ha i_X3 (by decide) rfl (by decide) m_304 rfl hdg kk
theorem pf_X7_109 {a : Nat} {v : Int32} (C : Cx X p s m args meth c RX7 cc nL rt mn) (hW : Wx X h H) (hZ : va_S (aA (eB X)) s.heap H locs) (ha : hK h a = 3) (eh : h1 = wI h a 6 v) (hdg : decode cc pc = .ok (.putfield 109, 3)) (kk : ∀ (H1 : Heap) (locs1 : List Loc), Wx X h1 H1 → Km h h1 → va_S (aA (eB X)) s.heap H1 locs1 → W p l e R s m args below meth c H1 locs1 cells slots Q (F0 m (pc + 3) ls rest)) : W p l e R s m args below meth c H locs cells slots Q (F0 m pc ls (.int v :: .ref a :: rest)) :=
  y_puti (ty := .int) C hW hZ ha i_X3 tyX3 tyX3_ok nmX3 (by decide) rfl rfl (by decide) m_304 rfl (by decide +kernel) rfl rfl rfl eh hdg kk
end
theorem dX7_readClock_0 : decode cX7_readClock 0 = .ok (.aload_n 0, 1) := by decide +kernel
theorem dX7_readClock_1 : decode cX7_readClock 1 = .ok (.getfield 19, 3) := by decide +kernel
theorem dX7_readClock_4 : decode cX7_readClock 4 = .ok (.istore_n 2, 1) := by decide +kernel
theorem dX7_readClock_5 : decode cX7_readClock 5 = .ok (.iconst 0, 1) := by decide +kernel
theorem dX7_readClock_6 : decode cX7_readClock 6 = .ok (.istore_n 3, 1) := by decide +kernel
theorem dX7_readClock_7 : decode cX7_readClock 7 = .ok (.iload_n 3, 1) := by decide +kernel
theorem dX7_readClock_8 : decode cX7_readClock 8 = .ok (.iconst 3, 1) := by decide +kernel
theorem dX7_readClock_9 : decode cX7_readClock 9 = .ok (.if_icmp .ge 62, 3) := by decide +kernel
theorem dX7_readClock_12 : decode cX7_readClock 12 = .ok (.aload_n 0, 1) := by decide +kernel
theorem dX7_readClock_13 : decode cX7_readClock 13 = .ok (.getfield 15, 3) := by decide +kernel
theorem dX7_readClock_16 : decode cX7_readClock 16 = .ok (.aload_n 0, 1) := by decide +kernel
theorem dX7_readClock_17 : decode cX7_readClock 17 = .ok (.getfield 19, 3) := by decide +kernel
theorem dX7_readClock_20 : decode cX7_readClock 20 = .ok (.invokevirtual 54, 3) := by decide +kernel
theorem dX7_readClock_23 : decode cX7_readClock 23 = .ok (.invokestatic 100, 3) := by decide +kernel
theorem dX7_readClock_26 : decode cX7_readClock 26 = .ok (.ifCond .eq 45, 3) := by decide +kernel
theorem dX7_readClock_29 : decode cX7_readClock 29 = .ok (.aload_n 1, 1) := by decide +kernel
theorem dX7_readClock_30 : decode cX7_readClock 30 = .ok (.bipush 10, 2) := by decide +kernel
theorem dX7_readClock_32 : decode cX7_readClock 32 = .ok (.aload_n 1, 1) := by decide +kernel
theorem dX7_readClock_33 : decode cX7_readClock 33 = .ok (.getfield 109, 3) := by decide +kernel
theorem dX7_readClock_36 : decode cX7_readClock 36 = .ok (.imul, 1) := by decide +kernel
theorem dX7_readClock_37 : decode cX7_readClock 37 = .ok (.aload_n 0, 1) := by decide +kernel
theorem dX7_readClock_38 : decode cX7_readClock 38 = .ok (.getfield 15, 3) := by decide +kernel
theorem dX7_readClock_41 : decode cX7_readClock 41 = .ok (.aload_n 0, 1) := by decide +kernel
theorem dX7_readClock_42 : decode cX7_readClock 42 = .ok (.getfield 19, 3) := by decide +kernel
theorem dX7_readClock_45 : decode cX7_readClock 45 = .ok (.invokevirtual 54, 3) := by decide +kernel
theorem dX7_readClock_48 : decode cX7_readClock 48 = .ok (.iadd, 1) := by decide +kernel
theorem dX7_readClock_49 : decode cX7_readClock 49 = .ok (.bipush 48, 2) := by decide +kernel
theorem dX7_readClock_51 : decode cX7_readClock 51 = .ok (.isub, 1) := by decide +kernel
theorem dX7_readClock_52 : decode cX7_readClock 52 = .ok (.putfield 109, 3) := by decide +kernel
theorem dX7_readClock_55 : decode cX7_readClock 55 = .ok (.aload_n 0, 1) := by decide +kernel
theorem dX7_readClock_56 : decode cX7_readClock 56 = .ok (.dup, 1) := by decide +kernel
theorem dX7_readClock_57 : decode cX7_readClock 57 = .ok (.getfield 19, 3) := by decide +kernel
theorem dX7_readClock_60 : decode cX7_readClock 60 = .ok (.iconst 1, 1) := by decide +kernel
theorem dX7_readClock_61 : decode cX7_readClock 61 = .ok (.iadd, 1) := by decide +kernel
theorem dX7_readClock_62 : decode cX7_readClock 62 = .ok (.putfield 19, 3) := by decide +kernel
theorem dX7_readClock_65 : decode cX7_readClock 65 = .ok (.iinc 3 1, 3) := by decide +kernel
theorem dX7_readClock_68 : decode cX7_readClock 68 = .ok (.goto (-61), 3) := by decide +kernel
theorem dX7_readClock_71 : decode cX7_readClock 71 = .ok (.aload_n 1, 1) := by decide +kernel
theorem dX7_readClock_72 : decode cX7_readClock 72 = .ok (.getfield 109, 3) := by decide +kernel
theorem dX7_readClock_75 : decode cX7_readClock 75 = .ok (.sipush 200, 3) := by decide +kernel
theorem dX7_readClock_78 : decode cX7_readClock 78 = .ok (.if_icmp .le 8, 3) := by decide +kernel
theorem dX7_readClock_81 : decode cX7_readClock 81 = .ok (.aload_n 0, 1) := by decide +kernel
theorem dX7_readClock_82 : decode cX7_readClock 82 = .ok (.iload_n 2, 1) := by decide +kernel
theorem dX7_readClock_83 : decode cX7_readClock 83 = .ok (.putfield 19, 3) := by decide +kernel
theorem dX7_readClock_86 : decode cX7_readClock 86 = .ok (.aload_n 0, 1) := by decide +kernel
theorem dX7_readClock_87 : decode cX7_readClock 87 = .ok (.getfield 19, 3) := by decide +kernel
theorem dX7_readClock_90 : decode cX7_readClock 90 = .ok (.iload_n 2, 1) := by decide +kernel
theorem dX7_readClock_91 : decode cX7_readClock 91 = .ok (.if_icmp .le 7, 3) := by decide +kernel
theorem dX7_readClock_94 : decode cX7_readClock 94 = .ok (.iconst 1, 1) := by decide +kernel
theorem dX7_readClock_95 : decode cX7_readClock 95 = .ok (.goto 4, 3) := by decide +kernel
theorem dX7_readClock_98 : decode cX7_readClock 98 = .ok (.iconst 0, 1) := by decide +kernel
theorem dX7_readClock_99 : decode cX7_readClock 99 = .ok (.ireturn, 1) := by decide +kernel
def sX7_readClock_99 (F : Nat) (h : Hp) (t0 : Int32) : Option (Int32 × Hp) := gd (t0 &&& 1 = t0) <| some (t0, h)
def sX7_readClock_86 (F : Nat) (h : Hp) (x0 : Nat) (x2 : Int32) : Option (Int32 × Hp) := br ((hI h x0 2) ≤ x2) (sX7_readClock_99 F h (0 : Int32)) (sX7_readClock_99 F h (1 : Int32))
def sX7_readClock_71 (F : Nat) (h : Hp) (x0 : Nat) (x1 : Nat) (x2 : Int32) : Option (Int32 × Hp) := br ((hI h x1 6) ≤ (200 : Int32)) (sX7_readClock_86 F h x0 x2) (nm (wI h x0 2 x2) fun h_2 => sX7_readClock_86 F h_2 x0 x2)
def sX7_readClock_7 (F : Nat) : Nat → Hp → Nat → Nat → Int32 → Int32 → Option (Int32 × Hp)
  | 0, _, _, _, _, _ => none
  | f + 1, h, x0, x1, x2, x3 => br ((3 : Int32) ≤ x3) (sX7_readClock_71 F h x0 x1 x2) (cl (hR h x0 1) fun r_2 => cl (sX9_byteAt h r_2 (hI h x0 2)) fun o_3 => cl (sX2_isDigit o_3.2 o_3.1) fun o_4 => br (o_4.1 = 0) (sX7_readClock_71 F o_4.2 x0 x1 x2) (cl (hR o_4.2 x0 1) fun r_6 => cl (sX9_byteAt o_4.2 r_6 (hI o_4.2 x0 2)) fun o_7 => nm (wI o_7.2 x1 6 ((((10 : Int32) * (hI o_4.2 x1 6)) + o_7.1) - (48 : Int32))) fun h_8 => nm (wI h_8 x0 2 ((hI h_8 x0 2) + (1 : Int32))) fun h_9 => nm (x3 + (1 : Int32)) fun v_10 => sX7_readClock_7 F f h_9 x0 x1 x2 v_10))
def sX7_readClock (F : Nat) (h : Hp) (x0 : Nat) (x1 : Nat) : Option (Int32 × Hp) := nm (hI h x0 2) fun v_1 => sX7_readClock_7 F F h x0 x1 v_1 (0 : Int32)
set_option maxRecDepth 20000 in
theorem bX7_readClock_99 {p : Program} {l : Launch} {e : Env} {s : State} {m : MethodId} {args : Array Value} {below : List Frame} {meth : Method} {c : Code} {X : Ec} {h0 : Hp} {o : Int32 × Hp} {F : Nat} (C : Cx X p s m args meth c RX7 cX7_readClock 4 (some .boolean) "readClock") {h : Hp} {t0 : Int32} {H : Heap} {locs : List Loc} (hkm : Km h0 h) (hW : Wx X h H) (hZ : va_S (aA (eB X)) s.heap H locs) (ls : Array Slot) (hl : lv_has ls 4 []) (hE : sX7_readClock_99 F h  t0 = some o) : W p l e (rm 1 21) s m args below meth c H locs 0 0 (MQ below (QI X h0 o.1 o.2) args s 0 0 (aA (eB X))) (F0 m 99 ls [.int t0]) := by
  obtain ⟨g_1, hE⟩ := gd_e hE
  exact x_iret C rfl (narB g_1) hW hZ hkm hE dX7_readClock_99
set_option maxRecDepth 20000 in
theorem bX7_readClock_86 {p : Program} {l : Launch} {e : Env} {s : State} {m : MethodId} {args : Array Value} {below : List Frame} {meth : Method} {c : Code} {X : Ec} {h0 : Hp} {o : Int32 × Hp} {F : Nat} (C : Cx X p s m args meth c RX7 cX7_readClock 4 (some .boolean) "readClock") {h : Hp} {x0 : Nat} {x2 : Int32} {H : Heap} {locs : List Loc} (k_x0 : hK h x0 = 7) (hkm : Km h0 h) (hW : Wx X h H) (hZ : va_S (aA (eB X)) s.heap H locs) (ls : Array Slot) (hl : lv_has ls 4 [(0, .ref x0), (2, .int x2)]) (hE : sX7_readClock_86 F h x0 x2 = some o) : W p l e (rm 1 21) s m args below meth c H locs 0 0 (MQ below (QI X h0 o.1 o.2) args s 0 0 (aA (eB X))) (F0 m 86 ls []) := by
  refine lv_aload_n C.1 C.2.1 dX7_readClock_86 rfl (lv_at hl 0 rfl) ?_
  refine gf_X7_19 C hW k_x0 dX7_readClock_87 ?_
  refine lv_iload_n C.1 C.2.1 dX7_readClock_90 rfl (lv_at hl 1 rfl) ?_
  refine lv_icmp_le (tgt := 98) C.1 C.2.1 dX7_readClock_91 (by decide) (fun c_1 => ?_) (fun c_1 => ?_)
  · have hE := br_p hE c_1
    refine lv_iconst (v := (0 : Int32)) C.1 C.2.1 dX7_readClock_98 (by decide) ?_
    exact bX7_readClock_99 C hkm hW hZ _ (lv_sub hl [] rfl) hE
  · have hE := br_n hE c_1
    refine lv_iconst (v := (1 : Int32)) C.1 C.2.1 dX7_readClock_94 (by decide) ?_
    refine lv_goto (tgt := 99) C.1 C.2.1 dX7_readClock_95 (by decide) ?_
    exact bX7_readClock_99 C hkm hW hZ _ (lv_sub hl [] rfl) hE
set_option maxRecDepth 20000 in
theorem bX7_readClock_71 {p : Program} {l : Launch} {e : Env} {s : State} {m : MethodId} {args : Array Value} {below : List Frame} {meth : Method} {c : Code} {X : Ec} {h0 : Hp} {o : Int32 × Hp} {F : Nat} (C : Cx X p s m args meth c RX7 cX7_readClock 4 (some .boolean) "readClock") {h : Hp} {x0 : Nat} {x1 : Nat} {x2 : Int32} {H : Heap} {locs : List Loc} (k_x0 : hK h x0 = 7) (k_x1 : hK h x1 = 3) (hkm : Km h0 h) (hW : Wx X h H) (hZ : va_S (aA (eB X)) s.heap H locs) (ls : Array Slot) (hl : lv_has ls 4 [(0, .ref x0), (1, .ref x1), (2, .int x2)]) (hE : sX7_readClock_71 F h x0 x1 x2 = some o) : W p l e (rm 1 21) s m args below meth c H locs 0 0 (MQ below (QI X h0 o.1 o.2) args s 0 0 (aA (eB X))) (F0 m 71 ls []) := by
  refine lv_aload_n C.1 C.2.1 dX7_readClock_71 rfl (lv_at hl 1 rfl) ?_
  refine gf_X7_109 C hW k_x1 dX7_readClock_72 ?_
  refine lv_sipush (v := (200 : Int32)) C.1 C.2.1 dX7_readClock_75 (by decide) ?_
  refine lv_icmp_le (tgt := 86) C.1 C.2.1 dX7_readClock_78 (by decide) (fun c_1 => ?_) (fun c_1 => ?_)
  · have hE := br_p hE c_1
    exact bX7_readClock_86 C k_x0 hkm hW hZ _ (lv_sub hl [0, 2] rfl) hE
  · have hE := br_n hE c_1
    refine lv_aload_n C.1 C.2.1 dX7_readClock_81 rfl (lv_at hl 0 rfl) ?_
    refine lv_iload_n C.1 C.2.1 dX7_readClock_82 rfl (lv_at hl 2 rfl) ?_
    obtain ⟨h_2, eh_2, hE⟩ := nm_e2 hE
    refine pf_X7_19 C hW hZ k_x0 eh_2 dX7_readClock_83 (fun _ _ hW km hZ => ?_)
    replace hkm := hkm.tr km
    replace k_x0 := km.at k_x0 (by decide)
    replace k_x1 := km.at k_x1 (by decide)
    exact bX7_readClock_86 C k_x0 hkm hW hZ _ (lv_sub hl [0, 2] rfl) hE
set_option maxRecDepth 20000 in
theorem bX7_readClock_7 {p : Program} {l : Launch} {e : Env} {s : State} {m : MethodId} {args : Array Value} {below : List Frame} {meth : Method} {c : Code} {X : Ec} {h0 : Hp} {o : Int32 × Hp} {F : Nat} (C : Cx X p s m args meth c RX7 cX7_readClock 4 (some .boolean) "readClock") : ∀ (f : Nat) {h : Hp} {x0 : Nat} {x1 : Nat} {x2 : Int32} {x3 : Int32} {H : Heap} {locs : List Loc} (k_x0 : hK h x0 = 7) (k_x1 : hK h x1 = 3), Km h0 h → Wx X h H → va_S (aA (eB X)) s.heap H locs → ∀ (ls : Array Slot), lv_has ls 4 [(0, .ref x0), (1, .ref x1), (2, .int x2), (3, .int x3)] → sX7_readClock_7 F f h x0 x1 x2 x3 = some o → W p l e (rm 1 21) s m args below meth c H locs 0 0 (MQ below (QI X h0 o.1 o.2) args s 0 0 (aA (eB X))) (F0 m 7 ls []) := by
  intro f
  induction f with
  | zero =>
    intro h x0 x1 x2 x3 H locs k_x0 k_x1 hkm hW hZ ls hl hE
    rw [sX7_readClock_7] at hE
    cases hE
  | succ f ih =>
    intro h x0 x1 x2 x3 H locs k_x0 k_x1 hkm hW hZ ls hl hE
    rw [sX7_readClock_7] at hE
    have hk_7 : ∀ (h : Hp) (x0 : Nat) (x1 : Nat) (x2 : Int32) (x3 : Int32) (H : Heap) (locs : List Loc), hK h x0 = 7 → hK h x1 = 3 → Km h0 h → Wx X h H → va_S (aA (eB X)) s.heap H locs → ∀ (ls : Array Slot), lv_has ls 4 [(0, .ref x0), (1, .ref x1), (2, .int x2), (3, .int x3)] → sX7_readClock_7 F f h x0 x1 x2 x3 = some o → W p l e (rm 1 21) s m args below meth c H locs 0 0 (MQ below (QI X h0 o.1 o.2) args s 0 0 (aA (eB X))) (F0 m 7 ls []) := fun h x0 x1 x2 x3 H locs k_x0 k_x1 a b c ls hl hE => ih k_x0 k_x1 a b c ls hl hE
    refine lv_iload_n C.1 C.2.1 dX7_readClock_7 rfl (lv_at hl 3 rfl) ?_
    refine lv_iconst (v := (3 : Int32)) C.1 C.2.1 dX7_readClock_8 (by decide) ?_
    refine lv_icmp_ge (tgt := 71) C.1 C.2.1 dX7_readClock_9 (by decide) (fun c_1 => ?_) (fun c_1 => ?_)
    · have hE := br_p hE c_1
      exact bX7_readClock_71 C k_x0 k_x1 hkm hW hZ _ (lv_sub hl [0, 1, 2] rfl) hE
    · have hE := br_n hE c_1
      refine lv_aload_n C.1 C.2.1 dX7_readClock_12 rfl (lv_at hl 0 rfl) ?_
      obtain ⟨r_2, er_2, hE⟩ := cl_e hE
      refine gf_X7_15 C hW k_x0 er_2 dX7_readClock_13 (fun k_r_2 => ?_)
      refine lv_aload_n C.1 C.2.1 dX7_readClock_16 rfl (lv_at hl 0 rfl) ?_
      refine gf_X7_19 C hW k_x0 dX7_readClock_17 ?_
      obtain ⟨o_3, eo_3, hE⟩ := cl_e hE
      refine x_kI (o := o_3) (z_runV (As := [.int (hI h x0 2)]) (rest := []) C (ct_X9_byteAt l X k_r_2 eo_3) cw_X7_54 hW hZ k_r_2 (by decide) rfl rfl rfl hl.1 (Nat.le_of_ble_eq_true rfl) rfl dX7_readClock_20 ⟨Nat.le_of_ble_eq_true rfl, Nat.le_of_ble_eq_true rfl⟩ ⟨Nat.le_refl _, Nat.le_refl _⟩) hZ (fun _ _ hW km hZ => ?_)
      replace hkm := hkm.tr km
      replace k_x0 := km.at k_x0 (by decide)
      replace k_x1 := km.at k_x1 (by decide)
      obtain ⟨o_4, eo_4, hE⟩ := cl_e hE
      refine x_kI (o := o_4) (x_runSN (As := [.int o_3.1]) (rest := []) C (ct_X2_isDigit l X eo_4) cn_X7_100 hW hZ rfl hl.1 (Nat.le_of_ble_eq_true rfl) rfl dX7_readClock_23 ⟨Nat.le_of_ble_eq_true rfl, Nat.le_of_ble_eq_true rfl⟩ ⟨Nat.le_refl _, Nat.le_refl _⟩) hZ (fun _ _ hW km hZ => ?_)
      replace hkm := hkm.tr km
      replace k_x0 := km.at k_x0 (by decide)
      replace k_x1 := km.at k_x1 (by decide)
      refine lv_if_eq (tgt := 71) C.1 C.2.1 dX7_readClock_26 (by decide) (fun c_5 => ?_) (fun c_5 => ?_)
      · have hE := br_p hE c_5
        exact bX7_readClock_71 C k_x0 k_x1 hkm hW hZ _ (lv_sub hl [0, 1, 2] rfl) hE
      · have hE := br_n hE c_5
        refine lv_aload_n C.1 C.2.1 dX7_readClock_29 rfl (lv_at hl 1 rfl) ?_
        refine lv_bipush (v := (10 : Int32)) C.1 C.2.1 dX7_readClock_30 (by decide) ?_
        refine lv_aload_n C.1 C.2.1 dX7_readClock_32 rfl (lv_at hl 1 rfl) ?_
        refine gf_X7_109 C hW k_x1 dX7_readClock_33 ?_
        refine lv_imul C.1 C.2.1 dX7_readClock_36 ?_
        refine lv_aload_n C.1 C.2.1 dX7_readClock_37 rfl (lv_at hl 0 rfl) ?_
        obtain ⟨r_6, er_6, hE⟩ := cl_e hE
        refine gf_X7_15 C hW k_x0 er_6 dX7_readClock_38 (fun k_r_6 => ?_)
        refine lv_aload_n C.1 C.2.1 dX7_readClock_41 rfl (lv_at hl 0 rfl) ?_
        refine gf_X7_19 C hW k_x0 dX7_readClock_42 ?_
        obtain ⟨o_7, eo_7, hE⟩ := cl_e hE
        refine x_kI (o := o_7) (z_runV (As := [.int (hI o_4.2 x0 2)]) (rest := [.int ((10 : Int32) * (hI o_4.2 x1 6)), .ref x1]) C (ct_X9_byteAt l X k_r_6 eo_7) cw_X7_54 hW hZ k_r_6 (by decide) rfl rfl rfl hl.1 (Nat.le_of_ble_eq_true rfl) rfl dX7_readClock_45 ⟨Nat.le_of_ble_eq_true rfl, Nat.le_of_ble_eq_true rfl⟩ ⟨Nat.le_refl _, Nat.le_refl _⟩) hZ (fun _ _ hW km hZ => ?_)
        replace hkm := hkm.tr km
        replace k_x0 := km.at k_x0 (by decide)
        replace k_x1 := km.at k_x1 (by decide)
        refine lv_iadd C.1 C.2.1 dX7_readClock_48 ?_
        refine lv_bipush (v := (48 : Int32)) C.1 C.2.1 dX7_readClock_49 (by decide) ?_
        refine lv_isub C.1 C.2.1 dX7_readClock_51 ?_
        obtain ⟨h_8, eh_8, hE⟩ := nm_e2 hE
        refine pf_X7_109 C hW hZ k_x1 eh_8 dX7_readClock_52 (fun _ _ hW km hZ => ?_)
        replace hkm := hkm.tr km
        replace k_x0 := km.at k_x0 (by decide)
        replace k_x1 := km.at k_x1 (by decide)
        refine lv_aload_n C.1 C.2.1 dX7_readClock_55 rfl (lv_at hl 0 rfl) ?_
        refine lv_dup C.1 C.2.1 dX7_readClock_56 rfl ?_
        refine gf_X7_19 C hW k_x0 dX7_readClock_57 ?_
        refine lv_iconst (v := (1 : Int32)) C.1 C.2.1 dX7_readClock_60 (by decide) ?_
        refine lv_iadd C.1 C.2.1 dX7_readClock_61 ?_
        obtain ⟨h_9, eh_9, hE⟩ := nm_e2 hE
        refine pf_X7_19 C hW hZ k_x0 eh_9 dX7_readClock_62 (fun _ _ hW km hZ => ?_)
        replace hkm := hkm.tr km
        replace k_x0 := km.at k_x0 (by decide)
        replace k_x1 := km.at k_x1 (by decide)
        obtain ⟨v_10, ev_10, hE⟩ := nm_e2 hE
        refine lv_iinc (v := v_10) (lv' := [(3, .int v_10), (0, .ref x0), (1, .ref x1), (2, .int x2)]) C.1 C.2.1 dX7_readClock_65 hl (k := 3) rfl (by rw [ev_10]; rfl) (by decide) rfl (fun ls hl => ?_)
        refine lv_goto (tgt := 7) C.1 C.2.1 dX7_readClock_68 (by decide) ?_
        exact hk_7 _ _ _ _ _ _ _ k_x0 k_x1 hkm hW hZ _ (lv_sub hl [1, 2, 3, 0] rfl) hE
set_option maxRecDepth 20000 in
theorem ct_X7_readClock (l : Launch) (X : Ec) (F : Nat) {h : Hp} {x0 : Nat} {x1 : Nat} {o : Int32 × Hp} (k_x0 : hK h x0 = 7) (k_x1 : hK h x1 = 3) (hE : sX7_readClock F h x0 x1 = some o) : MetI l yX7_readClock cX7_readClock 4 (some .boolean) 1 21 X [.ref x0, .ref x1] h o := by
  refine x_met (by decide) (Nat.le_of_ble_eq_true rfl) ?_
  intro p e s m below meth c ls C hl hW hZ
  have hl : lv_has ls 4 [(0, .ref x0), (1, .ref x1)] := hl
  have hkm : Km h h := Km.rf h
  refine lv_aload_n C.1 C.2.1 dX7_readClock_0 rfl (lv_at hl 0 rfl) ?_
  refine gf_X7_19 C hW k_x0 dX7_readClock_1 ?_
  obtain ⟨v_1, ev_1, hE⟩ := nm_e2 hE
  refine x_nmI ev_1 ?_
  refine lv_istore_n (lv' := [(2, .int v_1), (0, .ref x0), (1, .ref x1)]) C.1 C.2.1 dX7_readClock_4 rfl hl (by decide) rfl (fun ls hl => ?_)
  refine lv_iconst (v := (0 : Int32)) C.1 C.2.1 dX7_readClock_5 (by decide) ?_
  refine lv_istore_n (lv' := [(3, .int (0 : Int32)), (2, .int v_1), (0, .ref x0), (1, .ref x1)]) C.1 C.2.1 dX7_readClock_6 rfl hl (by decide) rfl (fun ls hl => ?_)
  exact bX7_readClock_7 C F k_x0 k_x1 hkm hW hZ _ (lv_sub hl [2, 3, 1, 0] rfl) hE
theorem ms_39 : Cond.selects RX7 yX7_readClock yX7_readClock ∈ W0 := w0_in (List.mem_append_left _ (List.mem_of_getElem? (i := 39) (by decide +kernel))) rfl
theorem ms_38 : Cond.selects RX7 yX7_readChecks yX7_readChecks ∈ W0 := w0_in (List.mem_append_left _ (List.mem_of_getElem? (i := 38) (by decide +kernel))) rfl
theorem ms_37 : Cond.selects RX7 yX7_readHands yX7_readHands ∈ W0 := w0_in (List.mem_append_left _ (List.mem_of_getElem? (i := 37) (by decide +kernel))) rfl
theorem ms_36 : Cond.selects RX7 yX7_readPass yX7_readPass ∈ W0 := w0_in (List.mem_append_left _ (List.mem_of_getElem? (i := 36) (by decide +kernel))) rfl
theorem ms_34 : Cond.selects RX7 yX7_readRights yX7_readRights ∈ W0 := w0_in (List.mem_append_left _ (List.mem_of_getElem? (i := 34) (by decide +kernel))) rfl
theorem ms_33 : Cond.selects RX7 yX7_readSide yX7_readSide ∈ W0 := w0_in (List.mem_append_left _ (List.mem_of_getElem? (i := 33) (by decide +kernel))) rfl
theorem ms_31 : Cond.selects RX7 yX7_readRanks yX7_readRanks ∈ W0 := w0_in (List.mem_append_left _ (List.mem_of_getElem? (i := 31) (by decide +kernel))) rfl
theorem m_961 : Cond.methodLink RX7 23 yX3_clear ∈ W0 := w0_in (List.mem_append_right _ (List.mem_of_getElem? (i := 961) (by decide +kernel))) rfl
theorem m_962 : Cond.instanceMethod yX3_clear ∈ W0 := w0_in (List.mem_append_right _ (List.mem_of_getElem? (i := 962) (by decide +kernel))) rfl
theorem m_963 : Cond.selects RX3 yX3_clear yX3_clear ∈ W0 := w0_in (List.mem_append_right _ (List.mem_of_getElem? (i := 963) (by decide +kernel))) rfl
theorem m_964 : Cond.code yX3_clear cX3_clear 1 none ∈ W0 := w0_in (List.mem_append_right _ (List.mem_of_getElem? (i := 964) (by decide +kernel))) rfl
theorem m_970 : Cond.methodLink RX7 28 yX7_readRanks ∈ W0 := w0_in (List.mem_append_right _ (List.mem_of_getElem? (i := 970) (by decide +kernel))) rfl
theorem m_972 : Cond.instanceMethod yX7_readRanks ∈ W0 := w0_in (List.mem_append_right _ (List.mem_of_getElem? (i := 972) (by decide +kernel))) rfl
theorem m_973 : Cond.code yX7_readRanks cX7_readRanks 7 (some .boolean) ∈ W0 := w0_in (List.mem_append_right _ (List.mem_of_getElem? (i := 973) (by decide +kernel))) rfl
theorem m_989 : Cond.methodLink RX7 36 yX7_readSide ∈ W0 := w0_in (List.mem_append_right _ (List.mem_of_getElem? (i := 989) (by decide +kernel))) rfl
theorem m_991 : Cond.instanceMethod yX7_readSide ∈ W0 := w0_in (List.mem_append_right _ (List.mem_of_getElem? (i := 991) (by decide +kernel))) rfl
theorem m_992 : Cond.code yX7_readSide cX7_readSide 3 (some .boolean) ∈ W0 := w0_in (List.mem_append_right _ (List.mem_of_getElem? (i := 992) (by decide +kernel))) rfl
theorem m_993 : Cond.methodLink RX7 39 yX7_readRights ∈ W0 := w0_in (List.mem_append_right _ (List.mem_of_getElem? (i := 993) (by decide +kernel))) rfl
theorem m_995 : Cond.instanceMethod yX7_readRights ∈ W0 := w0_in (List.mem_append_right _ (List.mem_of_getElem? (i := 995) (by decide +kernel))) rfl
theorem m_996 : Cond.code yX7_readRights cX7_readRights 6 (some .boolean) ∈ W0 := w0_in (List.mem_append_right _ (List.mem_of_getElem? (i := 996) (by decide +kernel))) rfl
theorem m_1001 : Cond.methodLink RX7 42 yX7_readPass ∈ W0 := w0_in (List.mem_append_right _ (List.mem_of_getElem? (i := 1001) (by decide +kernel))) rfl
theorem m_1003 : Cond.instanceMethod yX7_readPass ∈ W0 := w0_in (List.mem_append_right _ (List.mem_of_getElem? (i := 1003) (by decide +kernel))) rfl
theorem m_1004 : Cond.code yX7_readPass cX7_readPass 4 (some .boolean) ∈ W0 := w0_in (List.mem_append_right _ (List.mem_of_getElem? (i := 1004) (by decide +kernel))) rfl
theorem m_1014 : Cond.methodLink RX7 45 yX7_readHands ∈ W0 := w0_in (List.mem_append_right _ (List.mem_of_getElem? (i := 1014) (by decide +kernel))) rfl
theorem m_1016 : Cond.instanceMethod yX7_readHands ∈ W0 := w0_in (List.mem_append_right _ (List.mem_of_getElem? (i := 1016) (by decide +kernel))) rfl
theorem m_1017 : Cond.code yX7_readHands cX7_readHands 4 (some .boolean) ∈ W0 := w0_in (List.mem_append_right _ (List.mem_of_getElem? (i := 1017) (by decide +kernel))) rfl
theorem m_1026 : Cond.methodLink RX7 48 yX7_readChecks ∈ W0 := w0_in (List.mem_append_right _ (List.mem_of_getElem? (i := 1026) (by decide +kernel))) rfl
theorem m_1028 : Cond.instanceMethod yX7_readChecks ∈ W0 := w0_in (List.mem_append_right _ (List.mem_of_getElem? (i := 1028) (by decide +kernel))) rfl
theorem m_1029 : Cond.code yX7_readChecks cX7_readChecks 3 (some .boolean) ∈ W0 := w0_in (List.mem_append_right _ (List.mem_of_getElem? (i := 1029) (by decide +kernel))) rfl
theorem m_1031 : Cond.methodLink RX7 51 yX7_readClock ∈ W0 := w0_in (List.mem_append_right _ (List.mem_of_getElem? (i := 1031) (by decide +kernel))) rfl
theorem m_1033 : Cond.instanceMethod yX7_readClock ∈ W0 := w0_in (List.mem_append_right _ (List.mem_of_getElem? (i := 1033) (by decide +kernel))) rfl
theorem m_1034 : Cond.code yX7_readClock cX7_readClock 4 (some .boolean) ∈ W0 := w0_in (List.mem_append_right _ (List.mem_of_getElem? (i := 1034) (by decide +kernel))) rfl
section
variable {p : Program} {l : Launch} {e : Env} {R : Room} {s : State} {m : MethodId} {args : Array Value} {below : List Frame} {meth : Method} {c : Code} {H : Heap} {locs : List Loc} {cells slots : Nat} {Q : State → Prop}
variable {cc : ByteArray} {pc : Nat} {ls : Array Slot} {rest : List Value} {X : Ec} {h h1 : Hp} {nL : Nat} {rt : Option FieldType} {mn : String}
theorem pf_X7_15 {a r : Nat} (C : Cx X p s m args meth c RX7 cc nL rt mn) (hW : Wx X h H) (hZ : va_S (aA (eB X)) s.heap H locs) (ha : hK h a = 7) (hr : hK h r = 9) (eh : h1 = wR h a 1 (some r)) (hdg : decode cc pc = .ok (.putfield 15, 3)) (kk : ∀ (H1 : Heap) (locs1 : List Loc), Wx X h1 H1 → Km h h1 → va_S (aA (eB X)) s.heap H1 locs1 → W p l e R s m args below meth c H1 locs1 cells slots Q (F0 m (pc + 3) ls rest)) : W p l e R s m args below meth c H locs cells slots Q (F0 m pc ls (.ref r :: .ref a :: rest)) :=
  y_putr (ty := .object "GameRules$Text") C hW hZ ha i_X7 tyX7 tyX7_ok nmX7 (by decide) rfl rfl (by decide) m_382 rfl (by decide +kernel) rfl rfl rfl hr rfl (by decide) eh hdg kk
end
theorem cw_X7_23 : cwd RX7 23 yX3_clear cX3_clear 1 none false 0 := ⟨m_964, m_961, m_8, ⟨m_962, m_963⟩, by decide, by decide, by decide +kernel⟩
theorem cw_X7_28 : cwd RX7 28 yX7_readRanks cX7_readRanks 7 (some .boolean) false 1 := ⟨m_973, m_970, m_10, ⟨m_972, ms_31⟩, by decide, by decide, by decide +kernel⟩
theorem cw_X7_36 : cwd RX7 36 yX7_readSide cX7_readSide 3 (some .boolean) false 1 := ⟨m_992, m_989, m_10, ⟨m_991, ms_33⟩, by decide, by decide, by decide +kernel⟩
theorem cw_X7_39 : cwd RX7 39 yX7_readRights cX7_readRights 6 (some .boolean) false 1 := ⟨m_996, m_993, m_10, ⟨m_995, ms_34⟩, by decide, by decide, by decide +kernel⟩
theorem cw_X7_42 : cwd RX7 42 yX7_readPass cX7_readPass 4 (some .boolean) false 1 := ⟨m_1004, m_1001, m_10, ⟨m_1003, ms_36⟩, by decide, by decide, by decide +kernel⟩
theorem cw_X7_45 : cwd RX7 45 yX7_readHands cX7_readHands 4 (some .boolean) false 1 := ⟨m_1017, m_1014, m_10, ⟨m_1016, ms_37⟩, by decide, by decide, by decide +kernel⟩
theorem cw_X7_48 : cwd RX7 48 yX7_readChecks cX7_readChecks 3 (some .boolean) false 1 := ⟨m_1029, m_1026, m_10, ⟨m_1028, ms_38⟩, by decide, by decide, by decide +kernel⟩
theorem cw_X7_51 : cwd RX7 51 yX7_readClock cX7_readClock 4 (some .boolean) false 1 := ⟨m_1034, m_1031, m_10, ⟨m_1033, ms_39⟩, by decide, by decide, by decide +kernel⟩
theorem dX7_read_0 : decode cX7_read 0 = .ok (.aload_n 0, 1) := by decide +kernel
theorem dX7_read_1 : decode cX7_read 1 = .ok (.aload_n 1, 1) := by decide +kernel
theorem dX7_read_2 : decode cX7_read 2 = .ok (.putfield 15, 3) := by decide +kernel
theorem dX7_read_5 : decode cX7_read 5 = .ok (.aload_n 0, 1) := by decide +kernel
theorem dX7_read_6 : decode cX7_read 6 = .ok (.iconst 0, 1) := by decide +kernel
theorem dX7_read_7 : decode cX7_read 7 = .ok (.putfield 19, 3) := by decide +kernel
theorem dX7_read_10 : decode cX7_read 10 = .ok (.aload_n 2, 1) := by decide +kernel
theorem dX7_read_11 : decode cX7_read 11 = .ok (.invokevirtual 23, 3) := by decide +kernel
theorem dX7_read_14 : decode cX7_read 14 = .ok (.aload_n 0, 1) := by decide +kernel
theorem dX7_read_15 : decode cX7_read 15 = .ok (.aload_n 2, 1) := by decide +kernel
theorem dX7_read_16 : decode cX7_read 16 = .ok (.invokevirtual 28, 3) := by decide +kernel
theorem dX7_read_19 : decode cX7_read 19 = .ok (.ifCond .eq 124, 3) := by decide +kernel
theorem dX7_read_22 : decode cX7_read 22 = .ok (.aload_n 0, 1) := by decide +kernel
theorem dX7_read_23 : decode cX7_read 23 = .ok (.bipush 32, 2) := by decide +kernel
theorem dX7_read_25 : decode cX7_read 25 = .ok (.invokevirtual 32, 3) := by decide +kernel
theorem dX7_read_28 : decode cX7_read 28 = .ok (.ifCond .eq 115, 3) := by decide +kernel
theorem dX7_read_31 : decode cX7_read 31 = .ok (.aload_n 0, 1) := by decide +kernel
theorem dX7_read_32 : decode cX7_read 32 = .ok (.aload_n 2, 1) := by decide +kernel
theorem dX7_read_33 : decode cX7_read 33 = .ok (.invokevirtual 36, 3) := by decide +kernel
theorem dX7_read_36 : decode cX7_read 36 = .ok (.ifCond .eq 107, 3) := by decide +kernel
theorem dX7_read_39 : decode cX7_read 39 = .ok (.aload_n 0, 1) := by decide +kernel
theorem dX7_read_40 : decode cX7_read 40 = .ok (.bipush 32, 2) := by decide +kernel
theorem dX7_read_42 : decode cX7_read 42 = .ok (.invokevirtual 32, 3) := by decide +kernel
theorem dX7_read_45 : decode cX7_read 45 = .ok (.ifCond .eq 98, 3) := by decide +kernel
theorem dX7_read_48 : decode cX7_read 48 = .ok (.aload_n 0, 1) := by decide +kernel
theorem dX7_read_49 : decode cX7_read 49 = .ok (.aload_n 2, 1) := by decide +kernel
theorem dX7_read_50 : decode cX7_read 50 = .ok (.invokevirtual 39, 3) := by decide +kernel
theorem dX7_read_53 : decode cX7_read 53 = .ok (.ifCond .eq 90, 3) := by decide +kernel
theorem dX7_read_56 : decode cX7_read 56 = .ok (.aload_n 0, 1) := by decide +kernel
theorem dX7_read_57 : decode cX7_read 57 = .ok (.bipush 32, 2) := by decide +kernel
theorem dX7_read_59 : decode cX7_read 59 = .ok (.invokevirtual 32, 3) := by decide +kernel
theorem dX7_read_62 : decode cX7_read 62 = .ok (.ifCond .eq 81, 3) := by decide +kernel
theorem dX7_read_65 : decode cX7_read 65 = .ok (.aload_n 0, 1) := by decide +kernel
theorem dX7_read_66 : decode cX7_read 66 = .ok (.aload_n 2, 1) := by decide +kernel
theorem dX7_read_67 : decode cX7_read 67 = .ok (.invokevirtual 42, 3) := by decide +kernel
theorem dX7_read_70 : decode cX7_read 70 = .ok (.ifCond .eq 73, 3) := by decide +kernel
theorem dX7_read_73 : decode cX7_read 73 = .ok (.aload_n 0, 1) := by decide +kernel
theorem dX7_read_74 : decode cX7_read 74 = .ok (.bipush 32, 2) := by decide +kernel
theorem dX7_read_76 : decode cX7_read 76 = .ok (.invokevirtual 32, 3) := by decide +kernel
theorem dX7_read_79 : decode cX7_read 79 = .ok (.ifCond .eq 64, 3) := by decide +kernel
theorem dX7_read_82 : decode cX7_read 82 = .ok (.aload_n 0, 1) := by decide +kernel
theorem dX7_read_83 : decode cX7_read 83 = .ok (.aload_n 2, 1) := by decide +kernel
theorem dX7_read_84 : decode cX7_read 84 = .ok (.invokevirtual 45, 3) := by decide +kernel
theorem dX7_read_87 : decode cX7_read 87 = .ok (.ifCond .eq 56, 3) := by decide +kernel
theorem dX7_read_90 : decode cX7_read 90 = .ok (.aload_n 0, 1) := by decide +kernel
theorem dX7_read_91 : decode cX7_read 91 = .ok (.bipush 32, 2) := by decide +kernel
theorem dX7_read_93 : decode cX7_read 93 = .ok (.invokevirtual 32, 3) := by decide +kernel
theorem dX7_read_96 : decode cX7_read 96 = .ok (.ifCond .eq 47, 3) := by decide +kernel
theorem dX7_read_99 : decode cX7_read 99 = .ok (.aload_n 0, 1) := by decide +kernel
theorem dX7_read_100 : decode cX7_read 100 = .ok (.aload_n 2, 1) := by decide +kernel
theorem dX7_read_101 : decode cX7_read 101 = .ok (.invokevirtual 48, 3) := by decide +kernel
theorem dX7_read_104 : decode cX7_read 104 = .ok (.ifCond .eq 39, 3) := by decide +kernel
theorem dX7_read_107 : decode cX7_read 107 = .ok (.aload_n 0, 1) := by decide +kernel
theorem dX7_read_108 : decode cX7_read 108 = .ok (.bipush 32, 2) := by decide +kernel
theorem dX7_read_110 : decode cX7_read 110 = .ok (.invokevirtual 32, 3) := by decide +kernel
theorem dX7_read_113 : decode cX7_read 113 = .ok (.ifCond .eq 30, 3) := by decide +kernel
theorem dX7_read_116 : decode cX7_read 116 = .ok (.aload_n 0, 1) := by decide +kernel
theorem dX7_read_117 : decode cX7_read 117 = .ok (.aload_n 2, 1) := by decide +kernel
theorem dX7_read_118 : decode cX7_read 118 = .ok (.invokevirtual 51, 3) := by decide +kernel
theorem dX7_read_121 : decode cX7_read 121 = .ok (.ifCond .eq 22, 3) := by decide +kernel
theorem dX7_read_124 : decode cX7_read 124 = .ok (.aload_n 0, 1) := by decide +kernel
theorem dX7_read_125 : decode cX7_read 125 = .ok (.getfield 15, 3) := by decide +kernel
theorem dX7_read_128 : decode cX7_read 128 = .ok (.aload_n 0, 1) := by decide +kernel
theorem dX7_read_129 : decode cX7_read 129 = .ok (.getfield 19, 3) := by decide +kernel
theorem dX7_read_132 : decode cX7_read 132 = .ok (.invokevirtual 54, 3) := by decide +kernel
theorem dX7_read_135 : decode cX7_read 135 = .ok (.iconst (-1), 1) := by decide +kernel
theorem dX7_read_136 : decode cX7_read 136 = .ok (.if_icmp .ne 7, 3) := by decide +kernel
theorem dX7_read_139 : decode cX7_read 139 = .ok (.iconst 1, 1) := by decide +kernel
theorem dX7_read_140 : decode cX7_read 140 = .ok (.goto 4, 3) := by decide +kernel
theorem dX7_read_143 : decode cX7_read 143 = .ok (.iconst 0, 1) := by decide +kernel
theorem dX7_read_144 : decode cX7_read 144 = .ok (.istore_n 3, 1) := by decide +kernel
theorem dX7_read_145 : decode cX7_read 145 = .ok (.iload_n 3, 1) := by decide +kernel
theorem dX7_read_146 : decode cX7_read 146 = .ok (.ifCond .eq 7, 3) := by decide +kernel
theorem dX7_read_149 : decode cX7_read 149 = .ok (.iconst (-1), 1) := by decide +kernel
theorem dX7_read_150 : decode cX7_read 150 = .ok (.goto 7, 3) := by decide +kernel
theorem dX7_read_153 : decode cX7_read 153 = .ok (.aload_n 0, 1) := by decide +kernel
theorem dX7_read_154 : decode cX7_read 154 = .ok (.getfield 19, 3) := by decide +kernel
theorem dX7_read_157 : decode cX7_read 157 = .ok (.ireturn, 1) := by decide +kernel
def sX7_read_157 (F : Nat) (h : Hp) (t0 : Int32) : Option (Int32 × Hp) := some (t0, h)
def sX7_read_144 (F : Nat) (h : Hp) (x0 : Nat) (t0 : Int32) : Option (Int32 × Hp) := br (t0 = 0) (sX7_read_157 F h (hI h x0 2)) (sX7_read_157 F h (-1 : Int32))
def sX7_read_143 (F : Nat) (h : Hp) (x0 : Nat) : Option (Int32 × Hp) := sX7_read_144 F h x0 (0 : Int32)
def sX7_read (F : Nat) (h : Hp) (x0 : Nat) (x1 : Nat) (x2 : Nat) : Option (Int32 × Hp) := nm (wR h x0 1 (some x1)) fun h_1 => nm (wI h_1 x0 2 (0 : Int32)) fun h_2 => cl (sX3_clear F h_2 x2) fun o_3 => cl (sX7_readRanks F o_3 x0 x2) fun o_4 => br (o_4.1 = 0) (sX7_read_143 F o_4.2 x0) (cl (sX7_takeByte o_4.2 x0 (32 : Int32)) fun o_6 => br (o_6.1 = 0) (sX7_read_143 F o_6.2 x0) (cl (sX7_readSide o_6.2 x0 x2) fun o_8 => br (o_8.1 = 0) (sX7_read_143 F o_8.2 x0) (cl (sX7_takeByte o_8.2 x0 (32 : Int32)) fun o_10 => br (o_10.1 = 0) (sX7_read_143 F o_10.2 x0) (cl (sX7_readRights F o_10.2 x0 x2) fun o_12 => br (o_12.1 = 0) (sX7_read_143 F o_12.2 x0) (cl (sX7_takeByte o_12.2 x0 (32 : Int32)) fun o_14 => br (o_14.1 = 0) (sX7_read_143 F o_14.2 x0) (cl (sX7_readPass F o_14.2 x0 x2) fun o_16 => br (o_16.1 = 0) (sX7_read_143 F o_16.2 x0) (cl (sX7_takeByte o_16.2 x0 (32 : Int32)) fun o_18 => br (o_18.1 = 0) (sX7_read_143 F o_18.2 x0) (cl (sX7_readHands F o_18.2 x0 x2) fun o_20 => br (o_20.1 = 0) (sX7_read_143 F o_20.2 x0) (cl (sX7_takeByte o_20.2 x0 (32 : Int32)) fun o_22 => br (o_22.1 = 0) (sX7_read_143 F o_22.2 x0) (cl (sX7_readChecks F o_22.2 x0 x2) fun o_24 => br (o_24.1 = 0) (sX7_read_143 F o_24.2 x0) (cl (sX7_takeByte o_24.2 x0 (32 : Int32)) fun o_26 => br (o_26.1 = 0) (sX7_read_143 F o_26.2 x0) (cl (sX7_readClock F o_26.2 x0 x2) fun o_28 => br (o_28.1 = 0) (sX7_read_143 F o_28.2 x0) (cl (hR o_28.2 x0 1) fun r_30 => cl (sX9_byteAt o_28.2 r_30 (hI o_28.2 x0 2)) fun o_31 => br (o_31.1 = (-1 : Int32)) (sX7_read_144 F o_31.2 x0 (1 : Int32)) (sX7_read_143 F o_31.2 x0))))))))))))))
set_option maxRecDepth 20000 in
theorem bX7_read_157 {p : Program} {l : Launch} {e : Env} {s : State} {m : MethodId} {args : Array Value} {below : List Frame} {meth : Method} {c : Code} {X : Ec} {h0 : Hp} {o : Int32 × Hp} {F : Nat} (C : Cx X p s m args meth c RX7 cX7_read 4 (some .int) "read") {h : Hp} {t0 : Int32} {H : Heap} {locs : List Loc} (hkm : Km h0 h) (hW : Wx X h H) (hZ : va_S (aA (eB X)) s.heap H locs) (ls : Array Slot) (hl : lv_has ls 4 []) (hE : sX7_read_157 F h  t0 = some o) : W p l e (rm 3 71) s m args below meth c H locs 0 0 (MQ below (QI X h0 o.1 o.2) args s 0 0 (aA (eB X))) (F0 m 157 ls [.int t0]) := by
  exact x_iret C rfl rfl hW hZ hkm hE dX7_read_157
set_option maxRecDepth 20000 in
theorem bX7_read_144 {p : Program} {l : Launch} {e : Env} {s : State} {m : MethodId} {args : Array Value} {below : List Frame} {meth : Method} {c : Code} {X : Ec} {h0 : Hp} {o : Int32 × Hp} {F : Nat} (C : Cx X p s m args meth c RX7 cX7_read 4 (some .int) "read") {h : Hp} {x0 : Nat} {t0 : Int32} {H : Heap} {locs : List Loc} (k_x0 : hK h x0 = 7) (hkm : Km h0 h) (hW : Wx X h H) (hZ : va_S (aA (eB X)) s.heap H locs) (ls : Array Slot) (hl : lv_has ls 4 [(0, .ref x0)]) (hE : sX7_read_144 F h x0 t0 = some o) : W p l e (rm 3 71) s m args below meth c H locs 0 0 (MQ below (QI X h0 o.1 o.2) args s 0 0 (aA (eB X))) (F0 m 144 ls [.int t0]) := by
  refine lv_istore_n (lv' := [(3, .int t0), (0, .ref x0)]) C.1 C.2.1 dX7_read_144 rfl hl (by decide) rfl (fun ls hl => ?_)
  refine lv_iload_n C.1 C.2.1 dX7_read_145 rfl (lv_at hl 0 rfl) ?_
  refine lv_if_eq (tgt := 153) C.1 C.2.1 dX7_read_146 (by decide) (fun c_1 => ?_) (fun c_1 => ?_)
  · have hE := br_p hE c_1
    refine lv_aload_n C.1 C.2.1 dX7_read_153 rfl (lv_at hl 1 rfl) ?_
    refine gf_X7_19 C hW k_x0 dX7_read_154 ?_
    exact bX7_read_157 C hkm hW hZ _ (lv_sub hl [] rfl) hE
  · have hE := br_n hE c_1
    refine lv_iconst (v := (-1 : Int32)) C.1 C.2.1 dX7_read_149 (by decide) ?_
    refine lv_goto (tgt := 157) C.1 C.2.1 dX7_read_150 (by decide) ?_
    exact bX7_read_157 C hkm hW hZ _ (lv_sub hl [] rfl) hE
set_option maxRecDepth 20000 in
theorem bX7_read_143 {p : Program} {l : Launch} {e : Env} {s : State} {m : MethodId} {args : Array Value} {below : List Frame} {meth : Method} {c : Code} {X : Ec} {h0 : Hp} {o : Int32 × Hp} {F : Nat} (C : Cx X p s m args meth c RX7 cX7_read 4 (some .int) "read") {h : Hp} {x0 : Nat} {H : Heap} {locs : List Loc} (k_x0 : hK h x0 = 7) (hkm : Km h0 h) (hW : Wx X h H) (hZ : va_S (aA (eB X)) s.heap H locs) (ls : Array Slot) (hl : lv_has ls 4 [(0, .ref x0)]) (hE : sX7_read_143 F h x0 = some o) : W p l e (rm 3 71) s m args below meth c H locs 0 0 (MQ below (QI X h0 o.1 o.2) args s 0 0 (aA (eB X))) (F0 m 143 ls []) := by
  refine lv_iconst (v := (0 : Int32)) C.1 C.2.1 dX7_read_143 (by decide) ?_
  exact bX7_read_144 C k_x0 hkm hW hZ _ (lv_sub hl [0] rfl) hE
set_option maxRecDepth 20000 in
theorem ct_X7_read (l : Launch) (X : Ec) (F : Nat) {h : Hp} {x0 : Nat} {x1 : Nat} {x2 : Nat} {o : Int32 × Hp} (k_x0 : hK h x0 = 7) (k_x1 : hK h x1 = 9) (k_x2 : hK h x2 = 3) (hE : sX7_read F h x0 x1 x2 = some o) : MetI l yX7_read cX7_read 4 (some .int) 3 71 X [.ref x0, .ref x1, .ref x2] h o := by
  refine x_met (by decide) (Nat.le_of_ble_eq_true rfl) ?_
  intro p e s m below meth c ls C hl hW hZ
  have hl : lv_has ls 4 [(0, .ref x0), (1, .ref x1), (2, .ref x2)] := hl
  have hkm : Km h h := Km.rf h
  refine lv_aload_n C.1 C.2.1 dX7_read_0 rfl (lv_at hl 0 rfl) ?_
  refine lv_aload_n C.1 C.2.1 dX7_read_1 rfl (lv_at hl 1 rfl) ?_
  obtain ⟨h_1, eh_1, hE⟩ := nm_e2 hE
  refine pf_X7_15 C hW hZ k_x0 k_x1 eh_1 dX7_read_2 (fun _ _ hW km hZ => ?_)
  replace hkm := hkm.tr km
  replace k_x0 := km.at k_x0 (by decide)
  replace k_x1 := km.at k_x1 (by decide)
  replace k_x2 := km.at k_x2 (by decide)
  refine lv_aload_n C.1 C.2.1 dX7_read_5 rfl (lv_at hl 0 rfl) ?_
  refine lv_iconst (v := (0 : Int32)) C.1 C.2.1 dX7_read_6 (by decide) ?_
  obtain ⟨h_2, eh_2, hE⟩ := nm_e2 hE
  refine pf_X7_19 C hW hZ k_x0 eh_2 dX7_read_7 (fun _ _ hW km hZ => ?_)
  replace hkm := hkm.tr km
  replace k_x0 := km.at k_x0 (by decide)
  replace k_x1 := km.at k_x1 (by decide)
  replace k_x2 := km.at k_x2 (by decide)
  refine lv_aload_n C.1 C.2.1 dX7_read_10 rfl (lv_at hl 2 rfl) ?_
  obtain ⟨o_3, eo_3, hE⟩ := cl_e hE
  refine x_kV (o := o_3) (z_runV (As := []) (rest := []) C (ct_X3_clear l X F k_x2 eo_3) cw_X7_23 hW hZ k_x2 (by decide) rfl rfl rfl hl.1 (Nat.le_of_ble_eq_true rfl) rfl dX7_read_11 ⟨Nat.le_of_ble_eq_true rfl, Nat.le_of_ble_eq_true rfl⟩ ⟨Nat.le_refl _, Nat.le_refl _⟩) hZ (fun _ _ hW km hZ => ?_)
  replace hkm := hkm.tr km
  replace k_x0 := km.at k_x0 (by decide)
  replace k_x1 := km.at k_x1 (by decide)
  replace k_x2 := km.at k_x2 (by decide)
  refine lv_aload_n C.1 C.2.1 dX7_read_14 rfl (lv_at hl 0 rfl) ?_
  refine lv_aload_n C.1 C.2.1 dX7_read_15 rfl (lv_at hl 2 rfl) ?_
  obtain ⟨o_4, eo_4, hE⟩ := cl_e hE
  refine x_kI (o := o_4) (z_runV (As := [.ref x2]) (rest := []) C (ct_X7_readRanks l X F k_x0 k_x2 eo_4) cw_X7_28 hW hZ k_x0 (by decide) rfl rfl rfl hl.1 (Nat.le_of_ble_eq_true rfl) rfl dX7_read_16 ⟨Nat.le_of_ble_eq_true rfl, Nat.le_of_ble_eq_true rfl⟩ ⟨Nat.le_refl _, Nat.le_refl _⟩) hZ (fun _ _ hW km hZ => ?_)
  replace hkm := hkm.tr km
  replace k_x0 := km.at k_x0 (by decide)
  replace k_x1 := km.at k_x1 (by decide)
  replace k_x2 := km.at k_x2 (by decide)
  refine lv_if_eq (tgt := 143) C.1 C.2.1 dX7_read_19 (by decide) (fun c_5 => ?_) (fun c_5 => ?_)
  · have hE := br_p hE c_5
    exact bX7_read_143 C k_x0 hkm hW hZ _ (lv_sub hl [0] rfl) hE
  · have hE := br_n hE c_5
    refine lv_aload_n C.1 C.2.1 dX7_read_22 rfl (lv_at hl 0 rfl) ?_
    refine lv_bipush (v := (32 : Int32)) C.1 C.2.1 dX7_read_23 (by decide) ?_
    obtain ⟨o_6, eo_6, hE⟩ := cl_e hE
    refine x_kI (o := o_6) (z_runV (As := [.int (32 : Int32)]) (rest := []) C (ct_X7_takeByte l X k_x0 eo_6) cw_X7_32 hW hZ k_x0 (by decide) rfl rfl rfl hl.1 (Nat.le_of_ble_eq_true rfl) rfl dX7_read_25 ⟨Nat.le_of_ble_eq_true rfl, Nat.le_of_ble_eq_true rfl⟩ ⟨Nat.le_refl _, Nat.le_refl _⟩) hZ (fun _ _ hW km hZ => ?_)
    replace hkm := hkm.tr km
    replace k_x0 := km.at k_x0 (by decide)
    replace k_x1 := km.at k_x1 (by decide)
    replace k_x2 := km.at k_x2 (by decide)
    refine lv_if_eq (tgt := 143) C.1 C.2.1 dX7_read_28 (by decide) (fun c_7 => ?_) (fun c_7 => ?_)
    · have hE := br_p hE c_7
      exact bX7_read_143 C k_x0 hkm hW hZ _ (lv_sub hl [0] rfl) hE
    · have hE := br_n hE c_7
      refine lv_aload_n C.1 C.2.1 dX7_read_31 rfl (lv_at hl 0 rfl) ?_
      refine lv_aload_n C.1 C.2.1 dX7_read_32 rfl (lv_at hl 2 rfl) ?_
      obtain ⟨o_8, eo_8, hE⟩ := cl_e hE
      refine x_kI (o := o_8) (z_runV (As := [.ref x2]) (rest := []) C (ct_X7_readSide l X k_x0 k_x2 eo_8) cw_X7_36 hW hZ k_x0 (by decide) rfl rfl rfl hl.1 (Nat.le_of_ble_eq_true rfl) rfl dX7_read_33 ⟨Nat.le_of_ble_eq_true rfl, Nat.le_of_ble_eq_true rfl⟩ ⟨Nat.le_refl _, Nat.le_refl _⟩) hZ (fun _ _ hW km hZ => ?_)
      replace hkm := hkm.tr km
      replace k_x0 := km.at k_x0 (by decide)
      replace k_x1 := km.at k_x1 (by decide)
      replace k_x2 := km.at k_x2 (by decide)
      refine lv_if_eq (tgt := 143) C.1 C.2.1 dX7_read_36 (by decide) (fun c_9 => ?_) (fun c_9 => ?_)
      · have hE := br_p hE c_9
        exact bX7_read_143 C k_x0 hkm hW hZ _ (lv_sub hl [0] rfl) hE
      · have hE := br_n hE c_9
        refine lv_aload_n C.1 C.2.1 dX7_read_39 rfl (lv_at hl 0 rfl) ?_
        refine lv_bipush (v := (32 : Int32)) C.1 C.2.1 dX7_read_40 (by decide) ?_
        obtain ⟨o_10, eo_10, hE⟩ := cl_e hE
        refine x_kI (o := o_10) (z_runV (As := [.int (32 : Int32)]) (rest := []) C (ct_X7_takeByte l X k_x0 eo_10) cw_X7_32 hW hZ k_x0 (by decide) rfl rfl rfl hl.1 (Nat.le_of_ble_eq_true rfl) rfl dX7_read_42 ⟨Nat.le_of_ble_eq_true rfl, Nat.le_of_ble_eq_true rfl⟩ ⟨Nat.le_refl _, Nat.le_refl _⟩) hZ (fun _ _ hW km hZ => ?_)
        replace hkm := hkm.tr km
        replace k_x0 := km.at k_x0 (by decide)
        replace k_x1 := km.at k_x1 (by decide)
        replace k_x2 := km.at k_x2 (by decide)
        refine lv_if_eq (tgt := 143) C.1 C.2.1 dX7_read_45 (by decide) (fun c_11 => ?_) (fun c_11 => ?_)
        · have hE := br_p hE c_11
          exact bX7_read_143 C k_x0 hkm hW hZ _ (lv_sub hl [0] rfl) hE
        · have hE := br_n hE c_11
          refine lv_aload_n C.1 C.2.1 dX7_read_48 rfl (lv_at hl 0 rfl) ?_
          refine lv_aload_n C.1 C.2.1 dX7_read_49 rfl (lv_at hl 2 rfl) ?_
          obtain ⟨o_12, eo_12, hE⟩ := cl_e hE
          refine x_kI (o := o_12) (z_runV (As := [.ref x2]) (rest := []) C (ct_X7_readRights l X F k_x0 k_x2 eo_12) cw_X7_39 hW hZ k_x0 (by decide) rfl rfl rfl hl.1 (Nat.le_of_ble_eq_true rfl) rfl dX7_read_50 ⟨Nat.le_of_ble_eq_true rfl, Nat.le_of_ble_eq_true rfl⟩ ⟨Nat.le_refl _, Nat.le_refl _⟩) hZ (fun _ _ hW km hZ => ?_)
          replace hkm := hkm.tr km
          replace k_x0 := km.at k_x0 (by decide)
          replace k_x1 := km.at k_x1 (by decide)
          replace k_x2 := km.at k_x2 (by decide)
          refine lv_if_eq (tgt := 143) C.1 C.2.1 dX7_read_53 (by decide) (fun c_13 => ?_) (fun c_13 => ?_)
          · have hE := br_p hE c_13
            exact bX7_read_143 C k_x0 hkm hW hZ _ (lv_sub hl [0] rfl) hE
          · have hE := br_n hE c_13
            refine lv_aload_n C.1 C.2.1 dX7_read_56 rfl (lv_at hl 0 rfl) ?_
            refine lv_bipush (v := (32 : Int32)) C.1 C.2.1 dX7_read_57 (by decide) ?_
            obtain ⟨o_14, eo_14, hE⟩ := cl_e hE
            refine x_kI (o := o_14) (z_runV (As := [.int (32 : Int32)]) (rest := []) C (ct_X7_takeByte l X k_x0 eo_14) cw_X7_32 hW hZ k_x0 (by decide) rfl rfl rfl hl.1 (Nat.le_of_ble_eq_true rfl) rfl dX7_read_59 ⟨Nat.le_of_ble_eq_true rfl, Nat.le_of_ble_eq_true rfl⟩ ⟨Nat.le_refl _, Nat.le_refl _⟩) hZ (fun _ _ hW km hZ => ?_)
            replace hkm := hkm.tr km
            replace k_x0 := km.at k_x0 (by decide)
            replace k_x1 := km.at k_x1 (by decide)
            replace k_x2 := km.at k_x2 (by decide)
            refine lv_if_eq (tgt := 143) C.1 C.2.1 dX7_read_62 (by decide) (fun c_15 => ?_) (fun c_15 => ?_)
            · have hE := br_p hE c_15
              exact bX7_read_143 C k_x0 hkm hW hZ _ (lv_sub hl [0] rfl) hE
            · have hE := br_n hE c_15
              refine lv_aload_n C.1 C.2.1 dX7_read_65 rfl (lv_at hl 0 rfl) ?_
              refine lv_aload_n C.1 C.2.1 dX7_read_66 rfl (lv_at hl 2 rfl) ?_
              obtain ⟨o_16, eo_16, hE⟩ := cl_e hE
              refine x_kI (o := o_16) (z_runV (As := [.ref x2]) (rest := []) C (ct_X7_readPass l X F k_x0 k_x2 eo_16) cw_X7_42 hW hZ k_x0 (by decide) rfl rfl rfl hl.1 (Nat.le_of_ble_eq_true rfl) rfl dX7_read_67 ⟨Nat.le_of_ble_eq_true rfl, Nat.le_of_ble_eq_true rfl⟩ ⟨Nat.le_refl _, Nat.le_refl _⟩) hZ (fun _ _ hW km hZ => ?_)
              replace hkm := hkm.tr km
              replace k_x0 := km.at k_x0 (by decide)
              replace k_x1 := km.at k_x1 (by decide)
              replace k_x2 := km.at k_x2 (by decide)
              refine lv_if_eq (tgt := 143) C.1 C.2.1 dX7_read_70 (by decide) (fun c_17 => ?_) (fun c_17 => ?_)
              · have hE := br_p hE c_17
                exact bX7_read_143 C k_x0 hkm hW hZ _ (lv_sub hl [0] rfl) hE
              · have hE := br_n hE c_17
                refine lv_aload_n C.1 C.2.1 dX7_read_73 rfl (lv_at hl 0 rfl) ?_
                refine lv_bipush (v := (32 : Int32)) C.1 C.2.1 dX7_read_74 (by decide) ?_
                obtain ⟨o_18, eo_18, hE⟩ := cl_e hE
                refine x_kI (o := o_18) (z_runV (As := [.int (32 : Int32)]) (rest := []) C (ct_X7_takeByte l X k_x0 eo_18) cw_X7_32 hW hZ k_x0 (by decide) rfl rfl rfl hl.1 (Nat.le_of_ble_eq_true rfl) rfl dX7_read_76 ⟨Nat.le_of_ble_eq_true rfl, Nat.le_of_ble_eq_true rfl⟩ ⟨Nat.le_refl _, Nat.le_refl _⟩) hZ (fun _ _ hW km hZ => ?_)
                replace hkm := hkm.tr km
                replace k_x0 := km.at k_x0 (by decide)
                replace k_x1 := km.at k_x1 (by decide)
                replace k_x2 := km.at k_x2 (by decide)
                refine lv_if_eq (tgt := 143) C.1 C.2.1 dX7_read_79 (by decide) (fun c_19 => ?_) (fun c_19 => ?_)
                · have hE := br_p hE c_19
                  exact bX7_read_143 C k_x0 hkm hW hZ _ (lv_sub hl [0] rfl) hE
                · have hE := br_n hE c_19
                  refine lv_aload_n C.1 C.2.1 dX7_read_82 rfl (lv_at hl 0 rfl) ?_
                  refine lv_aload_n C.1 C.2.1 dX7_read_83 rfl (lv_at hl 2 rfl) ?_
                  obtain ⟨o_20, eo_20, hE⟩ := cl_e hE
                  refine x_kI (o := o_20) (z_runV (As := [.ref x2]) (rest := []) C (ct_X7_readHands l X F k_x0 k_x2 eo_20) cw_X7_45 hW hZ k_x0 (by decide) rfl rfl rfl hl.1 (Nat.le_of_ble_eq_true rfl) rfl dX7_read_84 ⟨Nat.le_of_ble_eq_true rfl, Nat.le_of_ble_eq_true rfl⟩ ⟨Nat.le_refl _, Nat.le_refl _⟩) hZ (fun _ _ hW km hZ => ?_)
                  replace hkm := hkm.tr km
                  replace k_x0 := km.at k_x0 (by decide)
                  replace k_x1 := km.at k_x1 (by decide)
                  replace k_x2 := km.at k_x2 (by decide)
                  refine lv_if_eq (tgt := 143) C.1 C.2.1 dX7_read_87 (by decide) (fun c_21 => ?_) (fun c_21 => ?_)
                  · have hE := br_p hE c_21
                    exact bX7_read_143 C k_x0 hkm hW hZ _ (lv_sub hl [0] rfl) hE
                  · have hE := br_n hE c_21
                    refine lv_aload_n C.1 C.2.1 dX7_read_90 rfl (lv_at hl 0 rfl) ?_
                    refine lv_bipush (v := (32 : Int32)) C.1 C.2.1 dX7_read_91 (by decide) ?_
                    obtain ⟨o_22, eo_22, hE⟩ := cl_e hE
                    refine x_kI (o := o_22) (z_runV (As := [.int (32 : Int32)]) (rest := []) C (ct_X7_takeByte l X k_x0 eo_22) cw_X7_32 hW hZ k_x0 (by decide) rfl rfl rfl hl.1 (Nat.le_of_ble_eq_true rfl) rfl dX7_read_93 ⟨Nat.le_of_ble_eq_true rfl, Nat.le_of_ble_eq_true rfl⟩ ⟨Nat.le_refl _, Nat.le_refl _⟩) hZ (fun _ _ hW km hZ => ?_)
                    replace hkm := hkm.tr km
                    replace k_x0 := km.at k_x0 (by decide)
                    replace k_x1 := km.at k_x1 (by decide)
                    replace k_x2 := km.at k_x2 (by decide)
                    refine lv_if_eq (tgt := 143) C.1 C.2.1 dX7_read_96 (by decide) (fun c_23 => ?_) (fun c_23 => ?_)
                    · have hE := br_p hE c_23
                      exact bX7_read_143 C k_x0 hkm hW hZ _ (lv_sub hl [0] rfl) hE
                    · have hE := br_n hE c_23
                      refine lv_aload_n C.1 C.2.1 dX7_read_99 rfl (lv_at hl 0 rfl) ?_
                      refine lv_aload_n C.1 C.2.1 dX7_read_100 rfl (lv_at hl 2 rfl) ?_
                      obtain ⟨o_24, eo_24, hE⟩ := cl_e hE
                      refine x_kI (o := o_24) (z_runV (As := [.ref x2]) (rest := []) C (ct_X7_readChecks l X F k_x0 k_x2 eo_24) cw_X7_48 hW hZ k_x0 (by decide) rfl rfl rfl hl.1 (Nat.le_of_ble_eq_true rfl) rfl dX7_read_101 ⟨Nat.le_of_ble_eq_true rfl, Nat.le_of_ble_eq_true rfl⟩ ⟨Nat.le_refl _, Nat.le_refl _⟩) hZ (fun _ _ hW km hZ => ?_)
                      replace hkm := hkm.tr km
                      replace k_x0 := km.at k_x0 (by decide)
                      replace k_x1 := km.at k_x1 (by decide)
                      replace k_x2 := km.at k_x2 (by decide)
                      refine lv_if_eq (tgt := 143) C.1 C.2.1 dX7_read_104 (by decide) (fun c_25 => ?_) (fun c_25 => ?_)
                      · have hE := br_p hE c_25
                        exact bX7_read_143 C k_x0 hkm hW hZ _ (lv_sub hl [0] rfl) hE
                      · have hE := br_n hE c_25
                        refine lv_aload_n C.1 C.2.1 dX7_read_107 rfl (lv_at hl 0 rfl) ?_
                        refine lv_bipush (v := (32 : Int32)) C.1 C.2.1 dX7_read_108 (by decide) ?_
                        obtain ⟨o_26, eo_26, hE⟩ := cl_e hE
                        refine x_kI (o := o_26) (z_runV (As := [.int (32 : Int32)]) (rest := []) C (ct_X7_takeByte l X k_x0 eo_26) cw_X7_32 hW hZ k_x0 (by decide) rfl rfl rfl hl.1 (Nat.le_of_ble_eq_true rfl) rfl dX7_read_110 ⟨Nat.le_of_ble_eq_true rfl, Nat.le_of_ble_eq_true rfl⟩ ⟨Nat.le_refl _, Nat.le_refl _⟩) hZ (fun _ _ hW km hZ => ?_)
                        replace hkm := hkm.tr km
                        replace k_x0 := km.at k_x0 (by decide)
                        replace k_x1 := km.at k_x1 (by decide)
                        replace k_x2 := km.at k_x2 (by decide)
                        refine lv_if_eq (tgt := 143) C.1 C.2.1 dX7_read_113 (by decide) (fun c_27 => ?_) (fun c_27 => ?_)
                        · have hE := br_p hE c_27
                          exact bX7_read_143 C k_x0 hkm hW hZ _ (lv_sub hl [0] rfl) hE
                        · have hE := br_n hE c_27
                          refine lv_aload_n C.1 C.2.1 dX7_read_116 rfl (lv_at hl 0 rfl) ?_
                          refine lv_aload_n C.1 C.2.1 dX7_read_117 rfl (lv_at hl 2 rfl) ?_
                          obtain ⟨o_28, eo_28, hE⟩ := cl_e hE
                          refine x_kI (o := o_28) (z_runV (As := [.ref x2]) (rest := []) C (ct_X7_readClock l X F k_x0 k_x2 eo_28) cw_X7_51 hW hZ k_x0 (by decide) rfl rfl rfl hl.1 (Nat.le_of_ble_eq_true rfl) rfl dX7_read_118 ⟨Nat.le_of_ble_eq_true rfl, Nat.le_of_ble_eq_true rfl⟩ ⟨Nat.le_refl _, Nat.le_refl _⟩) hZ (fun _ _ hW km hZ => ?_)
                          replace hkm := hkm.tr km
                          replace k_x0 := km.at k_x0 (by decide)
                          replace k_x1 := km.at k_x1 (by decide)
                          replace k_x2 := km.at k_x2 (by decide)
                          refine lv_if_eq (tgt := 143) C.1 C.2.1 dX7_read_121 (by decide) (fun c_29 => ?_) (fun c_29 => ?_)
                          · have hE := br_p hE c_29
                            exact bX7_read_143 C k_x0 hkm hW hZ _ (lv_sub hl [0] rfl) hE
                          · have hE := br_n hE c_29
                            refine lv_aload_n C.1 C.2.1 dX7_read_124 rfl (lv_at hl 0 rfl) ?_
                            obtain ⟨r_30, er_30, hE⟩ := cl_e hE
                            refine gf_X7_15 C hW k_x0 er_30 dX7_read_125 (fun k_r_30 => ?_)
                            refine lv_aload_n C.1 C.2.1 dX7_read_128 rfl (lv_at hl 0 rfl) ?_
                            refine gf_X7_19 C hW k_x0 dX7_read_129 ?_
                            obtain ⟨o_31, eo_31, hE⟩ := cl_e hE
                            refine x_kI (o := o_31) (z_runV (As := [.int (hI o_28.2 x0 2)]) (rest := []) C (ct_X9_byteAt l X k_r_30 eo_31) cw_X7_54 hW hZ k_r_30 (by decide) rfl rfl rfl hl.1 (Nat.le_of_ble_eq_true rfl) rfl dX7_read_132 ⟨Nat.le_of_ble_eq_true rfl, Nat.le_of_ble_eq_true rfl⟩ ⟨Nat.le_refl _, Nat.le_refl _⟩) hZ (fun _ _ hW km hZ => ?_)
                            replace hkm := hkm.tr km
                            replace k_x0 := km.at k_x0 (by decide)
                            replace k_x1 := km.at k_x1 (by decide)
                            replace k_x2 := km.at k_x2 (by decide)
                            refine lv_iconst (v := (-1 : Int32)) C.1 C.2.1 dX7_read_135 (by decide) ?_
                            refine lv_icmp_ne (tgt := 143) C.1 C.2.1 dX7_read_136 (by decide) (fun c_32 => ?_) (fun c_32 => ?_)
                            · have hE := br_n hE c_32
                              exact bX7_read_143 C k_x0 hkm hW hZ _ (lv_sub hl [0] rfl) hE
                            · have hE := br_p hE c_32
                              refine lv_iconst (v := (1 : Int32)) C.1 C.2.1 dX7_read_139 (by decide) ?_
                              refine lv_goto (tgt := 144) C.1 C.2.1 dX7_read_140 (by decide) ?_
                              exact bX7_read_144 C k_x0 hkm hW hZ _ (lv_sub hl [0] rfl) hE
theorem m_1123 : Cond.methodLink RX7 118 yX9_append ∈ W0 := w0_in (List.mem_append_right _ (List.mem_of_getElem? (i := 1123) (by decide +kernel))) rfl
theorem cw_X7_118 : cwd RX7 118 yX9_append cX9_append 2 none false 1 := ⟨m_640, m_1123, m_2, ⟨m_638, m_639⟩, by decide, by decide, by decide +kernel⟩
theorem dX7_writeEmpty_0 : decode cX7_writeEmpty 0 = .ok (.iload_n 0, 1) := by decide +kernel
theorem dX7_writeEmpty_1 : decode cX7_writeEmpty 1 = .ok (.ifCond .le 11, 3) := by decide +kernel
theorem dX7_writeEmpty_4 : decode cX7_writeEmpty 4 = .ok (.aload_n 1, 1) := by decide +kernel
theorem dX7_writeEmpty_5 : decode cX7_writeEmpty 5 = .ok (.bipush 48, 2) := by decide +kernel
theorem dX7_writeEmpty_7 : decode cX7_writeEmpty 7 = .ok (.iload_n 0, 1) := by decide +kernel
theorem dX7_writeEmpty_8 : decode cX7_writeEmpty 8 = .ok (.iadd, 1) := by decide +kernel
theorem dX7_writeEmpty_9 : decode cX7_writeEmpty 9 = .ok (.invokevirtual 118, 3) := by decide +kernel
theorem dX7_writeEmpty_12 : decode cX7_writeEmpty 12 = .ok (.return_, 1) := by decide +kernel
def sX7_writeEmpty_12 (h : Hp) : Option (Hp) := some h
def sX7_writeEmpty (h : Hp) (x0 : Int32) (x1 : Nat) : Option (Hp) := br (x0 ≤ 0) (sX7_writeEmpty_12  h ) (cl (sX9_append h x1 ((48 : Int32) + x0)) fun o_2 => sX7_writeEmpty_12  o_2 )
set_option maxRecDepth 20000 in
theorem bX7_writeEmpty_12 {p : Program} {l : Launch} {e : Env} {s : State} {m : MethodId} {args : Array Value} {below : List Frame} {meth : Method} {c : Code} {X : Ec} {h0 : Hp} {o : Hp} (C : Cx X p s m args meth c RX7 cX7_writeEmpty 2 none "writeEmpty") {h : Hp} {H : Heap} {locs : List Loc} (hkm : Km h0 h) (hW : Wx X h H) (hZ : va_S (aA (eB X)) s.heap H locs) (ls : Array Slot) (hl : lv_has ls 2 []) (hE : sX7_writeEmpty_12 h  = some o) : W p l e (rm 1 21) s m args below meth c H locs 0 0 (MQ below (QV X h0 o) args s 0 0 (aA (eB X))) (F0 m 12 ls []) := by
  exact x_vret C rfl hW hZ hkm hE dX7_writeEmpty_12
set_option maxRecDepth 20000 in
theorem ct_X7_writeEmpty (l : Launch) (X : Ec) {h : Hp} {x0 : Int32} {x1 : Nat} {o : Hp} (k_x1 : hK h x1 = 9) (hE : sX7_writeEmpty h x0 x1 = some o) : MetV l yX7_writeEmpty cX7_writeEmpty 2 none 1 21 X [.int x0, .ref x1] h o := by
  refine x_met (by decide) (Nat.le_of_ble_eq_true rfl) ?_
  intro p e s m below meth c ls C hl hW hZ
  have hl : lv_has ls 2 [(0, .int x0), (1, .ref x1)] := hl
  have hkm : Km h h := Km.rf h
  refine lv_iload_n C.1 C.2.1 dX7_writeEmpty_0 rfl (lv_at hl 0 rfl) ?_
  refine lv_if_le (tgt := 12) C.1 C.2.1 dX7_writeEmpty_1 (by decide) (fun c_1 => ?_) (fun c_1 => ?_)
  · have hE := br_p hE c_1
    exact bX7_writeEmpty_12 C hkm hW hZ _ (lv_sub hl [] rfl) hE
  · have hE := br_n hE c_1
    refine lv_aload_n C.1 C.2.1 dX7_writeEmpty_4 rfl (lv_at hl 1 rfl) ?_
    refine lv_bipush (v := (48 : Int32)) C.1 C.2.1 dX7_writeEmpty_5 (by decide) ?_
    refine lv_iload_n C.1 C.2.1 dX7_writeEmpty_7 rfl (lv_at hl 0 rfl) ?_
    refine lv_iadd C.1 C.2.1 dX7_writeEmpty_8 ?_
    obtain ⟨o_2, eo_2, hE⟩ := cl_e hE
    refine x_kV (o := o_2) (z_runV (As := [.int ((48 : Int32) + x0)]) (rest := []) C (ct_X9_append l X k_x1 eo_2) cw_X7_118 hW hZ k_x1 (by decide) rfl rfl rfl hl.1 (Nat.le_of_ble_eq_true rfl) rfl dX7_writeEmpty_9 ⟨Nat.le_of_ble_eq_true rfl, Nat.le_of_ble_eq_true rfl⟩ ⟨Nat.le_refl _, Nat.le_refl _⟩) hZ (fun _ _ hW km hZ => ?_)
    replace hkm := hkm.tr km
    replace k_x1 := km.at k_x1 (by decide)
    exact bX7_writeEmpty_12 C hkm hW hZ _ (lv_sub hl [] rfl) hE
theorem m_280 : Cond.fieldLink RX7 134 (TX3 0).1 (TX3 0).2.1 (TX3 0).2.2.1 ∈ W0 := w0_in (List.mem_append_right _ (List.mem_of_getElem? (i := 280) (by decide +kernel))) rfl
theorem m_1120 : Cond.methodLink RX7 138 yX7_writeEmpty ∈ W0 := w0_in (List.mem_append_right _ (List.mem_of_getElem? (i := 1120) (by decide +kernel))) rfl
theorem m_1121 : Cond.static yX7_writeEmpty ∈ W0 := w0_in (List.mem_append_right _ (List.mem_of_getElem? (i := 1121) (by decide +kernel))) rfl
theorem m_1122 : Cond.code yX7_writeEmpty cX7_writeEmpty 2 none ∈ W0 := w0_in (List.mem_append_right _ (List.mem_of_getElem? (i := 1122) (by decide +kernel))) rfl
theorem m_1124 : Cond.methodLink RX7 142 yX1_letterOf ∈ W0 := w0_in (List.mem_append_right _ (List.mem_of_getElem? (i := 1124) (by decide +kernel))) rfl
theorem m_1125 : Cond.instanceMethod yX1_letterOf ∈ W0 := w0_in (List.mem_append_right _ (List.mem_of_getElem? (i := 1125) (by decide +kernel))) rfl
theorem m_1126 : Cond.selects RX1 yX1_letterOf yX1_letterOf ∈ W0 := w0_in (List.mem_append_right _ (List.mem_of_getElem? (i := 1126) (by decide +kernel))) rfl
theorem m_1127 : Cond.code yX1_letterOf cX1_letterOf 3 (some .int) ∈ W0 := w0_in (List.mem_append_right _ (List.mem_of_getElem? (i := 1127) (by decide +kernel))) rfl
section
variable {p : Program} {l : Launch} {e : Env} {R : Room} {s : State} {m : MethodId} {args : Array Value} {below : List Frame} {meth : Method} {c : Code} {H : Heap} {locs : List Loc} {cells slots : Nat} {Q : State → Prop}
variable {cc : ByteArray} {pc : Nat} {ls : Array Slot} {rest : List Value} {X : Ec} {h h1 : Hp} {nL : Nat} {rt : Option FieldType} {mn : String}
theorem gf_X7_134 {a r : Nat} (C : Cx X p s m args meth c RX7 cc nL rt mn) (hW : Wx X h H) (ha : hK h a = 3) (hr : hR h a 0 = some r) (hdg : decode cc pc = .ok (.getfield 134, 3)) (kk : hK h r = 16 → W p l e R s m args below meth c H locs cells slots Q (F0 m (pc + 3) ls (.ref r :: rest))) : W p l e R s m args below meth c H locs cells slots Q (F0 m pc ls (.ref a :: rest)) :=
  y_getr C hW ha i_X3 (by decide) rfl (by decide) m_280 rfl rfl hr hdg kk
end
theorem cw_X7_138 : cwd RX7 138 yX7_writeEmpty cX7_writeEmpty 2 none true 2 := ⟨m_1122, m_1120, m_10, m_1121, by decide, by decide, by decide +kernel⟩
theorem cw_X7_142 : cwd RX7 142 yX1_letterOf cX1_letterOf 3 (some .int) false 1 := ⟨m_1127, m_1124, m_4, ⟨m_1125, m_1126⟩, by decide, by decide, by decide +kernel⟩
theorem dX7_writeRanks_0 : decode cX7_writeRanks 0 = .ok (.aload_n 0, 1) := by decide +kernel
theorem dX7_writeRanks_1 : decode cX7_writeRanks 1 = .ok (.getfield 9, 3) := by decide +kernel
theorem dX7_writeRanks_4 : decode cX7_writeRanks 4 = .ok (.getfield 60, 3) := by decide +kernel
theorem dX7_writeRanks_7 : decode cX7_writeRanks 7 = .ok (.iconst 1, 1) := by decide +kernel
theorem dX7_writeRanks_8 : decode cX7_writeRanks 8 = .ok (.isub, 1) := by decide +kernel
theorem dX7_writeRanks_9 : decode cX7_writeRanks 9 = .ok (.istore 5, 2) := by decide +kernel
theorem dX7_writeRanks_11 : decode cX7_writeRanks 11 = .ok (.iload 5, 2) := by decide +kernel
theorem dX7_writeRanks_13 : decode cX7_writeRanks 13 = .ok (.ifCond .lt 146, 3) := by decide +kernel
theorem dX7_writeRanks_16 : decode cX7_writeRanks 16 = .ok (.iconst 0, 1) := by decide +kernel
theorem dX7_writeRanks_17 : decode cX7_writeRanks 17 = .ok (.istore 6, 2) := by decide +kernel
theorem dX7_writeRanks_19 : decode cX7_writeRanks 19 = .ok (.iconst 0, 1) := by decide +kernel
theorem dX7_writeRanks_20 : decode cX7_writeRanks 20 = .ok (.istore 7, 2) := by decide +kernel
theorem dX7_writeRanks_22 : decode cX7_writeRanks 22 = .ok (.iload 7, 2) := by decide +kernel
theorem dX7_writeRanks_24 : decode cX7_writeRanks 24 = .ok (.aload_n 0, 1) := by decide +kernel
theorem dX7_writeRanks_25 : decode cX7_writeRanks 25 = .ok (.getfield 9, 3) := by decide +kernel
theorem dX7_writeRanks_28 : decode cX7_writeRanks 28 = .ok (.getfield 65, 3) := by decide +kernel
theorem dX7_writeRanks_31 : decode cX7_writeRanks 31 = .ok (.if_icmp .ge 103, 3) := by decide +kernel
theorem dX7_writeRanks_34 : decode cX7_writeRanks 34 = .ok (.iload 5, 2) := by decide +kernel
theorem dX7_writeRanks_36 : decode cX7_writeRanks 36 = .ok (.aload_n 0, 1) := by decide +kernel
theorem dX7_writeRanks_37 : decode cX7_writeRanks 37 = .ok (.getfield 9, 3) := by decide +kernel
theorem dX7_writeRanks_40 : decode cX7_writeRanks 40 = .ok (.getfield 65, 3) := by decide +kernel
theorem dX7_writeRanks_43 : decode cX7_writeRanks 43 = .ok (.imul, 1) := by decide +kernel
theorem dX7_writeRanks_44 : decode cX7_writeRanks 44 = .ok (.iload 7, 2) := by decide +kernel
theorem dX7_writeRanks_46 : decode cX7_writeRanks 46 = .ok (.iadd, 1) := by decide +kernel
theorem dX7_writeRanks_47 : decode cX7_writeRanks 47 = .ok (.istore 8, 2) := by decide +kernel
theorem dX7_writeRanks_49 : decode cX7_writeRanks 49 = .ok (.lload_n 2, 1) := by decide +kernel
theorem dX7_writeRanks_50 : decode cX7_writeRanks 50 = .ok (.iload 8, 2) := by decide +kernel
theorem dX7_writeRanks_52 : decode cX7_writeRanks 52 = .ok (.lushr, 1) := by decide +kernel
theorem dX7_writeRanks_53 : decode cX7_writeRanks 53 = .ok (.lconst 1, 1) := by decide +kernel
theorem dX7_writeRanks_54 : decode cX7_writeRanks 54 = .ok (.land, 1) := by decide +kernel
theorem dX7_writeRanks_55 : decode cX7_writeRanks 55 = .ok (.lconst 0, 1) := by decide +kernel
theorem dX7_writeRanks_56 : decode cX7_writeRanks 56 = .ok (.lcmp, 1) := by decide +kernel
theorem dX7_writeRanks_57 : decode cX7_writeRanks 57 = .ok (.ifCond .ne 7, 3) := by decide +kernel
theorem dX7_writeRanks_60 : decode cX7_writeRanks 60 = .ok (.iconst 1, 1) := by decide +kernel
theorem dX7_writeRanks_61 : decode cX7_writeRanks 61 = .ok (.goto 4, 3) := by decide +kernel
theorem dX7_writeRanks_64 : decode cX7_writeRanks 64 = .ok (.iconst 0, 1) := by decide +kernel
theorem dX7_writeRanks_65 : decode cX7_writeRanks 65 = .ok (.istore 9, 2) := by decide +kernel
theorem dX7_writeRanks_67 : decode cX7_writeRanks 67 = .ok (.iload 9, 2) := by decide +kernel
theorem dX7_writeRanks_69 : decode cX7_writeRanks 69 = .ok (.ifCond .ne 20, 3) := by decide +kernel
theorem dX7_writeRanks_72 : decode cX7_writeRanks 72 = .ok (.aload_n 1, 1) := by decide +kernel
theorem dX7_writeRanks_73 : decode cX7_writeRanks 73 = .ok (.getfield 134, 3) := by decide +kernel
theorem dX7_writeRanks_76 : decode cX7_writeRanks 76 = .ok (.iload 8, 2) := by decide +kernel
theorem dX7_writeRanks_78 : decode cX7_writeRanks 78 = .ok (.baload, 1) := by decide +kernel
theorem dX7_writeRanks_79 : decode cX7_writeRanks 79 = .ok (.iconst (-1), 1) := by decide +kernel
theorem dX7_writeRanks_80 : decode cX7_writeRanks 80 = .ok (.if_icmp .ne 9, 3) := by decide +kernel
theorem dX7_writeRanks_83 : decode cX7_writeRanks 83 = .ok (.iinc 6 1, 3) := by decide +kernel
theorem dX7_writeRanks_86 : decode cX7_writeRanks 86 = .ok (.goto 42, 3) := by decide +kernel
theorem dX7_writeRanks_89 : decode cX7_writeRanks 89 = .ok (.iload 6, 2) := by decide +kernel
theorem dX7_writeRanks_91 : decode cX7_writeRanks 91 = .ok (.aload 4, 2) := by decide +kernel
theorem dX7_writeRanks_93 : decode cX7_writeRanks 93 = .ok (.invokestatic 138, 3) := by decide +kernel
theorem dX7_writeRanks_96 : decode cX7_writeRanks 96 = .ok (.iconst 0, 1) := by decide +kernel
theorem dX7_writeRanks_97 : decode cX7_writeRanks 97 = .ok (.istore 6, 2) := by decide +kernel
theorem dX7_writeRanks_99 : decode cX7_writeRanks 99 = .ok (.aload 4, 2) := by decide +kernel
theorem dX7_writeRanks_101 : decode cX7_writeRanks 101 = .ok (.iload 9, 2) := by decide +kernel
theorem dX7_writeRanks_103 : decode cX7_writeRanks 103 = .ok (.ifCond .eq 8, 3) := by decide +kernel
theorem dX7_writeRanks_106 : decode cX7_writeRanks 106 = .ok (.bipush 63, 2) := by decide +kernel
theorem dX7_writeRanks_108 : decode cX7_writeRanks 108 = .ok (.goto 17, 3) := by decide +kernel
theorem dX7_writeRanks_111 : decode cX7_writeRanks 111 = .ok (.aload_n 0, 1) := by decide +kernel
theorem dX7_writeRanks_112 : decode cX7_writeRanks 112 = .ok (.getfield 9, 3) := by decide +kernel
theorem dX7_writeRanks_115 : decode cX7_writeRanks 115 = .ok (.aload_n 1, 1) := by decide +kernel
theorem dX7_writeRanks_116 : decode cX7_writeRanks 116 = .ok (.getfield 134, 3) := by decide +kernel
theorem dX7_writeRanks_119 : decode cX7_writeRanks 119 = .ok (.iload 8, 2) := by decide +kernel
theorem dX7_writeRanks_121 : decode cX7_writeRanks 121 = .ok (.baload, 1) := by decide +kernel
theorem dX7_writeRanks_122 : decode cX7_writeRanks 122 = .ok (.invokevirtual 142, 3) := by decide +kernel
theorem dX7_writeRanks_125 : decode cX7_writeRanks 125 = .ok (.invokevirtual 118, 3) := by decide +kernel
theorem dX7_writeRanks_128 : decode cX7_writeRanks 128 = .ok (.iinc 7 1, 3) := by decide +kernel
theorem dX7_writeRanks_131 : decode cX7_writeRanks 131 = .ok (.goto (-109), 3) := by decide +kernel
theorem dX7_writeRanks_134 : decode cX7_writeRanks 134 = .ok (.iload 6, 2) := by decide +kernel
theorem dX7_writeRanks_136 : decode cX7_writeRanks 136 = .ok (.aload 4, 2) := by decide +kernel
theorem dX7_writeRanks_138 : decode cX7_writeRanks 138 = .ok (.invokestatic 138, 3) := by decide +kernel
theorem dX7_writeRanks_141 : decode cX7_writeRanks 141 = .ok (.iload 5, 2) := by decide +kernel
theorem dX7_writeRanks_143 : decode cX7_writeRanks 143 = .ok (.ifCond .le 10, 3) := by decide +kernel
theorem dX7_writeRanks_146 : decode cX7_writeRanks 146 = .ok (.aload 4, 2) := by decide +kernel
theorem dX7_writeRanks_148 : decode cX7_writeRanks 148 = .ok (.bipush 47, 2) := by decide +kernel
theorem dX7_writeRanks_150 : decode cX7_writeRanks 150 = .ok (.invokevirtual 118, 3) := by decide +kernel
theorem dX7_writeRanks_153 : decode cX7_writeRanks 153 = .ok (.iinc 5 (-1), 3) := by decide +kernel
theorem dX7_writeRanks_156 : decode cX7_writeRanks 156 = .ok (.goto (-145), 3) := by decide +kernel
theorem dX7_writeRanks_159 : decode cX7_writeRanks 159 = .ok (.return_, 1) := by decide +kernel
def sX7_writeRanks_153 (F : Nat) (k_11 : Hp → Nat → Nat → Int64 → Nat → Int32 → Option (Hp)) (h : Hp) (x0 : Nat) (x1 : Nat) (x2 : Int64) (x4 : Nat) (x5 : Int32) : Option (Hp) := nm (x5 + (-1 : Int32)) fun v_1 => k_11 h x0 x1 x2 x4 v_1
def sX7_writeRanks_128 (F : Nat) (k_11 : Hp → Nat → Nat → Int64 → Nat → Int32 → Option (Hp)) (k_22 : Hp → Nat → Nat → Int64 → Nat → Int32 → Int32 → Int32 → Option (Hp)) (h : Hp) (x0 : Nat) (x1 : Nat) (x2 : Int64) (x4 : Nat) (x5 : Int32) (x6 : Int32) (x7 : Int32) : Option (Hp) := nm (x7 + (1 : Int32)) fun v_1 => k_22 h x0 x1 x2 x4 x5 x6 v_1
def sX7_writeRanks_125 (F : Nat) (k_11 : Hp → Nat → Nat → Int64 → Nat → Int32 → Option (Hp)) (k_22 : Hp → Nat → Nat → Int64 → Nat → Int32 → Int32 → Int32 → Option (Hp)) (h : Hp) (x0 : Nat) (x1 : Nat) (x2 : Int64) (x4 : Nat) (x5 : Int32) (x6 : Int32) (x7 : Int32) (t0 : Int32) (t1 : Nat) : Option (Hp) := cl (sX9_append h t1 t0) fun o_1 => sX7_writeRanks_128 F k_11 k_22 o_1 x0 x1 x2 x4 x5 x6 x7
def sX7_writeRanks_89 (F : Nat) (k_11 : Hp → Nat → Nat → Int64 → Nat → Int32 → Option (Hp)) (k_22 : Hp → Nat → Nat → Int64 → Nat → Int32 → Int32 → Int32 → Option (Hp)) (h : Hp) (x0 : Nat) (x1 : Nat) (x2 : Int64) (x4 : Nat) (x5 : Int32) (x6 : Int32) (x7 : Int32) (x8 : Int32) (x9 : Int32) : Option (Hp) := cl (sX7_writeEmpty h x6 x4) fun o_1 => br (x9 = 0) (cl (hR o_1 x0 0) fun r_3 => cl (hR o_1 x1 0) fun r_4 => gd (inB x8 (hN o_1 r_4)) <| cl (sX1_letterOf o_1 r_3 (hI o_1 r_4 x8.toNatClampNeg)) fun o_6 => sX7_writeRanks_125 F k_11 k_22 o_6.2 x0 x1 x2 x4 x5 (0 : Int32) x7 o_6.1 x4) (sX7_writeRanks_125 F k_11 k_22 o_1 x0 x1 x2 x4 x5 (0 : Int32) x7 (63 : Int32) x4)
def sX7_writeRanks_65 (F : Nat) (k_11 : Hp → Nat → Nat → Int64 → Nat → Int32 → Option (Hp)) (k_22 : Hp → Nat → Nat → Int64 → Nat → Int32 → Int32 → Int32 → Option (Hp)) (h : Hp) (x0 : Nat) (x1 : Nat) (x2 : Int64) (x4 : Nat) (x5 : Int32) (x6 : Int32) (x7 : Int32) (x8 : Int32) (t0 : Int32) : Option (Hp) := br (t0 = 0) (cl (hR h x1 0) fun r_2 => gd (inB x8 (hN h r_2)) <| br ((hI h r_2 x8.toNatClampNeg) = (-1 : Int32)) (nm (x6 + (1 : Int32)) fun v_5 => sX7_writeRanks_128 F k_11 k_22 h x0 x1 x2 x4 x5 v_5 x7) (sX7_writeRanks_89 F k_11 k_22 h x0 x1 x2 x4 x5 x6 x7 x8 t0)) (sX7_writeRanks_89 F k_11 k_22 h x0 x1 x2 x4 x5 x6 x7 x8 t0)
def sX7_writeRanks_22 (F : Nat) (k_11 : Hp → Nat → Nat → Int64 → Nat → Int32 → Option (Hp)) : Nat → Hp → Nat → Nat → Int64 → Nat → Int32 → Int32 → Int32 → Option (Hp)
  | 0, _, _, _, _, _, _, _, _ => none
  | f + 1, h, x0, x1, x2, x4, x5, x6, x7 => cl (hR h x0 0) fun r_1 => br ((hI h r_1 0) ≤ x7) (cl (sX7_writeEmpty h x6 x4) fun o_3 => br (x5 ≤ 0) (sX7_writeRanks_153 F k_11 o_3 x0 x1 x2 x4 x5) (cl (sX9_append o_3 x4 (47 : Int32)) fun o_5 => sX7_writeRanks_153 F k_11 o_5 x0 x1 x2 x4 x5)) (cl (hR h x0 0) fun r_6 => nm ((x5 * (hI h r_6 0)) + x7) fun v_7 => br ((lg_cmp (((x2.toUInt64 >>> (v_7.toInt64.toUInt64 &&& Int64.toUInt64 63)).toInt64) &&& (1 : Int64)) (0 : Int64)) = 0) (sX7_writeRanks_65 F k_11 (sX7_writeRanks_22 F k_11 f) h x0 x1 x2 x4 x5 x6 x7 v_7 (1 : Int32)) (sX7_writeRanks_65 F k_11 (sX7_writeRanks_22 F k_11 f) h x0 x1 x2 x4 x5 x6 x7 v_7 (0 : Int32)))
def sX7_writeRanks_11 (F : Nat) : Nat → Hp → Nat → Nat → Int64 → Nat → Int32 → Option (Hp)
  | 0, _, _, _, _, _, _ => none
  | f + 1, h, x0, x1, x2, x4, x5 => br (x5 < 0) (some h) (sX7_writeRanks_22 F (sX7_writeRanks_11 F f) F h x0 x1 x2 x4 x5 (0 : Int32) (0 : Int32))
def sX7_writeRanks (F : Nat) (h : Hp) (x0 : Nat) (x1 : Nat) (x2 : Int64) (x4 : Nat) : Option (Hp) := cl (hR h x0 0) fun r_1 => nm ((hI h r_1 1) - (1 : Int32)) fun v_2 => sX7_writeRanks_11 F F h x0 x1 x2 x4 v_2
set_option maxRecDepth 20000 in
theorem bX7_writeRanks_153 {p : Program} {l : Launch} {e : Env} {s : State} {m : MethodId} {args : Array Value} {below : List Frame} {meth : Method} {c : Code} {X : Ec} {h0 : Hp} {o : Hp} {k_11 : Hp → Nat → Nat → Int64 → Nat → Int32 → Option (Hp)} {F : Nat} (C : Cx X p s m args meth c RX7 cX7_writeRanks 10 none "writeRanks") (hk_11 : ∀ (h : Hp) (x0 : Nat) (x1 : Nat) (x2 : Int64) (x4 : Nat) (x5 : Int32) (H : Heap) (locs : List Loc), hK h x0 = 7 → hK h x1 = 3 → hK h x4 = 9 → Km h0 h → Wx X h H → va_S (aA (eB X)) s.heap H locs → ∀ (ls : Array Slot), lv_has ls 10 [(0, .ref x0), (1, .ref x1), (2, .long x2), (4, .ref x4), (5, .int x5)] → k_11 h x0 x1 x2 x4 x5 = some o → W p l e (rm 2 42) s m args below meth c H locs 0 0 (MQ below (QV X h0 o) args s 0 0 (aA (eB X))) (F0 m 11 ls [])) {h : Hp} {x0 : Nat} {x1 : Nat} {x2 : Int64} {x4 : Nat} {x5 : Int32} {H : Heap} {locs : List Loc} (k_x0 : hK h x0 = 7) (k_x1 : hK h x1 = 3) (k_x4 : hK h x4 = 9) (hkm : Km h0 h) (hW : Wx X h H) (hZ : va_S (aA (eB X)) s.heap H locs) (ls : Array Slot) (hl : lv_has ls 10 [(0, .ref x0), (1, .ref x1), (2, .long x2), (4, .ref x4), (5, .int x5)]) (hE : sX7_writeRanks_153 F k_11 h x0 x1 x2 x4 x5 = some o) : W p l e (rm 2 42) s m args below meth c H locs 0 0 (MQ below (QV X h0 o) args s 0 0 (aA (eB X))) (F0 m 153 ls []) := by
  obtain ⟨v_1, ev_1, hE⟩ := nm_e2 hE
  refine lv_iinc (v := v_1) (lv' := [(5, .int v_1), (0, .ref x0), (1, .ref x1), (2, .long x2), (4, .ref x4)]) C.1 C.2.1 dX7_writeRanks_153 hl (k := 4) rfl (by rw [ev_1]; rfl) (by decide) rfl (fun ls hl => ?_)
  refine lv_goto (tgt := 11) C.1 C.2.1 dX7_writeRanks_156 (by decide) ?_
  exact hk_11 _ _ _ _ _ _ _ _ k_x0 k_x1 k_x4 hkm hW hZ _ (lv_sub hl [1, 2, 3, 4, 0] rfl) hE
set_option maxRecDepth 20000 in
theorem bX7_writeRanks_128 {p : Program} {l : Launch} {e : Env} {s : State} {m : MethodId} {args : Array Value} {below : List Frame} {meth : Method} {c : Code} {X : Ec} {h0 : Hp} {o : Hp} {k_11 : Hp → Nat → Nat → Int64 → Nat → Int32 → Option (Hp)} {k_22 : Hp → Nat → Nat → Int64 → Nat → Int32 → Int32 → Int32 → Option (Hp)} {F : Nat} (C : Cx X p s m args meth c RX7 cX7_writeRanks 10 none "writeRanks") (hk_11 : ∀ (h : Hp) (x0 : Nat) (x1 : Nat) (x2 : Int64) (x4 : Nat) (x5 : Int32) (H : Heap) (locs : List Loc), hK h x0 = 7 → hK h x1 = 3 → hK h x4 = 9 → Km h0 h → Wx X h H → va_S (aA (eB X)) s.heap H locs → ∀ (ls : Array Slot), lv_has ls 10 [(0, .ref x0), (1, .ref x1), (2, .long x2), (4, .ref x4), (5, .int x5)] → k_11 h x0 x1 x2 x4 x5 = some o → W p l e (rm 2 42) s m args below meth c H locs 0 0 (MQ below (QV X h0 o) args s 0 0 (aA (eB X))) (F0 m 11 ls [])) (hk_22 : ∀ (h : Hp) (x0 : Nat) (x1 : Nat) (x2 : Int64) (x4 : Nat) (x5 : Int32) (x6 : Int32) (x7 : Int32) (H : Heap) (locs : List Loc), hK h x0 = 7 → hK h x1 = 3 → hK h x4 = 9 → Km h0 h → Wx X h H → va_S (aA (eB X)) s.heap H locs → ∀ (ls : Array Slot), lv_has ls 10 [(0, .ref x0), (1, .ref x1), (2, .long x2), (4, .ref x4), (5, .int x5), (6, .int x6), (7, .int x7)] → k_22 h x0 x1 x2 x4 x5 x6 x7 = some o → W p l e (rm 2 42) s m args below meth c H locs 0 0 (MQ below (QV X h0 o) args s 0 0 (aA (eB X))) (F0 m 22 ls [])) {h : Hp} {x0 : Nat} {x1 : Nat} {x2 : Int64} {x4 : Nat} {x5 : Int32} {x6 : Int32} {x7 : Int32} {H : Heap} {locs : List Loc} (k_x0 : hK h x0 = 7) (k_x1 : hK h x1 = 3) (k_x4 : hK h x4 = 9) (hkm : Km h0 h) (hW : Wx X h H) (hZ : va_S (aA (eB X)) s.heap H locs) (ls : Array Slot) (hl : lv_has ls 10 [(0, .ref x0), (1, .ref x1), (2, .long x2), (4, .ref x4), (5, .int x5), (6, .int x6), (7, .int x7)]) (hE : sX7_writeRanks_128 F k_11 k_22 h x0 x1 x2 x4 x5 x6 x7 = some o) : W p l e (rm 2 42) s m args below meth c H locs 0 0 (MQ below (QV X h0 o) args s 0 0 (aA (eB X))) (F0 m 128 ls []) := by
  obtain ⟨v_1, ev_1, hE⟩ := nm_e2 hE
  refine lv_iinc (v := v_1) (lv' := [(7, .int v_1), (0, .ref x0), (1, .ref x1), (2, .long x2), (4, .ref x4), (5, .int x5), (6, .int x6)]) C.1 C.2.1 dX7_writeRanks_128 hl (k := 6) rfl (by rw [ev_1]; rfl) (by decide) rfl (fun ls hl => ?_)
  refine lv_goto (tgt := 22) C.1 C.2.1 dX7_writeRanks_131 (by decide) ?_
  exact hk_22 _ _ _ _ _ _ _ _ _ _ k_x0 k_x1 k_x4 hkm hW hZ _ (lv_sub hl [1, 2, 3, 4, 5, 6, 0] rfl) hE
set_option maxRecDepth 20000 in
theorem bX7_writeRanks_125 {p : Program} {l : Launch} {e : Env} {s : State} {m : MethodId} {args : Array Value} {below : List Frame} {meth : Method} {c : Code} {X : Ec} {h0 : Hp} {o : Hp} {k_11 : Hp → Nat → Nat → Int64 → Nat → Int32 → Option (Hp)} {k_22 : Hp → Nat → Nat → Int64 → Nat → Int32 → Int32 → Int32 → Option (Hp)} {F : Nat} (C : Cx X p s m args meth c RX7 cX7_writeRanks 10 none "writeRanks") (hk_11 : ∀ (h : Hp) (x0 : Nat) (x1 : Nat) (x2 : Int64) (x4 : Nat) (x5 : Int32) (H : Heap) (locs : List Loc), hK h x0 = 7 → hK h x1 = 3 → hK h x4 = 9 → Km h0 h → Wx X h H → va_S (aA (eB X)) s.heap H locs → ∀ (ls : Array Slot), lv_has ls 10 [(0, .ref x0), (1, .ref x1), (2, .long x2), (4, .ref x4), (5, .int x5)] → k_11 h x0 x1 x2 x4 x5 = some o → W p l e (rm 2 42) s m args below meth c H locs 0 0 (MQ below (QV X h0 o) args s 0 0 (aA (eB X))) (F0 m 11 ls [])) (hk_22 : ∀ (h : Hp) (x0 : Nat) (x1 : Nat) (x2 : Int64) (x4 : Nat) (x5 : Int32) (x6 : Int32) (x7 : Int32) (H : Heap) (locs : List Loc), hK h x0 = 7 → hK h x1 = 3 → hK h x4 = 9 → Km h0 h → Wx X h H → va_S (aA (eB X)) s.heap H locs → ∀ (ls : Array Slot), lv_has ls 10 [(0, .ref x0), (1, .ref x1), (2, .long x2), (4, .ref x4), (5, .int x5), (6, .int x6), (7, .int x7)] → k_22 h x0 x1 x2 x4 x5 x6 x7 = some o → W p l e (rm 2 42) s m args below meth c H locs 0 0 (MQ below (QV X h0 o) args s 0 0 (aA (eB X))) (F0 m 22 ls [])) {h : Hp} {x0 : Nat} {x1 : Nat} {x2 : Int64} {x4 : Nat} {x5 : Int32} {x6 : Int32} {x7 : Int32} {t0 : Int32} {t1 : Nat} {H : Heap} {locs : List Loc} (k_x0 : hK h x0 = 7) (k_x1 : hK h x1 = 3) (k_x4 : hK h x4 = 9) (k_t1 : hK h t1 = 9) (hkm : Km h0 h) (hW : Wx X h H) (hZ : va_S (aA (eB X)) s.heap H locs) (ls : Array Slot) (hl : lv_has ls 10 [(0, .ref x0), (1, .ref x1), (2, .long x2), (4, .ref x4), (5, .int x5), (6, .int x6), (7, .int x7)]) (hE : sX7_writeRanks_125 F k_11 k_22 h x0 x1 x2 x4 x5 x6 x7 t0 t1 = some o) : W p l e (rm 2 42) s m args below meth c H locs 0 0 (MQ below (QV X h0 o) args s 0 0 (aA (eB X))) (F0 m 125 ls [.int t0, .ref t1]) := by
  obtain ⟨o_1, eo_1, hE⟩ := cl_e hE
  refine x_kV (o := o_1) (z_runV (As := [.int t0]) (rest := []) C (ct_X9_append l X k_t1 eo_1) cw_X7_118 hW hZ k_t1 (by decide) rfl rfl rfl hl.1 (Nat.le_of_ble_eq_true rfl) rfl dX7_writeRanks_125 ⟨Nat.le_of_ble_eq_true rfl, Nat.le_of_ble_eq_true rfl⟩ ⟨Nat.le_refl _, Nat.le_refl _⟩) hZ (fun _ _ hW km hZ => ?_)
  replace hkm := hkm.tr km
  replace k_x0 := km.at k_x0 (by decide)
  replace k_x1 := km.at k_x1 (by decide)
  replace k_x4 := km.at k_x4 (by decide)
  exact bX7_writeRanks_128 C hk_11 hk_22 k_x0 k_x1 k_x4 hkm hW hZ _ (lv_sub hl [0, 1, 2, 3, 4, 5, 6] rfl) hE
set_option maxRecDepth 20000 in
theorem bX7_writeRanks_89 {p : Program} {l : Launch} {e : Env} {s : State} {m : MethodId} {args : Array Value} {below : List Frame} {meth : Method} {c : Code} {X : Ec} {h0 : Hp} {o : Hp} {k_11 : Hp → Nat → Nat → Int64 → Nat → Int32 → Option (Hp)} {k_22 : Hp → Nat → Nat → Int64 → Nat → Int32 → Int32 → Int32 → Option (Hp)} {F : Nat} (C : Cx X p s m args meth c RX7 cX7_writeRanks 10 none "writeRanks") (hk_11 : ∀ (h : Hp) (x0 : Nat) (x1 : Nat) (x2 : Int64) (x4 : Nat) (x5 : Int32) (H : Heap) (locs : List Loc), hK h x0 = 7 → hK h x1 = 3 → hK h x4 = 9 → Km h0 h → Wx X h H → va_S (aA (eB X)) s.heap H locs → ∀ (ls : Array Slot), lv_has ls 10 [(0, .ref x0), (1, .ref x1), (2, .long x2), (4, .ref x4), (5, .int x5)] → k_11 h x0 x1 x2 x4 x5 = some o → W p l e (rm 2 42) s m args below meth c H locs 0 0 (MQ below (QV X h0 o) args s 0 0 (aA (eB X))) (F0 m 11 ls [])) (hk_22 : ∀ (h : Hp) (x0 : Nat) (x1 : Nat) (x2 : Int64) (x4 : Nat) (x5 : Int32) (x6 : Int32) (x7 : Int32) (H : Heap) (locs : List Loc), hK h x0 = 7 → hK h x1 = 3 → hK h x4 = 9 → Km h0 h → Wx X h H → va_S (aA (eB X)) s.heap H locs → ∀ (ls : Array Slot), lv_has ls 10 [(0, .ref x0), (1, .ref x1), (2, .long x2), (4, .ref x4), (5, .int x5), (6, .int x6), (7, .int x7)] → k_22 h x0 x1 x2 x4 x5 x6 x7 = some o → W p l e (rm 2 42) s m args below meth c H locs 0 0 (MQ below (QV X h0 o) args s 0 0 (aA (eB X))) (F0 m 22 ls [])) {h : Hp} {x0 : Nat} {x1 : Nat} {x2 : Int64} {x4 : Nat} {x5 : Int32} {x6 : Int32} {x7 : Int32} {x8 : Int32} {x9 : Int32} {H : Heap} {locs : List Loc} (k_x0 : hK h x0 = 7) (k_x1 : hK h x1 = 3) (k_x4 : hK h x4 = 9) (hkm : Km h0 h) (hW : Wx X h H) (hZ : va_S (aA (eB X)) s.heap H locs) (ls : Array Slot) (hl : lv_has ls 10 [(0, .ref x0), (1, .ref x1), (2, .long x2), (4, .ref x4), (5, .int x5), (6, .int x6), (7, .int x7), (8, .int x8), (9, .int x9)]) (hE : sX7_writeRanks_89 F k_11 k_22 h x0 x1 x2 x4 x5 x6 x7 x8 x9 = some o) : W p l e (rm 2 42) s m args below meth c H locs 0 0 (MQ below (QV X h0 o) args s 0 0 (aA (eB X))) (F0 m 89 ls []) := by
  refine lv_iload C.1 C.2.1 dX7_writeRanks_89 (lv_at hl 5 rfl) ?_
  refine lv_aload C.1 C.2.1 dX7_writeRanks_91 (lv_at hl 3 rfl) ?_
  obtain ⟨o_1, eo_1, hE⟩ := cl_e hE
  refine x_kV (o := o_1) (z_runS (As := [.int x6, .ref x4]) (rest := []) C (ct_X7_writeEmpty l X k_x4 eo_1) cw_X7_138 hW hZ rfl hl.1 (Nat.le_of_ble_eq_true rfl) rfl dX7_writeRanks_93 ⟨Nat.le_of_ble_eq_true rfl, Nat.le_of_ble_eq_true rfl⟩ ⟨Nat.le_refl _, Nat.le_refl _⟩) hZ (fun _ _ hW km hZ => ?_)
  replace hkm := hkm.tr km
  replace k_x0 := km.at k_x0 (by decide)
  replace k_x1 := km.at k_x1 (by decide)
  replace k_x4 := km.at k_x4 (by decide)
  refine lv_iconst (v := (0 : Int32)) C.1 C.2.1 dX7_writeRanks_96 (by decide) ?_
  refine lv_istore (lv' := [(6, .int (0 : Int32)), (0, .ref x0), (1, .ref x1), (2, .long x2), (4, .ref x4), (5, .int x5), (7, .int x7), (8, .int x8), (9, .int x9)]) C.1 C.2.1 dX7_writeRanks_97 hl (by decide) rfl (fun ls hl => ?_)
  refine lv_aload C.1 C.2.1 dX7_writeRanks_99 (lv_at hl 4 rfl) ?_
  refine lv_iload C.1 C.2.1 dX7_writeRanks_101 (lv_at hl 8 rfl) ?_
  refine lv_if_eq (tgt := 111) C.1 C.2.1 dX7_writeRanks_103 (by decide) (fun c_2 => ?_) (fun c_2 => ?_)
  · have hE := br_p hE c_2
    refine lv_aload_n C.1 C.2.1 dX7_writeRanks_111 rfl (lv_at hl 1 rfl) ?_
    obtain ⟨r_3, er_3, hE⟩ := cl_e hE
    refine gf_X7_9 C hW k_x0 er_3 dX7_writeRanks_112 (fun k_r_3 => ?_)
    refine lv_aload_n C.1 C.2.1 dX7_writeRanks_115 rfl (lv_at hl 2 rfl) ?_
    obtain ⟨r_4, er_4, hE⟩ := cl_e hE
    refine gf_X7_134 C hW k_x1 er_4 dX7_writeRanks_116 (fun k_r_4 => ?_)
    refine lv_iload C.1 C.2.1 dX7_writeRanks_119 (lv_at hl 7 rfl) ?_
    obtain ⟨g_5, hE⟩ := gd_e hE
    refine y_bald C hW k_r_4 g_5 dX7_writeRanks_121 ?_
    obtain ⟨o_6, eo_6, hE⟩ := cl_e hE
    refine x_kI (o := o_6) (z_runV (As := [.int (hI o_1 r_4 x8.toNatClampNeg)]) (rest := [.ref x4]) C (ct_X1_letterOf l X k_r_3 eo_6) cw_X7_142 hW hZ k_r_3 (by decide) rfl rfl rfl hl.1 (Nat.le_of_ble_eq_true rfl) rfl dX7_writeRanks_122 ⟨Nat.le_of_ble_eq_true rfl, Nat.le_of_ble_eq_true rfl⟩ ⟨Nat.le_refl _, Nat.le_refl _⟩) hZ (fun _ _ hW km hZ => ?_)
    replace hkm := hkm.tr km
    replace k_x0 := km.at k_x0 (by decide)
    replace k_x1 := km.at k_x1 (by decide)
    replace k_x4 := km.at k_x4 (by decide)
    exact bX7_writeRanks_125 C hk_11 hk_22 k_x0 k_x1 k_x4 k_x4 hkm hW hZ _ (lv_sub hl [1, 2, 3, 4, 5, 0, 6] rfl) hE
  · have hE := br_n hE c_2
    refine lv_bipush (v := (63 : Int32)) C.1 C.2.1 dX7_writeRanks_106 (by decide) ?_
    refine lv_goto (tgt := 125) C.1 C.2.1 dX7_writeRanks_108 (by decide) ?_
    exact bX7_writeRanks_125 C hk_11 hk_22 k_x0 k_x1 k_x4 k_x4 hkm hW hZ _ (lv_sub hl [1, 2, 3, 4, 5, 0, 6] rfl) hE
set_option maxRecDepth 20000 in
theorem bX7_writeRanks_65 {p : Program} {l : Launch} {e : Env} {s : State} {m : MethodId} {args : Array Value} {below : List Frame} {meth : Method} {c : Code} {X : Ec} {h0 : Hp} {o : Hp} {k_11 : Hp → Nat → Nat → Int64 → Nat → Int32 → Option (Hp)} {k_22 : Hp → Nat → Nat → Int64 → Nat → Int32 → Int32 → Int32 → Option (Hp)} {F : Nat} (C : Cx X p s m args meth c RX7 cX7_writeRanks 10 none "writeRanks") (hk_11 : ∀ (h : Hp) (x0 : Nat) (x1 : Nat) (x2 : Int64) (x4 : Nat) (x5 : Int32) (H : Heap) (locs : List Loc), hK h x0 = 7 → hK h x1 = 3 → hK h x4 = 9 → Km h0 h → Wx X h H → va_S (aA (eB X)) s.heap H locs → ∀ (ls : Array Slot), lv_has ls 10 [(0, .ref x0), (1, .ref x1), (2, .long x2), (4, .ref x4), (5, .int x5)] → k_11 h x0 x1 x2 x4 x5 = some o → W p l e (rm 2 42) s m args below meth c H locs 0 0 (MQ below (QV X h0 o) args s 0 0 (aA (eB X))) (F0 m 11 ls [])) (hk_22 : ∀ (h : Hp) (x0 : Nat) (x1 : Nat) (x2 : Int64) (x4 : Nat) (x5 : Int32) (x6 : Int32) (x7 : Int32) (H : Heap) (locs : List Loc), hK h x0 = 7 → hK h x1 = 3 → hK h x4 = 9 → Km h0 h → Wx X h H → va_S (aA (eB X)) s.heap H locs → ∀ (ls : Array Slot), lv_has ls 10 [(0, .ref x0), (1, .ref x1), (2, .long x2), (4, .ref x4), (5, .int x5), (6, .int x6), (7, .int x7)] → k_22 h x0 x1 x2 x4 x5 x6 x7 = some o → W p l e (rm 2 42) s m args below meth c H locs 0 0 (MQ below (QV X h0 o) args s 0 0 (aA (eB X))) (F0 m 22 ls [])) {h : Hp} {x0 : Nat} {x1 : Nat} {x2 : Int64} {x4 : Nat} {x5 : Int32} {x6 : Int32} {x7 : Int32} {x8 : Int32} {t0 : Int32} {H : Heap} {locs : List Loc} (k_x0 : hK h x0 = 7) (k_x1 : hK h x1 = 3) (k_x4 : hK h x4 = 9) (hkm : Km h0 h) (hW : Wx X h H) (hZ : va_S (aA (eB X)) s.heap H locs) (ls : Array Slot) (hl : lv_has ls 10 [(0, .ref x0), (1, .ref x1), (2, .long x2), (4, .ref x4), (5, .int x5), (6, .int x6), (7, .int x7), (8, .int x8)]) (hE : sX7_writeRanks_65 F k_11 k_22 h x0 x1 x2 x4 x5 x6 x7 x8 t0 = some o) : W p l e (rm 2 42) s m args below meth c H locs 0 0 (MQ below (QV X h0 o) args s 0 0 (aA (eB X))) (F0 m 65 ls [.int t0]) := by
  refine lv_istore (lv' := [(9, .int t0), (0, .ref x0), (1, .ref x1), (2, .long x2), (4, .ref x4), (5, .int x5), (6, .int x6), (7, .int x7), (8, .int x8)]) C.1 C.2.1 dX7_writeRanks_65 hl (by decide) rfl (fun ls hl => ?_)
  refine lv_iload C.1 C.2.1 dX7_writeRanks_67 (lv_at hl 0 rfl) ?_
  refine lv_if_ne (tgt := 89) C.1 C.2.1 dX7_writeRanks_69 (by decide) (fun c_1 => ?_) (fun c_1 => ?_)
  · have hE := br_n hE c_1
    exact bX7_writeRanks_89 C hk_11 hk_22 k_x0 k_x1 k_x4 hkm hW hZ _ (lv_sub hl [1, 2, 3, 4, 5, 6, 7, 8, 0] rfl) hE
  · have hE := br_p hE c_1
    refine lv_aload_n C.1 C.2.1 dX7_writeRanks_72 rfl (lv_at hl 2 rfl) ?_
    obtain ⟨r_2, er_2, hE⟩ := cl_e hE
    refine gf_X7_134 C hW k_x1 er_2 dX7_writeRanks_73 (fun k_r_2 => ?_)
    refine lv_iload C.1 C.2.1 dX7_writeRanks_76 (lv_at hl 8 rfl) ?_
    obtain ⟨g_3, hE⟩ := gd_e hE
    refine y_bald C hW k_r_2 g_3 dX7_writeRanks_78 ?_
    refine lv_iconst (v := (-1 : Int32)) C.1 C.2.1 dX7_writeRanks_79 (by decide) ?_
    refine lv_icmp_ne (tgt := 89) C.1 C.2.1 dX7_writeRanks_80 (by decide) (fun c_4 => ?_) (fun c_4 => ?_)
    · have hE := br_n hE c_4
      exact bX7_writeRanks_89 C hk_11 hk_22 k_x0 k_x1 k_x4 hkm hW hZ _ (lv_sub hl [1, 2, 3, 4, 5, 6, 7, 8, 0] rfl) hE
    · have hE := br_p hE c_4
      obtain ⟨v_5, ev_5, hE⟩ := nm_e2 hE
      refine lv_iinc (v := v_5) (lv' := [(6, .int v_5), (9, .int t0), (0, .ref x0), (1, .ref x1), (2, .long x2), (4, .ref x4), (5, .int x5), (7, .int x7), (8, .int x8)]) C.1 C.2.1 dX7_writeRanks_83 hl (k := 6) rfl (by rw [ev_5]; rfl) (by decide) rfl (fun ls hl => ?_)
      refine lv_goto (tgt := 128) C.1 C.2.1 dX7_writeRanks_86 (by decide) ?_
      exact bX7_writeRanks_128 C hk_11 hk_22 k_x0 k_x1 k_x4 hkm hW hZ _ (lv_sub hl [2, 3, 4, 5, 6, 0, 7] rfl) hE
set_option maxRecDepth 20000 in
theorem bX7_writeRanks_22 {p : Program} {l : Launch} {e : Env} {s : State} {m : MethodId} {args : Array Value} {below : List Frame} {meth : Method} {c : Code} {X : Ec} {h0 : Hp} {o : Hp} {k_11 : Hp → Nat → Nat → Int64 → Nat → Int32 → Option (Hp)} {F : Nat} (C : Cx X p s m args meth c RX7 cX7_writeRanks 10 none "writeRanks") (hk_11 : ∀ (h : Hp) (x0 : Nat) (x1 : Nat) (x2 : Int64) (x4 : Nat) (x5 : Int32) (H : Heap) (locs : List Loc), hK h x0 = 7 → hK h x1 = 3 → hK h x4 = 9 → Km h0 h → Wx X h H → va_S (aA (eB X)) s.heap H locs → ∀ (ls : Array Slot), lv_has ls 10 [(0, .ref x0), (1, .ref x1), (2, .long x2), (4, .ref x4), (5, .int x5)] → k_11 h x0 x1 x2 x4 x5 = some o → W p l e (rm 2 42) s m args below meth c H locs 0 0 (MQ below (QV X h0 o) args s 0 0 (aA (eB X))) (F0 m 11 ls [])) : ∀ (f : Nat) {h : Hp} {x0 : Nat} {x1 : Nat} {x2 : Int64} {x4 : Nat} {x5 : Int32} {x6 : Int32} {x7 : Int32} {H : Heap} {locs : List Loc} (k_x0 : hK h x0 = 7) (k_x1 : hK h x1 = 3) (k_x4 : hK h x4 = 9), Km h0 h → Wx X h H → va_S (aA (eB X)) s.heap H locs → ∀ (ls : Array Slot), lv_has ls 10 [(0, .ref x0), (1, .ref x1), (2, .long x2), (4, .ref x4), (5, .int x5), (6, .int x6), (7, .int x7)] → sX7_writeRanks_22 F k_11 f h x0 x1 x2 x4 x5 x6 x7 = some o → W p l e (rm 2 42) s m args below meth c H locs 0 0 (MQ below (QV X h0 o) args s 0 0 (aA (eB X))) (F0 m 22 ls []) := by
  intro f
  induction f with
  | zero =>
    intro h x0 x1 x2 x4 x5 x6 x7 H locs k_x0 k_x1 k_x4 hkm hW hZ ls hl hE
    rw [sX7_writeRanks_22] at hE
    cases hE
  | succ f ih =>
    intro h x0 x1 x2 x4 x5 x6 x7 H locs k_x0 k_x1 k_x4 hkm hW hZ ls hl hE
    rw [sX7_writeRanks_22] at hE
    have hk_22 : ∀ (h : Hp) (x0 : Nat) (x1 : Nat) (x2 : Int64) (x4 : Nat) (x5 : Int32) (x6 : Int32) (x7 : Int32) (H : Heap) (locs : List Loc), hK h x0 = 7 → hK h x1 = 3 → hK h x4 = 9 → Km h0 h → Wx X h H → va_S (aA (eB X)) s.heap H locs → ∀ (ls : Array Slot), lv_has ls 10 [(0, .ref x0), (1, .ref x1), (2, .long x2), (4, .ref x4), (5, .int x5), (6, .int x6), (7, .int x7)] → sX7_writeRanks_22 F k_11 f h x0 x1 x2 x4 x5 x6 x7 = some o → W p l e (rm 2 42) s m args below meth c H locs 0 0 (MQ below (QV X h0 o) args s 0 0 (aA (eB X))) (F0 m 22 ls []) := fun h x0 x1 x2 x4 x5 x6 x7 H locs k_x0 k_x1 k_x4 a b c ls hl hE => ih k_x0 k_x1 k_x4 a b c ls hl hE
    refine lv_iload C.1 C.2.1 dX7_writeRanks_22 (lv_at hl 6 rfl) ?_
    refine lv_aload_n C.1 C.2.1 dX7_writeRanks_24 rfl (lv_at hl 0 rfl) ?_
    obtain ⟨r_1, er_1, hE⟩ := cl_e hE
    refine gf_X7_9 C hW k_x0 er_1 dX7_writeRanks_25 (fun k_r_1 => ?_)
    refine gf_X7_65 C hW k_r_1 dX7_writeRanks_28 ?_
    refine lv_icmp_ge (tgt := 134) C.1 C.2.1 dX7_writeRanks_31 (by decide) (fun c_2 => ?_) (fun c_2 => ?_)
    · have hE := br_p hE c_2
      refine lv_iload C.1 C.2.1 dX7_writeRanks_134 (lv_at hl 5 rfl) ?_
      refine lv_aload C.1 C.2.1 dX7_writeRanks_136 (lv_at hl 3 rfl) ?_
      obtain ⟨o_3, eo_3, hE⟩ := cl_e hE
      refine x_kV (o := o_3) (z_runS (As := [.int x6, .ref x4]) (rest := []) C (ct_X7_writeEmpty l X k_x4 eo_3) cw_X7_138 hW hZ rfl hl.1 (Nat.le_of_ble_eq_true rfl) rfl dX7_writeRanks_138 ⟨Nat.le_of_ble_eq_true rfl, Nat.le_of_ble_eq_true rfl⟩ ⟨Nat.le_refl _, Nat.le_refl _⟩) hZ (fun _ _ hW km hZ => ?_)
      replace hkm := hkm.tr km
      replace k_x0 := km.at k_x0 (by decide)
      replace k_x1 := km.at k_x1 (by decide)
      replace k_x4 := km.at k_x4 (by decide)
      refine lv_iload C.1 C.2.1 dX7_writeRanks_141 (lv_at hl 4 rfl) ?_
      refine lv_if_le (tgt := 153) C.1 C.2.1 dX7_writeRanks_143 (by decide) (fun c_4 => ?_) (fun c_4 => ?_)
      · have hE := br_p hE c_4
        exact bX7_writeRanks_153 C hk_11 k_x0 k_x1 k_x4 hkm hW hZ _ (lv_sub hl [0, 1, 2, 3, 4] rfl) hE
      · have hE := br_n hE c_4
        refine lv_aload C.1 C.2.1 dX7_writeRanks_146 (lv_at hl 3 rfl) ?_
        refine lv_bipush (v := (47 : Int32)) C.1 C.2.1 dX7_writeRanks_148 (by decide) ?_
        obtain ⟨o_5, eo_5, hE⟩ := cl_e hE
        refine x_kV (o := o_5) (z_runV (As := [.int (47 : Int32)]) (rest := []) C (ct_X9_append l X k_x4 eo_5) cw_X7_118 hW hZ k_x4 (by decide) rfl rfl rfl hl.1 (Nat.le_of_ble_eq_true rfl) rfl dX7_writeRanks_150 ⟨Nat.le_of_ble_eq_true rfl, Nat.le_of_ble_eq_true rfl⟩ ⟨Nat.le_refl _, Nat.le_refl _⟩) hZ (fun _ _ hW km hZ => ?_)
        replace hkm := hkm.tr km
        replace k_x0 := km.at k_x0 (by decide)
        replace k_x1 := km.at k_x1 (by decide)
        replace k_x4 := km.at k_x4 (by decide)
        exact bX7_writeRanks_153 C hk_11 k_x0 k_x1 k_x4 hkm hW hZ _ (lv_sub hl [0, 1, 2, 3, 4] rfl) hE
    · have hE := br_n hE c_2
      refine lv_iload C.1 C.2.1 dX7_writeRanks_34 (lv_at hl 4 rfl) ?_
      refine lv_aload_n C.1 C.2.1 dX7_writeRanks_36 rfl (lv_at hl 0 rfl) ?_
      obtain ⟨r_6, er_6, hE⟩ := cl_e hE
      refine gf_X7_9 C hW k_x0 er_6 dX7_writeRanks_37 (fun k_r_6 => ?_)
      refine gf_X7_65 C hW k_r_6 dX7_writeRanks_40 ?_
      refine lv_imul C.1 C.2.1 dX7_writeRanks_43 ?_
      refine lv_iload C.1 C.2.1 dX7_writeRanks_44 (lv_at hl 6 rfl) ?_
      refine lv_iadd C.1 C.2.1 dX7_writeRanks_46 ?_
      obtain ⟨v_7, ev_7, hE⟩ := nm_e2 hE
      refine x_nmI ev_7 ?_
      refine lv_istore (lv' := [(8, .int v_7), (0, .ref x0), (1, .ref x1), (2, .long x2), (4, .ref x4), (5, .int x5), (6, .int x6), (7, .int x7)]) C.1 C.2.1 dX7_writeRanks_47 hl (by decide) rfl (fun ls hl => ?_)
      refine lv_lload_n C.1 C.2.1 dX7_writeRanks_49 rfl (lv_at hl 3 rfl) ?_
      refine lv_iload C.1 C.2.1 dX7_writeRanks_50 (lv_at hl 0 rfl) ?_
      refine lv_lushr C.1 C.2.1 dX7_writeRanks_52 rfl ?_
      refine lv_lconst (v := (1 : Int64)) C.1 C.2.1 dX7_writeRanks_53 (by decide) ?_
      refine lv_land C.1 C.2.1 dX7_writeRanks_54 ?_
      refine lv_lconst (v := (0 : Int64)) C.1 C.2.1 dX7_writeRanks_55 (by decide) ?_
      refine W.lcmp C.1 C.2.1 dX7_writeRanks_56 ?_
      refine lv_if_ne (tgt := 64) C.1 C.2.1 dX7_writeRanks_57 (by decide) (fun c_8 => ?_) (fun c_8 => ?_)
      · have hE := br_n hE c_8
        refine lv_iconst (v := (0 : Int32)) C.1 C.2.1 dX7_writeRanks_64 (by decide) ?_
        exact bX7_writeRanks_65 C hk_11 hk_22 k_x0 k_x1 k_x4 hkm hW hZ _ (lv_sub hl [1, 2, 3, 4, 5, 6, 7, 0] rfl) hE
      · have hE := br_p hE c_8
        refine lv_iconst (v := (1 : Int32)) C.1 C.2.1 dX7_writeRanks_60 (by decide) ?_
        refine lv_goto (tgt := 65) C.1 C.2.1 dX7_writeRanks_61 (by decide) ?_
        exact bX7_writeRanks_65 C hk_11 hk_22 k_x0 k_x1 k_x4 hkm hW hZ _ (lv_sub hl [1, 2, 3, 4, 5, 6, 7, 0] rfl) hE
set_option maxRecDepth 20000 in
theorem bX7_writeRanks_11 {p : Program} {l : Launch} {e : Env} {s : State} {m : MethodId} {args : Array Value} {below : List Frame} {meth : Method} {c : Code} {X : Ec} {h0 : Hp} {o : Hp} {F : Nat} (C : Cx X p s m args meth c RX7 cX7_writeRanks 10 none "writeRanks") : ∀ (f : Nat) {h : Hp} {x0 : Nat} {x1 : Nat} {x2 : Int64} {x4 : Nat} {x5 : Int32} {H : Heap} {locs : List Loc} (k_x0 : hK h x0 = 7) (k_x1 : hK h x1 = 3) (k_x4 : hK h x4 = 9), Km h0 h → Wx X h H → va_S (aA (eB X)) s.heap H locs → ∀ (ls : Array Slot), lv_has ls 10 [(0, .ref x0), (1, .ref x1), (2, .long x2), (4, .ref x4), (5, .int x5)] → sX7_writeRanks_11 F f h x0 x1 x2 x4 x5 = some o → W p l e (rm 2 42) s m args below meth c H locs 0 0 (MQ below (QV X h0 o) args s 0 0 (aA (eB X))) (F0 m 11 ls []) := by
  intro f
  induction f with
  | zero =>
    intro h x0 x1 x2 x4 x5 H locs k_x0 k_x1 k_x4 hkm hW hZ ls hl hE
    rw [sX7_writeRanks_11] at hE
    cases hE
  | succ f ih =>
    intro h x0 x1 x2 x4 x5 H locs k_x0 k_x1 k_x4 hkm hW hZ ls hl hE
    rw [sX7_writeRanks_11] at hE
    have hk_11 : ∀ (h : Hp) (x0 : Nat) (x1 : Nat) (x2 : Int64) (x4 : Nat) (x5 : Int32) (H : Heap) (locs : List Loc), hK h x0 = 7 → hK h x1 = 3 → hK h x4 = 9 → Km h0 h → Wx X h H → va_S (aA (eB X)) s.heap H locs → ∀ (ls : Array Slot), lv_has ls 10 [(0, .ref x0), (1, .ref x1), (2, .long x2), (4, .ref x4), (5, .int x5)] → sX7_writeRanks_11 F f h x0 x1 x2 x4 x5 = some o → W p l e (rm 2 42) s m args below meth c H locs 0 0 (MQ below (QV X h0 o) args s 0 0 (aA (eB X))) (F0 m 11 ls []) := fun h x0 x1 x2 x4 x5 H locs k_x0 k_x1 k_x4 a b c ls hl hE => ih k_x0 k_x1 k_x4 a b c ls hl hE
    refine lv_iload C.1 C.2.1 dX7_writeRanks_11 (lv_at hl 4 rfl) ?_
    refine lv_if_lt (tgt := 159) C.1 C.2.1 dX7_writeRanks_13 (by decide) (fun c_1 => ?_) (fun c_1 => ?_)
    · have hE := br_p hE c_1
      exact x_vret C rfl hW hZ hkm hE dX7_writeRanks_159
    · have hE := br_n hE c_1
      refine lv_iconst (v := (0 : Int32)) C.1 C.2.1 dX7_writeRanks_16 (by decide) ?_
      refine lv_istore (lv' := [(6, .int (0 : Int32)), (0, .ref x0), (1, .ref x1), (2, .long x2), (4, .ref x4), (5, .int x5)]) C.1 C.2.1 dX7_writeRanks_17 hl (by decide) rfl (fun ls hl => ?_)
      refine lv_iconst (v := (0 : Int32)) C.1 C.2.1 dX7_writeRanks_19 (by decide) ?_
      refine lv_istore (lv' := [(7, .int (0 : Int32)), (6, .int (0 : Int32)), (0, .ref x0), (1, .ref x1), (2, .long x2), (4, .ref x4), (5, .int x5)]) C.1 C.2.1 dX7_writeRanks_20 hl (by decide) rfl (fun ls hl => ?_)
      exact bX7_writeRanks_22 C hk_11 F k_x0 k_x1 k_x4 hkm hW hZ _ (lv_sub hl [2, 3, 4, 5, 6, 1, 0] rfl) hE
set_option maxRecDepth 20000 in
theorem ct_X7_writeRanks (l : Launch) (X : Ec) (F : Nat) {h : Hp} {x0 : Nat} {x1 : Nat} {x2 : Int64} {x4 : Nat} {o : Hp} (k_x0 : hK h x0 = 7) (k_x1 : hK h x1 = 3) (k_x4 : hK h x4 = 9) (hE : sX7_writeRanks F h x0 x1 x2 x4 = some o) : MetV l yX7_writeRanks cX7_writeRanks 10 none 2 42 X [.ref x0, .ref x1, .long x2, .ref x4] h o := by
  refine x_met (by decide) (Nat.le_of_ble_eq_true rfl) ?_
  intro p e s m below meth c ls C hl hW hZ
  have hl : lv_has ls 10 [(0, .ref x0), (1, .ref x1), (2, .long x2), (4, .ref x4)] := hl
  have hkm : Km h h := Km.rf h
  refine lv_aload_n C.1 C.2.1 dX7_writeRanks_0 rfl (lv_at hl 0 rfl) ?_
  obtain ⟨r_1, er_1, hE⟩ := cl_e hE
  refine gf_X7_9 C hW k_x0 er_1 dX7_writeRanks_1 (fun k_r_1 => ?_)
  refine gf_X7_60 C hW k_r_1 dX7_writeRanks_4 ?_
  refine lv_iconst (v := (1 : Int32)) C.1 C.2.1 dX7_writeRanks_7 (by decide) ?_
  refine lv_isub C.1 C.2.1 dX7_writeRanks_8 ?_
  obtain ⟨v_2, ev_2, hE⟩ := nm_e2 hE
  refine x_nmI ev_2 ?_
  refine lv_istore (lv' := [(5, .int v_2), (0, .ref x0), (1, .ref x1), (2, .long x2), (4, .ref x4)]) C.1 C.2.1 dX7_writeRanks_9 hl (by decide) rfl (fun ls hl => ?_)
  exact bX7_writeRanks_11 C F k_x0 k_x1 k_x4 hkm hW hZ _ (lv_sub hl [1, 2, 3, 4, 0] rfl) hE
theorem m_139 : Cond.fieldLink RX7 168 (TX1 19).1 (TX1 19).2.1 (TX1 19).2.2.1 ∈ W0 := w0_in (List.mem_append_right _ (List.mem_of_getElem? (i := 139) (by decide +kernel))) rfl
theorem m_145 : Cond.fieldLink RX7 171 (TX1 20).1 (TX1 20).2.1 (TX1 20).2.2.1 ∈ W0 := w0_in (List.mem_append_right _ (List.mem_of_getElem? (i := 145) (by decide +kernel))) rfl
section
variable {p : Program} {l : Launch} {e : Env} {R : Room} {s : State} {m : MethodId} {args : Array Value} {below : List Frame} {meth : Method} {c : Code} {H : Heap} {locs : List Loc} {cells slots : Nat} {Q : State → Prop}
variable {cc : ByteArray} {pc : Nat} {ls : Array Slot} {rest : List Value} {X : Ec} {h h1 : Hp} {nL : Nat} {rt : Option FieldType} {mn : String}
theorem gf_X7_168 {a r : Nat} (C : Cx X p s m args meth c RX7 cc nL rt mn) (hW : Wx X h H) (ha : hK h a = 1) (hr : hR h a 19 = some r) (hdg : decode cc pc = .ok (.getfield 168, 3)) (kk : hK h r = 17 → W p l e R s m args below meth c H locs cells slots Q (F0 m (pc + 3) ls (.ref r :: rest))) : W p l e R s m args below meth c H locs cells slots Q (F0 m pc ls (.ref a :: rest)) :=
  y_getr C hW ha i_X1 (by decide) rfl (by decide) m_139 rfl rfl hr hdg kk
theorem gf_X7_171 {a r : Nat} (C : Cx X p s m args meth c RX7 cc nL rt mn) (hW : Wx X h H) (ha : hK h a = 1) (hr : hR h a 20 = some r) (hdg : decode cc pc = .ok (.getfield 171, 3)) (kk : hK h r = 17 → W p l e R s m args below meth c H locs cells slots Q (F0 m (pc + 3) ls (.ref r :: rest))) : W p l e R s m args below meth c H locs cells slots Q (F0 m pc ls (.ref a :: rest)) :=
  y_getr C hW ha i_X1 (by decide) rfl (by decide) m_145 rfl rfl hr hdg kk
end
theorem dX7_writeSquare_0 : decode cX7_writeSquare 0 = .ok (.aload_n 2, 1) := by decide +kernel
theorem dX7_writeSquare_1 : decode cX7_writeSquare 1 = .ok (.bipush 97, 2) := by decide +kernel
theorem dX7_writeSquare_3 : decode cX7_writeSquare 3 = .ok (.aload_n 0, 1) := by decide +kernel
theorem dX7_writeSquare_4 : decode cX7_writeSquare 4 = .ok (.getfield 168, 3) := by decide +kernel
theorem dX7_writeSquare_7 : decode cX7_writeSquare 7 = .ok (.iload_n 1, 1) := by decide +kernel
theorem dX7_writeSquare_8 : decode cX7_writeSquare 8 = .ok (.iaload, 1) := by decide +kernel
theorem dX7_writeSquare_9 : decode cX7_writeSquare 9 = .ok (.iadd, 1) := by decide +kernel
theorem dX7_writeSquare_10 : decode cX7_writeSquare 10 = .ok (.invokevirtual 118, 3) := by decide +kernel
theorem dX7_writeSquare_13 : decode cX7_writeSquare 13 = .ok (.aload_n 2, 1) := by decide +kernel
theorem dX7_writeSquare_14 : decode cX7_writeSquare 14 = .ok (.bipush 49, 2) := by decide +kernel
theorem dX7_writeSquare_16 : decode cX7_writeSquare 16 = .ok (.aload_n 0, 1) := by decide +kernel
theorem dX7_writeSquare_17 : decode cX7_writeSquare 17 = .ok (.getfield 171, 3) := by decide +kernel
theorem dX7_writeSquare_20 : decode cX7_writeSquare 20 = .ok (.iload_n 1, 1) := by decide +kernel
theorem dX7_writeSquare_21 : decode cX7_writeSquare 21 = .ok (.iaload, 1) := by decide +kernel
theorem dX7_writeSquare_22 : decode cX7_writeSquare 22 = .ok (.iadd, 1) := by decide +kernel
theorem dX7_writeSquare_23 : decode cX7_writeSquare 23 = .ok (.invokevirtual 118, 3) := by decide +kernel
theorem dX7_writeSquare_26 : decode cX7_writeSquare 26 = .ok (.return_, 1) := by decide +kernel
def sX7_writeSquare (h : Hp) (x0 : Nat) (x1 : Int32) (x2 : Nat) : Option (Hp) := cl (hR h x0 19) fun r_1 => gd (inB x1 (hN h r_1)) <| cl (sX9_append h x2 ((97 : Int32) + (hI h r_1 x1.toNatClampNeg))) fun o_3 => cl (hR o_3 x0 20) fun r_4 => gd (inB x1 (hN o_3 r_4)) <| cl (sX9_append o_3 x2 ((49 : Int32) + (hI o_3 r_4 x1.toNatClampNeg))) fun o_6 => some o_6
set_option maxRecDepth 20000 in
theorem ct_X7_writeSquare (l : Launch) (X : Ec) {h : Hp} {x0 : Nat} {x1 : Int32} {x2 : Nat} {o : Hp} (k_x0 : hK h x0 = 1) (k_x2 : hK h x2 = 9) (hE : sX7_writeSquare h x0 x1 x2 = some o) : MetV l yX7_writeSquare cX7_writeSquare 3 none 1 21 X [.ref x0, .int x1, .ref x2] h o := by
  refine x_met (by decide) (Nat.le_of_ble_eq_true rfl) ?_
  intro p e s m below meth c ls C hl hW hZ
  have hl : lv_has ls 3 [(0, .ref x0), (1, .int x1), (2, .ref x2)] := hl
  have hkm : Km h h := Km.rf h
  refine lv_aload_n C.1 C.2.1 dX7_writeSquare_0 rfl (lv_at hl 2 rfl) ?_
  refine lv_bipush (v := (97 : Int32)) C.1 C.2.1 dX7_writeSquare_1 (by decide) ?_
  refine lv_aload_n C.1 C.2.1 dX7_writeSquare_3 rfl (lv_at hl 0 rfl) ?_
  obtain ⟨r_1, er_1, hE⟩ := cl_e hE
  refine gf_X7_168 C hW k_x0 er_1 dX7_writeSquare_4 (fun k_r_1 => ?_)
  refine lv_iload_n C.1 C.2.1 dX7_writeSquare_7 rfl (lv_at hl 1 rfl) ?_
  obtain ⟨g_2, hE⟩ := gd_e hE
  refine y_iald C hW k_r_1 g_2 dX7_writeSquare_8 ?_
  refine lv_iadd C.1 C.2.1 dX7_writeSquare_9 ?_
  obtain ⟨o_3, eo_3, hE⟩ := cl_e hE
  refine x_kV (o := o_3) (z_runV (As := [.int ((97 : Int32) + (hI h r_1 x1.toNatClampNeg))]) (rest := []) C (ct_X9_append l X k_x2 eo_3) cw_X7_118 hW hZ k_x2 (by decide) rfl rfl rfl hl.1 (Nat.le_of_ble_eq_true rfl) rfl dX7_writeSquare_10 ⟨Nat.le_of_ble_eq_true rfl, Nat.le_of_ble_eq_true rfl⟩ ⟨Nat.le_refl _, Nat.le_refl _⟩) hZ (fun _ _ hW km hZ => ?_)
  replace hkm := hkm.tr km
  replace k_x0 := km.at k_x0 (by decide)
  replace k_x2 := km.at k_x2 (by decide)
  refine lv_aload_n C.1 C.2.1 dX7_writeSquare_13 rfl (lv_at hl 2 rfl) ?_
  refine lv_bipush (v := (49 : Int32)) C.1 C.2.1 dX7_writeSquare_14 (by decide) ?_
  refine lv_aload_n C.1 C.2.1 dX7_writeSquare_16 rfl (lv_at hl 0 rfl) ?_
  obtain ⟨r_4, er_4, hE⟩ := cl_e hE
  refine gf_X7_171 C hW k_x0 er_4 dX7_writeSquare_17 (fun k_r_4 => ?_)
  refine lv_iload_n C.1 C.2.1 dX7_writeSquare_20 rfl (lv_at hl 1 rfl) ?_
  obtain ⟨g_5, hE⟩ := gd_e hE
  refine y_iald C hW k_r_4 g_5 dX7_writeSquare_21 ?_
  refine lv_iadd C.1 C.2.1 dX7_writeSquare_22 ?_
  obtain ⟨o_6, eo_6, hE⟩ := cl_e hE
  refine x_kV (o := o_6) (z_runV (As := [.int ((49 : Int32) + (hI o_3 r_4 x1.toNatClampNeg))]) (rest := []) C (ct_X9_append l X k_x2 eo_6) cw_X7_118 hW hZ k_x2 (by decide) rfl rfl rfl hl.1 (Nat.le_of_ble_eq_true rfl) rfl dX7_writeSquare_23 ⟨Nat.le_of_ble_eq_true rfl, Nat.le_of_ble_eq_true rfl⟩ ⟨Nat.le_refl _, Nat.le_refl _⟩) hZ (fun _ _ hW km hZ => ?_)
  replace hkm := hkm.tr km
  replace k_x0 := km.at k_x0 (by decide)
  replace k_x2 := km.at k_x2 (by decide)
  exact x_vret C rfl hW hZ hkm hE dX7_writeSquare_26
theorem m_76 : Cond.fieldLink RX7 145 (TX1 2).1 (TX1 2).2.1 (TX1 2).2.2.1 ∈ W0 := w0_in (List.mem_append_right _ (List.mem_of_getElem? (i := 76) (by decide +kernel))) rfl
theorem m_1132 : Cond.methodLink RX7 148 yX7_writeSquare ∈ W0 := w0_in (List.mem_append_right _ (List.mem_of_getElem? (i := 1132) (by decide +kernel))) rfl
theorem m_1133 : Cond.static yX7_writeSquare ∈ W0 := w0_in (List.mem_append_right _ (List.mem_of_getElem? (i := 1133) (by decide +kernel))) rfl
theorem m_1134 : Cond.code yX7_writeSquare cX7_writeSquare 3 none ∈ W0 := w0_in (List.mem_append_right _ (List.mem_of_getElem? (i := 1134) (by decide +kernel))) rfl
section
variable {p : Program} {l : Launch} {e : Env} {R : Room} {s : State} {m : MethodId} {args : Array Value} {below : List Frame} {meth : Method} {c : Code} {H : Heap} {locs : List Loc} {cells slots : Nat} {Q : State → Prop}
variable {cc : ByteArray} {pc : Nat} {ls : Array Slot} {rest : List Value} {X : Ec} {h h1 : Hp} {nL : Nat} {rt : Option FieldType} {mn : String}
theorem gf_X7_145 {a : Nat} (C : Cx X p s m args meth c RX7 cc nL rt mn) (hW : Wx X h H) (ha : hK h a = 1) (hdg : decode cc pc = .ok (.getfield 145, 3)) (kk : W p l e R s m args below meth c H locs cells slots Q (F0 m (pc + 3) ls (.int (hI h a 2) :: rest))) : W p l e R s m args below meth c H locs cells slots Q (F0 m pc ls (.ref a :: rest)) :=
  y_geti C hW ha i_X1 (by decide) rfl (by decide) m_76 rfl hdg kk
end
theorem cw_X7_148 : cwd RX7 148 yX7_writeSquare cX7_writeSquare 3 none true 3 := ⟨m_1134, m_1132, m_10, m_1133, by decide, by decide, by decide +kernel⟩
theorem dX7_writeRights_0 : decode cX7_writeRights 0 = .ok (.iconst 0, 1) := by decide +kernel
theorem dX7_writeRights_1 : decode cX7_writeRights 1 = .ok (.istore_n 3, 1) := by decide +kernel
theorem dX7_writeRights_2 : decode cX7_writeRights 2 = .ok (.iload_n 3, 1) := by decide +kernel
theorem dX7_writeRights_3 : decode cX7_writeRights 3 = .ok (.aload_n 0, 1) := by decide +kernel
theorem dX7_writeRights_4 : decode cX7_writeRights 4 = .ok (.getfield 9, 3) := by decide +kernel
theorem dX7_writeRights_7 : decode cX7_writeRights 7 = .ok (.getfield 145, 3) := by decide +kernel
theorem dX7_writeRights_10 : decode cX7_writeRights 10 = .ok (.if_icmp .ge 31, 3) := by decide +kernel
theorem dX7_writeRights_13 : decode cX7_writeRights 13 = .ok (.aload_n 1, 1) := by decide +kernel
theorem dX7_writeRights_14 : decode cX7_writeRights 14 = .ok (.getfield 85, 3) := by decide +kernel
theorem dX7_writeRights_17 : decode cX7_writeRights 17 = .ok (.iload_n 3, 1) := by decide +kernel
theorem dX7_writeRights_18 : decode cX7_writeRights 18 = .ok (.lushr, 1) := by decide +kernel
theorem dX7_writeRights_19 : decode cX7_writeRights 19 = .ok (.lconst 1, 1) := by decide +kernel
theorem dX7_writeRights_20 : decode cX7_writeRights 20 = .ok (.land, 1) := by decide +kernel
theorem dX7_writeRights_21 : decode cX7_writeRights 21 = .ok (.lconst 0, 1) := by decide +kernel
theorem dX7_writeRights_22 : decode cX7_writeRights 22 = .ok (.lcmp, 1) := by decide +kernel
theorem dX7_writeRights_23 : decode cX7_writeRights 23 = .ok (.ifCond .eq 12, 3) := by decide +kernel
theorem dX7_writeRights_26 : decode cX7_writeRights 26 = .ok (.aload_n 0, 1) := by decide +kernel
theorem dX7_writeRights_27 : decode cX7_writeRights 27 = .ok (.getfield 9, 3) := by decide +kernel
theorem dX7_writeRights_30 : decode cX7_writeRights 30 = .ok (.iload_n 3, 1) := by decide +kernel
theorem dX7_writeRights_31 : decode cX7_writeRights 31 = .ok (.aload_n 2, 1) := by decide +kernel
theorem dX7_writeRights_32 : decode cX7_writeRights 32 = .ok (.invokestatic 148, 3) := by decide +kernel
theorem dX7_writeRights_35 : decode cX7_writeRights 35 = .ok (.iinc 3 1, 3) := by decide +kernel
theorem dX7_writeRights_38 : decode cX7_writeRights 38 = .ok (.goto (-36), 3) := by decide +kernel
theorem dX7_writeRights_41 : decode cX7_writeRights 41 = .ok (.aload_n 1, 1) := by decide +kernel
theorem dX7_writeRights_42 : decode cX7_writeRights 42 = .ok (.getfield 85, 3) := by decide +kernel
theorem dX7_writeRights_45 : decode cX7_writeRights 45 = .ok (.lconst 0, 1) := by decide +kernel
theorem dX7_writeRights_46 : decode cX7_writeRights 46 = .ok (.lcmp, 1) := by decide +kernel
theorem dX7_writeRights_47 : decode cX7_writeRights 47 = .ok (.ifCond .ne 9, 3) := by decide +kernel
theorem dX7_writeRights_50 : decode cX7_writeRights 50 = .ok (.aload_n 2, 1) := by decide +kernel
theorem dX7_writeRights_51 : decode cX7_writeRights 51 = .ok (.bipush 45, 2) := by decide +kernel
theorem dX7_writeRights_53 : decode cX7_writeRights 53 = .ok (.invokevirtual 118, 3) := by decide +kernel
theorem dX7_writeRights_56 : decode cX7_writeRights 56 = .ok (.return_, 1) := by decide +kernel
def sX7_writeRights_56 (F : Nat) (h : Hp) : Option (Hp) := some h
def sX7_writeRights_35 (F : Nat) (k_2 : Hp → Nat → Nat → Nat → Int32 → Option (Hp)) (h : Hp) (x0 : Nat) (x1 : Nat) (x2 : Nat) (x3 : Int32) : Option (Hp) := nm (x3 + (1 : Int32)) fun v_1 => k_2 h x0 x1 x2 v_1
def sX7_writeRights_2 (F : Nat) : Nat → Hp → Nat → Nat → Nat → Int32 → Option (Hp)
  | 0, _, _, _, _, _ => none
  | f + 1, h, x0, x1, x2, x3 => cl (hR h x0 0) fun r_1 => br ((hI h r_1 2) ≤ x3) (br ((lg_cmp (hJ h x1 8) (0 : Int64)) = 0) (cl (sX9_append h x2 (45 : Int32)) fun o_4 => sX7_writeRights_56 F o_4 ) (sX7_writeRights_56 F h )) (br ((lg_cmp ((((hJ h x1 8).toUInt64 >>> (x3.toInt64.toUInt64 &&& Int64.toUInt64 63)).toInt64) &&& (1 : Int64)) (0 : Int64)) = 0) (sX7_writeRights_35 F (sX7_writeRights_2 F f) h x0 x1 x2 x3) (cl (hR h x0 0) fun r_6 => cl (sX7_writeSquare h r_6 x3 x2) fun o_7 => sX7_writeRights_35 F (sX7_writeRights_2 F f) o_7 x0 x1 x2 x3))
def sX7_writeRights (F : Nat) (h : Hp) (x0 : Nat) (x1 : Nat) (x2 : Nat) : Option (Hp) := sX7_writeRights_2 F F h x0 x1 x2 (0 : Int32)
set_option maxRecDepth 20000 in
theorem bX7_writeRights_56 {p : Program} {l : Launch} {e : Env} {s : State} {m : MethodId} {args : Array Value} {below : List Frame} {meth : Method} {c : Code} {X : Ec} {h0 : Hp} {o : Hp} {F : Nat} (C : Cx X p s m args meth c RX7 cX7_writeRights 4 none "writeRights") {h : Hp} {H : Heap} {locs : List Loc} (hkm : Km h0 h) (hW : Wx X h H) (hZ : va_S (aA (eB X)) s.heap H locs) (ls : Array Slot) (hl : lv_has ls 4 []) (hE : sX7_writeRights_56 F h  = some o) : W p l e (rm 2 43) s m args below meth c H locs 0 0 (MQ below (QV X h0 o) args s 0 0 (aA (eB X))) (F0 m 56 ls []) := by
  exact x_vret C rfl hW hZ hkm hE dX7_writeRights_56
set_option maxRecDepth 20000 in
theorem bX7_writeRights_35 {p : Program} {l : Launch} {e : Env} {s : State} {m : MethodId} {args : Array Value} {below : List Frame} {meth : Method} {c : Code} {X : Ec} {h0 : Hp} {o : Hp} {k_2 : Hp → Nat → Nat → Nat → Int32 → Option (Hp)} {F : Nat} (C : Cx X p s m args meth c RX7 cX7_writeRights 4 none "writeRights") (hk_2 : ∀ (h : Hp) (x0 : Nat) (x1 : Nat) (x2 : Nat) (x3 : Int32) (H : Heap) (locs : List Loc), hK h x0 = 7 → hK h x1 = 3 → hK h x2 = 9 → Km h0 h → Wx X h H → va_S (aA (eB X)) s.heap H locs → ∀ (ls : Array Slot), lv_has ls 4 [(0, .ref x0), (1, .ref x1), (2, .ref x2), (3, .int x3)] → k_2 h x0 x1 x2 x3 = some o → W p l e (rm 2 43) s m args below meth c H locs 0 0 (MQ below (QV X h0 o) args s 0 0 (aA (eB X))) (F0 m 2 ls [])) {h : Hp} {x0 : Nat} {x1 : Nat} {x2 : Nat} {x3 : Int32} {H : Heap} {locs : List Loc} (k_x0 : hK h x0 = 7) (k_x1 : hK h x1 = 3) (k_x2 : hK h x2 = 9) (hkm : Km h0 h) (hW : Wx X h H) (hZ : va_S (aA (eB X)) s.heap H locs) (ls : Array Slot) (hl : lv_has ls 4 [(0, .ref x0), (1, .ref x1), (2, .ref x2), (3, .int x3)]) (hE : sX7_writeRights_35 F k_2 h x0 x1 x2 x3 = some o) : W p l e (rm 2 43) s m args below meth c H locs 0 0 (MQ below (QV X h0 o) args s 0 0 (aA (eB X))) (F0 m 35 ls []) := by
  obtain ⟨v_1, ev_1, hE⟩ := nm_e2 hE
  refine lv_iinc (v := v_1) (lv' := [(3, .int v_1), (0, .ref x0), (1, .ref x1), (2, .ref x2)]) C.1 C.2.1 dX7_writeRights_35 hl (k := 3) rfl (by rw [ev_1]; rfl) (by decide) rfl (fun ls hl => ?_)
  refine lv_goto (tgt := 2) C.1 C.2.1 dX7_writeRights_38 (by decide) ?_
  exact hk_2 _ _ _ _ _ _ _ k_x0 k_x1 k_x2 hkm hW hZ _ (lv_sub hl [1, 2, 3, 0] rfl) hE
set_option maxRecDepth 20000 in
theorem bX7_writeRights_2 {p : Program} {l : Launch} {e : Env} {s : State} {m : MethodId} {args : Array Value} {below : List Frame} {meth : Method} {c : Code} {X : Ec} {h0 : Hp} {o : Hp} {F : Nat} (C : Cx X p s m args meth c RX7 cX7_writeRights 4 none "writeRights") : ∀ (f : Nat) {h : Hp} {x0 : Nat} {x1 : Nat} {x2 : Nat} {x3 : Int32} {H : Heap} {locs : List Loc} (k_x0 : hK h x0 = 7) (k_x1 : hK h x1 = 3) (k_x2 : hK h x2 = 9), Km h0 h → Wx X h H → va_S (aA (eB X)) s.heap H locs → ∀ (ls : Array Slot), lv_has ls 4 [(0, .ref x0), (1, .ref x1), (2, .ref x2), (3, .int x3)] → sX7_writeRights_2 F f h x0 x1 x2 x3 = some o → W p l e (rm 2 43) s m args below meth c H locs 0 0 (MQ below (QV X h0 o) args s 0 0 (aA (eB X))) (F0 m 2 ls []) := by
  intro f
  induction f with
  | zero =>
    intro h x0 x1 x2 x3 H locs k_x0 k_x1 k_x2 hkm hW hZ ls hl hE
    rw [sX7_writeRights_2] at hE
    cases hE
  | succ f ih =>
    intro h x0 x1 x2 x3 H locs k_x0 k_x1 k_x2 hkm hW hZ ls hl hE
    rw [sX7_writeRights_2] at hE
    have hk_2 : ∀ (h : Hp) (x0 : Nat) (x1 : Nat) (x2 : Nat) (x3 : Int32) (H : Heap) (locs : List Loc), hK h x0 = 7 → hK h x1 = 3 → hK h x2 = 9 → Km h0 h → Wx X h H → va_S (aA (eB X)) s.heap H locs → ∀ (ls : Array Slot), lv_has ls 4 [(0, .ref x0), (1, .ref x1), (2, .ref x2), (3, .int x3)] → sX7_writeRights_2 F f h x0 x1 x2 x3 = some o → W p l e (rm 2 43) s m args below meth c H locs 0 0 (MQ below (QV X h0 o) args s 0 0 (aA (eB X))) (F0 m 2 ls []) := fun h x0 x1 x2 x3 H locs k_x0 k_x1 k_x2 a b c ls hl hE => ih k_x0 k_x1 k_x2 a b c ls hl hE
    refine lv_iload_n C.1 C.2.1 dX7_writeRights_2 rfl (lv_at hl 3 rfl) ?_
    refine lv_aload_n C.1 C.2.1 dX7_writeRights_3 rfl (lv_at hl 0 rfl) ?_
    obtain ⟨r_1, er_1, hE⟩ := cl_e hE
    refine gf_X7_9 C hW k_x0 er_1 dX7_writeRights_4 (fun k_r_1 => ?_)
    refine gf_X7_145 C hW k_r_1 dX7_writeRights_7 ?_
    refine lv_icmp_ge (tgt := 41) C.1 C.2.1 dX7_writeRights_10 (by decide) (fun c_2 => ?_) (fun c_2 => ?_)
    · have hE := br_p hE c_2
      refine lv_aload_n C.1 C.2.1 dX7_writeRights_41 rfl (lv_at hl 1 rfl) ?_
      refine gf_X7_85 C hW k_x1 dX7_writeRights_42 ?_
      refine lv_lconst (v := (0 : Int64)) C.1 C.2.1 dX7_writeRights_45 (by decide) ?_
      refine W.lcmp C.1 C.2.1 dX7_writeRights_46 ?_
      refine lv_if_ne (tgt := 56) C.1 C.2.1 dX7_writeRights_47 (by decide) (fun c_3 => ?_) (fun c_3 => ?_)
      · have hE := br_n hE c_3
        exact bX7_writeRights_56 C hkm hW hZ _ (lv_sub hl [] rfl) hE
      · have hE := br_p hE c_3
        refine lv_aload_n C.1 C.2.1 dX7_writeRights_50 rfl (lv_at hl 2 rfl) ?_
        refine lv_bipush (v := (45 : Int32)) C.1 C.2.1 dX7_writeRights_51 (by decide) ?_
        obtain ⟨o_4, eo_4, hE⟩ := cl_e hE
        refine x_kV (o := o_4) (z_runV (As := [.int (45 : Int32)]) (rest := []) C (ct_X9_append l X k_x2 eo_4) cw_X7_118 hW hZ k_x2 (by decide) rfl rfl rfl hl.1 (Nat.le_of_ble_eq_true rfl) rfl dX7_writeRights_53 ⟨Nat.le_of_ble_eq_true rfl, Nat.le_of_ble_eq_true rfl⟩ ⟨Nat.le_refl _, Nat.le_refl _⟩) hZ (fun _ _ hW km hZ => ?_)
        replace hkm := hkm.tr km
        replace k_x0 := km.at k_x0 (by decide)
        replace k_x1 := km.at k_x1 (by decide)
        replace k_x2 := km.at k_x2 (by decide)
        exact bX7_writeRights_56 C hkm hW hZ _ (lv_sub hl [] rfl) hE
    · have hE := br_n hE c_2
      refine lv_aload_n C.1 C.2.1 dX7_writeRights_13 rfl (lv_at hl 1 rfl) ?_
      refine gf_X7_85 C hW k_x1 dX7_writeRights_14 ?_
      refine lv_iload_n C.1 C.2.1 dX7_writeRights_17 rfl (lv_at hl 3 rfl) ?_
      refine lv_lushr C.1 C.2.1 dX7_writeRights_18 rfl ?_
      refine lv_lconst (v := (1 : Int64)) C.1 C.2.1 dX7_writeRights_19 (by decide) ?_
      refine lv_land C.1 C.2.1 dX7_writeRights_20 ?_
      refine lv_lconst (v := (0 : Int64)) C.1 C.2.1 dX7_writeRights_21 (by decide) ?_
      refine W.lcmp C.1 C.2.1 dX7_writeRights_22 ?_
      refine lv_if_eq (tgt := 35) C.1 C.2.1 dX7_writeRights_23 (by decide) (fun c_5 => ?_) (fun c_5 => ?_)
      · have hE := br_p hE c_5
        exact bX7_writeRights_35 C hk_2 k_x0 k_x1 k_x2 hkm hW hZ _ (lv_sub hl [0, 1, 2, 3] rfl) hE
      · have hE := br_n hE c_5
        refine lv_aload_n C.1 C.2.1 dX7_writeRights_26 rfl (lv_at hl 0 rfl) ?_
        obtain ⟨r_6, er_6, hE⟩ := cl_e hE
        refine gf_X7_9 C hW k_x0 er_6 dX7_writeRights_27 (fun k_r_6 => ?_)
        refine lv_iload_n C.1 C.2.1 dX7_writeRights_30 rfl (lv_at hl 3 rfl) ?_
        refine lv_aload_n C.1 C.2.1 dX7_writeRights_31 rfl (lv_at hl 2 rfl) ?_
        obtain ⟨o_7, eo_7, hE⟩ := cl_e hE
        refine x_kV (o := o_7) (z_runS (As := [.ref r_6, .int x3, .ref x2]) (rest := []) C (ct_X7_writeSquare l X k_r_6 k_x2 eo_7) cw_X7_148 hW hZ rfl hl.1 (Nat.le_of_ble_eq_true rfl) rfl dX7_writeRights_32 ⟨Nat.le_of_ble_eq_true rfl, Nat.le_of_ble_eq_true rfl⟩ ⟨Nat.le_refl _, Nat.le_refl _⟩) hZ (fun _ _ hW km hZ => ?_)
        replace hkm := hkm.tr km
        replace k_x0 := km.at k_x0 (by decide)
        replace k_x1 := km.at k_x1 (by decide)
        replace k_x2 := km.at k_x2 (by decide)
        exact bX7_writeRights_35 C hk_2 k_x0 k_x1 k_x2 hkm hW hZ _ (lv_sub hl [0, 1, 2, 3] rfl) hE
set_option maxRecDepth 20000 in
theorem ct_X7_writeRights (l : Launch) (X : Ec) (F : Nat) {h : Hp} {x0 : Nat} {x1 : Nat} {x2 : Nat} {o : Hp} (k_x0 : hK h x0 = 7) (k_x1 : hK h x1 = 3) (k_x2 : hK h x2 = 9) (hE : sX7_writeRights F h x0 x1 x2 = some o) : MetV l yX7_writeRights cX7_writeRights 4 none 2 43 X [.ref x0, .ref x1, .ref x2] h o := by
  refine x_met (by decide) (Nat.le_of_ble_eq_true rfl) ?_
  intro p e s m below meth c ls C hl hW hZ
  have hl : lv_has ls 4 [(0, .ref x0), (1, .ref x1), (2, .ref x2)] := hl
  have hkm : Km h h := Km.rf h
  refine lv_iconst (v := (0 : Int32)) C.1 C.2.1 dX7_writeRights_0 (by decide) ?_
  refine lv_istore_n (lv' := [(3, .int (0 : Int32)), (0, .ref x0), (1, .ref x1), (2, .ref x2)]) C.1 C.2.1 dX7_writeRights_1 rfl hl (by decide) rfl (fun ls hl => ?_)
  exact bX7_writeRights_2 C F k_x0 k_x1 k_x2 hkm hW hZ _ (lv_sub hl [1, 2, 3, 0] rfl) hE
