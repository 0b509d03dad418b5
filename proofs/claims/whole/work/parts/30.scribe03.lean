theorem dX7_writeClock_0 : decode cX7_writeClock 0 = .ok (.aload_n 0, 1) := by decide +kernel
theorem dX7_writeClock_1 : decode cX7_writeClock 1 = .ok (.getfield 109, 3) := by decide +kernel
theorem dX7_writeClock_4 : decode cX7_writeClock 4 = .ok (.bipush 100, 2) := by decide +kernel
theorem dX7_writeClock_6 : decode cX7_writeClock 6 = .ok (.if_icmp .lt 17, 3) := by decide +kernel
theorem dX7_writeClock_9 : decode cX7_writeClock 9 = .ok (.aload_n 1, 1) := by decide +kernel
theorem dX7_writeClock_10 : decode cX7_writeClock 10 = .ok (.bipush 48, 2) := by decide +kernel
theorem dX7_writeClock_12 : decode cX7_writeClock 12 = .ok (.aload_n 0, 1) := by decide +kernel
theorem dX7_writeClock_13 : decode cX7_writeClock 13 = .ok (.getfield 109, 3) := by decide +kernel
theorem dX7_writeClock_16 : decode cX7_writeClock 16 = .ok (.bipush 100, 2) := by decide +kernel
theorem dX7_writeClock_18 : decode cX7_writeClock 18 = .ok (.idiv, 1) := by decide +kernel
theorem dX7_writeClock_19 : decode cX7_writeClock 19 = .ok (.iadd, 1) := by decide +kernel
theorem dX7_writeClock_20 : decode cX7_writeClock 20 = .ok (.invokevirtual 118, 3) := by decide +kernel
theorem dX7_writeClock_23 : decode cX7_writeClock 23 = .ok (.aload_n 0, 1) := by decide +kernel
theorem dX7_writeClock_24 : decode cX7_writeClock 24 = .ok (.getfield 109, 3) := by decide +kernel
theorem dX7_writeClock_27 : decode cX7_writeClock 27 = .ok (.bipush 10, 2) := by decide +kernel
theorem dX7_writeClock_29 : decode cX7_writeClock 29 = .ok (.if_icmp .lt 20, 3) := by decide +kernel
theorem dX7_writeClock_32 : decode cX7_writeClock 32 = .ok (.aload_n 1, 1) := by decide +kernel
theorem dX7_writeClock_33 : decode cX7_writeClock 33 = .ok (.bipush 48, 2) := by decide +kernel
theorem dX7_writeClock_35 : decode cX7_writeClock 35 = .ok (.aload_n 0, 1) := by decide +kernel
theorem dX7_writeClock_36 : decode cX7_writeClock 36 = .ok (.getfield 109, 3) := by decide +kernel
theorem dX7_writeClock_39 : decode cX7_writeClock 39 = .ok (.bipush 10, 2) := by decide +kernel
theorem dX7_writeClock_41 : decode cX7_writeClock 41 = .ok (.idiv, 1) := by decide +kernel
theorem dX7_writeClock_42 : decode cX7_writeClock 42 = .ok (.bipush 10, 2) := by decide +kernel
theorem dX7_writeClock_44 : decode cX7_writeClock 44 = .ok (.irem, 1) := by decide +kernel
theorem dX7_writeClock_45 : decode cX7_writeClock 45 = .ok (.iadd, 1) := by decide +kernel
theorem dX7_writeClock_46 : decode cX7_writeClock 46 = .ok (.invokevirtual 118, 3) := by decide +kernel
theorem dX7_writeClock_49 : decode cX7_writeClock 49 = .ok (.aload_n 1, 1) := by decide +kernel
theorem dX7_writeClock_50 : decode cX7_writeClock 50 = .ok (.bipush 48, 2) := by decide +kernel
theorem dX7_writeClock_52 : decode cX7_writeClock 52 = .ok (.aload_n 0, 1) := by decide +kernel
theorem dX7_writeClock_53 : decode cX7_writeClock 53 = .ok (.getfield 109, 3) := by decide +kernel
theorem dX7_writeClock_56 : decode cX7_writeClock 56 = .ok (.bipush 10, 2) := by decide +kernel
theorem dX7_writeClock_58 : decode cX7_writeClock 58 = .ok (.irem, 1) := by decide +kernel
theorem dX7_writeClock_59 : decode cX7_writeClock 59 = .ok (.iadd, 1) := by decide +kernel
theorem dX7_writeClock_60 : decode cX7_writeClock 60 = .ok (.invokevirtual 118, 3) := by decide +kernel
theorem dX7_writeClock_63 : decode cX7_writeClock 63 = .ok (.return_, 1) := by decide +kernel
def sX7_writeClock_49 (h : Hp) (x0 : Nat) (x1 : Nat) : Option (Hp) := cl (sX9_append h x1 ((48 : Int32) + ((hI h x0 6) - (hI h x0 6) / (10 : Int32) * (10 : Int32)))) fun o_1 => some o_1
def sX7_writeClock_23 (h : Hp) (x0 : Nat) (x1 : Nat) : Option (Hp) := br ((hI h x0 6) < (10 : Int32)) (sX7_writeClock_49  h x0 x1) (cl (sX9_append h x1 ((48 : Int32) + (((hI h x0 6) / (10 : Int32)) - ((hI h x0 6) / (10 : Int32)) / (10 : Int32) * (10 : Int32)))) fun o_2 => sX7_writeClock_49  o_2 x0 x1)
def sX7_writeClock (h : Hp) (x0 : Nat) (x1 : Nat) : Option (Hp) := br ((hI h x0 6) < (100 : Int32)) (sX7_writeClock_23  h x0 x1) (cl (sX9_append h x1 ((48 : Int32) + ((hI h x0 6) / (100 : Int32)))) fun o_2 => sX7_writeClock_23  o_2 x0 x1)
set_option maxRecDepth 20000 in
theorem moX7_writeClock_49 {o : Hp} {h : Hp} {x0 : Nat} {x1 : Nat} (hE : sX7_writeClock_49 h x0 x1 = some o) : Le h o := by
  obtain ⟨o_1, eo_1, hE⟩ := cl_e hE
  refine (moX9_append eo_1).tr ?_
  exact le_some1 hE
set_option maxRecDepth 20000 in
theorem moX7_writeClock_23 {o : Hp} {h : Hp} {x0 : Nat} {x1 : Nat} (hE : sX7_writeClock_23 h x0 x1 = some o) : Le h o := by
  rcases br_e hE with ⟨_, hE⟩ | ⟨_, hE⟩
  · exact moX7_writeClock_49 hE
  · obtain ⟨o_2, eo_2, hE⟩ := cl_e hE
    refine (moX9_append eo_2).tr ?_
    exact moX7_writeClock_49 hE
set_option maxRecDepth 20000 in
theorem moX7_writeClock {o : Hp} {h : Hp} {x0 : Nat} {x1 : Nat} (hE : sX7_writeClock h x0 x1 = some o) : Le h o := by
  rcases br_e hE with ⟨_, hE⟩ | ⟨_, hE⟩
  · exact moX7_writeClock_23 hE
  · obtain ⟨o_2, eo_2, hE⟩ := cl_e hE
    refine (moX9_append eo_2).tr ?_
    exact moX7_writeClock_23 hE
set_option maxRecDepth 20000 in
theorem bX7_writeClock_49 {p : Program} {l : Launch} {e : Env} {s : State} {m : MethodId} {args : Array Value} {below : List Frame} {meth : Method} {c : Code} {X : Ec} {h0 : Hp} {o : Hp} (C : Cx X p s m args meth c RX7 cX7_writeClock 2 none "writeClock") {h : Hp} {x0 : Nat} {x1 : Nat} {H : Heap} {locs : List Loc} (k_x0 : hK h x0 = 3) (k_x1 : hK h x1 = 9) (hkm : Km h0 h) (hW : Wx X h H) (hZ : va_S (aA (eB X)) s.heap H locs) (ls : Array Slot) (hl : lv_has ls 2 [(0, .ref x0), (1, .ref x1)]) (hE : sX7_writeClock_49 h x0 x1 = some o) : W p l e (rm 1 21) s m args below meth c H locs 0 0 (MQ below (QV X h0 o) args s 0 0 (aA (eB X))) (F0 m 49 ls []) := by
  refine lv_aload_n C.1 C.2.1 dX7_writeClock_49 rfl (lv_at hl 1 rfl) ?_
  refine lv_bipush (v := (48 : Int32)) C.1 C.2.1 dX7_writeClock_50 (by decide) ?_
  refine lv_aload_n C.1 C.2.1 dX7_writeClock_52 rfl (lv_at hl 0 rfl) ?_
  refine gf_X7_109 C hW k_x0 dX7_writeClock_53 ?_
  refine lv_bipush (v := (10 : Int32)) C.1 C.2.1 dX7_writeClock_56 (by decide) ?_
  refine lv_irem C.1 C.2.1 dX7_writeClock_58 (by decide) ?_
  refine lv_iadd C.1 C.2.1 dX7_writeClock_59 ?_
  obtain ⟨o_1, eo_1, hE⟩ := cl_e hE
  refine x_kV (o := o_1) (z_runV (As := [.int ((48 : Int32) + ((hI h x0 6) - (hI h x0 6) / (10 : Int32) * (10 : Int32)))]) (rest := []) C (ct_X9_append l X k_x1 eo_1) cw_X7_118 hW hZ k_x1 (by decide) rfl rfl rfl hl.1 (Nat.le_of_ble_eq_true rfl) rfl dX7_writeClock_60 ⟨Nat.le_of_ble_eq_true rfl, Nat.le_of_ble_eq_true rfl⟩ ⟨Nat.le_refl _, Nat.le_refl _⟩) hZ (fun _ _ hW km hZ => ?_)
  replace hkm := hkm.tr km
  replace k_x0 := km.at k_x0 (by decide)
  replace k_x1 := km.at k_x1 (by decide)
  exact x_vret C rfl hW hZ hkm hE dX7_writeClock_63
set_option maxRecDepth 20000 in
theorem bX7_writeClock_23 {p : Program} {l : Launch} {e : Env} {s : State} {m : MethodId} {args : Array Value} {below : List Frame} {meth : Method} {c : Code} {X : Ec} {h0 : Hp} {o : Hp} (C : Cx X p s m args meth c RX7 cX7_writeClock 2 none "writeClock") {h : Hp} {x0 : Nat} {x1 : Nat} {H : Heap} {locs : List Loc} (k_x0 : hK h x0 = 3) (k_x1 : hK h x1 = 9) (hkm : Km h0 h) (hW : Wx X h H) (hZ : va_S (aA (eB X)) s.heap H locs) (ls : Array Slot) (hl : lv_has ls 2 [(0, .ref x0), (1, .ref x1)]) (hE : sX7_writeClock_23 h x0 x1 = some o) : W p l e (rm 1 21) s m args below meth c H locs 0 0 (MQ below (QV X h0 o) args s 0 0 (aA (eB X))) (F0 m 23 ls []) := by
  refine lv_aload_n C.1 C.2.1 dX7_writeClock_23 rfl (lv_at hl 0 rfl) ?_
  refine gf_X7_109 C hW k_x0 dX7_writeClock_24 ?_
  refine lv_bipush (v := (10 : Int32)) C.1 C.2.1 dX7_writeClock_27 (by decide) ?_
  refine lv_icmp_lt (tgt := 49) C.1 C.2.1 dX7_writeClock_29 (by decide) (fun c_1 => ?_) (fun c_1 => ?_)
  · have hE := br_p hE c_1
    exact bX7_writeClock_49 C k_x0 k_x1 hkm hW hZ _ (lv_sub hl [0, 1] rfl) hE
  · have hE := br_n hE c_1
    refine lv_aload_n C.1 C.2.1 dX7_writeClock_32 rfl (lv_at hl 1 rfl) ?_
    refine lv_bipush (v := (48 : Int32)) C.1 C.2.1 dX7_writeClock_33 (by decide) ?_
    refine lv_aload_n C.1 C.2.1 dX7_writeClock_35 rfl (lv_at hl 0 rfl) ?_
    refine gf_X7_109 C hW k_x0 dX7_writeClock_36 ?_
    refine lv_bipush (v := (10 : Int32)) C.1 C.2.1 dX7_writeClock_39 (by decide) ?_
    refine lv_idiv C.1 C.2.1 dX7_writeClock_41 (by decide) ?_
    refine lv_bipush (v := (10 : Int32)) C.1 C.2.1 dX7_writeClock_42 (by decide) ?_
    refine lv_irem C.1 C.2.1 dX7_writeClock_44 (by decide) ?_
    refine lv_iadd C.1 C.2.1 dX7_writeClock_45 ?_
    obtain ⟨o_2, eo_2, hE⟩ := cl_e hE
    refine x_kV (o := o_2) (z_runV (As := [.int ((48 : Int32) + (((hI h x0 6) / (10 : Int32)) - ((hI h x0 6) / (10 : Int32)) / (10 : Int32) * (10 : Int32)))]) (rest := []) C (ct_X9_append l X k_x1 eo_2) cw_X7_118 hW hZ k_x1 (by decide) rfl rfl rfl hl.1 (Nat.le_of_ble_eq_true rfl) rfl dX7_writeClock_46 ⟨Nat.le_of_ble_eq_true rfl, Nat.le_of_ble_eq_true rfl⟩ ⟨Nat.le_refl _, Nat.le_refl _⟩) hZ (fun _ _ hW km hZ => ?_)
    replace hkm := hkm.tr km
    replace k_x0 := km.at k_x0 (by decide)
    replace k_x1 := km.at k_x1 (by decide)
    exact bX7_writeClock_49 C k_x0 k_x1 hkm hW hZ _ (lv_sub hl [0, 1] rfl) hE
set_option maxRecDepth 20000 in
theorem ct_X7_writeClock (l : Launch) (X : Ec) {h : Hp} {x0 : Nat} {x1 : Nat} {o : Hp} (k_x0 : hK h x0 = 3) (k_x1 : hK h x1 = 9) (hE : sX7_writeClock h x0 x1 = some o) : MetV l yX7_writeClock cX7_writeClock 2 none 1 21 X [.ref x0, .ref x1] h o := by
  refine x_met (by decide) (Nat.le_of_ble_eq_true rfl) ?_
  intro p e s m below meth c ls C hl hW hZ
  have hl : lv_has ls 2 [(0, .ref x0), (1, .ref x1)] := hl
  have hkm : Km h h := Km.rf h
  refine lv_aload_n C.1 C.2.1 dX7_writeClock_0 rfl (lv_at hl 0 rfl) ?_
  refine gf_X7_109 C hW k_x0 dX7_writeClock_1 ?_
  refine lv_bipush (v := (100 : Int32)) C.1 C.2.1 dX7_writeClock_4 (by decide) ?_
  refine lv_icmp_lt (tgt := 23) C.1 C.2.1 dX7_writeClock_6 (by decide) (fun c_1 => ?_) (fun c_1 => ?_)
  · have hE := br_p hE c_1
    exact bX7_writeClock_23 C k_x0 k_x1 hkm hW hZ _ (lv_sub hl [0, 1] rfl) hE
  · have hE := br_n hE c_1
    refine lv_aload_n C.1 C.2.1 dX7_writeClock_9 rfl (lv_at hl 1 rfl) ?_
    refine lv_bipush (v := (48 : Int32)) C.1 C.2.1 dX7_writeClock_10 (by decide) ?_
    refine lv_aload_n C.1 C.2.1 dX7_writeClock_12 rfl (lv_at hl 0 rfl) ?_
    refine gf_X7_109 C hW k_x0 dX7_writeClock_13 ?_
    refine lv_bipush (v := (100 : Int32)) C.1 C.2.1 dX7_writeClock_16 (by decide) ?_
    refine lv_idiv C.1 C.2.1 dX7_writeClock_18 (by decide) ?_
    refine lv_iadd C.1 C.2.1 dX7_writeClock_19 ?_
    obtain ⟨o_2, eo_2, hE⟩ := cl_e hE
    refine x_kV (o := o_2) (z_runV (As := [.int ((48 : Int32) + ((hI h x0 6) / (100 : Int32)))]) (rest := []) C (ct_X9_append l X k_x1 eo_2) cw_X7_118 hW hZ k_x1 (by decide) rfl rfl rfl hl.1 (Nat.le_of_ble_eq_true rfl) rfl dX7_writeClock_20 ⟨Nat.le_of_ble_eq_true rfl, Nat.le_of_ble_eq_true rfl⟩ ⟨Nat.le_refl _, Nat.le_refl _⟩) hZ (fun _ _ hW km hZ => ?_)
    replace hkm := hkm.tr km
    replace k_x0 := km.at k_x0 (by decide)
    replace k_x1 := km.at k_x1 (by decide)
    exact bX7_writeClock_23 C k_x0 k_x1 hkm hW hZ _ (lv_sub hl [0, 1] rfl) hE
set_option maxRecDepth 100000 in
theorem ms_47 : Cond.selects RX7 yX7_writeHands yX7_writeHands ∈ W0 := w0_in (List.mem_append_left _ (List.mem_of_getElem? (i := 47) rfl)) rfl
set_option maxRecDepth 100000 in
theorem ms_46 : Cond.selects RX7 yX7_writePass yX7_writePass ∈ W0 := w0_in (List.mem_append_left _ (List.mem_of_getElem? (i := 46) rfl)) rfl
set_option maxRecDepth 100000 in
theorem ms_45 : Cond.selects RX7 yX7_writeRights yX7_writeRights ∈ W0 := w0_in (List.mem_append_left _ (List.mem_of_getElem? (i := 45) rfl)) rfl
set_option maxRecDepth 100000 in
theorem m_1092 : Cond.constantLong RX7 112 (-1 : Int64) ∈ W0 := w0_in (List.mem_append_right _ (List.mem_of_getElem? (i := 1092) rfl)) rfl
set_option maxRecDepth 100000 in
theorem m_1093 : Cond.methodLink RX7 114 yX7_writeRanks ∈ W0 := w0_in (List.mem_append_right _ (List.mem_of_getElem? (i := 1093) rfl)) rfl
set_option maxRecDepth 100000 in
theorem m_1094 : Cond.instanceMethod yX7_writeRanks ∈ W0 := w0_in (List.mem_append_right _ (List.mem_of_getElem? (i := 1094) rfl)) rfl
set_option maxRecDepth 100000 in
theorem m_1095 : Cond.selects RX7 yX7_writeRanks yX7_writeRanks ∈ W0 := w0_in (List.mem_append_right _ (List.mem_of_getElem? (i := 1095) rfl)) rfl
set_option maxRecDepth 100000 in
theorem m_1096 : Cond.code yX7_writeRanks cX7_writeRanks 10 none ∈ W0 := w0_in (List.mem_append_right _ (List.mem_of_getElem? (i := 1096) rfl)) rfl
set_option maxRecDepth 100000 in
theorem m_1105 : Cond.methodLink RX7 121 yX7_writeRights ∈ W0 := w0_in (List.mem_append_right _ (List.mem_of_getElem? (i := 1105) rfl)) rfl
set_option maxRecDepth 100000 in
theorem m_1107 : Cond.instanceMethod yX7_writeRights ∈ W0 := w0_in (List.mem_append_right _ (List.mem_of_getElem? (i := 1107) rfl)) rfl
set_option maxRecDepth 100000 in
theorem m_1108 : Cond.code yX7_writeRights cX7_writeRights 4 none ∈ W0 := w0_in (List.mem_append_right _ (List.mem_of_getElem? (i := 1108) rfl)) rfl
set_option maxRecDepth 100000 in
theorem m_1112 : Cond.methodLink RX7 125 yX7_writePass ∈ W0 := w0_in (List.mem_append_right _ (List.mem_of_getElem? (i := 1112) rfl)) rfl
set_option maxRecDepth 100000 in
theorem m_1114 : Cond.instanceMethod yX7_writePass ∈ W0 := w0_in (List.mem_append_right _ (List.mem_of_getElem? (i := 1114) rfl)) rfl
set_option maxRecDepth 100000 in
theorem m_1115 : Cond.code yX7_writePass cX7_writePass 4 none ∈ W0 := w0_in (List.mem_append_right _ (List.mem_of_getElem? (i := 1115) rfl)) rfl
set_option maxRecDepth 100000 in
theorem m_1118 : Cond.methodLink RX7 128 yX7_writeHands ∈ W0 := w0_in (List.mem_append_right _ (List.mem_of_getElem? (i := 1118) rfl)) rfl
set_option maxRecDepth 100000 in
theorem m_1120 : Cond.instanceMethod yX7_writeHands ∈ W0 := w0_in (List.mem_append_right _ (List.mem_of_getElem? (i := 1120) rfl)) rfl
set_option maxRecDepth 100000 in
theorem m_1121 : Cond.code yX7_writeHands cX7_writeHands 6 none ∈ W0 := w0_in (List.mem_append_right _ (List.mem_of_getElem? (i := 1121) rfl)) rfl
set_option maxRecDepth 100000 in
theorem m_1122 : Cond.methodLink RX7 131 yX7_writeClock ∈ W0 := w0_in (List.mem_append_right _ (List.mem_of_getElem? (i := 1122) rfl)) rfl
set_option maxRecDepth 100000 in
theorem m_1123 : Cond.static yX7_writeClock ∈ W0 := w0_in (List.mem_append_right _ (List.mem_of_getElem? (i := 1123) rfl)) rfl
set_option maxRecDepth 100000 in
theorem m_1124 : Cond.code yX7_writeClock cX7_writeClock 2 none ∈ W0 := w0_in (List.mem_append_right _ (List.mem_of_getElem? (i := 1124) rfl)) rfl
section
variable {p : Program} {l : Launch} {e : Env} {R : Room} {s : State} {m : MethodId} {args : Array Value} {below : List Frame} {meth : Method} {c : Code} {H : Heap} {locs : List Loc} {cells slots : Nat} {Q : State → Prop}
variable {cc : ByteArray} {pc : Nat} {ls : Array Slot} {rest : List Value} {X : Ec} {h h1 : Hp} {nL : Nat} {rt : Option FieldType} {mn : String}
theorem gf_X7_78 {a : Nat} (C : Cx X p s m args meth c RX7 cc nL rt mn) (hW : Wx X h H) (ha : hK h a = 3) (hdg : decode cc pc = .ok (.getfield 78, 3)) (kk : W p l e R s m args below meth c H locs cells slots Q (F0 m (pc + 3) ls (.int (hI h a 5) :: rest))) : W p l e R s m args below meth c H locs cells slots Q (F0 m pc ls (.ref a :: rest)) :=
  y_geti C hW ha i_X3 (by decide) rfl (by decide) m_298 rfl hdg kk
end
theorem cw_X7_121 : cwd RX7 121 yX7_writeRights cX7_writeRights 4 none false 2 := ⟨m_1108, m_1105, m_10, ⟨m_1107, ms_45⟩, by decide, by decide, by decide +kernel⟩
theorem cw_X7_125 : cwd RX7 125 yX7_writePass cX7_writePass 4 none false 2 := ⟨m_1115, m_1112, m_10, ⟨m_1114, ms_46⟩, by decide, by decide, by decide +kernel⟩
theorem cw_X7_128 : cwd RX7 128 yX7_writeHands cX7_writeHands 6 none false 2 := ⟨m_1121, m_1118, m_10, ⟨m_1120, ms_47⟩, by decide, by decide, by decide +kernel⟩
theorem cw_X7_131 : cwd RX7 131 yX7_writeClock cX7_writeClock 2 none true 2 := ⟨m_1124, m_1122, m_10, m_1123, by decide, by decide, by decide +kernel⟩
theorem cw_X7_114 : cwd RX7 114 yX7_writeRanks cX7_writeRanks 10 none false 3 := ⟨m_1096, m_1093, m_10, ⟨m_1094, m_1095⟩, by decide, by decide, by decide +kernel⟩
theorem dX7_writeAll_0 : decode cX7_writeAll 0 = .ok (.aload_n 0, 1) := by decide +kernel
theorem dX7_writeAll_1 : decode cX7_writeAll 1 = .ok (.aload_n 1, 1) := by decide +kernel
theorem dX7_writeAll_2 : decode cX7_writeAll 2 = .ok (.ldc2_w 112, 3) := by decide +kernel
theorem dX7_writeAll_5 : decode cX7_writeAll 5 = .ok (.aload_n 2, 1) := by decide +kernel
theorem dX7_writeAll_6 : decode cX7_writeAll 6 = .ok (.invokevirtual 114, 3) := by decide +kernel
theorem dX7_writeAll_9 : decode cX7_writeAll 9 = .ok (.aload_n 2, 1) := by decide +kernel
theorem dX7_writeAll_10 : decode cX7_writeAll 10 = .ok (.bipush 32, 2) := by decide +kernel
theorem dX7_writeAll_12 : decode cX7_writeAll 12 = .ok (.invokevirtual 118, 3) := by decide +kernel
theorem dX7_writeAll_15 : decode cX7_writeAll 15 = .ok (.aload_n 2, 1) := by decide +kernel
theorem dX7_writeAll_16 : decode cX7_writeAll 16 = .ok (.aload_n 1, 1) := by decide +kernel
theorem dX7_writeAll_17 : decode cX7_writeAll 17 = .ok (.getfield 78, 3) := by decide +kernel
theorem dX7_writeAll_20 : decode cX7_writeAll 20 = .ok (.ifCond .ne 8, 3) := by decide +kernel
theorem dX7_writeAll_23 : decode cX7_writeAll 23 = .ok (.bipush 119, 2) := by decide +kernel
theorem dX7_writeAll_25 : decode cX7_writeAll 25 = .ok (.goto 5, 3) := by decide +kernel
theorem dX7_writeAll_28 : decode cX7_writeAll 28 = .ok (.bipush 98, 2) := by decide +kernel
theorem dX7_writeAll_30 : decode cX7_writeAll 30 = .ok (.invokevirtual 118, 3) := by decide +kernel
theorem dX7_writeAll_33 : decode cX7_writeAll 33 = .ok (.aload_n 2, 1) := by decide +kernel
theorem dX7_writeAll_34 : decode cX7_writeAll 34 = .ok (.bipush 32, 2) := by decide +kernel
theorem dX7_writeAll_36 : decode cX7_writeAll 36 = .ok (.invokevirtual 118, 3) := by decide +kernel
theorem dX7_writeAll_39 : decode cX7_writeAll 39 = .ok (.aload_n 0, 1) := by decide +kernel
theorem dX7_writeAll_40 : decode cX7_writeAll 40 = .ok (.aload_n 1, 1) := by decide +kernel
theorem dX7_writeAll_41 : decode cX7_writeAll 41 = .ok (.aload_n 2, 1) := by decide +kernel
theorem dX7_writeAll_42 : decode cX7_writeAll 42 = .ok (.invokevirtual 121, 3) := by decide +kernel
theorem dX7_writeAll_45 : decode cX7_writeAll 45 = .ok (.aload_n 2, 1) := by decide +kernel
theorem dX7_writeAll_46 : decode cX7_writeAll 46 = .ok (.bipush 32, 2) := by decide +kernel
theorem dX7_writeAll_48 : decode cX7_writeAll 48 = .ok (.invokevirtual 118, 3) := by decide +kernel
theorem dX7_writeAll_51 : decode cX7_writeAll 51 = .ok (.aload_n 0, 1) := by decide +kernel
theorem dX7_writeAll_52 : decode cX7_writeAll 52 = .ok (.aload_n 1, 1) := by decide +kernel
theorem dX7_writeAll_53 : decode cX7_writeAll 53 = .ok (.aload_n 2, 1) := by decide +kernel
theorem dX7_writeAll_54 : decode cX7_writeAll 54 = .ok (.invokevirtual 125, 3) := by decide +kernel
theorem dX7_writeAll_57 : decode cX7_writeAll 57 = .ok (.aload_n 2, 1) := by decide +kernel
theorem dX7_writeAll_58 : decode cX7_writeAll 58 = .ok (.bipush 32, 2) := by decide +kernel
theorem dX7_writeAll_60 : decode cX7_writeAll 60 = .ok (.invokevirtual 118, 3) := by decide +kernel
theorem dX7_writeAll_63 : decode cX7_writeAll 63 = .ok (.aload_n 0, 1) := by decide +kernel
theorem dX7_writeAll_64 : decode cX7_writeAll 64 = .ok (.aload_n 1, 1) := by decide +kernel
theorem dX7_writeAll_65 : decode cX7_writeAll 65 = .ok (.aload_n 2, 1) := by decide +kernel
theorem dX7_writeAll_66 : decode cX7_writeAll 66 = .ok (.invokevirtual 128, 3) := by decide +kernel
theorem dX7_writeAll_69 : decode cX7_writeAll 69 = .ok (.aload_n 2, 1) := by decide +kernel
theorem dX7_writeAll_70 : decode cX7_writeAll 70 = .ok (.bipush 32, 2) := by decide +kernel
theorem dX7_writeAll_72 : decode cX7_writeAll 72 = .ok (.invokevirtual 118, 3) := by decide +kernel
theorem dX7_writeAll_75 : decode cX7_writeAll 75 = .ok (.aload_n 2, 1) := by decide +kernel
theorem dX7_writeAll_76 : decode cX7_writeAll 76 = .ok (.bipush 48, 2) := by decide +kernel
theorem dX7_writeAll_78 : decode cX7_writeAll 78 = .ok (.aload_n 1, 1) := by decide +kernel
theorem dX7_writeAll_79 : decode cX7_writeAll 79 = .ok (.getfield 105, 3) := by decide +kernel
theorem dX7_writeAll_82 : decode cX7_writeAll 82 = .ok (.iconst 0, 1) := by decide +kernel
theorem dX7_writeAll_83 : decode cX7_writeAll 83 = .ok (.iaload, 1) := by decide +kernel
theorem dX7_writeAll_84 : decode cX7_writeAll 84 = .ok (.iadd, 1) := by decide +kernel
theorem dX7_writeAll_85 : decode cX7_writeAll 85 = .ok (.invokevirtual 118, 3) := by decide +kernel
theorem dX7_writeAll_88 : decode cX7_writeAll 88 = .ok (.aload_n 2, 1) := by decide +kernel
theorem dX7_writeAll_89 : decode cX7_writeAll 89 = .ok (.bipush 48, 2) := by decide +kernel
theorem dX7_writeAll_91 : decode cX7_writeAll 91 = .ok (.aload_n 1, 1) := by decide +kernel
theorem dX7_writeAll_92 : decode cX7_writeAll 92 = .ok (.getfield 105, 3) := by decide +kernel
theorem dX7_writeAll_95 : decode cX7_writeAll 95 = .ok (.iconst 1, 1) := by decide +kernel
theorem dX7_writeAll_96 : decode cX7_writeAll 96 = .ok (.iaload, 1) := by decide +kernel
theorem dX7_writeAll_97 : decode cX7_writeAll 97 = .ok (.iadd, 1) := by decide +kernel
theorem dX7_writeAll_98 : decode cX7_writeAll 98 = .ok (.invokevirtual 118, 3) := by decide +kernel
theorem dX7_writeAll_101 : decode cX7_writeAll 101 = .ok (.aload_n 2, 1) := by decide +kernel
theorem dX7_writeAll_102 : decode cX7_writeAll 102 = .ok (.bipush 32, 2) := by decide +kernel
theorem dX7_writeAll_104 : decode cX7_writeAll 104 = .ok (.invokevirtual 118, 3) := by decide +kernel
theorem dX7_writeAll_107 : decode cX7_writeAll 107 = .ok (.aload_n 1, 1) := by decide +kernel
theorem dX7_writeAll_108 : decode cX7_writeAll 108 = .ok (.aload_n 2, 1) := by decide +kernel
theorem dX7_writeAll_109 : decode cX7_writeAll 109 = .ok (.invokestatic 131, 3) := by decide +kernel
theorem dX7_writeAll_112 : decode cX7_writeAll 112 = .ok (.return_, 1) := by decide +kernel
def sX7_writeAll_30 (F : Nat) (h : Hp) (x0 : Nat) (x1 : Nat) (x2 : Nat) (t0 : Int32) (t1 : Nat) : Option (Hp) := cl (sX9_append h t1 t0) fun o_1 => cl (sX9_append o_1 x2 (32 : Int32)) fun o_2 => cl (sX7_writeRights F o_2 x0 x1 x2) fun o_3 => cl (sX9_append o_3 x2 (32 : Int32)) fun o_4 => cl (sX7_writePass F o_4 x0 x1 x2) fun o_5 => cl (sX9_append o_5 x2 (32 : Int32)) fun o_6 => cl (sX7_writeHands F o_6 x0 x1 x2) fun o_7 => cl (sX9_append o_7 x2 (32 : Int32)) fun o_8 => cl (hR o_8 x1 4) fun r_9 => gd (inB (0 : Int32) (hN o_8 r_9)) <| cl (sX9_append o_8 x2 ((48 : Int32) + (hI o_8 r_9 (0 : Int32).toNatClampNeg))) fun o_11 => cl (hR o_11 x1 4) fun r_12 => gd (inB (1 : Int32) (hN o_11 r_12)) <| cl (sX9_append o_11 x2 ((48 : Int32) + (hI o_11 r_12 (1 : Int32).toNatClampNeg))) fun o_14 => cl (sX9_append o_14 x2 (32 : Int32)) fun o_15 => cl (sX7_writeClock o_15 x1 x2) fun o_16 => some o_16
def sX7_writeAll (F : Nat) (h : Hp) (x0 : Nat) (x1 : Nat) (x2 : Nat) : Option (Hp) := cl (sX7_writeRanks F h x0 x1 (-1 : Int64) x2) fun o_1 => cl (sX9_append o_1 x2 (32 : Int32)) fun o_2 => br ((hI o_2 x1 5) = 0) (sX7_writeAll_30 F o_2 x0 x1 x2 (119 : Int32) x2) (sX7_writeAll_30 F o_2 x0 x1 x2 (98 : Int32) x2)
set_option maxRecDepth 20000 in
theorem moX7_writeAll_30 {o : Hp} {F : Nat} {h : Hp} {x0 : Nat} {x1 : Nat} {x2 : Nat} {t0 : Int32} {t1 : Nat} (hE : sX7_writeAll_30 F h x0 x1 x2 t0 t1 = some o) : Le h o := by
  obtain ⟨o_1, eo_1, hE⟩ := cl_e hE
  refine (moX9_append eo_1).tr ?_
  obtain ⟨o_2, eo_2, hE⟩ := cl_e hE
  refine (moX9_append eo_2).tr ?_
  obtain ⟨o_3, eo_3, hE⟩ := cl_e hE
  refine (moX7_writeRights eo_3).tr ?_
  obtain ⟨o_4, eo_4, hE⟩ := cl_e hE
  refine (moX9_append eo_4).tr ?_
  obtain ⟨o_5, eo_5, hE⟩ := cl_e hE
  refine (moX7_writePass eo_5).tr ?_
  obtain ⟨o_6, eo_6, hE⟩ := cl_e hE
  refine (moX9_append eo_6).tr ?_
  obtain ⟨o_7, eo_7, hE⟩ := cl_e hE
  refine (moX7_writeHands eo_7).tr ?_
  obtain ⟨o_8, eo_8, hE⟩ := cl_e hE
  refine (moX9_append eo_8).tr ?_
  obtain ⟨r_9, er_9, hE⟩ := cl_e hE
  obtain ⟨g_10, hE⟩ := gd_e hE
  obtain ⟨o_11, eo_11, hE⟩ := cl_e hE
  refine (moX9_append eo_11).tr ?_
  obtain ⟨r_12, er_12, hE⟩ := cl_e hE
  obtain ⟨g_13, hE⟩ := gd_e hE
  obtain ⟨o_14, eo_14, hE⟩ := cl_e hE
  refine (moX9_append eo_14).tr ?_
  obtain ⟨o_15, eo_15, hE⟩ := cl_e hE
  refine (moX9_append eo_15).tr ?_
  obtain ⟨o_16, eo_16, hE⟩ := cl_e hE
  refine (moX7_writeClock eo_16).tr ?_
  exact le_some1 hE
set_option maxRecDepth 20000 in
theorem moX7_writeAll {o : Hp} {F : Nat} {h : Hp} {x0 : Nat} {x1 : Nat} {x2 : Nat} (hE : sX7_writeAll F h x0 x1 x2 = some o) : Le h o := by
  obtain ⟨o_1, eo_1, hE⟩ := cl_e hE
  refine (moX7_writeRanks eo_1).tr ?_
  obtain ⟨o_2, eo_2, hE⟩ := cl_e hE
  refine (moX9_append eo_2).tr ?_
  rcases br_e hE with ⟨_, hE⟩ | ⟨_, hE⟩
  · exact moX7_writeAll_30 hE
  · exact moX7_writeAll_30 hE
set_option maxRecDepth 20000 in
theorem bX7_writeAll_30 {p : Program} {l : Launch} {e : Env} {s : State} {m : MethodId} {args : Array Value} {below : List Frame} {meth : Method} {c : Code} {X : Ec} {h0 : Hp} {o : Hp} {F : Nat} (C : Cx X p s m args meth c RX7 cX7_writeAll 3 none "writeAll") {h : Hp} {x0 : Nat} {x1 : Nat} {x2 : Nat} {t0 : Int32} {t1 : Nat} {H : Heap} {locs : List Loc} (k_x0 : hK h x0 = 7) (k_x1 : hK h x1 = 3) (k_x2 : hK h x2 = 9) (k_t1 : hK h t1 = 9) (hkm : Km h0 h) (hW : Wx X h H) (hZ : va_S (aA (eB X)) s.heap H locs) (ls : Array Slot) (hl : lv_has ls 3 [(0, .ref x0), (1, .ref x1), (2, .ref x2)]) (hE : sX7_writeAll_30 F h x0 x1 x2 t0 t1 = some o) : W p l e (rm 3 71) s m args below meth c H locs 0 0 (MQ below (QV X h0 o) args s 0 0 (aA (eB X))) (F0 m 30 ls [.int t0, .ref t1]) := by
  obtain ⟨o_1, eo_1, hE⟩ := cl_e hE
  refine x_kV (o := o_1) (z_runV (As := [.int t0]) (rest := []) C (ct_X9_append l X k_t1 eo_1) cw_X7_118 hW hZ k_t1 (by decide) rfl rfl rfl hl.1 (Nat.le_of_ble_eq_true rfl) rfl dX7_writeAll_30 ⟨Nat.le_of_ble_eq_true rfl, Nat.le_of_ble_eq_true rfl⟩ ⟨Nat.le_refl _, Nat.le_refl _⟩) hZ (fun _ _ hW km hZ => ?_)
  replace hkm := hkm.tr km
  replace k_x0 := km.at k_x0 (by decide)
  replace k_x1 := km.at k_x1 (by decide)
  replace k_x2 := km.at k_x2 (by decide)
  refine lv_aload_n C.1 C.2.1 dX7_writeAll_33 rfl (lv_at hl 2 rfl) ?_
  refine lv_bipush (v := (32 : Int32)) C.1 C.2.1 dX7_writeAll_34 (by decide) ?_
  obtain ⟨o_2, eo_2, hE⟩ := cl_e hE
  refine x_kV (o := o_2) (z_runV (As := [.int (32 : Int32)]) (rest := []) C (ct_X9_append l X k_x2 eo_2) cw_X7_118 hW hZ k_x2 (by decide) rfl rfl rfl hl.1 (Nat.le_of_ble_eq_true rfl) rfl dX7_writeAll_36 ⟨Nat.le_of_ble_eq_true rfl, Nat.le_of_ble_eq_true rfl⟩ ⟨Nat.le_refl _, Nat.le_refl _⟩) hZ (fun _ _ hW km hZ => ?_)
  replace hkm := hkm.tr km
  replace k_x0 := km.at k_x0 (by decide)
  replace k_x1 := km.at k_x1 (by decide)
  replace k_x2 := km.at k_x2 (by decide)
  refine lv_aload_n C.1 C.2.1 dX7_writeAll_39 rfl (lv_at hl 0 rfl) ?_
  refine lv_aload_n C.1 C.2.1 dX7_writeAll_40 rfl (lv_at hl 1 rfl) ?_
  refine lv_aload_n C.1 C.2.1 dX7_writeAll_41 rfl (lv_at hl 2 rfl) ?_
  obtain ⟨o_3, eo_3, hE⟩ := cl_e hE
  refine x_kV (o := o_3) (z_runV (As := [.ref x1, .ref x2]) (rest := []) C (ct_X7_writeRights l X F k_x0 k_x1 k_x2 eo_3) cw_X7_121 hW hZ k_x0 (by decide) rfl rfl rfl hl.1 (Nat.le_of_ble_eq_true rfl) rfl dX7_writeAll_42 ⟨Nat.le_of_ble_eq_true rfl, Nat.le_of_ble_eq_true rfl⟩ ⟨Nat.le_refl _, Nat.le_refl _⟩) hZ (fun _ _ hW km hZ => ?_)
  replace hkm := hkm.tr km
  replace k_x0 := km.at k_x0 (by decide)
  replace k_x1 := km.at k_x1 (by decide)
  replace k_x2 := km.at k_x2 (by decide)
  refine lv_aload_n C.1 C.2.1 dX7_writeAll_45 rfl (lv_at hl 2 rfl) ?_
  refine lv_bipush (v := (32 : Int32)) C.1 C.2.1 dX7_writeAll_46 (by decide) ?_
  obtain ⟨o_4, eo_4, hE⟩ := cl_e hE
  refine x_kV (o := o_4) (z_runV (As := [.int (32 : Int32)]) (rest := []) C (ct_X9_append l X k_x2 eo_4) cw_X7_118 hW hZ k_x2 (by decide) rfl rfl rfl hl.1 (Nat.le_of_ble_eq_true rfl) rfl dX7_writeAll_48 ⟨Nat.le_of_ble_eq_true rfl, Nat.le_of_ble_eq_true rfl⟩ ⟨Nat.le_refl _, Nat.le_refl _⟩) hZ (fun _ _ hW km hZ => ?_)
  replace hkm := hkm.tr km
  replace k_x0 := km.at k_x0 (by decide)
  replace k_x1 := km.at k_x1 (by decide)
  replace k_x2 := km.at k_x2 (by decide)
  refine lv_aload_n C.1 C.2.1 dX7_writeAll_51 rfl (lv_at hl 0 rfl) ?_
  refine lv_aload_n C.1 C.2.1 dX7_writeAll_52 rfl (lv_at hl 1 rfl) ?_
  refine lv_aload_n C.1 C.2.1 dX7_writeAll_53 rfl (lv_at hl 2 rfl) ?_
  obtain ⟨o_5, eo_5, hE⟩ := cl_e hE
  refine x_kV (o := o_5) (z_runV (As := [.ref x1, .ref x2]) (rest := []) C (ct_X7_writePass l X F k_x0 k_x1 k_x2 eo_5) cw_X7_125 hW hZ k_x0 (by decide) rfl rfl rfl hl.1 (Nat.le_of_ble_eq_true rfl) rfl dX7_writeAll_54 ⟨Nat.le_of_ble_eq_true rfl, Nat.le_of_ble_eq_true rfl⟩ ⟨Nat.le_refl _, Nat.le_refl _⟩) hZ (fun _ _ hW km hZ => ?_)
  replace hkm := hkm.tr km
  replace k_x0 := km.at k_x0 (by decide)
  replace k_x1 := km.at k_x1 (by decide)
  replace k_x2 := km.at k_x2 (by decide)
  refine lv_aload_n C.1 C.2.1 dX7_writeAll_57 rfl (lv_at hl 2 rfl) ?_
  refine lv_bipush (v := (32 : Int32)) C.1 C.2.1 dX7_writeAll_58 (by decide) ?_
  obtain ⟨o_6, eo_6, hE⟩ := cl_e hE
  refine x_kV (o := o_6) (z_runV (As := [.int (32 : Int32)]) (rest := []) C (ct_X9_append l X k_x2 eo_6) cw_X7_118 hW hZ k_x2 (by decide) rfl rfl rfl hl.1 (Nat.le_of_ble_eq_true rfl) rfl dX7_writeAll_60 ⟨Nat.le_of_ble_eq_true rfl, Nat.le_of_ble_eq_true rfl⟩ ⟨Nat.le_refl _, Nat.le_refl _⟩) hZ (fun _ _ hW km hZ => ?_)
  replace hkm := hkm.tr km
  replace k_x0 := km.at k_x0 (by decide)
  replace k_x1 := km.at k_x1 (by decide)
  replace k_x2 := km.at k_x2 (by decide)
  refine lv_aload_n C.1 C.2.1 dX7_writeAll_63 rfl (lv_at hl 0 rfl) ?_
  refine lv_aload_n C.1 C.2.1 dX7_writeAll_64 rfl (lv_at hl 1 rfl) ?_
  refine lv_aload_n C.1 C.2.1 dX7_writeAll_65 rfl (lv_at hl 2 rfl) ?_
  obtain ⟨o_7, eo_7, hE⟩ := cl_e hE
  refine x_kV (o := o_7) (z_runV (As := [.ref x1, .ref x2]) (rest := []) C (ct_X7_writeHands l X F k_x0 k_x1 k_x2 eo_7) cw_X7_128 hW hZ k_x0 (by decide) rfl rfl rfl hl.1 (Nat.le_of_ble_eq_true rfl) rfl dX7_writeAll_66 ⟨Nat.le_of_ble_eq_true rfl, Nat.le_of_ble_eq_true rfl⟩ ⟨Nat.le_refl _, Nat.le_refl _⟩) hZ (fun _ _ hW km hZ => ?_)
  replace hkm := hkm.tr km
  replace k_x0 := km.at k_x0 (by decide)
  replace k_x1 := km.at k_x1 (by decide)
  replace k_x2 := km.at k_x2 (by decide)
  refine lv_aload_n C.1 C.2.1 dX7_writeAll_69 rfl (lv_at hl 2 rfl) ?_
  refine lv_bipush (v := (32 : Int32)) C.1 C.2.1 dX7_writeAll_70 (by decide) ?_
  obtain ⟨o_8, eo_8, hE⟩ := cl_e hE
  refine x_kV (o := o_8) (z_runV (As := [.int (32 : Int32)]) (rest := []) C (ct_X9_append l X k_x2 eo_8) cw_X7_118 hW hZ k_x2 (by decide) rfl rfl rfl hl.1 (Nat.le_of_ble_eq_true rfl) rfl dX7_writeAll_72 ⟨Nat.le_of_ble_eq_true rfl, Nat.le_of_ble_eq_true rfl⟩ ⟨Nat.le_refl _, Nat.le_refl _⟩) hZ (fun _ _ hW km hZ => ?_)
  replace hkm := hkm.tr km
  replace k_x0 := km.at k_x0 (by decide)
  replace k_x1 := km.at k_x1 (by decide)
  replace k_x2 := km.at k_x2 (by decide)
  refine lv_aload_n C.1 C.2.1 dX7_writeAll_75 rfl (lv_at hl 2 rfl) ?_
  refine lv_bipush (v := (48 : Int32)) C.1 C.2.1 dX7_writeAll_76 (by decide) ?_
  refine lv_aload_n C.1 C.2.1 dX7_writeAll_78 rfl (lv_at hl 1 rfl) ?_
  obtain ⟨r_9, er_9, hE⟩ := cl_e hE
  refine gf_X7_105 C hW k_x1 er_9 dX7_writeAll_79 (fun k_r_9 => ?_)
  refine lv_iconst (v := (0 : Int32)) C.1 C.2.1 dX7_writeAll_82 (by decide) ?_
  obtain ⟨g_10, hE⟩ := gd_e hE
  refine y_iald C hW k_r_9 g_10 dX7_writeAll_83 ?_
  refine lv_iadd C.1 C.2.1 dX7_writeAll_84 ?_
  obtain ⟨o_11, eo_11, hE⟩ := cl_e hE
  refine x_kV (o := o_11) (z_runV (As := [.int ((48 : Int32) + (hI o_8 r_9 (0 : Int32).toNatClampNeg))]) (rest := []) C (ct_X9_append l X k_x2 eo_11) cw_X7_118 hW hZ k_x2 (by decide) rfl rfl rfl hl.1 (Nat.le_of_ble_eq_true rfl) rfl dX7_writeAll_85 ⟨Nat.le_of_ble_eq_true rfl, Nat.le_of_ble_eq_true rfl⟩ ⟨Nat.le_refl _, Nat.le_refl _⟩) hZ (fun _ _ hW km hZ => ?_)
  replace hkm := hkm.tr km
  replace k_x0 := km.at k_x0 (by decide)
  replace k_x1 := km.at k_x1 (by decide)
  replace k_x2 := km.at k_x2 (by decide)
  refine lv_aload_n C.1 C.2.1 dX7_writeAll_88 rfl (lv_at hl 2 rfl) ?_
  refine lv_bipush (v := (48 : Int32)) C.1 C.2.1 dX7_writeAll_89 (by decide) ?_
  refine lv_aload_n C.1 C.2.1 dX7_writeAll_91 rfl (lv_at hl 1 rfl) ?_
  obtain ⟨r_12, er_12, hE⟩ := cl_e hE
  refine gf_X7_105 C hW k_x1 er_12 dX7_writeAll_92 (fun k_r_12 => ?_)
  refine lv_iconst (v := (1 : Int32)) C.1 C.2.1 dX7_writeAll_95 (by decide) ?_
  obtain ⟨g_13, hE⟩ := gd_e hE
  refine y_iald C hW k_r_12 g_13 dX7_writeAll_96 ?_
  refine lv_iadd C.1 C.2.1 dX7_writeAll_97 ?_
  obtain ⟨o_14, eo_14, hE⟩ := cl_e hE
  refine x_kV (o := o_14) (z_runV (As := [.int ((48 : Int32) + (hI o_11 r_12 (1 : Int32).toNatClampNeg))]) (rest := []) C (ct_X9_append l X k_x2 eo_14) cw_X7_118 hW hZ k_x2 (by decide) rfl rfl rfl hl.1 (Nat.le_of_ble_eq_true rfl) rfl dX7_writeAll_98 ⟨Nat.le_of_ble_eq_true rfl, Nat.le_of_ble_eq_true rfl⟩ ⟨Nat.le_refl _, Nat.le_refl _⟩) hZ (fun _ _ hW km hZ => ?_)
  replace hkm := hkm.tr km
  replace k_x0 := km.at k_x0 (by decide)
  replace k_x1 := km.at k_x1 (by decide)
  replace k_x2 := km.at k_x2 (by decide)
  refine lv_aload_n C.1 C.2.1 dX7_writeAll_101 rfl (lv_at hl 2 rfl) ?_
  refine lv_bipush (v := (32 : Int32)) C.1 C.2.1 dX7_writeAll_102 (by decide) ?_
  obtain ⟨o_15, eo_15, hE⟩ := cl_e hE
  refine x_kV (o := o_15) (z_runV (As := [.int (32 : Int32)]) (rest := []) C (ct_X9_append l X k_x2 eo_15) cw_X7_118 hW hZ k_x2 (by decide) rfl rfl rfl hl.1 (Nat.le_of_ble_eq_true rfl) rfl dX7_writeAll_104 ⟨Nat.le_of_ble_eq_true rfl, Nat.le_of_ble_eq_true rfl⟩ ⟨Nat.le_refl _, Nat.le_refl _⟩) hZ (fun _ _ hW km hZ => ?_)
  replace hkm := hkm.tr km
  replace k_x0 := km.at k_x0 (by decide)
  replace k_x1 := km.at k_x1 (by decide)
  replace k_x2 := km.at k_x2 (by decide)
  refine lv_aload_n C.1 C.2.1 dX7_writeAll_107 rfl (lv_at hl 1 rfl) ?_
  refine lv_aload_n C.1 C.2.1 dX7_writeAll_108 rfl (lv_at hl 2 rfl) ?_
  obtain ⟨o_16, eo_16, hE⟩ := cl_e hE
  refine x_kV (o := o_16) (z_runS (As := [.ref x1, .ref x2]) (rest := []) C (ct_X7_writeClock l X k_x1 k_x2 eo_16) cw_X7_131 hW hZ rfl hl.1 (Nat.le_of_ble_eq_true rfl) rfl dX7_writeAll_109 ⟨Nat.le_of_ble_eq_true rfl, Nat.le_of_ble_eq_true rfl⟩ ⟨Nat.le_refl _, Nat.le_refl _⟩) hZ (fun _ _ hW km hZ => ?_)
  replace hkm := hkm.tr km
  replace k_x0 := km.at k_x0 (by decide)
  replace k_x1 := km.at k_x1 (by decide)
  replace k_x2 := km.at k_x2 (by decide)
  exact x_vret C rfl hW hZ hkm hE dX7_writeAll_112
set_option maxRecDepth 20000 in
theorem ct_X7_writeAll (l : Launch) (X : Ec) (F : Nat) {h : Hp} {x0 : Nat} {x1 : Nat} {x2 : Nat} {o : Hp} (k_x0 : hK h x0 = 7) (k_x1 : hK h x1 = 3) (k_x2 : hK h x2 = 9) (hE : sX7_writeAll F h x0 x1 x2 = some o) : MetV l yX7_writeAll cX7_writeAll 3 none 3 71 X [.ref x0, .ref x1, .ref x2] h o := by
  refine x_met (by decide) (Nat.le_of_ble_eq_true rfl) ?_
  intro p e s m below meth c ls C hl hW hZ
  have hl : lv_has ls 3 [(0, .ref x0), (1, .ref x1), (2, .ref x2)] := hl
  have hkm : Km h h := Km.rf h
  refine lv_aload_n C.1 C.2.1 dX7_writeAll_0 rfl (lv_at hl 0 rfl) ?_
  refine lv_aload_n C.1 C.2.1 dX7_writeAll_1 rfl (lv_at hl 1 rfl) ?_
  refine lv_ldc2 (v := (-1 : Int64)) C.1 C.2.1 C.2.2.2.1 (C.2.2.2.2.1 _ m_1092) dX7_writeAll_2 ?_
  refine lv_aload_n C.1 C.2.1 dX7_writeAll_5 rfl (lv_at hl 2 rfl) ?_
  obtain ⟨o_1, eo_1, hE⟩ := cl_e hE
  refine x_kV (o := o_1) (z_runV (As := [.ref x1, .long (-1 : Int64), .ref x2]) (rest := []) C (ct_X7_writeRanks l X F k_x0 k_x1 k_x2 eo_1) cw_X7_114 hW hZ k_x0 (by decide) rfl rfl rfl hl.1 (Nat.le_of_ble_eq_true rfl) rfl dX7_writeAll_6 ⟨Nat.le_of_ble_eq_true rfl, Nat.le_of_ble_eq_true rfl⟩ ⟨Nat.le_refl _, Nat.le_refl _⟩) hZ (fun _ _ hW km hZ => ?_)
  replace hkm := hkm.tr km
  replace k_x0 := km.at k_x0 (by decide)
  replace k_x1 := km.at k_x1 (by decide)
  replace k_x2 := km.at k_x2 (by decide)
  refine lv_aload_n C.1 C.2.1 dX7_writeAll_9 rfl (lv_at hl 2 rfl) ?_
  refine lv_bipush (v := (32 : Int32)) C.1 C.2.1 dX7_writeAll_10 (by decide) ?_
  obtain ⟨o_2, eo_2, hE⟩ := cl_e hE
  refine x_kV (o := o_2) (z_runV (As := [.int (32 : Int32)]) (rest := []) C (ct_X9_append l X k_x2 eo_2) cw_X7_118 hW hZ k_x2 (by decide) rfl rfl rfl hl.1 (Nat.le_of_ble_eq_true rfl) rfl dX7_writeAll_12 ⟨Nat.le_of_ble_eq_true rfl, Nat.le_of_ble_eq_true rfl⟩ ⟨Nat.le_refl _, Nat.le_refl _⟩) hZ (fun _ _ hW km hZ => ?_)
  replace hkm := hkm.tr km
  replace k_x0 := km.at k_x0 (by decide)
  replace k_x1 := km.at k_x1 (by decide)
  replace k_x2 := km.at k_x2 (by decide)
  refine lv_aload_n C.1 C.2.1 dX7_writeAll_15 rfl (lv_at hl 2 rfl) ?_
  refine lv_aload_n C.1 C.2.1 dX7_writeAll_16 rfl (lv_at hl 1 rfl) ?_
  refine gf_X7_78 C hW k_x1 dX7_writeAll_17 ?_
  refine lv_if_ne (tgt := 28) C.1 C.2.1 dX7_writeAll_20 (by decide) (fun c_3 => ?_) (fun c_3 => ?_)
  · have hE := br_n hE c_3
    refine lv_bipush (v := (98 : Int32)) C.1 C.2.1 dX7_writeAll_28 (by decide) ?_
    exact bX7_writeAll_30 C k_x0 k_x1 k_x2 k_x2 hkm hW hZ _ (lv_sub hl [0, 1, 2] rfl) hE
  · have hE := br_p hE c_3
    refine lv_bipush (v := (119 : Int32)) C.1 C.2.1 dX7_writeAll_23 (by decide) ?_
    refine lv_goto (tgt := 30) C.1 C.2.1 dX7_writeAll_25 (by decide) ?_
    exact bX7_writeAll_30 C k_x0 k_x1 k_x2 k_x2 hkm hW hZ _ (lv_sub hl [0, 1, 2] rfl) hE
