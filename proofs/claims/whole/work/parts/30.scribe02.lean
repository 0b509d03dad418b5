set_option maxRecDepth 100000 in
theorem m_1100 : Cond.methodLink RX7 118 yX9_append ∈ W0 := w0_in (List.mem_append_right _ (List.mem_of_getElem? (i := 1100) rfl)) rfl
theorem cw_X7_118 : cwd RX7 118 yX9_append cX9_append 2 none false 1 := ⟨m_641, m_1100, m_2, ⟨m_639, m_640⟩, by decide, by decide, by decide +kernel⟩
theorem dX7_writeEmpty_0 : decode cX7_writeEmpty 0 = .ok (.iload_n 0, 1) := by decide +kernel
theorem dX7_writeEmpty_1 : decode cX7_writeEmpty 1 = .ok (.ifCond .le 11, 3) := by decide +kernel
theorem dX7_writeEmpty_4 : decode cX7_writeEmpty 4 = .ok (.aload_n 1, 1) := by decide +kernel
theorem dX7_writeEmpty_5 : decode cX7_writeEmpty 5 = .ok (.bipush 48, 2) := by decide +kernel
theorem dX7_writeEmpty_7 : decode cX7_writeEmpty 7 = .ok (.iload_n 0, 1) := by decide +kernel
theorem dX7_writeEmpty_8 : decode cX7_writeEmpty 8 = .ok (.iadd, 1) := by decide +kernel
theorem dX7_writeEmpty_9 : decode cX7_writeEmpty 9 = .ok (.invokevirtual 118, 3) := by decide +kernel
theorem dX7_writeEmpty_12 : decode cX7_writeEmpty 12 = .ok (.return_, 1) := by decide +kernel
def sX7_writeEmpty_12 (h : Hp) : Option (Hp) := some h
def sX7_writeEmpty (h : Hp) (x0 : Int32) (x1 : Nat) : Option (Hp) := br (x0 ≤ 0) (sX7_writeEmpty_12  h ) (cl (sX9_append h x1 ((48 : Int32) + x0)) fun o_2 => sX7_writeEmpty_12  o_2 )
set_option maxRecDepth 20000 in
theorem moX7_writeEmpty_12 {o : Hp} {h : Hp} (hE : sX7_writeEmpty_12 h  = some o) : Le h o := by
  exact le_some1 hE
set_option maxRecDepth 20000 in
theorem moX7_writeEmpty {o : Hp} {h : Hp} {x0 : Int32} {x1 : Nat} (hE : sX7_writeEmpty h x0 x1 = some o) : Le h o := by
  rcases br_e hE with ⟨_, hE⟩ | ⟨_, hE⟩
  · exact moX7_writeEmpty_12 hE
  · obtain ⟨o_2, eo_2, hE⟩ := cl_e hE
    refine (moX9_append eo_2).tr ?_
    exact moX7_writeEmpty_12 hE
set_option maxRecDepth 20000 in
theorem bX7_writeEmpty_12 {p : Program} {l : Launch} {e : Env} {s : State} {m : MethodId} {args : Array Value} {below : List Frame} {meth : Method} {c : Code} {X : Ec} {h0 : Hp} {o : Hp} (C : Cx X p s m args meth c RX7 cX7_writeEmpty 2 none "writeEmpty") {h : Hp} {H : Heap} {locs : List Loc} (hkm : Km h0 h) (hW : Wx X h H) (hZ : va_S (aA (eB X)) s.heap H locs) (ls : Array Slot) (hl : lv_has ls 2 []) (hE : sX7_writeEmpty_12 h  = some o) : W p l e (rm 1 21) s m args below meth c H locs 0 0 (MQ below (QV X h0 o) args s 0 0 (aA (eB X))) (F0 m 12 ls []) := by
  exact x_vret C rfl hW hZ hkm hE dX7_writeEmpty_12
set_option maxRecDepth 20000 in
theorem ct_X7_writeEmpty (l : Launch) (X : Ec) {h : Hp} {x0 : Int32} {x1 : Nat} {o : Hp} (k_x1 : hK h x1 = 9) (hE : sX7_writeEmpty h x0 x1 = some o) : MetV l yX7_writeEmpty cX7_writeEmpty 2 none 1 21 X [.int x0, .ref x1] h o := by
  refine x_met (by decide) (Nat.le_of_ble_eq_true rfl) ?_
  intro p e s m below meth c ls C hl hW hZ
  have hl : lv_has ls 2 [(0, .int x0), (1, .ref x1)] := hl
  have hkm : Km h h := Km.rf h
  refine lv_iload_n C.1 C.2.1 dX7_writeEmpty_0 rfl (lv_at hl 0 rfl) ?_
  refine lv_if_le (tgt := 12) C.1 C.2.1 dX7_writeEmpty_1 (by decide) (fun c_1 => ?_) (fun c_1 => ?_)
  · have hE := br_p hE c_1
    exact bX7_writeEmpty_12 C hkm hW hZ _ (lv_sub hl [] rfl) hE
  · have hE := br_n hE c_1
    refine lv_aload_n C.1 C.2.1 dX7_writeEmpty_4 rfl (lv_at hl 1 rfl) ?_
    refine lv_bipush (v := (48 : Int32)) C.1 C.2.1 dX7_writeEmpty_5 (by decide) ?_
    refine lv_iload_n C.1 C.2.1 dX7_writeEmpty_7 rfl (lv_at hl 0 rfl) ?_
    refine lv_iadd C.1 C.2.1 dX7_writeEmpty_8 ?_
    obtain ⟨o_2, eo_2, hE⟩ := cl_e hE
    refine x_kV (o := o_2) (z_runV (As := [.int ((48 : Int32) + x0)]) (rest := []) C (ct_X9_append l X k_x1 eo_2) cw_X7_118 hW hZ k_x1 (by decide) rfl rfl rfl hl.1 (Nat.le_of_ble_eq_true rfl) rfl dX7_writeEmpty_9 ⟨Nat.le_of_ble_eq_true rfl, Nat.le_of_ble_eq_true rfl⟩ ⟨Nat.le_refl _, Nat.le_refl _⟩) hZ (fun _ _ hW km hZ => ?_)
    replace hkm := hkm.tr km
    replace k_x1 := km.at k_x1 (by decide)
    exact bX7_writeEmpty_12 C hkm hW hZ _ (lv_sub hl [] rfl) hE
set_option maxRecDepth 100000 in
theorem m_281 : Cond.fieldLink RX7 134 (TX3 0).1 (TX3 0).2.1 (TX3 0).2.2.1 ∈ W0 := w0_in (List.mem_append_right _ (List.mem_of_getElem? (i := 281) rfl)) rfl
set_option maxRecDepth 100000 in
theorem m_1097 : Cond.methodLink RX7 138 yX7_writeEmpty ∈ W0 := w0_in (List.mem_append_right _ (List.mem_of_getElem? (i := 1097) rfl)) rfl
set_option maxRecDepth 100000 in
theorem m_1098 : Cond.static yX7_writeEmpty ∈ W0 := w0_in (List.mem_append_right _ (List.mem_of_getElem? (i := 1098) rfl)) rfl
set_option maxRecDepth 100000 in
theorem m_1099 : Cond.code yX7_writeEmpty cX7_writeEmpty 2 none ∈ W0 := w0_in (List.mem_append_right _ (List.mem_of_getElem? (i := 1099) rfl)) rfl
set_option maxRecDepth 100000 in
theorem m_1101 : Cond.methodLink RX7 142 yX1_letterOf ∈ W0 := w0_in (List.mem_append_right _ (List.mem_of_getElem? (i := 1101) rfl)) rfl
set_option maxRecDepth 100000 in
theorem m_1102 : Cond.instanceMethod yX1_letterOf ∈ W0 := w0_in (List.mem_append_right _ (List.mem_of_getElem? (i := 1102) rfl)) rfl
set_option maxRecDepth 100000 in
theorem m_1103 : Cond.selects RX1 yX1_letterOf yX1_letterOf ∈ W0 := w0_in (List.mem_append_right _ (List.mem_of_getElem? (i := 1103) rfl)) rfl
set_option maxRecDepth 100000 in
theorem m_1104 : Cond.code yX1_letterOf cX1_letterOf 3 (some .int) ∈ W0 := w0_in (List.mem_append_right _ (List.mem_of_getElem? (i := 1104) rfl)) rfl
section
variable {p : Program} {l : Launch} {e : Env} {R : Room} {s : State} {m : MethodId} {args : Array Value} {below : List Frame} {meth : Method} {c : Code} {H : Heap} {locs : List Loc} {cells slots : Nat} {Q : State → Prop}
variable {cc : ByteArray} {pc : Nat} {ls : Array Slot} {rest : List Value} {X : Ec} {h h1 : Hp} {nL : Nat} {rt : Option FieldType} {mn : String}
theorem gf_X7_134 {a r : Nat} (C : Cx X p s m args meth c RX7 cc nL rt mn) (hW : Wx X h H) (ha : hK h a = 3) (hr : hR h a 0 = some r) (hdg : decode cc pc = .ok (.getfield 134, 3)) (kk : hK h r = 16 → W p l e R s m args below meth c H locs cells slots Q (F0 m (pc + 3) ls (.ref r :: rest))) : W p l e R s m args below meth c H locs cells slots Q (F0 m pc ls (.ref a :: rest)) :=
  y_getr C hW ha i_X3 (by decide) rfl (by decide) m_281 rfl rfl hr hdg kk
end
theorem cw_X7_138 : cwd RX7 138 yX7_writeEmpty cX7_writeEmpty 2 none true 2 := ⟨m_1099, m_1097, m_10, m_1098, by decide, by decide, by decide +kernel⟩
theorem cw_X7_142 : cwd RX7 142 yX1_letterOf cX1_letterOf 3 (some .int) false 1 := ⟨m_1104, m_1101, m_4, ⟨m_1102, m_1103⟩, by decide, by decide, by decide +kernel⟩
theorem dX7_writeRanks_0 : decode cX7_writeRanks 0 = .ok (.aload_n 0, 1) := by decide +kernel
theorem dX7_writeRanks_1 : decode cX7_writeRanks 1 = .ok (.getfield 9, 3) := by decide +kernel
theorem dX7_writeRanks_4 : decode cX7_writeRanks 4 = .ok (.getfield 60, 3) := by decide +kernel
theorem dX7_writeRanks_7 : decode cX7_writeRanks 7 = .ok (.iconst 1, 1) := by decide +kernel
theorem dX7_writeRanks_8 : decode cX7_writeRanks 8 = .ok (.isub, 1) := by decide +kernel
theorem dX7_writeRanks_9 : decode cX7_writeRanks 9 = .ok (.istore 5, 2) := by decide +kernel
theorem dX7_writeRanks_11 : decode cX7_writeRanks 11 = .ok (.iload 5, 2) := by decide +kernel
theorem dX7_writeRanks_13 : decode cX7_writeRanks 13 = .ok (.ifCond .lt 146, 3) := by decide +kernel
theorem dX7_writeRanks_16 : decode cX7_writeRanks 16 = .ok (.iconst 0, 1) := by decide +kernel
theorem dX7_writeRanks_17 : decode cX7_writeRanks 17 = .ok (.istore 6, 2) := by decide +kernel
theorem dX7_writeRanks_19 : decode cX7_writeRanks 19 = .ok (.iconst 0, 1) := by decide +kernel
theorem dX7_writeRanks_20 : decode cX7_writeRanks 20 = .ok (.istore 7, 2) := by decide +kernel
theorem dX7_writeRanks_22 : decode cX7_writeRanks 22 = .ok (.iload 7, 2) := by decide +kernel
theorem dX7_writeRanks_24 : decode cX7_writeRanks 24 = .ok (.aload_n 0, 1) := by decide +kernel
theorem dX7_writeRanks_25 : decode cX7_writeRanks 25 = .ok (.getfield 9, 3) := by decide +kernel
theorem dX7_writeRanks_28 : decode cX7_writeRanks 28 = .ok (.getfield 65, 3) := by decide +kernel
theorem dX7_writeRanks_31 : decode cX7_writeRanks 31 = .ok (.if_icmp .ge 103, 3) := by decide +kernel
theorem dX7_writeRanks_34 : decode cX7_writeRanks 34 = .ok (.iload 5, 2) := by decide +kernel
theorem dX7_writeRanks_36 : decode cX7_writeRanks 36 = .ok (.aload_n 0, 1) := by decide +kernel
theorem dX7_writeRanks_37 : decode cX7_writeRanks 37 = .ok (.getfield 9, 3) := by decide +kernel
theorem dX7_writeRanks_40 : decode cX7_writeRanks 40 = .ok (.getfield 65, 3) := by decide +kernel
theorem dX7_writeRanks_43 : decode cX7_writeRanks 43 = .ok (.imul, 1) := by decide +kernel
theorem dX7_writeRanks_44 : decode cX7_writeRanks 44 = .ok (.iload 7, 2) := by decide +kernel
theorem dX7_writeRanks_46 : decode cX7_writeRanks 46 = .ok (.iadd, 1) := by decide +kernel
theorem dX7_writeRanks_47 : decode cX7_writeRanks 47 = .ok (.istore 8, 2) := by decide +kernel
theorem dX7_writeRanks_49 : decode cX7_writeRanks 49 = .ok (.lload_n 2, 1) := by decide +kernel
theorem dX7_writeRanks_50 : decode cX7_writeRanks 50 = .ok (.iload 8, 2) := by decide +kernel
theorem dX7_writeRanks_52 : decode cX7_writeRanks 52 = .ok (.lushr, 1) := by decide +kernel
theorem dX7_writeRanks_53 : decode cX7_writeRanks 53 = .ok (.lconst 1, 1) := by decide +kernel
theorem dX7_writeRanks_54 : decode cX7_writeRanks 54 = .ok (.land, 1) := by decide +kernel
theorem dX7_writeRanks_55 : decode cX7_writeRanks 55 = .ok (.lconst 0, 1) := by decide +kernel
theorem dX7_writeRanks_56 : decode cX7_writeRanks 56 = .ok (.lcmp, 1) := by decide +kernel
theorem dX7_writeRanks_57 : decode cX7_writeRanks 57 = .ok (.ifCond .ne 7, 3) := by decide +kernel
theorem dX7_writeRanks_60 : decode cX7_writeRanks 60 = .ok (.iconst 1, 1) := by decide +kernel
theorem dX7_writeRanks_61 : decode cX7_writeRanks 61 = .ok (.goto 4, 3) := by decide +kernel
theorem dX7_writeRanks_64 : decode cX7_writeRanks 64 = .ok (.iconst 0, 1) := by decide +kernel
theorem dX7_writeRanks_65 : decode cX7_writeRanks 65 = .ok (.istore 9, 2) := by decide +kernel
theorem dX7_writeRanks_67 : decode cX7_writeRanks 67 = .ok (.iload 9, 2) := by decide +kernel
theorem dX7_writeRanks_69 : decode cX7_writeRanks 69 = .ok (.ifCond .ne 20, 3) := by decide +kernel
theorem dX7_writeRanks_72 : decode cX7_writeRanks 72 = .ok (.aload_n 1, 1) := by decide +kernel
theorem dX7_writeRanks_73 : decode cX7_writeRanks 73 = .ok (.getfield 134, 3) := by decide +kernel
theorem dX7_writeRanks_76 : decode cX7_writeRanks 76 = .ok (.iload 8, 2) := by decide +kernel
theorem dX7_writeRanks_78 : decode cX7_writeRanks 78 = .ok (.baload, 1) := by decide +kernel
theorem dX7_writeRanks_79 : decode cX7_writeRanks 79 = .ok (.iconst (-1), 1) := by decide +kernel
theorem dX7_writeRanks_80 : decode cX7_writeRanks 80 = .ok (.if_icmp .ne 9, 3) := by decide +kernel
theorem dX7_writeRanks_83 : decode cX7_writeRanks 83 = .ok (.iinc 6 1, 3) := by decide +kernel
theorem dX7_writeRanks_86 : decode cX7_writeRanks 86 = .ok (.goto 42, 3) := by decide +kernel
theorem dX7_writeRanks_89 : decode cX7_writeRanks 89 = .ok (.iload 6, 2) := by decide +kernel
theorem dX7_writeRanks_91 : decode cX7_writeRanks 91 = .ok (.aload 4, 2) := by decide +kernel
theorem dX7_writeRanks_93 : decode cX7_writeRanks 93 = .ok (.invokestatic 138, 3) := by decide +kernel
theorem dX7_writeRanks_96 : decode cX7_writeRanks 96 = .ok (.iconst 0, 1) := by decide +kernel
theorem dX7_writeRanks_97 : decode cX7_writeRanks 97 = .ok (.istore 6, 2) := by decide +kernel
theorem dX7_writeRanks_99 : decode cX7_writeRanks 99 = .ok (.aload 4, 2) := by decide +kernel
theorem dX7_writeRanks_101 : decode cX7_writeRanks 101 = .ok (.iload 9, 2) := by decide +kernel
theorem dX7_writeRanks_103 : decode cX7_writeRanks 103 = .ok (.ifCond .eq 8, 3) := by decide +kernel
theorem dX7_writeRanks_106 : decode cX7_writeRanks 106 = .ok (.bipush 63, 2) := by decide +kernel
theorem dX7_writeRanks_108 : decode cX7_writeRanks 108 = .ok (.goto 17, 3) := by decide +kernel
theorem dX7_writeRanks_111 : decode cX7_writeRanks 111 = .ok (.aload_n 0, 1) := by decide +kernel
theorem dX7_writeRanks_112 : decode cX7_writeRanks 112 = .ok (.getfield 9, 3) := by decide +kernel
theorem dX7_writeRanks_115 : decode cX7_writeRanks 115 = .ok (.aload_n 1, 1) := by decide +kernel
theorem dX7_writeRanks_116 : decode cX7_writeRanks 116 = .ok (.getfield 134, 3) := by decide +kernel
theorem dX7_writeRanks_119 : decode cX7_writeRanks 119 = .ok (.iload 8, 2) := by decide +kernel
theorem dX7_writeRanks_121 : decode cX7_writeRanks 121 = .ok (.baload, 1) := by decide +kernel
theorem dX7_writeRanks_122 : decode cX7_writeRanks 122 = .ok (.invokevirtual 142, 3) := by decide +kernel
theorem dX7_writeRanks_125 : decode cX7_writeRanks 125 = .ok (.invokevirtual 118, 3) := by decide +kernel
theorem dX7_writeRanks_128 : decode cX7_writeRanks 128 = .ok (.iinc 7 1, 3) := by decide +kernel
theorem dX7_writeRanks_131 : decode cX7_writeRanks 131 = .ok (.goto (-109), 3) := by decide +kernel
theorem dX7_writeRanks_134 : decode cX7_writeRanks 134 = .ok (.iload 6, 2) := by decide +kernel
theorem dX7_writeRanks_136 : decode cX7_writeRanks 136 = .ok (.aload 4, 2) := by decide +kernel
theorem dX7_writeRanks_138 : decode cX7_writeRanks 138 = .ok (.invokestatic 138, 3) := by decide +kernel
theorem dX7_writeRanks_141 : decode cX7_writeRanks 141 = .ok (.iload 5, 2) := by decide +kernel
theorem dX7_writeRanks_143 : decode cX7_writeRanks 143 = .ok (.ifCond .le 10, 3) := by decide +kernel
theorem dX7_writeRanks_146 : decode cX7_writeRanks 146 = .ok (.aload 4, 2) := by decide +kernel
theorem dX7_writeRanks_148 : decode cX7_writeRanks 148 = .ok (.bipush 47, 2) := by decide +kernel
theorem dX7_writeRanks_150 : decode cX7_writeRanks 150 = .ok (.invokevirtual 118, 3) := by decide +kernel
theorem dX7_writeRanks_153 : decode cX7_writeRanks 153 = .ok (.iinc 5 (-1), 3) := by decide +kernel
theorem dX7_writeRanks_156 : decode cX7_writeRanks 156 = .ok (.goto (-145), 3) := by decide +kernel
theorem dX7_writeRanks_159 : decode cX7_writeRanks 159 = .ok (.return_, 1) := by decide +kernel
def sX7_writeRanks_153 (F : Nat) (k_11 : Hp → Nat → Nat → Int64 → Nat → Int32 → Option (Hp)) (h : Hp) (x0 : Nat) (x1 : Nat) (x2 : Int64) (x4 : Nat) (x5 : Int32) : Option (Hp) := nm (x5 + (-1 : Int32)) fun v_1 => k_11 h x0 x1 x2 x4 v_1
def sX7_writeRanks_128 (F : Nat) (k_11 : Hp → Nat → Nat → Int64 → Nat → Int32 → Option (Hp)) (k_22 : Hp → Nat → Nat → Int64 → Nat → Int32 → Int32 → Int32 → Option (Hp)) (h : Hp) (x0 : Nat) (x1 : Nat) (x2 : Int64) (x4 : Nat) (x5 : Int32) (x6 : Int32) (x7 : Int32) : Option (Hp) := nm (x7 + (1 : Int32)) fun v_1 => k_22 h x0 x1 x2 x4 x5 x6 v_1
def sX7_writeRanks_125 (F : Nat) (k_11 : Hp → Nat → Nat → Int64 → Nat → Int32 → Option (Hp)) (k_22 : Hp → Nat → Nat → Int64 → Nat → Int32 → Int32 → Int32 → Option (Hp)) (h : Hp) (x0 : Nat) (x1 : Nat) (x2 : Int64) (x4 : Nat) (x5 : Int32) (x6 : Int32) (x7 : Int32) (t0 : Int32) (t1 : Nat) : Option (Hp) := cl (sX9_append h t1 t0) fun o_1 => sX7_writeRanks_128 F k_11 k_22 o_1 x0 x1 x2 x4 x5 x6 x7
def sX7_writeRanks_89 (F : Nat) (k_11 : Hp → Nat → Nat → Int64 → Nat → Int32 → Option (Hp)) (k_22 : Hp → Nat → Nat → Int64 → Nat → Int32 → Int32 → Int32 → Option (Hp)) (h : Hp) (x0 : Nat) (x1 : Nat) (x2 : Int64) (x4 : Nat) (x5 : Int32) (x6 : Int32) (x7 : Int32) (x8 : Int32) (x9 : Int32) : Option (Hp) := cl (sX7_writeEmpty h x6 x4) fun o_1 => br (x9 = 0) (cl (hR o_1 x0 0) fun r_3 => cl (hR o_1 x1 0) fun r_4 => gd (inB x8 (hN o_1 r_4)) <| cl (sX1_letterOf o_1 r_3 (hI o_1 r_4 x8.toNatClampNeg)) fun o_6 => sX7_writeRanks_125 F k_11 k_22 o_6.2 x0 x1 x2 x4 x5 (0 : Int32) x7 o_6.1 x4) (sX7_writeRanks_125 F k_11 k_22 o_1 x0 x1 x2 x4 x5 (0 : Int32) x7 (63 : Int32) x4)
def sX7_writeRanks_65 (F : Nat) (k_11 : Hp → Nat → Nat → Int64 → Nat → Int32 → Option (Hp)) (k_22 : Hp → Nat → Nat → Int64 → Nat → Int32 → Int32 → Int32 → Option (Hp)) (h : Hp) (x0 : Nat) (x1 : Nat) (x2 : Int64) (x4 : Nat) (x5 : Int32) (x6 : Int32) (x7 : Int32) (x8 : Int32) (t0 : Int32) : Option (Hp) := br (t0 = 0) (cl (hR h x1 0) fun r_2 => gd (inB x8 (hN h r_2)) <| br ((hI h r_2 x8.toNatClampNeg) = (-1 : Int32)) (nm (x6 + (1 : Int32)) fun v_5 => sX7_writeRanks_128 F k_11 k_22 h x0 x1 x2 x4 x5 v_5 x7) (sX7_writeRanks_89 F k_11 k_22 h x0 x1 x2 x4 x5 x6 x7 x8 t0)) (sX7_writeRanks_89 F k_11 k_22 h x0 x1 x2 x4 x5 x6 x7 x8 t0)
def sX7_writeRanks_22 (F : Nat) (k_11 : Hp → Nat → Nat → Int64 → Nat → Int32 → Option (Hp)) : Nat → Hp → Nat → Nat → Int64 → Nat → Int32 → Int32 → Int32 → Option (Hp)
  | 0, _, _, _, _, _, _, _, _ => none
  | f + 1, h, x0, x1, x2, x4, x5, x6, x7 => cl (hR h x0 0) fun r_1 => br ((hI h r_1 0) ≤ x7) (cl (sX7_writeEmpty h x6 x4) fun o_3 => br (x5 ≤ 0) (sX7_writeRanks_153 F k_11 o_3 x0 x1 x2 x4 x5) (cl (sX9_append o_3 x4 (47 : Int32)) fun o_5 => sX7_writeRanks_153 F k_11 o_5 x0 x1 x2 x4 x5)) (cl (hR h x0 0) fun r_6 => nm ((x5 * (hI h r_6 0)) + x7) fun v_7 => br ((lg_cmp (((x2.toUInt64 >>> (v_7.toInt64.toUInt64 &&& Int64.toUInt64 63)).toInt64) &&& (1 : Int64)) (0 : Int64)) = 0) (sX7_writeRanks_65 F k_11 (sX7_writeRanks_22 F k_11 f) h x0 x1 x2 x4 x5 x6 x7 v_7 (1 : Int32)) (sX7_writeRanks_65 F k_11 (sX7_writeRanks_22 F k_11 f) h x0 x1 x2 x4 x5 x6 x7 v_7 (0 : Int32)))
def sX7_writeRanks_11 (F : Nat) : Nat → Hp → Nat → Nat → Int64 → Nat → Int32 → Option (Hp)
  | 0, _, _, _, _, _, _ => none
  | f + 1, h, x0, x1, x2, x4, x5 => br (x5 < 0) (some h) (sX7_writeRanks_22 F (sX7_writeRanks_11 F f) F h x0 x1 x2 x4 x5 (0 : Int32) (0 : Int32))
def sX7_writeRanks (F : Nat) (h : Hp) (x0 : Nat) (x1 : Nat) (x2 : Int64) (x4 : Nat) : Option (Hp) := cl (hR h x0 0) fun r_1 => nm ((hI h r_1 1) - (1 : Int32)) fun v_2 => sX7_writeRanks_11 F F h x0 x1 x2 x4 v_2
set_option maxRecDepth 20000 in
theorem moX7_writeRanks_153 {o : Hp} {k_11 : Hp → Nat → Nat → Int64 → Nat → Int32 → Option (Hp)} {F : Nat} (mk_11 : ∀ (h : Hp) (x0 : Nat) (x1 : Nat) (x2 : Int64) (x4 : Nat) (x5 : Int32), k_11 h x0 x1 x2 x4 x5 = some o → Le h o) {h : Hp} {x0 : Nat} {x1 : Nat} {x2 : Int64} {x4 : Nat} {x5 : Int32} (hE : sX7_writeRanks_153 F k_11 h x0 x1 x2 x4 x5 = some o) : Le h o := by
  obtain ⟨v_1, ev_1, hE⟩ := nm_e2 hE
  exact mk_11 _ _ _ _ _ _ hE
set_option maxRecDepth 20000 in
theorem moX7_writeRanks_128 {o : Hp} {k_11 : Hp → Nat → Nat → Int64 → Nat → Int32 → Option (Hp)} {k_22 : Hp → Nat → Nat → Int64 → Nat → Int32 → Int32 → Int32 → Option (Hp)} {F : Nat} (mk_11 : ∀ (h : Hp) (x0 : Nat) (x1 : Nat) (x2 : Int64) (x4 : Nat) (x5 : Int32), k_11 h x0 x1 x2 x4 x5 = some o → Le h o) (mk_22 : ∀ (h : Hp) (x0 : Nat) (x1 : Nat) (x2 : Int64) (x4 : Nat) (x5 : Int32) (x6 : Int32) (x7 : Int32), k_22 h x0 x1 x2 x4 x5 x6 x7 = some o → Le h o) {h : Hp} {x0 : Nat} {x1 : Nat} {x2 : Int64} {x4 : Nat} {x5 : Int32} {x6 : Int32} {x7 : Int32} (hE : sX7_writeRanks_128 F k_11 k_22 h x0 x1 x2 x4 x5 x6 x7 = some o) : Le h o := by
  obtain ⟨v_1, ev_1, hE⟩ := nm_e2 hE
  exact mk_22 _ _ _ _ _ _ _ _ hE
set_option maxRecDepth 20000 in
theorem moX7_writeRanks_125 {o : Hp} {k_11 : Hp → Nat → Nat → Int64 → Nat → Int32 → Option (Hp)} {k_22 : Hp → Nat → Nat → Int64 → Nat → Int32 → Int32 → Int32 → Option (Hp)} {F : Nat} (mk_11 : ∀ (h : Hp) (x0 : Nat) (x1 : Nat) (x2 : Int64) (x4 : Nat) (x5 : Int32), k_11 h x0 x1 x2 x4 x5 = some o → Le h o) (mk_22 : ∀ (h : Hp) (x0 : Nat) (x1 : Nat) (x2 : Int64) (x4 : Nat) (x5 : Int32) (x6 : Int32) (x7 : Int32), k_22 h x0 x1 x2 x4 x5 x6 x7 = some o → Le h o) {h : Hp} {x0 : Nat} {x1 : Nat} {x2 : Int64} {x4 : Nat} {x5 : Int32} {x6 : Int32} {x7 : Int32} {t0 : Int32} {t1 : Nat} (hE : sX7_writeRanks_125 F k_11 k_22 h x0 x1 x2 x4 x5 x6 x7 t0 t1 = some o) : Le h o := by
  obtain ⟨o_1, eo_1, hE⟩ := cl_e hE
  refine (moX9_append eo_1).tr ?_
  exact moX7_writeRanks_128 mk_11 mk_22 hE
set_option maxRecDepth 20000 in
theorem moX7_writeRanks_89 {o : Hp} {k_11 : Hp → Nat → Nat → Int64 → Nat → Int32 → Option (Hp)} {k_22 : Hp → Nat → Nat → Int64 → Nat → Int32 → Int32 → Int32 → Option (Hp)} {F : Nat} (mk_11 : ∀ (h : Hp) (x0 : Nat) (x1 : Nat) (x2 : Int64) (x4 : Nat) (x5 : Int32), k_11 h x0 x1 x2 x4 x5 = some o → Le h o) (mk_22 : ∀ (h : Hp) (x0 : Nat) (x1 : Nat) (x2 : Int64) (x4 : Nat) (x5 : Int32) (x6 : Int32) (x7 : Int32), k_22 h x0 x1 x2 x4 x5 x6 x7 = some o → Le h o) {h : Hp} {x0 : Nat} {x1 : Nat} {x2 : Int64} {x4 : Nat} {x5 : Int32} {x6 : Int32} {x7 : Int32} {x8 : Int32} {x9 : Int32} (hE : sX7_writeRanks_89 F k_11 k_22 h x0 x1 x2 x4 x5 x6 x7 x8 x9 = some o) : Le h o := by
  obtain ⟨o_1, eo_1, hE⟩ := cl_e hE
  refine (moX7_writeEmpty eo_1).tr ?_
  rcases br_e hE with ⟨_, hE⟩ | ⟨_, hE⟩
  · obtain ⟨r_3, er_3, hE⟩ := cl_e hE
    obtain ⟨r_4, er_4, hE⟩ := cl_e hE
    obtain ⟨g_5, hE⟩ := gd_e hE
    obtain ⟨o_6, eo_6, hE⟩ := cl_e hE
    refine (moX1_letterOf eo_6).tr ?_
    exact moX7_writeRanks_125 mk_11 mk_22 hE
  · exact moX7_writeRanks_125 mk_11 mk_22 hE
set_option maxRecDepth 20000 in
theorem moX7_writeRanks_65 {o : Hp} {k_11 : Hp → Nat → Nat → Int64 → Nat → Int32 → Option (Hp)} {k_22 : Hp → Nat → Nat → Int64 → Nat → Int32 → Int32 → Int32 → Option (Hp)} {F : Nat} (mk_11 : ∀ (h : Hp) (x0 : Nat) (x1 : Nat) (x2 : Int64) (x4 : Nat) (x5 : Int32), k_11 h x0 x1 x2 x4 x5 = some o → Le h o) (mk_22 : ∀ (h : Hp) (x0 : Nat) (x1 : Nat) (x2 : Int64) (x4 : Nat) (x5 : Int32) (x6 : Int32) (x7 : Int32), k_22 h x0 x1 x2 x4 x5 x6 x7 = some o → Le h o) {h : Hp} {x0 : Nat} {x1 : Nat} {x2 : Int64} {x4 : Nat} {x5 : Int32} {x6 : Int32} {x7 : Int32} {x8 : Int32} {t0 : Int32} (hE : sX7_writeRanks_65 F k_11 k_22 h x0 x1 x2 x4 x5 x6 x7 x8 t0 = some o) : Le h o := by
  rcases br_e hE with ⟨_, hE⟩ | ⟨_, hE⟩
  · obtain ⟨r_2, er_2, hE⟩ := cl_e hE
    obtain ⟨g_3, hE⟩ := gd_e hE
    rcases br_e hE with ⟨_, hE⟩ | ⟨_, hE⟩
    · obtain ⟨v_5, ev_5, hE⟩ := nm_e2 hE
      exact moX7_writeRanks_128 mk_11 mk_22 hE
    · exact moX7_writeRanks_89 mk_11 mk_22 hE
  · exact moX7_writeRanks_89 mk_11 mk_22 hE
set_option maxRecDepth 20000 in
theorem moX7_writeRanks_22 {o : Hp} {k_11 : Hp → Nat → Nat → Int64 → Nat → Int32 → Option (Hp)} {F : Nat} (mk_11 : ∀ (h : Hp) (x0 : Nat) (x1 : Nat) (x2 : Int64) (x4 : Nat) (x5 : Int32), k_11 h x0 x1 x2 x4 x5 = some o → Le h o) : ∀ (f : Nat) {h : Hp} {x0 : Nat} {x1 : Nat} {x2 : Int64} {x4 : Nat} {x5 : Int32} {x6 : Int32} {x7 : Int32}, sX7_writeRanks_22 F k_11 f h x0 x1 x2 x4 x5 x6 x7 = some o → Le h o := by
  intro f
  induction f with
  | zero =>
    intro h x0 x1 x2 x4 x5 x6 x7 hE
    rw [sX7_writeRanks_22] at hE
    cases hE
  | succ f ih =>
    intro h x0 x1 x2 x4 x5 x6 x7 hE
    rw [sX7_writeRanks_22] at hE
    have mk_22 : ∀ (h : Hp) (x0 : Nat) (x1 : Nat) (x2 : Int64) (x4 : Nat) (x5 : Int32) (x6 : Int32) (x7 : Int32), sX7_writeRanks_22 F k_11 f h x0 x1 x2 x4 x5 x6 x7 = some o → Le h o := fun h x0 x1 x2 x4 x5 x6 x7 hE => ih hE
    obtain ⟨r_1, er_1, hE⟩ := cl_e hE
    rcases br_e hE with ⟨_, hE⟩ | ⟨_, hE⟩
    · obtain ⟨o_3, eo_3, hE⟩ := cl_e hE
      refine (moX7_writeEmpty eo_3).tr ?_
      rcases br_e hE with ⟨_, hE⟩ | ⟨_, hE⟩
      · exact moX7_writeRanks_153 mk_11 hE
      · obtain ⟨o_5, eo_5, hE⟩ := cl_e hE
        refine (moX9_append eo_5).tr ?_
        exact moX7_writeRanks_153 mk_11 hE
    · obtain ⟨r_6, er_6, hE⟩ := cl_e hE
      obtain ⟨v_7, ev_7, hE⟩ := nm_e2 hE
      rcases br_e hE with ⟨_, hE⟩ | ⟨_, hE⟩
      · exact moX7_writeRanks_65 mk_11 mk_22 hE
      · exact moX7_writeRanks_65 mk_11 mk_22 hE
set_option maxRecDepth 20000 in
theorem moX7_writeRanks_11 {o : Hp} {F : Nat} : ∀ (f : Nat) {h : Hp} {x0 : Nat} {x1 : Nat} {x2 : Int64} {x4 : Nat} {x5 : Int32}, sX7_writeRanks_11 F f h x0 x1 x2 x4 x5 = some o → Le h o := by
  intro f
  induction f with
  | zero =>
    intro h x0 x1 x2 x4 x5 hE
    rw [sX7_writeRanks_11] at hE
    cases hE
  | succ f ih =>
    intro h x0 x1 x2 x4 x5 hE
    rw [sX7_writeRanks_11] at hE
    have mk_11 : ∀ (h : Hp) (x0 : Nat) (x1 : Nat) (x2 : Int64) (x4 : Nat) (x5 : Int32), sX7_writeRanks_11 F f h x0 x1 x2 x4 x5 = some o → Le h o := fun h x0 x1 x2 x4 x5 hE => ih hE
    rcases br_e hE with ⟨_, hE⟩ | ⟨_, hE⟩
    · exact le_some1 hE
    · exact moX7_writeRanks_22 mk_11 _ hE
set_option maxRecDepth 20000 in
theorem moX7_writeRanks {o : Hp} {F : Nat} {h : Hp} {x0 : Nat} {x1 : Nat} {x2 : Int64} {x4 : Nat} (hE : sX7_writeRanks F h x0 x1 x2 x4 = some o) : Le h o := by
  obtain ⟨r_1, er_1, hE⟩ := cl_e hE
  obtain ⟨v_2, ev_2, hE⟩ := nm_e2 hE
  exact moX7_writeRanks_11 _ hE
set_option maxRecDepth 20000 in
theorem bX7_writeRanks_153 {p : Program} {l : Launch} {e : Env} {s : State} {m : MethodId} {args : Array Value} {below : List Frame} {meth : Method} {c : Code} {X : Ec} {h0 : Hp} {o : Hp} {k_11 : Hp → Nat → Nat → Int64 → Nat → Int32 → Option (Hp)} {F : Nat} (C : Cx X p s m args meth c RX7 cX7_writeRanks 10 none "writeRanks") (hk_11 : ∀ (h : Hp) (x0 : Nat) (x1 : Nat) (x2 : Int64) (x4 : Nat) (x5 : Int32) (H : Heap) (locs : List Loc), hK h x0 = 7 → hK h x1 = 3 → hK h x4 = 9 → Km h0 h → Wx X h H → va_S (aA (eB X)) s.heap H locs → ∀ (ls : Array Slot), lv_has ls 10 [(0, .ref x0), (1, .ref x1), (2, .long x2), (4, .ref x4), (5, .int x5)] → k_11 h x0 x1 x2 x4 x5 = some o → W p l e (rm 2 42) s m args below meth c H locs 0 0 (MQ below (QV X h0 o) args s 0 0 (aA (eB X))) (F0 m 11 ls [])) {h : Hp} {x0 : Nat} {x1 : Nat} {x2 : Int64} {x4 : Nat} {x5 : Int32} {H : Heap} {locs : List Loc} (k_x0 : hK h x0 = 7) (k_x1 : hK h x1 = 3) (k_x4 : hK h x4 = 9) (hkm : Km h0 h) (hW : Wx X h H) (hZ : va_S (aA (eB X)) s.heap H locs) (ls : Array Slot) (hl : lv_has ls 10 [(0, .ref x0), (1, .ref x1), (2, .long x2), (4, .ref x4), (5, .int x5)]) (hE : sX7_writeRanks_153 F k_11 h x0 x1 x2 x4 x5 = some o) : W p l e (rm 2 42) s m args below meth c H locs 0 0 (MQ below (QV X h0 o) args s 0 0 (aA (eB X))) (F0 m 153 ls []) := by
  obtain ⟨v_1, ev_1, hE⟩ := nm_e2 hE
  refine lv_iinc (v := v_1) (lv' := [(5, .int v_1), (0, .ref x0), (1, .ref x1), (2, .long x2), (4, .ref x4)]) C.1 C.2.1 dX7_writeRanks_153 hl (k := 4) rfl (by rw [ev_1]; rfl) (by decide) rfl (fun ls hl => ?_)
  refine lv_goto (tgt := 11) C.1 C.2.1 dX7_writeRanks_156 (by decide) ?_
  exact hk_11 _ _ _ _ _ _ _ _ k_x0 k_x1 k_x4 hkm hW hZ _ (lv_sub hl [1, 2, 3, 4, 0] rfl) hE
set_option maxRecDepth 20000 in
theorem bX7_writeRanks_128 {p : Program} {l : Launch} {e : Env} {s : State} {m : MethodId} {args : Array Value} {below : List Frame} {meth : Method} {c : Code} {X : Ec} {h0 : Hp} {o : Hp} {k_11 : Hp → Nat → Nat → Int64 → Nat → Int32 → Option (Hp)} {k_22 : Hp → Nat → Nat → Int64 → Nat → Int32 → Int32 → Int32 → Option (Hp)} {F : Nat} (C : Cx X p s m args meth c RX7 cX7_writeRanks 10 none "writeRanks") (hk_11 : ∀ (h : Hp) (x0 : Nat) (x1 : Nat) (x2 : Int64) (x4 : Nat) (x5 : Int32) (H : Heap) (locs : List Loc), hK h x0 = 7 → hK h x1 = 3 → hK h x4 = 9 → Km h0 h → Wx X h H → va_S (aA (eB X)) s.heap H locs → ∀ (ls : Array Slot), lv_has ls 10 [(0, .ref x0), (1, .ref x1), (2, .long x2), (4, .ref x4), (5, .int x5)] → k_11 h x0 x1 x2 x4 x5 = some o → W p l e (rm 2 42) s m args below meth c H locs 0 0 (MQ below (QV X h0 o) args s 0 0 (aA (eB X))) (F0 m 11 ls [])) (hk_22 : ∀ (h : Hp) (x0 : Nat) (x1 : Nat) (x2 : Int64) (x4 : Nat) (x5 : Int32) (x6 : Int32) (x7 : Int32) (H : Heap) (locs : List Loc), hK h x0 = 7 → hK h x1 = 3 → hK h x4 = 9 → Km h0 h → Wx X h H → va_S (aA (eB X)) s.heap H locs → ∀ (ls : Array Slot), lv_has ls 10 [(0, .ref x0), (1, .ref x1), (2, .long x2), (4, .ref x4), (5, .int x5), (6, .int x6), (7, .int x7)] → k_22 h x0 x1 x2 x4 x5 x6 x7 = some o → W p l e (rm 2 42) s m args below meth c H locs 0 0 (MQ below (QV X h0 o) args s 0 0 (aA (eB X))) (F0 m 22 ls [])) {h : Hp} {x0 : Nat} {x1 : Nat} {x2 : Int64} {x4 : Nat} {x5 : Int32} {x6 : Int32} {x7 : Int32} {H : Heap} {locs : List Loc} (k_x0 : hK h x0 = 7) (k_x1 : hK h x1 = 3) (k_x4 : hK h x4 = 9) (hkm : Km h0 h) (hW : Wx X h H) (hZ : va_S (aA (eB X)) s.heap H locs) (ls : Array Slot) (hl : lv_has ls 10 [(0, .ref x0), (1, .ref x1), (2, .long x2), (4, .ref x4), (5, .int x5), (6, .int x6), (7, .int x7)]) (hE : sX7_writeRanks_128 F k_11 k_22 h x0 x1 x2 x4 x5 x6 x7 = some o) : W p l e (rm 2 42) s m args below meth c H locs 0 0 (MQ below (QV X h0 o) args s 0 0 (aA (eB X))) (F0 m 128 ls []) := by
  obtain ⟨v_1, ev_1, hE⟩ := nm_e2 hE
  refine lv_iinc (v := v_1) (lv' := [(7, .int v_1), (0, .ref x0), (1, .ref x1), (2, .long x2), (4, .ref x4), (5, .int x5), (6, .int x6)]) C.1 C.2.1 dX7_writeRanks_128 hl (k := 6) rfl (by rw [ev_1]; rfl) (by decide) rfl (fun ls hl => ?_)
  refine lv_goto (tgt := 22) C.1 C.2.1 dX7_writeRanks_131 (by decide) ?_
  exact hk_22 _ _ _ _ _ _ _ _ _ _ k_x0 k_x1 k_x4 hkm hW hZ _ (lv_sub hl [1, 2, 3, 4, 5, 6, 0] rfl) hE
set_option maxRecDepth 20000 in
theorem bX7_writeRanks_125 {p : Program} {l : Launch} {e : Env} {s : State} {m : MethodId} {args : Array Value} {below : List Frame} {meth : Method} {c : Code} {X : Ec} {h0 : Hp} {o : Hp} {k_11 : Hp → Nat → Nat → Int64 → Nat → Int32 → Option (Hp)} {k_22 : Hp → Nat → Nat → Int64 → Nat → Int32 → Int32 → Int32 → Option (Hp)} {F : Nat} (C : Cx X p s m args meth c RX7 cX7_writeRanks 10 none "writeRanks") (hk_11 : ∀ (h : Hp) (x0 : Nat) (x1 : Nat) (x2 : Int64) (x4 : Nat) (x5 : Int32) (H : Heap) (locs : List Loc), hK h x0 = 7 → hK h x1 = 3 → hK h x4 = 9 → Km h0 h → Wx X h H → va_S (aA (eB X)) s.heap H locs → ∀ (ls : Array Slot), lv_has ls 10 [(0, .ref x0), (1, .ref x1), (2, .long x2), (4, .ref x4), (5, .int x5)] → k_11 h x0 x1 x2 x4 x5 = some o → W p l e (rm 2 42) s m args below meth c H locs 0 0 (MQ below (QV X h0 o) args s 0 0 (aA (eB X))) (F0 m 11 ls [])) (hk_22 : ∀ (h : Hp) (x0 : Nat) (x1 : Nat) (x2 : Int64) (x4 : Nat) (x5 : Int32) (x6 : Int32) (x7 : Int32) (H : Heap) (locs : List Loc), hK h x0 = 7 → hK h x1 = 3 → hK h x4 = 9 → Km h0 h → Wx X h H → va_S (aA (eB X)) s.heap H locs → ∀ (ls : Array Slot), lv_has ls 10 [(0, .ref x0), (1, .ref x1), (2, .long x2), (4, .ref x4), (5, .int x5), (6, .int x6), (7, .int x7)] → k_22 h x0 x1 x2 x4 x5 x6 x7 = some o → W p l e (rm 2 42) s m args below meth c H locs 0 0 (MQ below (QV X h0 o) args s 0 0 (aA (eB X))) (F0 m 22 ls [])) {h : Hp} {x0 : Nat} {x1 : Nat} {x2 : Int64} {x4 : Nat} {x5 : Int32} {x6 : Int32} {x7 : Int32} {t0 : Int32} {t1 : Nat} {H : Heap} {locs : List Loc} (k_x0 : hK h x0 = 7) (k_x1 : hK h x1 = 3) (k_x4 : hK h x4 = 9) (k_t1 : hK h t1 = 9) (hkm : Km h0 h) (hW : Wx X h H) (hZ : va_S (aA (eB X)) s.heap H locs) (ls : Array Slot) (hl : lv_has ls 10 [(0, .ref x0), (1, .ref x1), (2, .long x2), (4, .ref x4), (5, .int x5), (6, .int x6), (7, .int x7)]) (hE : sX7_writeRanks_125 F k_11 k_22 h x0 x1 x2 x4 x5 x6 x7 t0 t1 = some o) : W p l e (rm 2 42) s m args below meth c H locs 0 0 (MQ below (QV X h0 o) args s 0 0 (aA (eB X))) (F0 m 125 ls [.int t0, .ref t1]) := by
  obtain ⟨o_1, eo_1, hE⟩ := cl_e hE
  refine x_kV (o := o_1) (z_runV (As := [.int t0]) (rest := []) C (ct_X9_append l X k_t1 eo_1) cw_X7_118 hW hZ k_t1 (by decide) rfl rfl rfl hl.1 (Nat.le_of_ble_eq_true rfl) rfl dX7_writeRanks_125 ⟨Nat.le_of_ble_eq_true rfl, Nat.le_of_ble_eq_true rfl⟩ ⟨Nat.le_refl _, Nat.le_refl _⟩) hZ (fun _ _ hW km hZ => ?_)
  replace hkm := hkm.tr km
  replace k_x0 := km.at k_x0 (by decide)
  replace k_x1 := km.at k_x1 (by decide)
  replace k_x4 := km.at k_x4 (by decide)
  exact bX7_writeRanks_128 C hk_11 hk_22 k_x0 k_x1 k_x4 hkm hW hZ _ (lv_sub hl [0, 1, 2, 3, 4, 5, 6] rfl) hE
set_option maxRecDepth 20000 in
theorem bX7_writeRanks_89 {p : Program} {l : Launch} {e : Env} {s : State} {m : MethodId} {args : Array Value} {below : List Frame} {meth : Method} {c : Code} {X : Ec} {h0 : Hp} {o : Hp} {k_11 : Hp → Nat → Nat → Int64 → Nat → Int32 → Option (Hp)} {k_22 : Hp → Nat → Nat → Int64 → Nat → Int32 → Int32 → Int32 → Option (Hp)} {F : Nat} (C : Cx X p s m args meth c RX7 cX7_writeRanks 10 none "writeRanks") (hk_11 : ∀ (h : Hp) (x0 : Nat) (x1 : Nat) (x2 : Int64) (x4 : Nat) (x5 : Int32) (H : Heap) (locs : List Loc), hK h x0 = 7 → hK h x1 = 3 → hK h x4 = 9 → Km h0 h → Wx X h H → va_S (aA (eB X)) s.heap H locs → ∀ (ls : Array Slot), lv_has ls 10 [(0, .ref x0), (1, .ref x1), (2, .long x2), (4, .ref x4), (5, .int x5)] → k_11 h x0 x1 x2 x4 x5 = some o → W p l e (rm 2 42) s m args below meth c H locs 0 0 (MQ below (QV X h0 o) args s 0 0 (aA (eB X))) (F0 m 11 ls [])) (hk_22 : ∀ (h : Hp) (x0 : Nat) (x1 : Nat) (x2 : Int64) (x4 : Nat) (x5 : Int32) (x6 : Int32) (x7 : Int32) (H : Heap) (locs : List Loc), hK h x0 = 7 → hK h x1 = 3 → hK h x4 = 9 → Km h0 h → Wx X h H → va_S (aA (eB X)) s.heap H locs → ∀ (ls : Array Slot), lv_has ls 10 [(0, .ref x0), (1, .ref x1), (2, .long x2), (4, .ref x4), (5, .int x5), (6, .int x6), (7, .int x7)] → k_22 h x0 x1 x2 x4 x5 x6 x7 = some o → W p l e (rm 2 42) s m args below meth c H locs 0 0 (MQ below (QV X h0 o) args s 0 0 (aA (eB X))) (F0 m 22 ls [])) {h : Hp} {x0 : Nat} {x1 : Nat} {x2 : Int64} {x4 : Nat} {x5 : Int32} {x6 : Int32} {x7 : Int32} {x8 : Int32} {x9 : Int32} {H : Heap} {locs : List Loc} (k_x0 : hK h x0 = 7) (k_x1 : hK h x1 = 3) (k_x4 : hK h x4 = 9) (hkm : Km h0 h) (hW : Wx X h H) (hZ : va_S (aA (eB X)) s.heap H locs) (ls : Array Slot) (hl : lv_has ls 10 [(0, .ref x0), (1, .ref x1), (2, .long x2), (4, .ref x4), (5, .int x5), (6, .int x6), (7, .int x7), (8, .int x8), (9, .int x9)]) (hE : sX7_writeRanks_89 F k_11 k_22 h x0 x1 x2 x4 x5 x6 x7 x8 x9 = some o) : W p l e (rm 2 42) s m args below meth c H locs 0 0 (MQ below (QV X h0 o) args s 0 0 (aA (eB X))) (F0 m 89 ls []) := by
  refine lv_iload C.1 C.2.1 dX7_writeRanks_89 (lv_at hl 5 rfl) ?_
  refine lv_aload C.1 C.2.1 dX7_writeRanks_91 (lv_at hl 3 rfl) ?_
  obtain ⟨o_1, eo_1, hE⟩ := cl_e hE
  refine x_kV (o := o_1) (z_runS (As := [.int x6, .ref x4]) (rest := []) C (ct_X7_writeEmpty l X k_x4 eo_1) cw_X7_138 hW hZ rfl hl.1 (Nat.le_of_ble_eq_true rfl) rfl dX7_writeRanks_93 ⟨Nat.le_of_ble_eq_true rfl, Nat.le_of_ble_eq_true rfl⟩ ⟨Nat.le_refl _, Nat.le_refl _⟩) hZ (fun _ _ hW km hZ => ?_)
  replace hkm := hkm.tr km
  replace k_x0 := km.at k_x0 (by decide)
  replace k_x1 := km.at k_x1 (by decide)
  replace k_x4 := km.at k_x4 (by decide)
  refine lv_iconst (v := (0 : Int32)) C.1 C.2.1 dX7_writeRanks_96 (by decide) ?_
  refine lv_istore (lv' := [(6, .int (0 : Int32)), (0, .ref x0), (1, .ref x1), (2, .long x2), (4, .ref x4), (5, .int x5), (7, .int x7), (8, .int x8), (9, .int x9)]) C.1 C.2.1 dX7_writeRanks_97 hl (by decide) rfl (fun ls hl => ?_)
  refine lv_aload C.1 C.2.1 dX7_writeRanks_99 (lv_at hl 4 rfl) ?_
  refine lv_iload C.1 C.2.1 dX7_writeRanks_101 (lv_at hl 8 rfl) ?_
  refine lv_if_eq (tgt := 111) C.1 C.2.1 dX7_writeRanks_103 (by decide) (fun c_2 => ?_) (fun c_2 => ?_)
  · have hE := br_p hE c_2
    refine lv_aload_n C.1 C.2.1 dX7_writeRanks_111 rfl (lv_at hl 1 rfl) ?_
    obtain ⟨r_3, er_3, hE⟩ := cl_e hE
    refine gf_X7_9 C hW k_x0 er_3 dX7_writeRanks_112 (fun k_r_3 => ?_)
    refine lv_aload_n C.1 C.2.1 dX7_writeRanks_115 rfl (lv_at hl 2 rfl) ?_
    obtain ⟨r_4, er_4, hE⟩ := cl_e hE
    refine gf_X7_134 C hW k_x1 er_4 dX7_writeRanks_116 (fun k_r_4 => ?_)
    refine lv_iload C.1 C.2.1 dX7_writeRanks_119 (lv_at hl 7 rfl) ?_
    obtain ⟨g_5, hE⟩ := gd_e hE
    refine y_bald C hW k_r_4 g_5 dX7_writeRanks_121 ?_
    obtain ⟨o_6, eo_6, hE⟩ := cl_e hE
    refine x_kI (o := o_6) (z_runV (As := [.int (hI o_1 r_4 x8.toNatClampNeg)]) (rest := [.ref x4]) C (ct_X1_letterOf l X k_r_3 eo_6) cw_X7_142 hW hZ k_r_3 (by decide) rfl rfl rfl hl.1 (Nat.le_of_ble_eq_true rfl) rfl dX7_writeRanks_122 ⟨Nat.le_of_ble_eq_true rfl, Nat.le_of_ble_eq_true rfl⟩ ⟨Nat.le_refl _, Nat.le_refl _⟩) hZ (fun _ _ hW km hZ => ?_)
    replace hkm := hkm.tr km
    replace k_x0 := km.at k_x0 (by decide)
    replace k_x1 := km.at k_x1 (by decide)
    replace k_x4 := km.at k_x4 (by decide)
    exact bX7_writeRanks_125 C hk_11 hk_22 k_x0 k_x1 k_x4 k_x4 hkm hW hZ _ (lv_sub hl [1, 2, 3, 4, 5, 0, 6] rfl) hE
  · have hE := br_n hE c_2
    refine lv_bipush (v := (63 : Int32)) C.1 C.2.1 dX7_writeRanks_106 (by decide) ?_
    refine lv_goto (tgt := 125) C.1 C.2.1 dX7_writeRanks_108 (by decide) ?_
    exact bX7_writeRanks_125 C hk_11 hk_22 k_x0 k_x1 k_x4 k_x4 hkm hW hZ _ (lv_sub hl [1, 2, 3, 4, 5, 0, 6] rfl) hE
set_option maxRecDepth 20000 in
theorem bX7_writeRanks_65 {p : Program} {l : Launch} {e : Env} {s : State} {m : MethodId} {args : Array Value} {below : List Frame} {meth : Method} {c : Code} {X : Ec} {h0 : Hp} {o : Hp} {k_11 : Hp → Nat → Nat → Int64 → Nat → Int32 → Option (Hp)} {k_22 : Hp → Nat → Nat → Int64 → Nat → Int32 → Int32 → Int32 → Option (Hp)} {F : Nat} (C : Cx X p s m args meth c RX7 cX7_writeRanks 10 none "writeRanks") (hk_11 : ∀ (h : Hp) (x0 : Nat) (x1 : Nat) (x2 : Int64) (x4 : Nat) (x5 : Int32) (H : Heap) (locs : List Loc), hK h x0 = 7 → hK h x1 = 3 → hK h x4 = 9 → Km h0 h → Wx X h H → va_S (aA (eB X)) s.heap H locs → ∀ (ls : Array Slot), lv_has ls 10 [(0, .ref x0), (1, .ref x1), (2, .long x2), (4, .ref x4), (5, .int x5)] → k_11 h x0 x1 x2 x4 x5 = some o → W p l e (rm 2 42) s m args below meth c H locs 0 0 (MQ below (QV X h0 o) args s 0 0 (aA (eB X))) (F0 m 11 ls [])) (hk_22 : ∀ (h : Hp) (x0 : Nat) (x1 : Nat) (x2 : Int64) (x4 : Nat) (x5 : Int32) (x6 : Int32) (x7 : Int32) (H : Heap) (locs : List Loc), hK h x0 = 7 → hK h x1 = 3 → hK h x4 = 9 → Km h0 h → Wx X h H → va_S (aA (eB X)) s.heap H locs → ∀ (ls : Array Slot), lv_has ls 10 [(0, .ref x0), (1, .ref x1), (2, .long x2), (4, .ref x4), (5, .int x5), (6, .int x6), (7, .int x7)] → k_22 h x0 x1 x2 x4 x5 x6 x7 = some o → W p l e (rm 2 42) s m args below meth c H locs 0 0 (MQ below (QV X h0 o) args s 0 0 (aA (eB X))) (F0 m 22 ls [])) {h : Hp} {x0 : Nat} {x1 : Nat} {x2 : Int64} {x4 : Nat} {x5 : Int32} {x6 : Int32} {x7 : Int32} {x8 : Int32} {t0 : Int32} {H : Heap} {locs : List Loc} (k_x0 : hK h x0 = 7) (k_x1 : hK h x1 = 3) (k_x4 : hK h x4 = 9) (hkm : Km h0 h) (hW : Wx X h H) (hZ : va_S (aA (eB X)) s.heap H locs) (ls : Array Slot) (hl : lv_has ls 10 [(0, .ref x0), (1, .ref x1), (2, .long x2), (4, .ref x4), (5, .int x5), (6, .int x6), (7, .int x7), (8, .int x8)]) (hE : sX7_writeRanks_65 F k_11 k_22 h x0 x1 x2 x4 x5 x6 x7 x8 t0 = some o) : W p l e (rm 2 42) s m args below meth c H locs 0 0 (MQ below (QV X h0 o) args s 0 0 (aA (eB X))) (F0 m 65 ls [.int t0]) := by
  refine lv_istore (lv' := [(9, .int t0), (0, .ref x0), (1, .ref x1), (2, .long x2), (4, .ref x4), (5, .int x5), (6, .int x6), (7, .int x7), (8, .int x8)]) C.1 C.2.1 dX7_writeRanks_65 hl (by decide) rfl (fun ls hl => ?_)
  refine lv_iload C.1 C.2.1 dX7_writeRanks_67 (lv_at hl 0 rfl) ?_
  refine lv_if_ne (tgt := 89) C.1 C.2.1 dX7_writeRanks_69 (by decide) (fun c_1 => ?_) (fun c_1 => ?_)
  · have hE := br_n hE c_1
    exact bX7_writeRanks_89 C hk_11 hk_22 k_x0 k_x1 k_x4 hkm hW hZ _ (lv_sub hl [1, 2, 3, 4, 5, 6, 7, 8, 0] rfl) hE
  · have hE := br_p hE c_1
    refine lv_aload_n C.1 C.2.1 dX7_writeRanks_72 rfl (lv_at hl 2 rfl) ?_
    obtain ⟨r_2, er_2, hE⟩ := cl_e hE
    refine gf_X7_134 C hW k_x1 er_2 dX7_writeRanks_73 (fun k_r_2 => ?_)
    refine lv_iload C.1 C.2.1 dX7_writeRanks_76 (lv_at hl 8 rfl) ?_
    obtain ⟨g_3, hE⟩ := gd_e hE
    refine y_bald C hW k_r_2 g_3 dX7_writeRanks_78 ?_
    refine lv_iconst (v := (-1 : Int32)) C.1 C.2.1 dX7_writeRanks_79 (by decide) ?_
    refine lv_icmp_ne (tgt := 89) C.1 C.2.1 dX7_writeRanks_80 (by decide) (fun c_4 => ?_) (fun c_4 => ?_)
    · have hE := br_n hE c_4
      exact bX7_writeRanks_89 C hk_11 hk_22 k_x0 k_x1 k_x4 hkm hW hZ _ (lv_sub hl [1, 2, 3, 4, 5, 6, 7, 8, 0] rfl) hE
    · have hE := br_p hE c_4
      obtain ⟨v_5, ev_5, hE⟩ := nm_e2 hE
      refine lv_iinc (v := v_5) (lv' := [(6, .int v_5), (9, .int t0), (0, .ref x0), (1, .ref x1), (2, .long x2), (4, .ref x4), (5, .int x5), (7, .int x7), (8, .int x8)]) C.1 C.2.1 dX7_writeRanks_83 hl (k := 6) rfl (by rw [ev_5]; rfl) (by decide) rfl (fun ls hl => ?_)
      refine lv_goto (tgt := 128) C.1 C.2.1 dX7_writeRanks_86 (by decide) ?_
      exact bX7_writeRanks_128 C hk_11 hk_22 k_x0 k_x1 k_x4 hkm hW hZ _ (lv_sub hl [2, 3, 4, 5, 6, 0, 7] rfl) hE
set_option maxRecDepth 20000 in
theorem bX7_writeRanks_22 {p : Program} {l : Launch} {e : Env} {s : State} {m : MethodId} {args : Array Value} {below : List Frame} {meth : Method} {c : Code} {X : Ec} {h0 : Hp} {o : Hp} {k_11 : Hp → Nat → Nat → Int64 → Nat → Int32 → Option (Hp)} {F : Nat} (C : Cx X p s m args meth c RX7 cX7_writeRanks 10 none "writeRanks") (hk_11 : ∀ (h : Hp) (x0 : Nat) (x1 : Nat) (x2 : Int64) (x4 : Nat) (x5 : Int32) (H : Heap) (locs : List Loc), hK h x0 = 7 → hK h x1 = 3 → hK h x4 = 9 → Km h0 h → Wx X h H → va_S (aA (eB X)) s.heap H locs → ∀ (ls : Array Slot), lv_has ls 10 [(0, .ref x0), (1, .ref x1), (2, .long x2), (4, .ref x4), (5, .int x5)] → k_11 h x0 x1 x2 x4 x5 = some o → W p l e (rm 2 42) s m args below meth c H locs 0 0 (MQ below (QV X h0 o) args s 0 0 (aA (eB X))) (F0 m 11 ls [])) : ∀ (f : Nat) {h : Hp} {x0 : Nat} {x1 : Nat} {x2 : Int64} {x4 : Nat} {x5 : Int32} {x6 : Int32} {x7 : Int32} {H : Heap} {locs : List Loc} (k_x0 : hK h x0 = 7) (k_x1 : hK h x1 = 3) (k_x4 : hK h x4 = 9), Km h0 h → Wx X h H → va_S (aA (eB X)) s.heap H locs → ∀ (ls : Array Slot), lv_has ls 10 [(0, .ref x0), (1, .ref x1), (2, .long x2), (4, .ref x4), (5, .int x5), (6, .int x6), (7, .int x7)] → sX7_writeRanks_22 F k_11 f h x0 x1 x2 x4 x5 x6 x7 = some o → W p l e (rm 2 42) s m args below meth c H locs 0 0 (MQ below (QV X h0 o) args s 0 0 (aA (eB X))) (F0 m 22 ls []) := by
  intro f
  induction f with
  | zero =>
    intro h x0 x1 x2 x4 x5 x6 x7 H locs k_x0 k_x1 k_x4 hkm hW hZ ls hl hE
    rw [sX7_writeRanks_22] at hE
    cases hE
  | succ f ih =>
    intro h x0 x1 x2 x4 x5 x6 x7 H locs k_x0 k_x1 k_x4 hkm hW hZ ls hl hE
    rw [sX7_writeRanks_22] at hE
    have hk_22 : ∀ (h : Hp) (x0 : Nat) (x1 : Nat) (x2 : Int64) (x4 : Nat) (x5 : Int32) (x6 : Int32) (x7 : Int32) (H : Heap) (locs : List Loc), hK h x0 = 7 → hK h x1 = 3 → hK h x4 = 9 → Km h0 h → Wx X h H → va_S (aA (eB X)) s.heap H locs → ∀ (ls : Array Slot), lv_has ls 10 [(0, .ref x0), (1, .ref x1), (2, .long x2), (4, .ref x4), (5, .int x5), (6, .int x6), (7, .int x7)] → sX7_writeRanks_22 F k_11 f h x0 x1 x2 x4 x5 x6 x7 = some o → W p l e (rm 2 42) s m args below meth c H locs 0 0 (MQ below (QV X h0 o) args s 0 0 (aA (eB X))) (F0 m 22 ls []) := fun h x0 x1 x2 x4 x5 x6 x7 H locs k_x0 k_x1 k_x4 a b c ls hl hE => ih k_x0 k_x1 k_x4 a b c ls hl hE
    refine lv_iload C.1 C.2.1 dX7_writeRanks_22 (lv_at hl 6 rfl) ?_
    refine lv_aload_n C.1 C.2.1 dX7_writeRanks_24 rfl (lv_at hl 0 rfl) ?_
    obtain ⟨r_1, er_1, hE⟩ := cl_e hE
    refine gf_X7_9 C hW k_x0 er_1 dX7_writeRanks_25 (fun k_r_1 => ?_)
    refine gf_X7_65 C hW k_r_1 dX7_writeRanks_28 ?_
    refine lv_icmp_ge (tgt := 134) C.1 C.2.1 dX7_writeRanks_31 (by decide) (fun c_2 => ?_) (fun c_2 => ?_)
    · have hE := br_p hE c_2
      refine lv_iload C.1 C.2.1 dX7_writeRanks_134 (lv_at hl 5 rfl) ?_
      refine lv_aload C.1 C.2.1 dX7_writeRanks_136 (lv_at hl 3 rfl) ?_
      obtain ⟨o_3, eo_3, hE⟩ := cl_e hE
      refine x_kV (o := o_3) (z_runS (As := [.int x6, .ref x4]) (rest := []) C (ct_X7_writeEmpty l X k_x4 eo_3) cw_X7_138 hW hZ rfl hl.1 (Nat.le_of_ble_eq_true rfl) rfl dX7_writeRanks_138 ⟨Nat.le_of_ble_eq_true rfl, Nat.le_of_ble_eq_true rfl⟩ ⟨Nat.le_refl _, Nat.le_refl _⟩) hZ (fun _ _ hW km hZ => ?_)
      replace hkm := hkm.tr km
      replace k_x0 := km.at k_x0 (by decide)
      replace k_x1 := km.at k_x1 (by decide)
      replace k_x4 := km.at k_x4 (by decide)
      refine lv_iload C.1 C.2.1 dX7_writeRanks_141 (lv_at hl 4 rfl) ?_
      refine lv_if_le (tgt := 153) C.1 C.2.1 dX7_writeRanks_143 (by decide) (fun c_4 => ?_) (fun c_4 => ?_)
      · have hE := br_p hE c_4
        exact bX7_writeRanks_153 C hk_11 k_x0 k_x1 k_x4 hkm hW hZ _ (lv_sub hl [0, 1, 2, 3, 4] rfl) hE
      · have hE := br_n hE c_4
        refine lv_aload C.1 C.2.1 dX7_writeRanks_146 (lv_at hl 3 rfl) ?_
        refine lv_bipush (v := (47 : Int32)) C.1 C.2.1 dX7_writeRanks_148 (by decide) ?_
        obtain ⟨o_5, eo_5, hE⟩ := cl_e hE
        refine x_kV (o := o_5) (z_runV (As := [.int (47 : Int32)]) (rest := []) C (ct_X9_append l X k_x4 eo_5) cw_X7_118 hW hZ k_x4 (by decide) rfl rfl rfl hl.1 (Nat.le_of_ble_eq_true rfl) rfl dX7_writeRanks_150 ⟨Nat.le_of_ble_eq_true rfl, Nat.le_of_ble_eq_true rfl⟩ ⟨Nat.le_refl _, Nat.le_refl _⟩) hZ (fun _ _ hW km hZ => ?_)
        replace hkm := hkm.tr km
        replace k_x0 := km.at k_x0 (by decide)
        replace k_x1 := km.at k_x1 (by decide)
        replace k_x4 := km.at k_x4 (by decide)
        exact bX7_writeRanks_153 C hk_11 k_x0 k_x1 k_x4 hkm hW hZ _ (lv_sub hl [0, 1, 2, 3, 4] rfl) hE
    · have hE := br_n hE c_2
      refine lv_iload C.1 C.2.1 dX7_writeRanks_34 (lv_at hl 4 rfl) ?_
      refine lv_aload_n C.1 C.2.1 dX7_writeRanks_36 rfl (lv_at hl 0 rfl) ?_
      obtain ⟨r_6, er_6, hE⟩ := cl_e hE
      refine gf_X7_9 C hW k_x0 er_6 dX7_writeRanks_37 (fun k_r_6 => ?_)
      refine gf_X7_65 C hW k_r_6 dX7_writeRanks_40 ?_
      refine lv_imul C.1 C.2.1 dX7_writeRanks_43 ?_
      refine lv_iload C.1 C.2.1 dX7_writeRanks_44 (lv_at hl 6 rfl) ?_
      refine lv_iadd C.1 C.2.1 dX7_writeRanks_46 ?_
      obtain ⟨v_7, ev_7, hE⟩ := nm_e2 hE
      refine x_nmI ev_7 ?_
      refine lv_istore (lv' := [(8, .int v_7), (0, .ref x0), (1, .ref x1), (2, .long x2), (4, .ref x4), (5, .int x5), (6, .int x6), (7, .int x7)]) C.1 C.2.1 dX7_writeRanks_47 hl (by decide) rfl (fun ls hl => ?_)
      refine lv_lload_n C.1 C.2.1 dX7_writeRanks_49 rfl (lv_at hl 3 rfl) ?_
      refine lv_iload C.1 C.2.1 dX7_writeRanks_50 (lv_at hl 0 rfl) ?_
      refine lv_lushr C.1 C.2.1 dX7_writeRanks_52 rfl ?_
      refine lv_lconst (v := (1 : Int64)) C.1 C.2.1 dX7_writeRanks_53 (by decide) ?_
      refine lv_land C.1 C.2.1 dX7_writeRanks_54 ?_
      refine lv_lconst (v := (0 : Int64)) C.1 C.2.1 dX7_writeRanks_55 (by decide) ?_
      refine W.lcmp C.1 C.2.1 dX7_writeRanks_56 ?_
      refine lv_if_ne (tgt := 64) C.1 C.2.1 dX7_writeRanks_57 (by decide) (fun c_8 => ?_) (fun c_8 => ?_)
      · have hE := br_n hE c_8
        refine lv_iconst (v := (0 : Int32)) C.1 C.2.1 dX7_writeRanks_64 (by decide) ?_
        exact bX7_writeRanks_65 C hk_11 hk_22 k_x0 k_x1 k_x4 hkm hW hZ _ (lv_sub hl [1, 2, 3, 4, 5, 6, 7, 0] rfl) hE
      · have hE := br_p hE c_8
        refine lv_iconst (v := (1 : Int32)) C.1 C.2.1 dX7_writeRanks_60 (by decide) ?_
        refine lv_goto (tgt := 65) C.1 C.2.1 dX7_writeRanks_61 (by decide) ?_
        exact bX7_writeRanks_65 C hk_11 hk_22 k_x0 k_x1 k_x4 hkm hW hZ _ (lv_sub hl [1, 2, 3, 4, 5, 6, 7, 0] rfl) hE
set_option maxRecDepth 20000 in
theorem bX7_writeRanks_11 {p : Program} {l : Launch} {e : Env} {s : State} {m : MethodId} {args : Array Value} {below : List Frame} {meth : Method} {c : Code} {X : Ec} {h0 : Hp} {o : Hp} {F : Nat} (C : Cx X p s m args meth c RX7 cX7_writeRanks 10 none "writeRanks") : ∀ (f : Nat) {h : Hp} {x0 : Nat} {x1 : Nat} {x2 : Int64} {x4 : Nat} {x5 : Int32} {H : Heap} {locs : List Loc} (k_x0 : hK h x0 = 7) (k_x1 : hK h x1 = 3) (k_x4 : hK h x4 = 9), Km h0 h → Wx X h H → va_S (aA (eB X)) s.heap H locs → ∀ (ls : Array Slot), lv_has ls 10 [(0, .ref x0), (1, .ref x1), (2, .long x2), (4, .ref x4), (5, .int x5)] → sX7_writeRanks_11 F f h x0 x1 x2 x4 x5 = some o → W p l e (rm 2 42) s m args below meth c H locs 0 0 (MQ below (QV X h0 o) args s 0 0 (aA (eB X))) (F0 m 11 ls []) := by
  intro f
  induction f with
  | zero =>
    intro h x0 x1 x2 x4 x5 H locs k_x0 k_x1 k_x4 hkm hW hZ ls hl hE
    rw [sX7_writeRanks_11] at hE
    cases hE
  | succ f ih =>
    intro h x0 x1 x2 x4 x5 H locs k_x0 k_x1 k_x4 hkm hW hZ ls hl hE
    rw [sX7_writeRanks_11] at hE
    have hk_11 : ∀ (h : Hp) (x0 : Nat) (x1 : Nat) (x2 : Int64) (x4 : Nat) (x5 : Int32) (H : Heap) (locs : List Loc), hK h x0 = 7 → hK h x1 = 3 → hK h x4 = 9 → Km h0 h → Wx X h H → va_S (aA (eB X)) s.heap H locs → ∀ (ls : Array Slot), lv_has ls 10 [(0, .ref x0), (1, .ref x1), (2, .long x2), (4, .ref x4), (5, .int x5)] → sX7_writeRanks_11 F f h x0 x1 x2 x4 x5 = some o → W p l e (rm 2 42) s m args below meth c H locs 0 0 (MQ below (QV X h0 o) args s 0 0 (aA (eB X))) (F0 m 11 ls []) := fun h x0 x1 x2 x4 x5 H locs k_x0 k_x1 k_x4 a b c ls hl hE => ih k_x0 k_x1 k_x4 a b c ls hl hE
    refine lv_iload C.1 C.2.1 dX7_writeRanks_11 (lv_at hl 4 rfl) ?_
    refine lv_if_lt (tgt := 159) C.1 C.2.1 dX7_writeRanks_13 (by decide) (fun c_1 => ?_) (fun c_1 => ?_)
    · have hE := br_p hE c_1
      exact x_vret C rfl hW hZ hkm hE dX7_writeRanks_159
    · have hE := br_n hE c_1
      refine lv_iconst (v := (0 : Int32)) C.1 C.2.1 dX7_writeRanks_16 (by decide) ?_
      refine lv_istore (lv' := [(6, .int (0 : Int32)), (0, .ref x0), (1, .ref x1), (2, .long x2), (4, .ref x4), (5, .int x5)]) C.1 C.2.1 dX7_writeRanks_17 hl (by decide) rfl (fun ls hl => ?_)
      refine lv_iconst (v := (0 : Int32)) C.1 C.2.1 dX7_writeRanks_19 (by decide) ?_
      refine lv_istore (lv' := [(7, .int (0 : Int32)), (6, .int (0 : Int32)), (0, .ref x0), (1, .ref x1), (2, .long x2), (4, .ref x4), (5, .int x5)]) C.1 C.2.1 dX7_writeRanks_20 hl (by decide) rfl (fun ls hl => ?_)
      exact bX7_writeRanks_22 C hk_11 F k_x0 k_x1 k_x4 hkm hW hZ _ (lv_sub hl [2, 3, 4, 5, 6, 1, 0] rfl) hE
set_option maxRecDepth 20000 in
theorem ct_X7_writeRanks (l : Launch) (X : Ec) (F : Nat) {h : Hp} {x0 : Nat} {x1 : Nat} {x2 : Int64} {x4 : Nat} {o : Hp} (k_x0 : hK h x0 = 7) (k_x1 : hK h x1 = 3) (k_x4 : hK h x4 = 9) (hE : sX7_writeRanks F h x0 x1 x2 x4 = some o) : MetV l yX7_writeRanks cX7_writeRanks 10 none 2 42 X [.ref x0, .ref x1, .long x2, .ref x4] h o := by
  refine x_met (by decide) (Nat.le_of_ble_eq_true rfl) ?_
  intro p e s m below meth c ls C hl hW hZ
  have hl : lv_has ls 10 [(0, .ref x0), (1, .ref x1), (2, .long x2), (4, .ref x4)] := hl
  have hkm : Km h h := Km.rf h
  refine lv_aload_n C.1 C.2.1 dX7_writeRanks_0 rfl (lv_at hl 0 rfl) ?_
  obtain ⟨r_1, er_1, hE⟩ := cl_e hE
  refine gf_X7_9 C hW k_x0 er_1 dX7_writeRanks_1 (fun k_r_1 => ?_)
  refine gf_X7_60 C hW k_r_1 dX7_writeRanks_4 ?_
  refine lv_iconst (v := (1 : Int32)) C.1 C.2.1 dX7_writeRanks_7 (by decide) ?_
  refine lv_isub C.1 C.2.1 dX7_writeRanks_8 ?_
  obtain ⟨v_2, ev_2, hE⟩ := nm_e2 hE
  refine x_nmI ev_2 ?_
  refine lv_istore (lv' := [(5, .int v_2), (0, .ref x0), (1, .ref x1), (2, .long x2), (4, .ref x4)]) C.1 C.2.1 dX7_writeRanks_9 hl (by decide) rfl (fun ls hl => ?_)
  exact bX7_writeRanks_11 C F k_x0 k_x1 k_x4 hkm hW hZ _ (lv_sub hl [1, 2, 3, 4, 0] rfl) hE
set_option maxRecDepth 100000 in
theorem m_139 : Cond.fieldLink RX7 168 (TX1 19).1 (TX1 19).2.1 (TX1 19).2.2.1 ∈ W0 := w0_in (List.mem_append_right _ (List.mem_of_getElem? (i := 139) rfl)) rfl
set_option maxRecDepth 100000 in
theorem m_145 : Cond.fieldLink RX7 171 (TX1 20).1 (TX1 20).2.1 (TX1 20).2.2.1 ∈ W0 := w0_in (List.mem_append_right _ (List.mem_of_getElem? (i := 145) rfl)) rfl
section
variable {p : Program} {l : Launch} {e : Env} {R : Room} {s : State} {m : MethodId} {args : Array Value} {below : List Frame} {meth : Method} {c : Code} {H : Heap} {locs : List Loc} {cells slots : Nat} {Q : State → Prop}
variable {cc : ByteArray} {pc : Nat} {ls : Array Slot} {rest : List Value} {X : Ec} {h h1 : Hp} {nL : Nat} {rt : Option FieldType} {mn : String}
theorem gf_X7_168 {a r : Nat} (C : Cx X p s m args meth c RX7 cc nL rt mn) (hW : Wx X h H) (ha : hK h a = 1) (hr : hR h a 19 = some r) (hdg : decode cc pc = .ok (.getfield 168, 3)) (kk : hK h r = 17 → W p l e R s m args below meth c H locs cells slots Q (F0 m (pc + 3) ls (.ref r :: rest))) : W p l e R s m args below meth c H locs cells slots Q (F0 m pc ls (.ref a :: rest)) :=
  y_getr C hW ha i_X1 (by decide) rfl (by decide) m_139 rfl rfl hr hdg kk
theorem gf_X7_171 {a r : Nat} (C : Cx X p s m args meth c RX7 cc nL rt mn) (hW : Wx X h H) (ha : hK h a = 1) (hr : hR h a 20 = some r) (hdg : decode cc pc = .ok (.getfield 171, 3)) (kk : hK h r = 17 → W p l e R s m args below meth c H locs cells slots Q (F0 m (pc + 3) ls (.ref r :: rest))) : W p l e R s m args below meth c H locs cells slots Q (F0 m pc ls (.ref a :: rest)) :=
  y_getr C hW ha i_X1 (by decide) rfl (by decide) m_145 rfl rfl hr hdg kk
end
theorem dX7_writeSquare_0 : decode cX7_writeSquare 0 = .ok (.aload_n 2, 1) := by decide +kernel
theorem dX7_writeSquare_1 : decode cX7_writeSquare 1 = .ok (.bipush 97, 2) := by decide +kernel
theorem dX7_writeSquare_3 : decode cX7_writeSquare 3 = .ok (.aload_n 0, 1) := by decide +kernel
theorem dX7_writeSquare_4 : decode cX7_writeSquare 4 = .ok (.getfield 168, 3) := by decide +kernel
theorem dX7_writeSquare_7 : decode cX7_writeSquare 7 = .ok (.iload_n 1, 1) := by decide +kernel
theorem dX7_writeSquare_8 : decode cX7_writeSquare 8 = .ok (.iaload, 1) := by decide +kernel
theorem dX7_writeSquare_9 : decode cX7_writeSquare 9 = .ok (.iadd, 1) := by decide +kernel
theorem dX7_writeSquare_10 : decode cX7_writeSquare 10 = .ok (.invokevirtual 118, 3) := by decide +kernel
theorem dX7_writeSquare_13 : decode cX7_writeSquare 13 = .ok (.aload_n 2, 1) := by decide +kernel
theorem dX7_writeSquare_14 : decode cX7_writeSquare 14 = .ok (.bipush 49, 2) := by decide +kernel
theorem dX7_writeSquare_16 : decode cX7_writeSquare 16 = .ok (.aload_n 0, 1) := by decide +kernel
theorem dX7_writeSquare_17 : decode cX7_writeSquare 17 = .ok (.getfield 171, 3) := by decide +kernel
theorem dX7_writeSquare_20 : decode cX7_writeSquare 20 = .ok (.iload_n 1, 1) := by decide +kernel
theorem dX7_writeSquare_21 : decode cX7_writeSquare 21 = .ok (.iaload, 1) := by decide +kernel
theorem dX7_writeSquare_22 : decode cX7_writeSquare 22 = .ok (.iadd, 1) := by decide +kernel
theorem dX7_writeSquare_23 : decode cX7_writeSquare 23 = .ok (.invokevirtual 118, 3) := by decide +kernel
theorem dX7_writeSquare_26 : decode cX7_writeSquare 26 = .ok (.return_, 1) := by decide +kernel
def sX7_writeSquare (h : Hp) (x0 : Nat) (x1 : Int32) (x2 : Nat) : Option (Hp) := cl (hR h x0 19) fun r_1 => gd (inB x1 (hN h r_1)) <| cl (sX9_append h x2 ((97 : Int32) + (hI h r_1 x1.toNatClampNeg))) fun o_3 => cl (hR o_3 x0 20) fun r_4 => gd (inB x1 (hN o_3 r_4)) <| cl (sX9_append o_3 x2 ((49 : Int32) + (hI o_3 r_4 x1.toNatClampNeg))) fun o_6 => some o_6
set_option maxRecDepth 20000 in
theorem moX7_writeSquare {o : Hp} {h : Hp} {x0 : Nat} {x1 : Int32} {x2 : Nat} (hE : sX7_writeSquare h x0 x1 x2 = some o) : Le h o := by
  obtain ⟨r_1, er_1, hE⟩ := cl_e hE
  obtain ⟨g_2, hE⟩ := gd_e hE
  obtain ⟨o_3, eo_3, hE⟩ := cl_e hE
  refine (moX9_append eo_3).tr ?_
  obtain ⟨r_4, er_4, hE⟩ := cl_e hE
  obtain ⟨g_5, hE⟩ := gd_e hE
  obtain ⟨o_6, eo_6, hE⟩ := cl_e hE
  refine (moX9_append eo_6).tr ?_
  exact le_some1 hE
set_option maxRecDepth 20000 in
theorem ct_X7_writeSquare (l : Launch) (X : Ec) {h : Hp} {x0 : Nat} {x1 : Int32} {x2 : Nat} {o : Hp} (k_x0 : hK h x0 = 1) (k_x2 : hK h x2 = 9) (hE : sX7_writeSquare h x0 x1 x2 = some o) : MetV l yX7_writeSquare cX7_writeSquare 3 none 1 21 X [.ref x0, .int x1, .ref x2] h o := by
  refine x_met (by decide) (Nat.le_of_ble_eq_true rfl) ?_
  intro p e s m below meth c ls C hl hW hZ
  have hl : lv_has ls 3 [(0, .ref x0), (1, .int x1), (2, .ref x2)] := hl
  have hkm : Km h h := Km.rf h
  refine lv_aload_n C.1 C.2.1 dX7_writeSquare_0 rfl (lv_at hl 2 rfl) ?_
  refine lv_bipush (v := (97 : Int32)) C.1 C.2.1 dX7_writeSquare_1 (by decide) ?_
  refine lv_aload_n C.1 C.2.1 dX7_writeSquare_3 rfl (lv_at hl 0 rfl) ?_
  obtain ⟨r_1, er_1, hE⟩ := cl_e hE
  refine gf_X7_168 C hW k_x0 er_1 dX7_writeSquare_4 (fun k_r_1 => ?_)
  refine lv_iload_n C.1 C.2.1 dX7_writeSquare_7 rfl (lv_at hl 1 rfl) ?_
  obtain ⟨g_2, hE⟩ := gd_e hE
  refine y_iald C hW k_r_1 g_2 dX7_writeSquare_8 ?_
  refine lv_iadd C.1 C.2.1 dX7_writeSquare_9 ?_
  obtain ⟨o_3, eo_3, hE⟩ := cl_e hE
  refine x_kV (o := o_3) (z_runV (As := [.int ((97 : Int32) + (hI h r_1 x1.toNatClampNeg))]) (rest := []) C (ct_X9_append l X k_x2 eo_3) cw_X7_118 hW hZ k_x2 (by decide) rfl rfl rfl hl.1 (Nat.le_of_ble_eq_true rfl) rfl dX7_writeSquare_10 ⟨Nat.le_of_ble_eq_true rfl, Nat.le_of_ble_eq_true rfl⟩ ⟨Nat.le_refl _, Nat.le_refl _⟩) hZ (fun _ _ hW km hZ => ?_)
  replace hkm := hkm.tr km
  replace k_x0 := km.at k_x0 (by decide)
  replace k_x2 := km.at k_x2 (by decide)
  refine lv_aload_n C.1 C.2.1 dX7_writeSquare_13 rfl (lv_at hl 2 rfl) ?_
  refine lv_bipush (v := (49 : Int32)) C.1 C.2.1 dX7_writeSquare_14 (by decide) ?_
  refine lv_aload_n C.1 C.2.1 dX7_writeSquare_16 rfl (lv_at hl 0 rfl) ?_
  obtain ⟨r_4, er_4, hE⟩ := cl_e hE
  refine gf_X7_171 C hW k_x0 er_4 dX7_writeSquare_17 (fun k_r_4 => ?_)
  refine lv_iload_n C.1 C.2.1 dX7_writeSquare_20 rfl (lv_at hl 1 rfl) ?_
  obtain ⟨g_5, hE⟩ := gd_e hE
  refine y_iald C hW k_r_4 g_5 dX7_writeSquare_21 ?_
  refine lv_iadd C.1 C.2.1 dX7_writeSquare_22 ?_
  obtain ⟨o_6, eo_6, hE⟩ := cl_e hE
  refine x_kV (o := o_6) (z_runV (As := [.int ((49 : Int32) + (hI o_3 r_4 x1.toNatClampNeg))]) (rest := []) C (ct_X9_append l X k_x2 eo_6) cw_X7_118 hW hZ k_x2 (by decide) rfl rfl rfl hl.1 (Nat.le_of_ble_eq_true rfl) rfl dX7_writeSquare_23 ⟨Nat.le_of_ble_eq_true rfl, Nat.le_of_ble_eq_true rfl⟩ ⟨Nat.le_refl _, Nat.le_refl _⟩) hZ (fun _ _ hW km hZ => ?_)
  replace hkm := hkm.tr km
  replace k_x0 := km.at k_x0 (by decide)
  replace k_x2 := km.at k_x2 (by decide)
  exact x_vret C rfl hW hZ hkm hE dX7_writeSquare_26
set_option maxRecDepth 100000 in
theorem m_76 : Cond.fieldLink RX7 145 (TX1 2).1 (TX1 2).2.1 (TX1 2).2.2.1 ∈ W0 := w0_in (List.mem_append_right _ (List.mem_of_getElem? (i := 76) rfl)) rfl
set_option maxRecDepth 100000 in
theorem m_1109 : Cond.methodLink RX7 148 yX7_writeSquare ∈ W0 := w0_in (List.mem_append_right _ (List.mem_of_getElem? (i := 1109) rfl)) rfl
set_option maxRecDepth 100000 in
theorem m_1110 : Cond.static yX7_writeSquare ∈ W0 := w0_in (List.mem_append_right _ (List.mem_of_getElem? (i := 1110) rfl)) rfl
set_option maxRecDepth 100000 in
theorem m_1111 : Cond.code yX7_writeSquare cX7_writeSquare 3 none ∈ W0 := w0_in (List.mem_append_right _ (List.mem_of_getElem? (i := 1111) rfl)) rfl
section
variable {p : Program} {l : Launch} {e : Env} {R : Room} {s : State} {m : MethodId} {args : Array Value} {below : List Frame} {meth : Method} {c : Code} {H : Heap} {locs : List Loc} {cells slots : Nat} {Q : State → Prop}
variable {cc : ByteArray} {pc : Nat} {ls : Array Slot} {rest : List Value} {X : Ec} {h h1 : Hp} {nL : Nat} {rt : Option FieldType} {mn : String}
theorem gf_X7_145 {a : Nat} (C : Cx X p s m args meth c RX7 cc nL rt mn) (hW : Wx X h H) (ha : hK h a = 1) (hdg : decode cc pc = .ok (.getfield 145, 3)) (kk : W p l e R s m args below meth c H locs cells slots Q (F0 m (pc + 3) ls (.int (hI h a 2) :: rest))) : W p l e R s m args below meth c H locs cells slots Q (F0 m pc ls (.ref a :: rest)) :=
  y_geti C hW ha i_X1 (by decide) rfl (by decide) m_76 rfl hdg kk
end
theorem cw_X7_148 : cwd RX7 148 yX7_writeSquare cX7_writeSquare 3 none true 3 := ⟨m_1111, m_1109, m_10, m_1110, by decide, by decide, by decide +kernel⟩
theorem dX7_writeRights_0 : decode cX7_writeRights 0 = .ok (.iconst 0, 1) := by decide +kernel
theorem dX7_writeRights_1 : decode cX7_writeRights 1 = .ok (.istore_n 3, 1) := by decide +kernel
theorem dX7_writeRights_2 : decode cX7_writeRights 2 = .ok (.iload_n 3, 1) := by decide +kernel
theorem dX7_writeRights_3 : decode cX7_writeRights 3 = .ok (.aload_n 0, 1) := by decide +kernel
theorem dX7_writeRights_4 : decode cX7_writeRights 4 = .ok (.getfield 9, 3) := by decide +kernel
theorem dX7_writeRights_7 : decode cX7_writeRights 7 = .ok (.getfield 145, 3) := by decide +kernel
theorem dX7_writeRights_10 : decode cX7_writeRights 10 = .ok (.if_icmp .ge 31, 3) := by decide +kernel
theorem dX7_writeRights_13 : decode cX7_writeRights 13 = .ok (.aload_n 1, 1) := by decide +kernel
theorem dX7_writeRights_14 : decode cX7_writeRights 14 = .ok (.getfield 85, 3) := by decide +kernel
theorem dX7_writeRights_17 : decode cX7_writeRights 17 = .ok (.iload_n 3, 1) := by decide +kernel
theorem dX7_writeRights_18 : decode cX7_writeRights 18 = .ok (.lushr, 1) := by decide +kernel
theorem dX7_writeRights_19 : decode cX7_writeRights 19 = .ok (.lconst 1, 1) := by decide +kernel
theorem dX7_writeRights_20 : decode cX7_writeRights 20 = .ok (.land, 1) := by decide +kernel
theorem dX7_writeRights_21 : decode cX7_writeRights 21 = .ok (.lconst 0, 1) := by decide +kernel
theorem dX7_writeRights_22 : decode cX7_writeRights 22 = .ok (.lcmp, 1) := by decide +kernel
theorem dX7_writeRights_23 : decode cX7_writeRights 23 = .ok (.ifCond .eq 12, 3) := by decide +kernel
theorem dX7_writeRights_26 : decode cX7_writeRights 26 = .ok (.aload_n 0, 1) := by decide +kernel
theorem dX7_writeRights_27 : decode cX7_writeRights 27 = .ok (.getfield 9, 3) := by decide +kernel
theorem dX7_writeRights_30 : decode cX7_writeRights 30 = .ok (.iload_n 3, 1) := by decide +kernel
theorem dX7_writeRights_31 : decode cX7_writeRights 31 = .ok (.aload_n 2, 1) := by decide +kernel
theorem dX7_writeRights_32 : decode cX7_writeRights 32 = .ok (.invokestatic 148, 3) := by decide +kernel
theorem dX7_writeRights_35 : decode cX7_writeRights 35 = .ok (.iinc 3 1, 3) := by decide +kernel
theorem dX7_writeRights_38 : decode cX7_writeRights 38 = .ok (.goto (-36), 3) := by decide +kernel
theorem dX7_writeRights_41 : decode cX7_writeRights 41 = .ok (.aload_n 1, 1) := by decide +kernel
theorem dX7_writeRights_42 : decode cX7_writeRights 42 = .ok (.getfield 85, 3) := by decide +kernel
theorem dX7_writeRights_45 : decode cX7_writeRights 45 = .ok (.lconst 0, 1) := by decide +kernel
theorem dX7_writeRights_46 : decode cX7_writeRights 46 = .ok (.lcmp, 1) := by decide +kernel
theorem dX7_writeRights_47 : decode cX7_writeRights 47 = .ok (.ifCond .ne 9, 3) := by decide +kernel
theorem dX7_writeRights_50 : decode cX7_writeRights 50 = .ok (.aload_n 2, 1) := by decide +kernel
theorem dX7_writeRights_51 : decode cX7_writeRights 51 = .ok (.bipush 45, 2) := by decide +kernel
theorem dX7_writeRights_53 : decode cX7_writeRights 53 = .ok (.invokevirtual 118, 3) := by decide +kernel
theorem dX7_writeRights_56 : decode cX7_writeRights 56 = .ok (.return_, 1) := by decide +kernel
def sX7_writeRights_56 (F : Nat) (h : Hp) : Option (Hp) := some h
def sX7_writeRights_35 (F : Nat) (k_2 : Hp → Nat → Nat → Nat → Int32 → Option (Hp)) (h : Hp) (x0 : Nat) (x1 : Nat) (x2 : Nat) (x3 : Int32) : Option (Hp) := nm (x3 + (1 : Int32)) fun v_1 => k_2 h x0 x1 x2 v_1
def sX7_writeRights_2 (F : Nat) : Nat → Hp → Nat → Nat → Nat → Int32 → Option (Hp)
  | 0, _, _, _, _, _ => none
  | f + 1, h, x0, x1, x2, x3 => cl (hR h x0 0) fun r_1 => br ((hI h r_1 2) ≤ x3) (br ((lg_cmp (hJ h x1 8) (0 : Int64)) = 0) (cl (sX9_append h x2 (45 : Int32)) fun o_4 => sX7_writeRights_56 F o_4 ) (sX7_writeRights_56 F h )) (br ((lg_cmp ((((hJ h x1 8).toUInt64 >>> (x3.toInt64.toUInt64 &&& Int64.toUInt64 63)).toInt64) &&& (1 : Int64)) (0 : Int64)) = 0) (sX7_writeRights_35 F (sX7_writeRights_2 F f) h x0 x1 x2 x3) (cl (hR h x0 0) fun r_6 => cl (sX7_writeSquare h r_6 x3 x2) fun o_7 => sX7_writeRights_35 F (sX7_writeRights_2 F f) o_7 x0 x1 x2 x3))
def sX7_writeRights (F : Nat) (h : Hp) (x0 : Nat) (x1 : Nat) (x2 : Nat) : Option (Hp) := sX7_writeRights_2 F F h x0 x1 x2 (0 : Int32)
set_option maxRecDepth 20000 in
theorem moX7_writeRights_56 {o : Hp} {F : Nat} {h : Hp} (hE : sX7_writeRights_56 F h  = some o) : Le h o := by
  exact le_some1 hE
set_option maxRecDepth 20000 in
theorem moX7_writeRights_35 {o : Hp} {k_2 : Hp → Nat → Nat → Nat → Int32 → Option (Hp)} {F : Nat} (mk_2 : ∀ (h : Hp) (x0 : Nat) (x1 : Nat) (x2 : Nat) (x3 : Int32), k_2 h x0 x1 x2 x3 = some o → Le h o) {h : Hp} {x0 : Nat} {x1 : Nat} {x2 : Nat} {x3 : Int32} (hE : sX7_writeRights_35 F k_2 h x0 x1 x2 x3 = some o) : Le h o := by
  obtain ⟨v_1, ev_1, hE⟩ := nm_e2 hE
  exact mk_2 _ _ _ _ _ hE
set_option maxRecDepth 20000 in
theorem moX7_writeRights_2 {o : Hp} {F : Nat} : ∀ (f : Nat) {h : Hp} {x0 : Nat} {x1 : Nat} {x2 : Nat} {x3 : Int32}, sX7_writeRights_2 F f h x0 x1 x2 x3 = some o → Le h o := by
  intro f
  induction f with
  | zero =>
    intro h x0 x1 x2 x3 hE
    rw [sX7_writeRights_2] at hE
    cases hE
  | succ f ih =>
    intro h x0 x1 x2 x3 hE
    rw [sX7_writeRights_2] at hE
    have mk_2 : ∀ (h : Hp) (x0 : Nat) (x1 : Nat) (x2 : Nat) (x3 : Int32), sX7_writeRights_2 F f h x0 x1 x2 x3 = some o → Le h o := fun h x0 x1 x2 x3 hE => ih hE
    obtain ⟨r_1, er_1, hE⟩ := cl_e hE
    rcases br_e hE with ⟨_, hE⟩ | ⟨_, hE⟩
    · rcases br_e hE with ⟨_, hE⟩ | ⟨_, hE⟩
      · obtain ⟨o_4, eo_4, hE⟩ := cl_e hE
        refine (moX9_append eo_4).tr ?_
        exact moX7_writeRights_56 hE
      · exact moX7_writeRights_56 hE
    · rcases br_e hE with ⟨_, hE⟩ | ⟨_, hE⟩
      · exact moX7_writeRights_35 mk_2 hE
      · obtain ⟨r_6, er_6, hE⟩ := cl_e hE
        obtain ⟨o_7, eo_7, hE⟩ := cl_e hE
        refine (moX7_writeSquare eo_7).tr ?_
        exact moX7_writeRights_35 mk_2 hE
set_option maxRecDepth 20000 in
theorem moX7_writeRights {o : Hp} {F : Nat} {h : Hp} {x0 : Nat} {x1 : Nat} {x2 : Nat} (hE : sX7_writeRights F h x0 x1 x2 = some o) : Le h o := by
  exact moX7_writeRights_2 _ hE
set_option maxRecDepth 20000 in
theorem bX7_writeRights_56 {p : Program} {l : Launch} {e : Env} {s : State} {m : MethodId} {args : Array Value} {below : List Frame} {meth : Method} {c : Code} {X : Ec} {h0 : Hp} {o : Hp} {F : Nat} (C : Cx X p s m args meth c RX7 cX7_writeRights 4 none "writeRights") {h : Hp} {H : Heap} {locs : List Loc} (hkm : Km h0 h) (hW : Wx X h H) (hZ : va_S (aA (eB X)) s.heap H locs) (ls : Array Slot) (hl : lv_has ls 4 []) (hE : sX7_writeRights_56 F h  = some o) : W p l e (rm 2 43) s m args below meth c H locs 0 0 (MQ below (QV X h0 o) args s 0 0 (aA (eB X))) (F0 m 56 ls []) := by
  exact x_vret C rfl hW hZ hkm hE dX7_writeRights_56
set_option maxRecDepth 20000 in
theorem bX7_writeRights_35 {p : Program} {l : Launch} {e : Env} {s : State} {m : MethodId} {args : Array Value} {below : List Frame} {meth : Method} {c : Code} {X : Ec} {h0 : Hp} {o : Hp} {k_2 : Hp → Nat → Nat → Nat → Int32 → Option (Hp)} {F : Nat} (C : Cx X p s m args meth c RX7 cX7_writeRights 4 none "writeRights") (hk_2 : ∀ (h : Hp) (x0 : Nat) (x1 : Nat) (x2 : Nat) (x3 : Int32) (H : Heap) (locs : List Loc), hK h x0 = 7 → hK h x1 = 3 → hK h x2 = 9 → Km h0 h → Wx X h H → va_S (aA (eB X)) s.heap H locs → ∀ (ls : Array Slot), lv_has ls 4 [(0, .ref x0), (1, .ref x1), (2, .ref x2), (3, .int x3)] → k_2 h x0 x1 x2 x3 = some o → W p l e (rm 2 43) s m args below meth c H locs 0 0 (MQ below (QV X h0 o) args s 0 0 (aA (eB X))) (F0 m 2 ls [])) {h : Hp} {x0 : Nat} {x1 : Nat} {x2 : Nat} {x3 : Int32} {H : Heap} {locs : List Loc} (k_x0 : hK h x0 = 7) (k_x1 : hK h x1 = 3) (k_x2 : hK h x2 = 9) (hkm : Km h0 h) (hW : Wx X h H) (hZ : va_S (aA (eB X)) s.heap H locs) (ls : Array Slot) (hl : lv_has ls 4 [(0, .ref x0), (1, .ref x1), (2, .ref x2), (3, .int x3)]) (hE : sX7_writeRights_35 F k_2 h x0 x1 x2 x3 = some o) : W p l e (rm 2 43) s m args below meth c H locs 0 0 (MQ below (QV X h0 o) args s 0 0 (aA (eB X))) (F0 m 35 ls []) := by
  obtain ⟨v_1, ev_1, hE⟩ := nm_e2 hE
  refine lv_iinc (v := v_1) (lv' := [(3, .int v_1), (0, .ref x0), (1, .ref x1), (2, .ref x2)]) C.1 C.2.1 dX7_writeRights_35 hl (k := 3) rfl (by rw [ev_1]; rfl) (by decide) rfl (fun ls hl => ?_)
  refine lv_goto (tgt := 2) C.1 C.2.1 dX7_writeRights_38 (by decide) ?_
  exact hk_2 _ _ _ _ _ _ _ k_x0 k_x1 k_x2 hkm hW hZ _ (lv_sub hl [1, 2, 3, 0] rfl) hE
set_option maxRecDepth 20000 in
theorem bX7_writeRights_2 {p : Program} {l : Launch} {e : Env} {s : State} {m : MethodId} {args : Array Value} {below : List Frame} {meth : Method} {c : Code} {X : Ec} {h0 : Hp} {o : Hp} {F : Nat} (C : Cx X p s m args meth c RX7 cX7_writeRights 4 none "writeRights") : ∀ (f : Nat) {h : Hp} {x0 : Nat} {x1 : Nat} {x2 : Nat} {x3 : Int32} {H : Heap} {locs : List Loc} (k_x0 : hK h x0 = 7) (k_x1 : hK h x1 = 3) (k_x2 : hK h x2 = 9), Km h0 h → Wx X h H → va_S (aA (eB X)) s.heap H locs → ∀ (ls : Array Slot), lv_has ls 4 [(0, .ref x0), (1, .ref x1), (2, .ref x2), (3, .int x3)] → sX7_writeRights_2 F f h x0 x1 x2 x3 = some o → W p l e (rm 2 43) s m args below meth c H locs 0 0 (MQ below (QV X h0 o) args s 0 0 (aA (eB X))) (F0 m 2 ls []) := by
  intro f
  induction f with
  | zero =>
    intro h x0 x1 x2 x3 H locs k_x0 k_x1 k_x2 hkm hW hZ ls hl hE
    rw [sX7_writeRights_2] at hE
    cases hE
  | succ f ih =>
    intro h x0 x1 x2 x3 H locs k_x0 k_x1 k_x2 hkm hW hZ ls hl hE
    rw [sX7_writeRights_2] at hE
    have hk_2 : ∀ (h : Hp) (x0 : Nat) (x1 : Nat) (x2 : Nat) (x3 : Int32) (H : Heap) (locs : List Loc), hK h x0 = 7 → hK h x1 = 3 → hK h x2 = 9 → Km h0 h → Wx X h H → va_S (aA (eB X)) s.heap H locs → ∀ (ls : Array Slot), lv_has ls 4 [(0, .ref x0), (1, .ref x1), (2, .ref x2), (3, .int x3)] → sX7_writeRights_2 F f h x0 x1 x2 x3 = some o → W p l e (rm 2 43) s m args below meth c H locs 0 0 (MQ below (QV X h0 o) args s 0 0 (aA (eB X))) (F0 m 2 ls []) := fun h x0 x1 x2 x3 H locs k_x0 k_x1 k_x2 a b c ls hl hE => ih k_x0 k_x1 k_x2 a b c ls hl hE
    refine lv_iload_n C.1 C.2.1 dX7_writeRights_2 rfl (lv_at hl 3 rfl) ?_
    refine lv_aload_n C.1 C.2.1 dX7_writeRights_3 rfl (lv_at hl 0 rfl) ?_
    obtain ⟨r_1, er_1, hE⟩ := cl_e hE
    refine gf_X7_9 C hW k_x0 er_1 dX7_writeRights_4 (fun k_r_1 => ?_)
    refine gf_X7_145 C hW k_r_1 dX7_writeRights_7 ?_
    refine lv_icmp_ge (tgt := 41) C.1 C.2.1 dX7_writeRights_10 (by decide) (fun c_2 => ?_) (fun c_2 => ?_)
    · have hE := br_p hE c_2
      refine lv_aload_n C.1 C.2.1 dX7_writeRights_41 rfl (lv_at hl 1 rfl) ?_
      refine gf_X7_85 C hW k_x1 dX7_writeRights_42 ?_
      refine lv_lconst (v := (0 : Int64)) C.1 C.2.1 dX7_writeRights_45 (by decide) ?_
      refine W.lcmp C.1 C.2.1 dX7_writeRights_46 ?_
      refine lv_if_ne (tgt := 56) C.1 C.2.1 dX7_writeRights_47 (by decide) (fun c_3 => ?_) (fun c_3 => ?_)
      · have hE := br_n hE c_3
        exact bX7_writeRights_56 C hkm hW hZ _ (lv_sub hl [] rfl) hE
      · have hE := br_p hE c_3
        refine lv_aload_n C.1 C.2.1 dX7_writeRights_50 rfl (lv_at hl 2 rfl) ?_
        refine lv_bipush (v := (45 : Int32)) C.1 C.2.1 dX7_writeRights_51 (by decide) ?_
        obtain ⟨o_4, eo_4, hE⟩ := cl_e hE
        refine x_kV (o := o_4) (z_runV (As := [.int (45 : Int32)]) (rest := []) C (ct_X9_append l X k_x2 eo_4) cw_X7_118 hW hZ k_x2 (by decide) rfl rfl rfl hl.1 (Nat.le_of_ble_eq_true rfl) rfl dX7_writeRights_53 ⟨Nat.le_of_ble_eq_true rfl, Nat.le_of_ble_eq_true rfl⟩ ⟨Nat.le_refl _, Nat.le_refl _⟩) hZ (fun _ _ hW km hZ => ?_)
        replace hkm := hkm.tr km
        replace k_x0 := km.at k_x0 (by decide)
        replace k_x1 := km.at k_x1 (by decide)
        replace k_x2 := km.at k_x2 (by decide)
        exact bX7_writeRights_56 C hkm hW hZ _ (lv_sub hl [] rfl) hE
    · have hE := br_n hE c_2
      refine lv_aload_n C.1 C.2.1 dX7_writeRights_13 rfl (lv_at hl 1 rfl) ?_
      refine gf_X7_85 C hW k_x1 dX7_writeRights_14 ?_
      refine lv_iload_n C.1 C.2.1 dX7_writeRights_17 rfl (lv_at hl 3 rfl) ?_
      refine lv_lushr C.1 C.2.1 dX7_writeRights_18 rfl ?_
      refine lv_lconst (v := (1 : Int64)) C.1 C.2.1 dX7_writeRights_19 (by decide) ?_
      refine lv_land C.1 C.2.1 dX7_writeRights_20 ?_
      refine lv_lconst (v := (0 : Int64)) C.1 C.2.1 dX7_writeRights_21 (by decide) ?_
      refine W.lcmp C.1 C.2.1 dX7_writeRights_22 ?_
      refine lv_if_eq (tgt := 35) C.1 C.2.1 dX7_writeRights_23 (by decide) (fun c_5 => ?_) (fun c_5 => ?_)
      · have hE := br_p hE c_5
        exact bX7_writeRights_35 C hk_2 k_x0 k_x1 k_x2 hkm hW hZ _ (lv_sub hl [0, 1, 2, 3] rfl) hE
      · have hE := br_n hE c_5
        refine lv_aload_n C.1 C.2.1 dX7_writeRights_26 rfl (lv_at hl 0 rfl) ?_
        obtain ⟨r_6, er_6, hE⟩ := cl_e hE
        refine gf_X7_9 C hW k_x0 er_6 dX7_writeRights_27 (fun k_r_6 => ?_)
        refine lv_iload_n C.1 C.2.1 dX7_writeRights_30 rfl (lv_at hl 3 rfl) ?_
        refine lv_aload_n C.1 C.2.1 dX7_writeRights_31 rfl (lv_at hl 2 rfl) ?_
        obtain ⟨o_7, eo_7, hE⟩ := cl_e hE
        refine x_kV (o := o_7) (z_runS (As := [.ref r_6, .int x3, .ref x2]) (rest := []) C (ct_X7_writeSquare l X k_r_6 k_x2 eo_7) cw_X7_148 hW hZ rfl hl.1 (Nat.le_of_ble_eq_true rfl) rfl dX7_writeRights_32 ⟨Nat.le_of_ble_eq_true rfl, Nat.le_of_ble_eq_true rfl⟩ ⟨Nat.le_refl _, Nat.le_refl _⟩) hZ (fun _ _ hW km hZ => ?_)
        replace hkm := hkm.tr km
        replace k_x0 := km.at k_x0 (by decide)
        replace k_x1 := km.at k_x1 (by decide)
        replace k_x2 := km.at k_x2 (by decide)
        exact bX7_writeRights_35 C hk_2 k_x0 k_x1 k_x2 hkm hW hZ _ (lv_sub hl [0, 1, 2, 3] rfl) hE
set_option maxRecDepth 20000 in
theorem ct_X7_writeRights (l : Launch) (X : Ec) (F : Nat) {h : Hp} {x0 : Nat} {x1 : Nat} {x2 : Nat} {o : Hp} (k_x0 : hK h x0 = 7) (k_x1 : hK h x1 = 3) (k_x2 : hK h x2 = 9) (hE : sX7_writeRights F h x0 x1 x2 = some o) : MetV l yX7_writeRights cX7_writeRights 4 none 2 43 X [.ref x0, .ref x1, .ref x2] h o := by
  refine x_met (by decide) (Nat.le_of_ble_eq_true rfl) ?_
  intro p e s m below meth c ls C hl hW hZ
  have hl : lv_has ls 4 [(0, .ref x0), (1, .ref x1), (2, .ref x2)] := hl
  have hkm : Km h h := Km.rf h
  refine lv_iconst (v := (0 : Int32)) C.1 C.2.1 dX7_writeRights_0 (by decide) ?_
  refine lv_istore_n (lv' := [(3, .int (0 : Int32)), (0, .ref x0), (1, .ref x1), (2, .ref x2)]) C.1 C.2.1 dX7_writeRights_1 rfl hl (by decide) rfl (fun ls hl => ?_)
  exact bX7_writeRights_2 C F k_x0 k_x1 k_x2 hkm hW hZ _ (lv_sub hl [1, 2, 3, 0] rfl) hE
set_option maxRecDepth 100000 in
theorem m_316 : Cond.fieldLink RX7 158 (TX3 9).1 (TX3 9).2.1 (TX3 9).2.2.1 ∈ W0 := w0_in (List.mem_append_right _ (List.mem_of_getElem? (i := 316) rfl)) rfl
set_option maxRecDepth 100000 in
theorem m_1055 : Cond.instanceMethod yX3_passSquare ∈ W0 := w0_in (List.mem_append_right _ (List.mem_of_getElem? (i := 1055) rfl)) rfl
set_option maxRecDepth 100000 in
theorem m_1056 : Cond.selects RX3 yX3_passSquare yX3_passSquare ∈ W0 := w0_in (List.mem_append_right _ (List.mem_of_getElem? (i := 1056) rfl)) rfl
set_option maxRecDepth 100000 in
theorem m_1057 : Cond.code yX3_passSquare cX3_passSquare 2 (some .int) ∈ W0 := w0_in (List.mem_append_right _ (List.mem_of_getElem? (i := 1057) rfl)) rfl
set_option maxRecDepth 100000 in
theorem m_1116 : Cond.methodLink RX7 152 yX3_passSize ∈ W0 := w0_in (List.mem_append_right _ (List.mem_of_getElem? (i := 1116) rfl)) rfl
set_option maxRecDepth 100000 in
theorem m_1117 : Cond.methodLink RX7 155 yX3_passSquare ∈ W0 := w0_in (List.mem_append_right _ (List.mem_of_getElem? (i := 1117) rfl)) rfl
section
variable {p : Program} {l : Launch} {e : Env} {R : Room} {s : State} {m : MethodId} {args : Array Value} {below : List Frame} {meth : Method} {c : Code} {H : Heap} {locs : List Loc} {cells slots : Nat} {Q : State → Prop}
variable {cc : ByteArray} {pc : Nat} {ls : Array Slot} {rest : List Value} {X : Ec} {h h1 : Hp} {nL : Nat} {rt : Option FieldType} {mn : String}
theorem gf_X7_158 {a : Nat} (C : Cx X p s m args meth c RX7 cc nL rt mn) (hW : Wx X h H) (ha : hK h a = 3) (hdg : decode cc pc = .ok (.getfield 158, 3)) (kk : W p l e R s m args below meth c H locs cells slots Q (F0 m (pc + 3) ls (.long (hJ h a 9) :: rest))) : W p l e R s m args below meth c H locs cells slots Q (F0 m pc ls (.ref a :: rest)) :=
  y_getj C hW ha i_X3 (by decide) rfl (by decide) m_316 rfl hdg kk
end
theorem cw_X7_152 : cwd RX7 152 yX3_passSize cX3_passSize 1 (some .int) false 0 := ⟨m_989, m_1116, m_8, ⟨m_987, m_988⟩, by decide, by decide, by decide +kernel⟩
theorem cw_X7_155 : cwd RX7 155 yX3_passSquare cX3_passSquare 2 (some .int) false 1 := ⟨m_1057, m_1117, m_8, ⟨m_1055, m_1056⟩, by decide, by decide, by decide +kernel⟩
theorem dX7_writePass_0 : decode cX7_writePass 0 = .ok (.iconst 0, 1) := by decide +kernel
theorem dX7_writePass_1 : decode cX7_writePass 1 = .ok (.istore_n 3, 1) := by decide +kernel
theorem dX7_writePass_2 : decode cX7_writePass 2 = .ok (.iload_n 3, 1) := by decide +kernel
theorem dX7_writePass_3 : decode cX7_writePass 3 = .ok (.aload_n 1, 1) := by decide +kernel
theorem dX7_writePass_4 : decode cX7_writePass 4 = .ok (.invokevirtual 152, 3) := by decide +kernel
theorem dX7_writePass_7 : decode cX7_writePass 7 = .ok (.if_icmp .ge 22, 3) := by decide +kernel
theorem dX7_writePass_10 : decode cX7_writePass 10 = .ok (.aload_n 0, 1) := by decide +kernel
theorem dX7_writePass_11 : decode cX7_writePass 11 = .ok (.getfield 9, 3) := by decide +kernel
theorem dX7_writePass_14 : decode cX7_writePass 14 = .ok (.aload_n 1, 1) := by decide +kernel
theorem dX7_writePass_15 : decode cX7_writePass 15 = .ok (.iload_n 3, 1) := by decide +kernel
theorem dX7_writePass_16 : decode cX7_writePass 16 = .ok (.invokevirtual 155, 3) := by decide +kernel
theorem dX7_writePass_19 : decode cX7_writePass 19 = .ok (.aload_n 2, 1) := by decide +kernel
theorem dX7_writePass_20 : decode cX7_writePass 20 = .ok (.invokestatic 148, 3) := by decide +kernel
theorem dX7_writePass_23 : decode cX7_writePass 23 = .ok (.iinc 3 1, 3) := by decide +kernel
theorem dX7_writePass_26 : decode cX7_writePass 26 = .ok (.goto (-24), 3) := by decide +kernel
theorem dX7_writePass_29 : decode cX7_writePass 29 = .ok (.aload_n 1, 1) := by decide +kernel
theorem dX7_writePass_30 : decode cX7_writePass 30 = .ok (.getfield 158, 3) := by decide +kernel
theorem dX7_writePass_33 : decode cX7_writePass 33 = .ok (.lconst 0, 1) := by decide +kernel
theorem dX7_writePass_34 : decode cX7_writePass 34 = .ok (.lcmp, 1) := by decide +kernel
theorem dX7_writePass_35 : decode cX7_writePass 35 = .ok (.ifCond .ne 9, 3) := by decide +kernel
theorem dX7_writePass_38 : decode cX7_writePass 38 = .ok (.aload_n 2, 1) := by decide +kernel
theorem dX7_writePass_39 : decode cX7_writePass 39 = .ok (.bipush 45, 2) := by decide +kernel
theorem dX7_writePass_41 : decode cX7_writePass 41 = .ok (.invokevirtual 118, 3) := by decide +kernel
theorem dX7_writePass_44 : decode cX7_writePass 44 = .ok (.return_, 1) := by decide +kernel
def sX7_writePass_44 (F : Nat) (h : Hp) : Option (Hp) := some h
def sX7_writePass_2 (F : Nat) : Nat → Hp → Nat → Nat → Nat → Int32 → Option (Hp)
  | 0, _, _, _, _, _ => none
  | f + 1, h, x0, x1, x2, x3 => cl (sX3_passSize h x1) fun o_1 => br (o_1.1 ≤ x3) (br ((lg_cmp (hJ o_1.2 x1 9) (0 : Int64)) = 0) (cl (sX9_append o_1.2 x2 (45 : Int32)) fun o_4 => sX7_writePass_44 F o_4 ) (sX7_writePass_44 F o_1.2 )) (cl (hR o_1.2 x0 0) fun r_5 => cl (sX3_passSquare o_1.2 x1 x3) fun o_6 => cl (sX7_writeSquare o_6.2 r_5 o_6.1 x2) fun o_7 => nm (x3 + (1 : Int32)) fun v_8 => sX7_writePass_2 F f o_7 x0 x1 x2 v_8)
def sX7_writePass (F : Nat) (h : Hp) (x0 : Nat) (x1 : Nat) (x2 : Nat) : Option (Hp) := sX7_writePass_2 F F h x0 x1 x2 (0 : Int32)
set_option maxRecDepth 20000 in
theorem moX7_writePass_44 {o : Hp} {F : Nat} {h : Hp} (hE : sX7_writePass_44 F h  = some o) : Le h o := by
  exact le_some1 hE
set_option maxRecDepth 20000 in
theorem moX7_writePass_2 {o : Hp} {F : Nat} : ∀ (f : Nat) {h : Hp} {x0 : Nat} {x1 : Nat} {x2 : Nat} {x3 : Int32}, sX7_writePass_2 F f h x0 x1 x2 x3 = some o → Le h o := by
  intro f
  induction f with
  | zero =>
    intro h x0 x1 x2 x3 hE
    rw [sX7_writePass_2] at hE
    cases hE
  | succ f ih =>
    intro h x0 x1 x2 x3 hE
    rw [sX7_writePass_2] at hE
    have mk_2 : ∀ (h : Hp) (x0 : Nat) (x1 : Nat) (x2 : Nat) (x3 : Int32), sX7_writePass_2 F f h x0 x1 x2 x3 = some o → Le h o := fun h x0 x1 x2 x3 hE => ih hE
    obtain ⟨o_1, eo_1, hE⟩ := cl_e hE
    refine (moX3_passSize eo_1).tr ?_
    rcases br_e hE with ⟨_, hE⟩ | ⟨_, hE⟩
    · rcases br_e hE with ⟨_, hE⟩ | ⟨_, hE⟩
      · obtain ⟨o_4, eo_4, hE⟩ := cl_e hE
        refine (moX9_append eo_4).tr ?_
        exact moX7_writePass_44 hE
      · exact moX7_writePass_44 hE
    · obtain ⟨r_5, er_5, hE⟩ := cl_e hE
      obtain ⟨o_6, eo_6, hE⟩ := cl_e hE
      refine (moX3_passSquare eo_6).tr ?_
      obtain ⟨o_7, eo_7, hE⟩ := cl_e hE
      refine (moX7_writeSquare eo_7).tr ?_
      obtain ⟨v_8, ev_8, hE⟩ := nm_e2 hE
      exact mk_2 _ _ _ _ _ hE
set_option maxRecDepth 20000 in
theorem moX7_writePass {o : Hp} {F : Nat} {h : Hp} {x0 : Nat} {x1 : Nat} {x2 : Nat} (hE : sX7_writePass F h x0 x1 x2 = some o) : Le h o := by
  exact moX7_writePass_2 _ hE
set_option maxRecDepth 20000 in
theorem bX7_writePass_44 {p : Program} {l : Launch} {e : Env} {s : State} {m : MethodId} {args : Array Value} {below : List Frame} {meth : Method} {c : Code} {X : Ec} {h0 : Hp} {o : Hp} {F : Nat} (C : Cx X p s m args meth c RX7 cX7_writePass 4 none "writePass") {h : Hp} {H : Heap} {locs : List Loc} (hkm : Km h0 h) (hW : Wx X h H) (hZ : va_S (aA (eB X)) s.heap H locs) (ls : Array Slot) (hl : lv_has ls 4 []) (hE : sX7_writePass_44 F h  = some o) : W p l e (rm 2 43) s m args below meth c H locs 0 0 (MQ below (QV X h0 o) args s 0 0 (aA (eB X))) (F0 m 44 ls []) := by
  exact x_vret C rfl hW hZ hkm hE dX7_writePass_44
set_option maxRecDepth 20000 in
theorem bX7_writePass_2 {p : Program} {l : Launch} {e : Env} {s : State} {m : MethodId} {args : Array Value} {below : List Frame} {meth : Method} {c : Code} {X : Ec} {h0 : Hp} {o : Hp} {F : Nat} (C : Cx X p s m args meth c RX7 cX7_writePass 4 none "writePass") : ∀ (f : Nat) {h : Hp} {x0 : Nat} {x1 : Nat} {x2 : Nat} {x3 : Int32} {H : Heap} {locs : List Loc} (k_x0 : hK h x0 = 7) (k_x1 : hK h x1 = 3) (k_x2 : hK h x2 = 9), Km h0 h → Wx X h H → va_S (aA (eB X)) s.heap H locs → ∀ (ls : Array Slot), lv_has ls 4 [(0, .ref x0), (1, .ref x1), (2, .ref x2), (3, .int x3)] → sX7_writePass_2 F f h x0 x1 x2 x3 = some o → W p l e (rm 2 43) s m args below meth c H locs 0 0 (MQ below (QV X h0 o) args s 0 0 (aA (eB X))) (F0 m 2 ls []) := by
  intro f
  induction f with
  | zero =>
    intro h x0 x1 x2 x3 H locs k_x0 k_x1 k_x2 hkm hW hZ ls hl hE
    rw [sX7_writePass_2] at hE
    cases hE
  | succ f ih =>
    intro h x0 x1 x2 x3 H locs k_x0 k_x1 k_x2 hkm hW hZ ls hl hE
    rw [sX7_writePass_2] at hE
    have hk_2 : ∀ (h : Hp) (x0 : Nat) (x1 : Nat) (x2 : Nat) (x3 : Int32) (H : Heap) (locs : List Loc), hK h x0 = 7 → hK h x1 = 3 → hK h x2 = 9 → Km h0 h → Wx X h H → va_S (aA (eB X)) s.heap H locs → ∀ (ls : Array Slot), lv_has ls 4 [(0, .ref x0), (1, .ref x1), (2, .ref x2), (3, .int x3)] → sX7_writePass_2 F f h x0 x1 x2 x3 = some o → W p l e (rm 2 43) s m args below meth c H locs 0 0 (MQ below (QV X h0 o) args s 0 0 (aA (eB X))) (F0 m 2 ls []) := fun h x0 x1 x2 x3 H locs k_x0 k_x1 k_x2 a b c ls hl hE => ih k_x0 k_x1 k_x2 a b c ls hl hE
    refine lv_iload_n C.1 C.2.1 dX7_writePass_2 rfl (lv_at hl 3 rfl) ?_
    refine lv_aload_n C.1 C.2.1 dX7_writePass_3 rfl (lv_at hl 1 rfl) ?_
    obtain ⟨o_1, eo_1, hE⟩ := cl_e hE
    refine x_kI (o := o_1) (z_runV (As := []) (rest := [.int x3]) C (ct_X3_passSize l X k_x1 eo_1) cw_X7_152 hW hZ k_x1 (by decide) rfl rfl rfl hl.1 (Nat.le_of_ble_eq_true rfl) rfl dX7_writePass_4 ⟨Nat.le_of_ble_eq_true rfl, Nat.le_of_ble_eq_true rfl⟩ ⟨Nat.le_refl _, Nat.le_refl _⟩) hZ (fun _ _ hW km hZ => ?_)
    replace hkm := hkm.tr km
    replace k_x0 := km.at k_x0 (by decide)
    replace k_x1 := km.at k_x1 (by decide)
    replace k_x2 := km.at k_x2 (by decide)
    refine lv_icmp_ge (tgt := 29) C.1 C.2.1 dX7_writePass_7 (by decide) (fun c_2 => ?_) (fun c_2 => ?_)
    · have hE := br_p hE c_2
      refine lv_aload_n C.1 C.2.1 dX7_writePass_29 rfl (lv_at hl 1 rfl) ?_
      refine gf_X7_158 C hW k_x1 dX7_writePass_30 ?_
      refine lv_lconst (v := (0 : Int64)) C.1 C.2.1 dX7_writePass_33 (by decide) ?_
      refine W.lcmp C.1 C.2.1 dX7_writePass_34 ?_
      refine lv_if_ne (tgt := 44) C.1 C.2.1 dX7_writePass_35 (by decide) (fun c_3 => ?_) (fun c_3 => ?_)
      · have hE := br_n hE c_3
        exact bX7_writePass_44 C hkm hW hZ _ (lv_sub hl [] rfl) hE
      · have hE := br_p hE c_3
        refine lv_aload_n C.1 C.2.1 dX7_writePass_38 rfl (lv_at hl 2 rfl) ?_
        refine lv_bipush (v := (45 : Int32)) C.1 C.2.1 dX7_writePass_39 (by decide) ?_
        obtain ⟨o_4, eo_4, hE⟩ := cl_e hE
        refine x_kV (o := o_4) (z_runV (As := [.int (45 : Int32)]) (rest := []) C (ct_X9_append l X k_x2 eo_4) cw_X7_118 hW hZ k_x2 (by decide) rfl rfl rfl hl.1 (Nat.le_of_ble_eq_true rfl) rfl dX7_writePass_41 ⟨Nat.le_of_ble_eq_true rfl, Nat.le_of_ble_eq_true rfl⟩ ⟨Nat.le_refl _, Nat.le_refl _⟩) hZ (fun _ _ hW km hZ => ?_)
        replace hkm := hkm.tr km
        replace k_x0 := km.at k_x0 (by decide)
        replace k_x1 := km.at k_x1 (by decide)
        replace k_x2 := km.at k_x2 (by decide)
        exact bX7_writePass_44 C hkm hW hZ _ (lv_sub hl [] rfl) hE
    · have hE := br_n hE c_2
      refine lv_aload_n C.1 C.2.1 dX7_writePass_10 rfl (lv_at hl 0 rfl) ?_
      obtain ⟨r_5, er_5, hE⟩ := cl_e hE
      refine gf_X7_9 C hW k_x0 er_5 dX7_writePass_11 (fun k_r_5 => ?_)
      refine lv_aload_n C.1 C.2.1 dX7_writePass_14 rfl (lv_at hl 1 rfl) ?_
      refine lv_iload_n C.1 C.2.1 dX7_writePass_15 rfl (lv_at hl 3 rfl) ?_
      obtain ⟨o_6, eo_6, hE⟩ := cl_e hE
      refine x_kI (o := o_6) (z_runV (As := [.int x3]) (rest := [.ref r_5]) C (ct_X3_passSquare l X k_x1 eo_6) cw_X7_155 hW hZ k_x1 (by decide) rfl rfl rfl hl.1 (Nat.le_of_ble_eq_true rfl) rfl dX7_writePass_16 ⟨Nat.le_of_ble_eq_true rfl, Nat.le_of_ble_eq_true rfl⟩ ⟨Nat.le_refl _, Nat.le_refl _⟩) hZ (fun _ _ hW km hZ => ?_)
      replace hkm := hkm.tr km
      replace k_x0 := km.at k_x0 (by decide)
      replace k_x1 := km.at k_x1 (by decide)
      replace k_x2 := km.at k_x2 (by decide)
      replace k_r_5 := km.at k_r_5 (by decide)
      refine lv_aload_n C.1 C.2.1 dX7_writePass_19 rfl (lv_at hl 2 rfl) ?_
      obtain ⟨o_7, eo_7, hE⟩ := cl_e hE
      refine x_kV (o := o_7) (z_runS (As := [.ref r_5, .int o_6.1, .ref x2]) (rest := []) C (ct_X7_writeSquare l X k_r_5 k_x2 eo_7) cw_X7_148 hW hZ rfl hl.1 (Nat.le_of_ble_eq_true rfl) rfl dX7_writePass_20 ⟨Nat.le_of_ble_eq_true rfl, Nat.le_of_ble_eq_true rfl⟩ ⟨Nat.le_refl _, Nat.le_refl _⟩) hZ (fun _ _ hW km hZ => ?_)
      replace hkm := hkm.tr km
      replace k_x0 := km.at k_x0 (by decide)
      replace k_x1 := km.at k_x1 (by decide)
      replace k_x2 := km.at k_x2 (by decide)
      obtain ⟨v_8, ev_8, hE⟩ := nm_e2 hE
      refine lv_iinc (v := v_8) (lv' := [(3, .int v_8), (0, .ref x0), (1, .ref x1), (2, .ref x2)]) C.1 C.2.1 dX7_writePass_23 hl (k := 3) rfl (by rw [ev_8]; rfl) (by decide) rfl (fun ls hl => ?_)
      refine lv_goto (tgt := 2) C.1 C.2.1 dX7_writePass_26 (by decide) ?_
      exact hk_2 _ _ _ _ _ _ _ k_x0 k_x1 k_x2 hkm hW hZ _ (lv_sub hl [1, 2, 3, 0] rfl) hE
set_option maxRecDepth 20000 in
theorem ct_X7_writePass (l : Launch) (X : Ec) (F : Nat) {h : Hp} {x0 : Nat} {x1 : Nat} {x2 : Nat} {o : Hp} (k_x0 : hK h x0 = 7) (k_x1 : hK h x1 = 3) (k_x2 : hK h x2 = 9) (hE : sX7_writePass F h x0 x1 x2 = some o) : MetV l yX7_writePass cX7_writePass 4 none 2 43 X [.ref x0, .ref x1, .ref x2] h o := by
  refine x_met (by decide) (Nat.le_of_ble_eq_true rfl) ?_
  intro p e s m below meth c ls C hl hW hZ
  have hl : lv_has ls 4 [(0, .ref x0), (1, .ref x1), (2, .ref x2)] := hl
  have hkm : Km h h := Km.rf h
  refine lv_iconst (v := (0 : Int32)) C.1 C.2.1 dX7_writePass_0 (by decide) ?_
  refine lv_istore_n (lv' := [(3, .int (0 : Int32)), (0, .ref x0), (1, .ref x1), (2, .ref x2)]) C.1 C.2.1 dX7_writePass_1 rfl hl (by decide) rfl (fun ls hl => ?_)
  exact bX7_writePass_2 C F k_x0 k_x1 k_x2 hkm hW hZ _ (lv_sub hl [1, 2, 3, 0] rfl) hE
set_option maxRecDepth 100000 in
theorem m_82 : Cond.fieldLink RX7 161 (TX1 3).1 (TX1 3).2.1 (TX1 3).2.2.1 ∈ W0 := w0_in (List.mem_append_right _ (List.mem_of_getElem? (i := 82) rfl)) rfl
set_option maxRecDepth 100000 in
theorem m_290 : Cond.fieldLink RX7 164 (TX3 3).1 (TX3 3).2.1 (TX3 3).2.2.1 ∈ W0 := w0_in (List.mem_append_right _ (List.mem_of_getElem? (i := 290) rfl)) rfl
section
variable {p : Program} {l : Launch} {e : Env} {R : Room} {s : State} {m : MethodId} {args : Array Value} {below : List Frame} {meth : Method} {c : Code} {H : Heap} {locs : List Loc} {cells slots : Nat} {Q : State → Prop}
variable {cc : ByteArray} {pc : Nat} {ls : Array Slot} {rest : List Value} {X : Ec} {h h1 : Hp} {nL : Nat} {rt : Option FieldType} {mn : String}
theorem gf_X7_161 {a : Nat} (C : Cx X p s m args meth c RX7 cc nL rt mn) (hW : Wx X h H) (ha : hK h a = 1) (hdg : decode cc pc = .ok (.getfield 161, 3)) (kk : W p l e R s m args below meth c H locs cells slots Q (F0 m (pc + 3) ls (.int (hI h a 3) :: rest))) : W p l e R s m args below meth c H locs cells slots Q (F0 m pc ls (.ref a :: rest)) :=
  y_geti C hW ha i_X1 (by decide) rfl (by decide) m_82 rfl hdg kk
theorem gf_X7_164 {a r : Nat} (C : Cx X p s m args meth c RX7 cc nL rt mn) (hW : Wx X h H) (ha : hK h a = 3) (hr : hR h a 3 = some r) (hdg : decode cc pc = .ok (.getfield 164, 3)) (kk : hK h r = 18 → W p l e R s m args below meth c H locs cells slots Q (F0 m (pc + 3) ls (.ref r :: rest))) : W p l e R s m args below meth c H locs cells slots Q (F0 m pc ls (.ref a :: rest)) :=
  y_getr C hW ha i_X3 (by decide) rfl (by decide) m_290 rfl rfl hr hdg kk
end
theorem dX7_writeHands_0 : decode cX7_writeHands 0 = .ok (.iconst 0, 1) := by decide +kernel
theorem dX7_writeHands_1 : decode cX7_writeHands 1 = .ok (.istore_n 3, 1) := by decide +kernel
theorem dX7_writeHands_2 : decode cX7_writeHands 2 = .ok (.iload_n 3, 1) := by decide +kernel
theorem dX7_writeHands_3 : decode cX7_writeHands 3 = .ok (.iconst 2, 1) := by decide +kernel
theorem dX7_writeHands_4 : decode cX7_writeHands 4 = .ok (.if_icmp .ge 68, 3) := by decide +kernel
theorem dX7_writeHands_7 : decode cX7_writeHands 7 = .ok (.iconst 0, 1) := by decide +kernel
theorem dX7_writeHands_8 : decode cX7_writeHands 8 = .ok (.istore 4, 2) := by decide +kernel
theorem dX7_writeHands_10 : decode cX7_writeHands 10 = .ok (.iload 4, 2) := by decide +kernel
theorem dX7_writeHands_12 : decode cX7_writeHands 12 = .ok (.aload_n 0, 1) := by decide +kernel
theorem dX7_writeHands_13 : decode cX7_writeHands 13 = .ok (.getfield 9, 3) := by decide +kernel
theorem dX7_writeHands_16 : decode cX7_writeHands 16 = .ok (.getfield 161, 3) := by decide +kernel
theorem dX7_writeHands_19 : decode cX7_writeHands 19 = .ok (.if_icmp .ge 47, 3) := by decide +kernel
theorem dX7_writeHands_22 : decode cX7_writeHands 22 = .ok (.iconst 0, 1) := by decide +kernel
theorem dX7_writeHands_23 : decode cX7_writeHands 23 = .ok (.istore 5, 2) := by decide +kernel
theorem dX7_writeHands_25 : decode cX7_writeHands 25 = .ok (.iload 5, 2) := by decide +kernel
theorem dX7_writeHands_27 : decode cX7_writeHands 27 = .ok (.aload_n 1, 1) := by decide +kernel
theorem dX7_writeHands_28 : decode cX7_writeHands 28 = .ok (.iload_n 3, 1) := by decide +kernel
theorem dX7_writeHands_29 : decode cX7_writeHands 29 = .ok (.iload 4, 2) := by decide +kernel
theorem dX7_writeHands_31 : decode cX7_writeHands 31 = .ok (.invokevirtual 93, 3) := by decide +kernel
theorem dX7_writeHands_34 : decode cX7_writeHands 34 = .ok (.if_icmp .ge 26, 3) := by decide +kernel
theorem dX7_writeHands_37 : decode cX7_writeHands 37 = .ok (.aload_n 2, 1) := by decide +kernel
theorem dX7_writeHands_38 : decode cX7_writeHands 38 = .ok (.aload_n 0, 1) := by decide +kernel
theorem dX7_writeHands_39 : decode cX7_writeHands 39 = .ok (.getfield 9, 3) := by decide +kernel
theorem dX7_writeHands_42 : decode cX7_writeHands 42 = .ok (.iconst 2, 1) := by decide +kernel
theorem dX7_writeHands_43 : decode cX7_writeHands 43 = .ok (.iload 4, 2) := by decide +kernel
theorem dX7_writeHands_45 : decode cX7_writeHands 45 = .ok (.imul, 1) := by decide +kernel
theorem dX7_writeHands_46 : decode cX7_writeHands 46 = .ok (.iload_n 3, 1) := by decide +kernel
theorem dX7_writeHands_47 : decode cX7_writeHands 47 = .ok (.iadd, 1) := by decide +kernel
theorem dX7_writeHands_48 : decode cX7_writeHands 48 = .ok (.invokevirtual 142, 3) := by decide +kernel
theorem dX7_writeHands_51 : decode cX7_writeHands 51 = .ok (.invokevirtual 118, 3) := by decide +kernel
theorem dX7_writeHands_54 : decode cX7_writeHands 54 = .ok (.iinc 5 1, 3) := by decide +kernel
theorem dX7_writeHands_57 : decode cX7_writeHands 57 = .ok (.goto (-32), 3) := by decide +kernel
theorem dX7_writeHands_60 : decode cX7_writeHands 60 = .ok (.iinc 4 1, 3) := by decide +kernel
theorem dX7_writeHands_63 : decode cX7_writeHands 63 = .ok (.goto (-53), 3) := by decide +kernel
theorem dX7_writeHands_66 : decode cX7_writeHands 66 = .ok (.iinc 3 1, 3) := by decide +kernel
theorem dX7_writeHands_69 : decode cX7_writeHands 69 = .ok (.goto (-67), 3) := by decide +kernel
theorem dX7_writeHands_72 : decode cX7_writeHands 72 = .ok (.aload_n 1, 1) := by decide +kernel
theorem dX7_writeHands_73 : decode cX7_writeHands 73 = .ok (.getfield 164, 3) := by decide +kernel
theorem dX7_writeHands_76 : decode cX7_writeHands 76 = .ok (.iconst 0, 1) := by decide +kernel
theorem dX7_writeHands_77 : decode cX7_writeHands 77 = .ok (.laload, 1) := by decide +kernel
theorem dX7_writeHands_78 : decode cX7_writeHands 78 = .ok (.lconst 0, 1) := by decide +kernel
theorem dX7_writeHands_79 : decode cX7_writeHands 79 = .ok (.lcmp, 1) := by decide +kernel
theorem dX7_writeHands_80 : decode cX7_writeHands 80 = .ok (.ifCond .ne 20, 3) := by decide +kernel
theorem dX7_writeHands_83 : decode cX7_writeHands 83 = .ok (.aload_n 1, 1) := by decide +kernel
theorem dX7_writeHands_84 : decode cX7_writeHands 84 = .ok (.getfield 164, 3) := by decide +kernel
theorem dX7_writeHands_87 : decode cX7_writeHands 87 = .ok (.iconst 1, 1) := by decide +kernel
theorem dX7_writeHands_88 : decode cX7_writeHands 88 = .ok (.laload, 1) := by decide +kernel
theorem dX7_writeHands_89 : decode cX7_writeHands 89 = .ok (.lconst 0, 1) := by decide +kernel
theorem dX7_writeHands_90 : decode cX7_writeHands 90 = .ok (.lcmp, 1) := by decide +kernel
theorem dX7_writeHands_91 : decode cX7_writeHands 91 = .ok (.ifCond .ne 9, 3) := by decide +kernel
theorem dX7_writeHands_94 : decode cX7_writeHands 94 = .ok (.aload_n 2, 1) := by decide +kernel
theorem dX7_writeHands_95 : decode cX7_writeHands 95 = .ok (.bipush 45, 2) := by decide +kernel
theorem dX7_writeHands_97 : decode cX7_writeHands 97 = .ok (.invokevirtual 118, 3) := by decide +kernel
theorem dX7_writeHands_100 : decode cX7_writeHands 100 = .ok (.return_, 1) := by decide +kernel
def sX7_writeHands_100 (F : Nat) (h : Hp) : Option (Hp) := some h
def sX7_writeHands_25 (F : Nat) (k_2 : Hp → Nat → Nat → Nat → Int32 → Option (Hp)) (k_10 : Hp → Nat → Nat → Nat → Int32 → Int32 → Option (Hp)) : Nat → Hp → Nat → Nat → Nat → Int32 → Int32 → Int32 → Option (Hp)
  | 0, _, _, _, _, _, _, _ => none
  | f + 1, h, x0, x1, x2, x3, x4, x5 => cl (sX3_inHand h x1 x3 x4) fun o_1 => br (o_1.1 ≤ x5) (nm (x4 + (1 : Int32)) fun v_3 => k_10 o_1.2 x0 x1 x2 x3 v_3) (cl (hR o_1.2 x0 0) fun r_4 => cl (sX1_letterOf o_1.2 r_4 (((2 : Int32) * x4) + x3)) fun o_5 => cl (sX9_append o_5.2 x2 o_5.1) fun o_6 => nm (x5 + (1 : Int32)) fun v_7 => sX7_writeHands_25 F k_2 k_10 f o_6 x0 x1 x2 x3 x4 v_7)
def sX7_writeHands_10 (F : Nat) (k_2 : Hp → Nat → Nat → Nat → Int32 → Option (Hp)) : Nat → Hp → Nat → Nat → Nat → Int32 → Int32 → Option (Hp)
  | 0, _, _, _, _, _, _ => none
  | f + 1, h, x0, x1, x2, x3, x4 => cl (hR h x0 0) fun r_1 => br ((hI h r_1 3) ≤ x4) (nm (x3 + (1 : Int32)) fun v_3 => k_2 h x0 x1 x2 v_3) (sX7_writeHands_25 F k_2 (sX7_writeHands_10 F k_2 f) F h x0 x1 x2 x3 x4 (0 : Int32))
def sX7_writeHands_2 (F : Nat) : Nat → Hp → Nat → Nat → Nat → Int32 → Option (Hp)
  | 0, _, _, _, _, _ => none
  | f + 1, h, x0, x1, x2, x3 => br ((2 : Int32) ≤ x3) (cl (hR h x1 3) fun r_2 => gd (inB (0 : Int32) (hN h r_2)) <| br ((lg_cmp (hJ h r_2 (0 : Int32).toNatClampNeg) (0 : Int64)) = 0) (cl (hR h x1 3) fun r_5 => gd (inB (1 : Int32) (hN h r_5)) <| br ((lg_cmp (hJ h r_5 (1 : Int32).toNatClampNeg) (0 : Int64)) = 0) (cl (sX9_append h x2 (45 : Int32)) fun o_8 => sX7_writeHands_100 F o_8 ) (sX7_writeHands_100 F h )) (sX7_writeHands_100 F h )) (sX7_writeHands_10 F (sX7_writeHands_2 F f) F h x0 x1 x2 x3 (0 : Int32))
def sX7_writeHands (F : Nat) (h : Hp) (x0 : Nat) (x1 : Nat) (x2 : Nat) : Option (Hp) := sX7_writeHands_2 F F h x0 x1 x2 (0 : Int32)
set_option maxRecDepth 20000 in
theorem moX7_writeHands_100 {o : Hp} {F : Nat} {h : Hp} (hE : sX7_writeHands_100 F h  = some o) : Le h o := by
  exact le_some1 hE
set_option maxRecDepth 20000 in
theorem moX7_writeHands_25 {o : Hp} {k_2 : Hp → Nat → Nat → Nat → Int32 → Option (Hp)} {k_10 : Hp → Nat → Nat → Nat → Int32 → Int32 → Option (Hp)} {F : Nat} (mk_2 : ∀ (h : Hp) (x0 : Nat) (x1 : Nat) (x2 : Nat) (x3 : Int32), k_2 h x0 x1 x2 x3 = some o → Le h o) (mk_10 : ∀ (h : Hp) (x0 : Nat) (x1 : Nat) (x2 : Nat) (x3 : Int32) (x4 : Int32), k_10 h x0 x1 x2 x3 x4 = some o → Le h o) : ∀ (f : Nat) {h : Hp} {x0 : Nat} {x1 : Nat} {x2 : Nat} {x3 : Int32} {x4 : Int32} {x5 : Int32}, sX7_writeHands_25 F k_2 k_10 f h x0 x1 x2 x3 x4 x5 = some o → Le h o := by
  intro f
  induction f with
  | zero =>
    intro h x0 x1 x2 x3 x4 x5 hE
    rw [sX7_writeHands_25] at hE
    cases hE
  | succ f ih =>
    intro h x0 x1 x2 x3 x4 x5 hE
    rw [sX7_writeHands_25] at hE
    have mk_25 : ∀ (h : Hp) (x0 : Nat) (x1 : Nat) (x2 : Nat) (x3 : Int32) (x4 : Int32) (x5 : Int32), sX7_writeHands_25 F k_2 k_10 f h x0 x1 x2 x3 x4 x5 = some o → Le h o := fun h x0 x1 x2 x3 x4 x5 hE => ih hE
    obtain ⟨o_1, eo_1, hE⟩ := cl_e hE
    refine (moX3_inHand eo_1).tr ?_
    rcases br_e hE with ⟨_, hE⟩ | ⟨_, hE⟩
    · obtain ⟨v_3, ev_3, hE⟩ := nm_e2 hE
      exact mk_10 _ _ _ _ _ _ hE
    · obtain ⟨r_4, er_4, hE⟩ := cl_e hE
      obtain ⟨o_5, eo_5, hE⟩ := cl_e hE
      refine (moX1_letterOf eo_5).tr ?_
      obtain ⟨o_6, eo_6, hE⟩ := cl_e hE
      refine (moX9_append eo_6).tr ?_
      obtain ⟨v_7, ev_7, hE⟩ := nm_e2 hE
      exact mk_25 _ _ _ _ _ _ _ hE
set_option maxRecDepth 20000 in
theorem moX7_writeHands_10 {o : Hp} {k_2 : Hp → Nat → Nat → Nat → Int32 → Option (Hp)} {F : Nat} (mk_2 : ∀ (h : Hp) (x0 : Nat) (x1 : Nat) (x2 : Nat) (x3 : Int32), k_2 h x0 x1 x2 x3 = some o → Le h o) : ∀ (f : Nat) {h : Hp} {x0 : Nat} {x1 : Nat} {x2 : Nat} {x3 : Int32} {x4 : Int32}, sX7_writeHands_10 F k_2 f h x0 x1 x2 x3 x4 = some o → Le h o := by
  intro f
  induction f with
  | zero =>
    intro h x0 x1 x2 x3 x4 hE
    rw [sX7_writeHands_10] at hE
    cases hE
  | succ f ih =>
    intro h x0 x1 x2 x3 x4 hE
    rw [sX7_writeHands_10] at hE
    have mk_10 : ∀ (h : Hp) (x0 : Nat) (x1 : Nat) (x2 : Nat) (x3 : Int32) (x4 : Int32), sX7_writeHands_10 F k_2 f h x0 x1 x2 x3 x4 = some o → Le h o := fun h x0 x1 x2 x3 x4 hE => ih hE
    obtain ⟨r_1, er_1, hE⟩ := cl_e hE
    rcases br_e hE with ⟨_, hE⟩ | ⟨_, hE⟩
    · obtain ⟨v_3, ev_3, hE⟩ := nm_e2 hE
      exact mk_2 _ _ _ _ _ hE
    · exact moX7_writeHands_25 mk_2 mk_10 _ hE
set_option maxRecDepth 20000 in
theorem moX7_writeHands_2 {o : Hp} {F : Nat} : ∀ (f : Nat) {h : Hp} {x0 : Nat} {x1 : Nat} {x2 : Nat} {x3 : Int32}, sX7_writeHands_2 F f h x0 x1 x2 x3 = some o → Le h o := by
  intro f
  induction f with
  | zero =>
    intro h x0 x1 x2 x3 hE
    rw [sX7_writeHands_2] at hE
    cases hE
  | succ f ih =>
    intro h x0 x1 x2 x3 hE
    rw [sX7_writeHands_2] at hE
    have mk_2 : ∀ (h : Hp) (x0 : Nat) (x1 : Nat) (x2 : Nat) (x3 : Int32), sX7_writeHands_2 F f h x0 x1 x2 x3 = some o → Le h o := fun h x0 x1 x2 x3 hE => ih hE
    rcases br_e hE with ⟨_, hE⟩ | ⟨_, hE⟩
    · obtain ⟨r_2, er_2, hE⟩ := cl_e hE
      obtain ⟨g_3, hE⟩ := gd_e hE
      rcases br_e hE with ⟨_, hE⟩ | ⟨_, hE⟩
      · obtain ⟨r_5, er_5, hE⟩ := cl_e hE
        obtain ⟨g_6, hE⟩ := gd_e hE
        rcases br_e hE with ⟨_, hE⟩ | ⟨_, hE⟩
        · obtain ⟨o_8, eo_8, hE⟩ := cl_e hE
          refine (moX9_append eo_8).tr ?_
          exact moX7_writeHands_100 hE
        · exact moX7_writeHands_100 hE
      · exact moX7_writeHands_100 hE
    · exact moX7_writeHands_10 mk_2 _ hE
set_option maxRecDepth 20000 in
theorem moX7_writeHands {o : Hp} {F : Nat} {h : Hp} {x0 : Nat} {x1 : Nat} {x2 : Nat} (hE : sX7_writeHands F h x0 x1 x2 = some o) : Le h o := by
  exact moX7_writeHands_2 _ hE
set_option maxRecDepth 20000 in
theorem bX7_writeHands_100 {p : Program} {l : Launch} {e : Env} {s : State} {m : MethodId} {args : Array Value} {below : List Frame} {meth : Method} {c : Code} {X : Ec} {h0 : Hp} {o : Hp} {F : Nat} (C : Cx X p s m args meth c RX7 cX7_writeHands 6 none "writeHands") {h : Hp} {H : Heap} {locs : List Loc} (hkm : Km h0 h) (hW : Wx X h H) (hZ : va_S (aA (eB X)) s.heap H locs) (ls : Array Slot) (hl : lv_has ls 6 []) (hE : sX7_writeHands_100 F h  = some o) : W p l e (rm 1 22) s m args below meth c H locs 0 0 (MQ below (QV X h0 o) args s 0 0 (aA (eB X))) (F0 m 100 ls []) := by
  exact x_vret C rfl hW hZ hkm hE dX7_writeHands_100
set_option maxRecDepth 20000 in
theorem bX7_writeHands_25 {p : Program} {l : Launch} {e : Env} {s : State} {m : MethodId} {args : Array Value} {below : List Frame} {meth : Method} {c : Code} {X : Ec} {h0 : Hp} {o : Hp} {k_2 : Hp → Nat → Nat → Nat → Int32 → Option (Hp)} {k_10 : Hp → Nat → Nat → Nat → Int32 → Int32 → Option (Hp)} {F : Nat} (C : Cx X p s m args meth c RX7 cX7_writeHands 6 none "writeHands") (hk_2 : ∀ (h : Hp) (x0 : Nat) (x1 : Nat) (x2 : Nat) (x3 : Int32) (H : Heap) (locs : List Loc), hK h x0 = 7 → hK h x1 = 3 → hK h x2 = 9 → Km h0 h → Wx X h H → va_S (aA (eB X)) s.heap H locs → ∀ (ls : Array Slot), lv_has ls 6 [(0, .ref x0), (1, .ref x1), (2, .ref x2), (3, .int x3)] → k_2 h x0 x1 x2 x3 = some o → W p l e (rm 1 22) s m args below meth c H locs 0 0 (MQ below (QV X h0 o) args s 0 0 (aA (eB X))) (F0 m 2 ls [])) (hk_10 : ∀ (h : Hp) (x0 : Nat) (x1 : Nat) (x2 : Nat) (x3 : Int32) (x4 : Int32) (H : Heap) (locs : List Loc), hK h x0 = 7 → hK h x1 = 3 → hK h x2 = 9 → Km h0 h → Wx X h H → va_S (aA (eB X)) s.heap H locs → ∀ (ls : Array Slot), lv_has ls 6 [(0, .ref x0), (1, .ref x1), (2, .ref x2), (3, .int x3), (4, .int x4)] → k_10 h x0 x1 x2 x3 x4 = some o → W p l e (rm 1 22) s m args below meth c H locs 0 0 (MQ below (QV X h0 o) args s 0 0 (aA (eB X))) (F0 m 10 ls [])) : ∀ (f : Nat) {h : Hp} {x0 : Nat} {x1 : Nat} {x2 : Nat} {x3 : Int32} {x4 : Int32} {x5 : Int32} {H : Heap} {locs : List Loc} (k_x0 : hK h x0 = 7) (k_x1 : hK h x1 = 3) (k_x2 : hK h x2 = 9), Km h0 h → Wx X h H → va_S (aA (eB X)) s.heap H locs → ∀ (ls : Array Slot), lv_has ls 6 [(0, .ref x0), (1, .ref x1), (2, .ref x2), (3, .int x3), (4, .int x4), (5, .int x5)] → sX7_writeHands_25 F k_2 k_10 f h x0 x1 x2 x3 x4 x5 = some o → W p l e (rm 1 22) s m args below meth c H locs 0 0 (MQ below (QV X h0 o) args s 0 0 (aA (eB X))) (F0 m 25 ls []) := by
  intro f
  induction f with
  | zero =>
    intro h x0 x1 x2 x3 x4 x5 H locs k_x0 k_x1 k_x2 hkm hW hZ ls hl hE
    rw [sX7_writeHands_25] at hE
    cases hE
  | succ f ih =>
    intro h x0 x1 x2 x3 x4 x5 H locs k_x0 k_x1 k_x2 hkm hW hZ ls hl hE
    rw [sX7_writeHands_25] at hE
    have hk_25 : ∀ (h : Hp) (x0 : Nat) (x1 : Nat) (x2 : Nat) (x3 : Int32) (x4 : Int32) (x5 : Int32) (H : Heap) (locs : List Loc), hK h x0 = 7 → hK h x1 = 3 → hK h x2 = 9 → Km h0 h → Wx X h H → va_S (aA (eB X)) s.heap H locs → ∀ (ls : Array Slot), lv_has ls 6 [(0, .ref x0), (1, .ref x1), (2, .ref x2), (3, .int x3), (4, .int x4), (5, .int x5)] → sX7_writeHands_25 F k_2 k_10 f h x0 x1 x2 x3 x4 x5 = some o → W p l e (rm 1 22) s m args below meth c H locs 0 0 (MQ below (QV X h0 o) args s 0 0 (aA (eB X))) (F0 m 25 ls []) := fun h x0 x1 x2 x3 x4 x5 H locs k_x0 k_x1 k_x2 a b c ls hl hE => ih k_x0 k_x1 k_x2 a b c ls hl hE
    refine lv_iload C.1 C.2.1 dX7_writeHands_25 (lv_at hl 5 rfl) ?_
    refine lv_aload_n C.1 C.2.1 dX7_writeHands_27 rfl (lv_at hl 1 rfl) ?_
    refine lv_iload_n C.1 C.2.1 dX7_writeHands_28 rfl (lv_at hl 3 rfl) ?_
    refine lv_iload C.1 C.2.1 dX7_writeHands_29 (lv_at hl 4 rfl) ?_
    obtain ⟨o_1, eo_1, hE⟩ := cl_e hE
    refine x_kI (o := o_1) (z_runV (As := [.int x3, .int x4]) (rest := [.int x5]) C (ct_X3_inHand l X k_x1 eo_1) cw_X7_93 hW hZ k_x1 (by decide) rfl rfl rfl hl.1 (Nat.le_of_ble_eq_true rfl) rfl dX7_writeHands_31 ⟨Nat.le_of_ble_eq_true rfl, Nat.le_of_ble_eq_true rfl⟩ ⟨Nat.le_refl _, Nat.le_refl _⟩) hZ (fun _ _ hW km hZ => ?_)
    replace hkm := hkm.tr km
    replace k_x0 := km.at k_x0 (by decide)
    replace k_x1 := km.at k_x1 (by decide)
    replace k_x2 := km.at k_x2 (by decide)
    refine lv_icmp_ge (tgt := 60) C.1 C.2.1 dX7_writeHands_34 (by decide) (fun c_2 => ?_) (fun c_2 => ?_)
    · have hE := br_p hE c_2
      obtain ⟨v_3, ev_3, hE⟩ := nm_e2 hE
      refine lv_iinc (v := v_3) (lv' := [(4, .int v_3), (0, .ref x0), (1, .ref x1), (2, .ref x2), (3, .int x3), (5, .int x5)]) C.1 C.2.1 dX7_writeHands_60 hl (k := 4) rfl (by rw [ev_3]; rfl) (by decide) rfl (fun ls hl => ?_)
      refine lv_goto (tgt := 10) C.1 C.2.1 dX7_writeHands_63 (by decide) ?_
      exact hk_10 _ _ _ _ _ _ _ _ k_x0 k_x1 k_x2 hkm hW hZ _ (lv_sub hl [1, 2, 3, 4, 0] rfl) hE
    · have hE := br_n hE c_2
      refine lv_aload_n C.1 C.2.1 dX7_writeHands_37 rfl (lv_at hl 2 rfl) ?_
      refine lv_aload_n C.1 C.2.1 dX7_writeHands_38 rfl (lv_at hl 0 rfl) ?_
      obtain ⟨r_4, er_4, hE⟩ := cl_e hE
      refine gf_X7_9 C hW k_x0 er_4 dX7_writeHands_39 (fun k_r_4 => ?_)
      refine lv_iconst (v := (2 : Int32)) C.1 C.2.1 dX7_writeHands_42 (by decide) ?_
      refine lv_iload C.1 C.2.1 dX7_writeHands_43 (lv_at hl 4 rfl) ?_
      refine lv_imul C.1 C.2.1 dX7_writeHands_45 ?_
      refine lv_iload_n C.1 C.2.1 dX7_writeHands_46 rfl (lv_at hl 3 rfl) ?_
      refine lv_iadd C.1 C.2.1 dX7_writeHands_47 ?_
      obtain ⟨o_5, eo_5, hE⟩ := cl_e hE
      refine x_kI (o := o_5) (z_runV (As := [.int (((2 : Int32) * x4) + x3)]) (rest := [.ref x2]) C (ct_X1_letterOf l X k_r_4 eo_5) cw_X7_142 hW hZ k_r_4 (by decide) rfl rfl rfl hl.1 (Nat.le_of_ble_eq_true rfl) rfl dX7_writeHands_48 ⟨Nat.le_of_ble_eq_true rfl, Nat.le_of_ble_eq_true rfl⟩ ⟨Nat.le_refl _, Nat.le_refl _⟩) hZ (fun _ _ hW km hZ => ?_)
      replace hkm := hkm.tr km
      replace k_x0 := km.at k_x0 (by decide)
      replace k_x1 := km.at k_x1 (by decide)
      replace k_x2 := km.at k_x2 (by decide)
      obtain ⟨o_6, eo_6, hE⟩ := cl_e hE
      refine x_kV (o := o_6) (z_runV (As := [.int o_5.1]) (rest := []) C (ct_X9_append l X k_x2 eo_6) cw_X7_118 hW hZ k_x2 (by decide) rfl rfl rfl hl.1 (Nat.le_of_ble_eq_true rfl) rfl dX7_writeHands_51 ⟨Nat.le_of_ble_eq_true rfl, Nat.le_of_ble_eq_true rfl⟩ ⟨Nat.le_refl _, Nat.le_refl _⟩) hZ (fun _ _ hW km hZ => ?_)
      replace hkm := hkm.tr km
      replace k_x0 := km.at k_x0 (by decide)
      replace k_x1 := km.at k_x1 (by decide)
      replace k_x2 := km.at k_x2 (by decide)
      obtain ⟨v_7, ev_7, hE⟩ := nm_e2 hE
      refine lv_iinc (v := v_7) (lv' := [(5, .int v_7), (0, .ref x0), (1, .ref x1), (2, .ref x2), (3, .int x3), (4, .int x4)]) C.1 C.2.1 dX7_writeHands_54 hl (k := 5) rfl (by rw [ev_7]; rfl) (by decide) rfl (fun ls hl => ?_)
      refine lv_goto (tgt := 25) C.1 C.2.1 dX7_writeHands_57 (by decide) ?_
      exact hk_25 _ _ _ _ _ _ _ _ _ k_x0 k_x1 k_x2 hkm hW hZ _ (lv_sub hl [1, 2, 3, 4, 5, 0] rfl) hE
set_option maxRecDepth 20000 in
theorem bX7_writeHands_10 {p : Program} {l : Launch} {e : Env} {s : State} {m : MethodId} {args : Array Value} {below : List Frame} {meth : Method} {c : Code} {X : Ec} {h0 : Hp} {o : Hp} {k_2 : Hp → Nat → Nat → Nat → Int32 → Option (Hp)} {F : Nat} (C : Cx X p s m args meth c RX7 cX7_writeHands 6 none "writeHands") (hk_2 : ∀ (h : Hp) (x0 : Nat) (x1 : Nat) (x2 : Nat) (x3 : Int32) (H : Heap) (locs : List Loc), hK h x0 = 7 → hK h x1 = 3 → hK h x2 = 9 → Km h0 h → Wx X h H → va_S (aA (eB X)) s.heap H locs → ∀ (ls : Array Slot), lv_has ls 6 [(0, .ref x0), (1, .ref x1), (2, .ref x2), (3, .int x3)] → k_2 h x0 x1 x2 x3 = some o → W p l e (rm 1 22) s m args below meth c H locs 0 0 (MQ below (QV X h0 o) args s 0 0 (aA (eB X))) (F0 m 2 ls [])) : ∀ (f : Nat) {h : Hp} {x0 : Nat} {x1 : Nat} {x2 : Nat} {x3 : Int32} {x4 : Int32} {H : Heap} {locs : List Loc} (k_x0 : hK h x0 = 7) (k_x1 : hK h x1 = 3) (k_x2 : hK h x2 = 9), Km h0 h → Wx X h H → va_S (aA (eB X)) s.heap H locs → ∀ (ls : Array Slot), lv_has ls 6 [(0, .ref x0), (1, .ref x1), (2, .ref x2), (3, .int x3), (4, .int x4)] → sX7_writeHands_10 F k_2 f h x0 x1 x2 x3 x4 = some o → W p l e (rm 1 22) s m args below meth c H locs 0 0 (MQ below (QV X h0 o) args s 0 0 (aA (eB X))) (F0 m 10 ls []) := by
  intro f
  induction f with
  | zero =>
    intro h x0 x1 x2 x3 x4 H locs k_x0 k_x1 k_x2 hkm hW hZ ls hl hE
    rw [sX7_writeHands_10] at hE
    cases hE
  | succ f ih =>
    intro h x0 x1 x2 x3 x4 H locs k_x0 k_x1 k_x2 hkm hW hZ ls hl hE
    rw [sX7_writeHands_10] at hE
    have hk_10 : ∀ (h : Hp) (x0 : Nat) (x1 : Nat) (x2 : Nat) (x3 : Int32) (x4 : Int32) (H : Heap) (locs : List Loc), hK h x0 = 7 → hK h x1 = 3 → hK h x2 = 9 → Km h0 h → Wx X h H → va_S (aA (eB X)) s.heap H locs → ∀ (ls : Array Slot), lv_has ls 6 [(0, .ref x0), (1, .ref x1), (2, .ref x2), (3, .int x3), (4, .int x4)] → sX7_writeHands_10 F k_2 f h x0 x1 x2 x3 x4 = some o → W p l e (rm 1 22) s m args below meth c H locs 0 0 (MQ below (QV X h0 o) args s 0 0 (aA (eB X))) (F0 m 10 ls []) := fun h x0 x1 x2 x3 x4 H locs k_x0 k_x1 k_x2 a b c ls hl hE => ih k_x0 k_x1 k_x2 a b c ls hl hE
    refine lv_iload C.1 C.2.1 dX7_writeHands_10 (lv_at hl 4 rfl) ?_
    refine lv_aload_n C.1 C.2.1 dX7_writeHands_12 rfl (lv_at hl 0 rfl) ?_
    obtain ⟨r_1, er_1, hE⟩ := cl_e hE
    refine gf_X7_9 C hW k_x0 er_1 dX7_writeHands_13 (fun k_r_1 => ?_)
    refine gf_X7_161 C hW k_r_1 dX7_writeHands_16 ?_
    refine lv_icmp_ge (tgt := 66) C.1 C.2.1 dX7_writeHands_19 (by decide) (fun c_2 => ?_) (fun c_2 => ?_)
    · have hE := br_p hE c_2
      obtain ⟨v_3, ev_3, hE⟩ := nm_e2 hE
      refine lv_iinc (v := v_3) (lv' := [(3, .int v_3), (0, .ref x0), (1, .ref x1), (2, .ref x2), (4, .int x4)]) C.1 C.2.1 dX7_writeHands_66 hl (k := 3) rfl (by rw [ev_3]; rfl) (by decide) rfl (fun ls hl => ?_)
      refine lv_goto (tgt := 2) C.1 C.2.1 dX7_writeHands_69 (by decide) ?_
      exact hk_2 _ _ _ _ _ _ _ k_x0 k_x1 k_x2 hkm hW hZ _ (lv_sub hl [1, 2, 3, 0] rfl) hE
    · have hE := br_n hE c_2
      refine lv_iconst (v := (0 : Int32)) C.1 C.2.1 dX7_writeHands_22 (by decide) ?_
      refine lv_istore (lv' := [(5, .int (0 : Int32)), (0, .ref x0), (1, .ref x1), (2, .ref x2), (3, .int x3), (4, .int x4)]) C.1 C.2.1 dX7_writeHands_23 hl (by decide) rfl (fun ls hl => ?_)
      exact bX7_writeHands_25 C hk_2 hk_10 F k_x0 k_x1 k_x2 hkm hW hZ _ (lv_sub hl [1, 2, 3, 4, 5, 0] rfl) hE
set_option maxRecDepth 20000 in
theorem bX7_writeHands_2 {p : Program} {l : Launch} {e : Env} {s : State} {m : MethodId} {args : Array Value} {below : List Frame} {meth : Method} {c : Code} {X : Ec} {h0 : Hp} {o : Hp} {F : Nat} (C : Cx X p s m args meth c RX7 cX7_writeHands 6 none "writeHands") : ∀ (f : Nat) {h : Hp} {x0 : Nat} {x1 : Nat} {x2 : Nat} {x3 : Int32} {H : Heap} {locs : List Loc} (k_x0 : hK h x0 = 7) (k_x1 : hK h x1 = 3) (k_x2 : hK h x2 = 9), Km h0 h → Wx X h H → va_S (aA (eB X)) s.heap H locs → ∀ (ls : Array Slot), lv_has ls 6 [(0, .ref x0), (1, .ref x1), (2, .ref x2), (3, .int x3)] → sX7_writeHands_2 F f h x0 x1 x2 x3 = some o → W p l e (rm 1 22) s m args below meth c H locs 0 0 (MQ below (QV X h0 o) args s 0 0 (aA (eB X))) (F0 m 2 ls []) := by
  intro f
  induction f with
  | zero =>
    intro h x0 x1 x2 x3 H locs k_x0 k_x1 k_x2 hkm hW hZ ls hl hE
    rw [sX7_writeHands_2] at hE
    cases hE
  | succ f ih =>
    intro h x0 x1 x2 x3 H locs k_x0 k_x1 k_x2 hkm hW hZ ls hl hE
    rw [sX7_writeHands_2] at hE
    have hk_2 : ∀ (h : Hp) (x0 : Nat) (x1 : Nat) (x2 : Nat) (x3 : Int32) (H : Heap) (locs : List Loc), hK h x0 = 7 → hK h x1 = 3 → hK h x2 = 9 → Km h0 h → Wx X h H → va_S (aA (eB X)) s.heap H locs → ∀ (ls : Array Slot), lv_has ls 6 [(0, .ref x0), (1, .ref x1), (2, .ref x2), (3, .int x3)] → sX7_writeHands_2 F f h x0 x1 x2 x3 = some o → W p l e (rm 1 22) s m args below meth c H locs 0 0 (MQ below (QV X h0 o) args s 0 0 (aA (eB X))) (F0 m 2 ls []) := fun h x0 x1 x2 x3 H locs k_x0 k_x1 k_x2 a b c ls hl hE => ih k_x0 k_x1 k_x2 a b c ls hl hE
    refine lv_iload_n C.1 C.2.1 dX7_writeHands_2 rfl (lv_at hl 3 rfl) ?_
    refine lv_iconst (v := (2 : Int32)) C.1 C.2.1 dX7_writeHands_3 (by decide) ?_
    refine lv_icmp_ge (tgt := 72) C.1 C.2.1 dX7_writeHands_4 (by decide) (fun c_1 => ?_) (fun c_1 => ?_)
    · have hE := br_p hE c_1
      refine lv_aload_n C.1 C.2.1 dX7_writeHands_72 rfl (lv_at hl 1 rfl) ?_
      obtain ⟨r_2, er_2, hE⟩ := cl_e hE
      refine gf_X7_164 C hW k_x1 er_2 dX7_writeHands_73 (fun k_r_2 => ?_)
      refine lv_iconst (v := (0 : Int32)) C.1 C.2.1 dX7_writeHands_76 (by decide) ?_
      obtain ⟨g_3, hE⟩ := gd_e hE
      refine y_lald C hW k_r_2 g_3 dX7_writeHands_77 ?_
      refine lv_lconst (v := (0 : Int64)) C.1 C.2.1 dX7_writeHands_78 (by decide) ?_
      refine W.lcmp C.1 C.2.1 dX7_writeHands_79 ?_
      refine lv_if_ne (tgt := 100) C.1 C.2.1 dX7_writeHands_80 (by decide) (fun c_4 => ?_) (fun c_4 => ?_)
      · have hE := br_n hE c_4
        exact bX7_writeHands_100 C hkm hW hZ _ (lv_sub hl [] rfl) hE
      · have hE := br_p hE c_4
        refine lv_aload_n C.1 C.2.1 dX7_writeHands_83 rfl (lv_at hl 1 rfl) ?_
        obtain ⟨r_5, er_5, hE⟩ := cl_e hE
        refine gf_X7_164 C hW k_x1 er_5 dX7_writeHands_84 (fun k_r_5 => ?_)
        refine lv_iconst (v := (1 : Int32)) C.1 C.2.1 dX7_writeHands_87 (by decide) ?_
        obtain ⟨g_6, hE⟩ := gd_e hE
        refine y_lald C hW k_r_5 g_6 dX7_writeHands_88 ?_
        refine lv_lconst (v := (0 : Int64)) C.1 C.2.1 dX7_writeHands_89 (by decide) ?_
        refine W.lcmp C.1 C.2.1 dX7_writeHands_90 ?_
        refine lv_if_ne (tgt := 100) C.1 C.2.1 dX7_writeHands_91 (by decide) (fun c_7 => ?_) (fun c_7 => ?_)
        · have hE := br_n hE c_7
          exact bX7_writeHands_100 C hkm hW hZ _ (lv_sub hl [] rfl) hE
        · have hE := br_p hE c_7
          refine lv_aload_n C.1 C.2.1 dX7_writeHands_94 rfl (lv_at hl 2 rfl) ?_
          refine lv_bipush (v := (45 : Int32)) C.1 C.2.1 dX7_writeHands_95 (by decide) ?_
          obtain ⟨o_8, eo_8, hE⟩ := cl_e hE
          refine x_kV (o := o_8) (z_runV (As := [.int (45 : Int32)]) (rest := []) C (ct_X9_append l X k_x2 eo_8) cw_X7_118 hW hZ k_x2 (by decide) rfl rfl rfl hl.1 (Nat.le_of_ble_eq_true rfl) rfl dX7_writeHands_97 ⟨Nat.le_of_ble_eq_true rfl, Nat.le_of_ble_eq_true rfl⟩ ⟨Nat.le_refl _, Nat.le_refl _⟩) hZ (fun _ _ hW km hZ => ?_)
          replace hkm := hkm.tr km
          replace k_x0 := km.at k_x0 (by decide)
          replace k_x1 := km.at k_x1 (by decide)
          replace k_x2 := km.at k_x2 (by decide)
          exact bX7_writeHands_100 C hkm hW hZ _ (lv_sub hl [] rfl) hE
    · have hE := br_n hE c_1
      refine lv_iconst (v := (0 : Int32)) C.1 C.2.1 dX7_writeHands_7 (by decide) ?_
      refine lv_istore (lv' := [(4, .int (0 : Int32)), (0, .ref x0), (1, .ref x1), (2, .ref x2), (3, .int x3)]) C.1 C.2.1 dX7_writeHands_8 hl (by decide) rfl (fun ls hl => ?_)
      exact bX7_writeHands_10 C hk_2 F k_x0 k_x1 k_x2 hkm hW hZ _ (lv_sub hl [1, 2, 3, 4, 0] rfl) hE
set_option maxRecDepth 20000 in
theorem ct_X7_writeHands (l : Launch) (X : Ec) (F : Nat) {h : Hp} {x0 : Nat} {x1 : Nat} {x2 : Nat} {o : Hp} (k_x0 : hK h x0 = 7) (k_x1 : hK h x1 = 3) (k_x2 : hK h x2 = 9) (hE : sX7_writeHands F h x0 x1 x2 = some o) : MetV l yX7_writeHands cX7_writeHands 6 none 1 22 X [.ref x0, .ref x1, .ref x2] h o := by
  refine x_met (by decide) (Nat.le_of_ble_eq_true rfl) ?_
  intro p e s m below meth c ls C hl hW hZ
  have hl : lv_has ls 6 [(0, .ref x0), (1, .ref x1), (2, .ref x2)] := hl
  have hkm : Km h h := Km.rf h
  refine lv_iconst (v := (0 : Int32)) C.1 C.2.1 dX7_writeHands_0 (by decide) ?_
  refine lv_istore_n (lv' := [(3, .int (0 : Int32)), (0, .ref x0), (1, .ref x1), (2, .ref x2)]) C.1 C.2.1 dX7_writeHands_1 rfl hl (by decide) rfl (fun ls hl => ?_)
  exact bX7_writeHands_2 C F k_x0 k_x1 k_x2 hkm hW hZ _ (lv_sub hl [1, 2, 3, 0] rfl) hE
