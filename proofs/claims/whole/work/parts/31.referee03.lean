theorem dX5_isBare_0 : decode cX5_isBare 0 = .ok (.aload_n 1, 1) := by decide +kernel
theorem dX5_isBare_1 : decode cX5_isBare 1 = .ok (.getfield 33, 3) := by decide +kernel
theorem dX5_isBare_4 : decode cX5_isBare 4 = .ok (.iload_n 2, 1) := by decide +kernel
theorem dX5_isBare_5 : decode cX5_isBare 5 = .ok (.laload, 1) := by decide +kernel
theorem dX5_isBare_6 : decode cX5_isBare 6 = .ok (.lconst 0, 1) := by decide +kernel
theorem dX5_isBare_7 : decode cX5_isBare 7 = .ok (.lcmp, 1) := by decide +kernel
theorem dX5_isBare_8 : decode cX5_isBare 8 = .ok (.ifCond .ne 18, 3) := by decide +kernel
theorem dX5_isBare_11 : decode cX5_isBare 11 = .ok (.aload_n 1, 1) := by decide +kernel
theorem dX5_isBare_12 : decode cX5_isBare 12 = .ok (.getfield 303, 3) := by decide +kernel
theorem dX5_isBare_15 : decode cX5_isBare 15 = .ok (.iload_n 2, 1) := by decide +kernel
theorem dX5_isBare_16 : decode cX5_isBare 16 = .ok (.laload, 1) := by decide +kernel
theorem dX5_isBare_17 : decode cX5_isBare 17 = .ok (.lconst 0, 1) := by decide +kernel
theorem dX5_isBare_18 : decode cX5_isBare 18 = .ok (.lcmp, 1) := by decide +kernel
theorem dX5_isBare_19 : decode cX5_isBare 19 = .ok (.ifCond .ne 7, 3) := by decide +kernel
theorem dX5_isBare_22 : decode cX5_isBare 22 = .ok (.iconst 1, 1) := by decide +kernel
theorem dX5_isBare_23 : decode cX5_isBare 23 = .ok (.goto 4, 3) := by decide +kernel
theorem dX5_isBare_26 : decode cX5_isBare 26 = .ok (.iconst 0, 1) := by decide +kernel
theorem dX5_isBare_27 : decode cX5_isBare 27 = .ok (.ireturn, 1) := by decide +kernel
def sX5_isBare_27 (h : Hp) (t0 : Int32) : Option (Int32 × Hp) := gd (t0 &&& 1 = t0) <| some (t0, h)
def sX5_isBare_26 (h : Hp) : Option (Int32 × Hp) := sX5_isBare_27  h (0 : Int32)
def sX5_isBare (h : Hp) (x0 : Nat) (x1 : Nat) (x2 : Int32) : Option (Int32 × Hp) := cl (hR h x1 1) fun r_1 => gd (inB x2 (hN h r_1)) <| br ((lg_cmp (hJ h r_1 x2.toNatClampNeg) (0 : Int64)) = 0) (cl (hR h x1 3) fun r_4 => gd (inB x2 (hN h r_4)) <| br ((lg_cmp (hJ h r_4 x2.toNatClampNeg) (0 : Int64)) = 0) (sX5_isBare_27  h (1 : Int32)) (sX5_isBare_26  h )) (sX5_isBare_26  h )
set_option maxRecDepth 20000 in
theorem moX5_isBare_27 {o : Int32 × Hp} {h : Hp} {t0 : Int32} (hE : sX5_isBare_27 h  t0 = some o) : Le h o.2 := by
  obtain ⟨g_1, hE⟩ := gd_e hE
  exact le_some2 hE
set_option maxRecDepth 20000 in
theorem moX5_isBare_26 {o : Int32 × Hp} {h : Hp} (hE : sX5_isBare_26 h  = some o) : Le h o.2 := by
  exact moX5_isBare_27 hE
set_option maxRecDepth 20000 in
theorem moX5_isBare {o : Int32 × Hp} {h : Hp} {x0 : Nat} {x1 : Nat} {x2 : Int32} (hE : sX5_isBare h x0 x1 x2 = some o) : Le h o.2 := by
  obtain ⟨r_1, er_1, hE⟩ := cl_e hE
  obtain ⟨g_2, hE⟩ := gd_e hE
  rcases br_e hE with ⟨_, hE⟩ | ⟨_, hE⟩
  · obtain ⟨r_4, er_4, hE⟩ := cl_e hE
    obtain ⟨g_5, hE⟩ := gd_e hE
    rcases br_e hE with ⟨_, hE⟩ | ⟨_, hE⟩
    · exact moX5_isBare_27 hE
    · exact moX5_isBare_26 hE
  · exact moX5_isBare_26 hE
set_option maxRecDepth 20000 in
theorem bX5_isBare_27 {p : Program} {l : Launch} {e : Env} {s : State} {m : MethodId} {args : Array Value} {below : List Frame} {meth : Method} {c : Code} {X : Ec} {h0 : Hp} {o : Int32 × Hp} (C : Cx X p s m args meth c RX5 cX5_isBare 3 (some .boolean) "isBare") {h : Hp} {t0 : Int32} {H : Heap} {locs : List Loc} (hkm : Km h0 h) (hW : Wx X h H) (hZ : va_S (aA (eB X)) s.heap H locs) (ls : Array Slot) (hl : lv_has ls 3 []) (hE : sX5_isBare_27 h  t0 = some o) : W p l e (rm 0 0) s m args below meth c H locs 0 0 (MQ below (QI X h0 o.1 o.2) args s 0 0 (aA (eB X))) (F0 m 27 ls [.int t0]) := by
  obtain ⟨g_1, hE⟩ := gd_e hE
  exact x_iret C rfl (narB g_1) hW hZ hkm hE dX5_isBare_27
set_option maxRecDepth 20000 in
theorem bX5_isBare_26 {p : Program} {l : Launch} {e : Env} {s : State} {m : MethodId} {args : Array Value} {below : List Frame} {meth : Method} {c : Code} {X : Ec} {h0 : Hp} {o : Int32 × Hp} (C : Cx X p s m args meth c RX5 cX5_isBare 3 (some .boolean) "isBare") {h : Hp} {H : Heap} {locs : List Loc} (hkm : Km h0 h) (hW : Wx X h H) (hZ : va_S (aA (eB X)) s.heap H locs) (ls : Array Slot) (hl : lv_has ls 3 []) (hE : sX5_isBare_26 h  = some o) : W p l e (rm 0 0) s m args below meth c H locs 0 0 (MQ below (QI X h0 o.1 o.2) args s 0 0 (aA (eB X))) (F0 m 26 ls []) := by
  refine lv_iconst (v := (0 : Int32)) C.1 C.2.1 dX5_isBare_26 (by decide) ?_
  exact bX5_isBare_27 C hkm hW hZ _ (lv_sub hl [] rfl) hE
set_option maxRecDepth 20000 in
theorem ct_X5_isBare (l : Launch) (X : Ec) {h : Hp} {x0 : Nat} {x1 : Nat} {x2 : Int32} {o : Int32 × Hp} (k_x0 : hK h x0 = 5) (k_x1 : hK h x1 = 3) (hE : sX5_isBare h x0 x1 x2 = some o) : MetI l yX5_isBare cX5_isBare 3 (some .boolean) 0 0 X [.ref x0, .ref x1, .int x2] h o := by
  refine x_met (by decide) (Nat.le_of_ble_eq_true rfl) ?_
  intro p e s m below meth c ls C hl hW hZ
  have hl : lv_has ls 3 [(0, .ref x0), (1, .ref x1), (2, .int x2)] := hl
  have hkm : Km h h := Km.rf h
  refine lv_aload_n C.1 C.2.1 dX5_isBare_0 rfl (lv_at hl 1 rfl) ?_
  obtain ⟨r_1, er_1, hE⟩ := cl_e hE
  refine gf_X5_33 C hW k_x1 er_1 dX5_isBare_1 (fun k_r_1 => ?_)
  refine lv_iload_n C.1 C.2.1 dX5_isBare_4 rfl (lv_at hl 2 rfl) ?_
  obtain ⟨g_2, hE⟩ := gd_e hE
  refine y_lald C hW k_r_1 g_2 dX5_isBare_5 ?_
  refine lv_lconst (v := (0 : Int64)) C.1 C.2.1 dX5_isBare_6 (by decide) ?_
  refine W.lcmp C.1 C.2.1 dX5_isBare_7 ?_
  refine lv_if_ne (tgt := 26) C.1 C.2.1 dX5_isBare_8 (by decide) (fun c_3 => ?_) (fun c_3 => ?_)
  · have hE := br_n hE c_3
    exact bX5_isBare_26 C hkm hW hZ _ (lv_sub hl [] rfl) hE
  · have hE := br_p hE c_3
    refine lv_aload_n C.1 C.2.1 dX5_isBare_11 rfl (lv_at hl 1 rfl) ?_
    obtain ⟨r_4, er_4, hE⟩ := cl_e hE
    refine gf_X5_303 C hW k_x1 er_4 dX5_isBare_12 (fun k_r_4 => ?_)
    refine lv_iload_n C.1 C.2.1 dX5_isBare_15 rfl (lv_at hl 2 rfl) ?_
    obtain ⟨g_5, hE⟩ := gd_e hE
    refine y_lald C hW k_r_4 g_5 dX5_isBare_16 ?_
    refine lv_lconst (v := (0 : Int64)) C.1 C.2.1 dX5_isBare_17 (by decide) ?_
    refine W.lcmp C.1 C.2.1 dX5_isBare_18 ?_
    refine lv_if_ne (tgt := 26) C.1 C.2.1 dX5_isBare_19 (by decide) (fun c_6 => ?_) (fun c_6 => ?_)
    · have hE := br_n hE c_6
      exact bX5_isBare_26 C hkm hW hZ _ (lv_sub hl [] rfl) hE
    · have hE := br_p hE c_6
      refine lv_iconst (v := (1 : Int32)) C.1 C.2.1 dX5_isBare_22 (by decide) ?_
      refine lv_goto (tgt := 27) C.1 C.2.1 dX5_isBare_23 (by decide) ?_
      exact bX5_isBare_27 C hkm hW hZ _ (lv_sub hl [] rfl) hE
set_option maxRecDepth 100000 in
theorem ms_52 : Cond.selects RX5 yX5_isBare yX5_isBare ∈ W0 := w0_in (List.mem_append_left _ (List.mem_of_getElem? (i := 52) rfl)) rfl
set_option maxRecDepth 100000 in
theorem ms_51 : Cond.selects RX5 yX5_isOnHill yX5_isOnHill ∈ W0 := w0_in (List.mem_append_left _ (List.mem_of_getElem? (i := 51) rfl)) rfl
set_option maxRecDepth 100000 in
theorem m_1157 : Cond.methodLink RX5 294 yX5_isOnHill ∈ W0 := w0_in (List.mem_append_right _ (List.mem_of_getElem? (i := 1157) rfl)) rfl
set_option maxRecDepth 100000 in
theorem m_1159 : Cond.instanceMethod yX5_isOnHill ∈ W0 := w0_in (List.mem_append_right _ (List.mem_of_getElem? (i := 1159) rfl)) rfl
set_option maxRecDepth 100000 in
theorem m_1160 : Cond.code yX5_isOnHill cX5_isOnHill 3 (some .boolean) ∈ W0 := w0_in (List.mem_append_right _ (List.mem_of_getElem? (i := 1160) rfl)) rfl
set_option maxRecDepth 100000 in
theorem m_1161 : Cond.methodLink RX5 297 yX5_isBare ∈ W0 := w0_in (List.mem_append_right _ (List.mem_of_getElem? (i := 1161) rfl)) rfl
set_option maxRecDepth 100000 in
theorem m_1163 : Cond.instanceMethod yX5_isBare ∈ W0 := w0_in (List.mem_append_right _ (List.mem_of_getElem? (i := 1163) rfl)) rfl
set_option maxRecDepth 100000 in
theorem m_1164 : Cond.code yX5_isBare cX5_isBare 3 (some .boolean) ∈ W0 := w0_in (List.mem_append_right _ (List.mem_of_getElem? (i := 1164) rfl)) rfl
theorem cw_X5_297 : cwd RX5 297 yX5_isBare cX5_isBare 3 (some .boolean) false 2 := ⟨m_1164, m_1161, m_7, ⟨m_1163, ms_52⟩, by decide, by decide, by decide +kernel⟩
theorem cw_X5_294 : cwd RX5 294 yX5_isOnHill cX5_isOnHill 3 (some .boolean) false 2 := ⟨m_1160, m_1157, m_7, ⟨m_1159, ms_51⟩, by decide, by decide, by decide +kernel⟩
theorem dX5_earlyEnd_0 : decode cX5_earlyEnd 0 = .ok (.aload_n 0, 1) := by decide +kernel
theorem dX5_earlyEnd_1 : decode cX5_earlyEnd 1 = .ok (.getfield 22, 3) := by decide +kernel
theorem dX5_earlyEnd_4 : decode cX5_earlyEnd 4 = .ok (.bipush 8, 2) := by decide +kernel
theorem dX5_earlyEnd_6 : decode cX5_earlyEnd 6 = .ok (.invokevirtual 104, 3) := by decide +kernel
theorem dX5_earlyEnd_9 : decode cX5_earlyEnd 9 = .ok (.ifCond .eq 36, 3) := by decide +kernel
theorem dX5_earlyEnd_12 : decode cX5_earlyEnd 12 = .ok (.aload_n 0, 1) := by decide +kernel
theorem dX5_earlyEnd_13 : decode cX5_earlyEnd 13 = .ok (.getfield 22, 3) := by decide +kernel
theorem dX5_earlyEnd_16 : decode cX5_earlyEnd 16 = .ok (.getfield 129, 3) := by decide +kernel
theorem dX5_earlyEnd_19 : decode cX5_earlyEnd 19 = .ok (.iconst (-1), 1) := by decide +kernel
theorem dX5_earlyEnd_20 : decode cX5_earlyEnd 20 = .ok (.if_icmp .eq 25, 3) := by decide +kernel
theorem dX5_earlyEnd_23 : decode cX5_earlyEnd 23 = .ok (.aload_n 1, 1) := by decide +kernel
theorem dX5_earlyEnd_24 : decode cX5_earlyEnd 24 = .ok (.getfield 60, 3) := by decide +kernel
theorem dX5_earlyEnd_27 : decode cX5_earlyEnd 27 = .ok (.iconst 0, 1) := by decide +kernel
theorem dX5_earlyEnd_28 : decode cX5_earlyEnd 28 = .ok (.iaload, 1) := by decide +kernel
theorem dX5_earlyEnd_29 : decode cX5_earlyEnd 29 = .ok (.iconst (-1), 1) := by decide +kernel
theorem dX5_earlyEnd_30 : decode cX5_earlyEnd 30 = .ok (.if_icmp .eq 13, 3) := by decide +kernel
theorem dX5_earlyEnd_33 : decode cX5_earlyEnd 33 = .ok (.aload_n 1, 1) := by decide +kernel
theorem dX5_earlyEnd_34 : decode cX5_earlyEnd 34 = .ok (.getfield 60, 3) := by decide +kernel
theorem dX5_earlyEnd_37 : decode cX5_earlyEnd 37 = .ok (.iconst 1, 1) := by decide +kernel
theorem dX5_earlyEnd_38 : decode cX5_earlyEnd 38 = .ok (.iaload, 1) := by decide +kernel
theorem dX5_earlyEnd_39 : decode cX5_earlyEnd 39 = .ok (.iconst (-1), 1) := by decide +kernel
theorem dX5_earlyEnd_40 : decode cX5_earlyEnd 40 = .ok (.if_icmp .ne 5, 3) := by decide +kernel
theorem dX5_earlyEnd_43 : decode cX5_earlyEnd 43 = .ok (.iconst 1, 1) := by decide +kernel
theorem dX5_earlyEnd_44 : decode cX5_earlyEnd 44 = .ok (.ireturn, 1) := by decide +kernel
theorem dX5_earlyEnd_45 : decode cX5_earlyEnd 45 = .ok (.aload_n 0, 1) := by decide +kernel
theorem dX5_earlyEnd_46 : decode cX5_earlyEnd 46 = .ok (.aload_n 1, 1) := by decide +kernel
theorem dX5_earlyEnd_47 : decode cX5_earlyEnd 47 = .ok (.iconst 0, 1) := by decide +kernel
theorem dX5_earlyEnd_48 : decode cX5_earlyEnd 48 = .ok (.invokevirtual 294, 3) := by decide +kernel
theorem dX5_earlyEnd_51 : decode cX5_earlyEnd 51 = .ok (.ifCond .ne 12, 3) := by decide +kernel
theorem dX5_earlyEnd_54 : decode cX5_earlyEnd 54 = .ok (.aload_n 0, 1) := by decide +kernel
theorem dX5_earlyEnd_55 : decode cX5_earlyEnd 55 = .ok (.aload_n 1, 1) := by decide +kernel
theorem dX5_earlyEnd_56 : decode cX5_earlyEnd 56 = .ok (.iconst 1, 1) := by decide +kernel
theorem dX5_earlyEnd_57 : decode cX5_earlyEnd 57 = .ok (.invokevirtual 294, 3) := by decide +kernel
theorem dX5_earlyEnd_60 : decode cX5_earlyEnd 60 = .ok (.ifCond .eq 5, 3) := by decide +kernel
theorem dX5_earlyEnd_63 : decode cX5_earlyEnd 63 = .ok (.iconst 2, 1) := by decide +kernel
theorem dX5_earlyEnd_64 : decode cX5_earlyEnd 64 = .ok (.ireturn, 1) := by decide +kernel
theorem dX5_earlyEnd_65 : decode cX5_earlyEnd 65 = .ok (.aload_n 0, 1) := by decide +kernel
theorem dX5_earlyEnd_66 : decode cX5_earlyEnd 66 = .ok (.getfield 22, 3) := by decide +kernel
theorem dX5_earlyEnd_69 : decode cX5_earlyEnd 69 = .ok (.getfield 276, 3) := by decide +kernel
theorem dX5_earlyEnd_72 : decode cX5_earlyEnd 72 = .ok (.ifCond .le 37, 3) := by decide +kernel
theorem dX5_earlyEnd_75 : decode cX5_earlyEnd 75 = .ok (.aload_n 1, 1) := by decide +kernel
theorem dX5_earlyEnd_76 : decode cX5_earlyEnd 76 = .ok (.getfield 283, 3) := by decide +kernel
theorem dX5_earlyEnd_79 : decode cX5_earlyEnd 79 = .ok (.iconst 0, 1) := by decide +kernel
theorem dX5_earlyEnd_80 : decode cX5_earlyEnd 80 = .ok (.iaload, 1) := by decide +kernel
theorem dX5_earlyEnd_81 : decode cX5_earlyEnd 81 = .ok (.aload_n 0, 1) := by decide +kernel
theorem dX5_earlyEnd_82 : decode cX5_earlyEnd 82 = .ok (.getfield 22, 3) := by decide +kernel
theorem dX5_earlyEnd_85 : decode cX5_earlyEnd 85 = .ok (.getfield 276, 3) := by decide +kernel
theorem dX5_earlyEnd_88 : decode cX5_earlyEnd 88 = .ok (.if_icmp .ge 19, 3) := by decide +kernel
theorem dX5_earlyEnd_91 : decode cX5_earlyEnd 91 = .ok (.aload_n 1, 1) := by decide +kernel
theorem dX5_earlyEnd_92 : decode cX5_earlyEnd 92 = .ok (.getfield 283, 3) := by decide +kernel
theorem dX5_earlyEnd_95 : decode cX5_earlyEnd 95 = .ok (.iconst 1, 1) := by decide +kernel
theorem dX5_earlyEnd_96 : decode cX5_earlyEnd 96 = .ok (.iaload, 1) := by decide +kernel
theorem dX5_earlyEnd_97 : decode cX5_earlyEnd 97 = .ok (.aload_n 0, 1) := by decide +kernel
theorem dX5_earlyEnd_98 : decode cX5_earlyEnd 98 = .ok (.getfield 22, 3) := by decide +kernel
theorem dX5_earlyEnd_101 : decode cX5_earlyEnd 101 = .ok (.getfield 276, 3) := by decide +kernel
theorem dX5_earlyEnd_104 : decode cX5_earlyEnd 104 = .ok (.if_icmp .lt 5, 3) := by decide +kernel
theorem dX5_earlyEnd_107 : decode cX5_earlyEnd 107 = .ok (.iconst 3, 1) := by decide +kernel
theorem dX5_earlyEnd_108 : decode cX5_earlyEnd 108 = .ok (.ireturn, 1) := by decide +kernel
theorem dX5_earlyEnd_109 : decode cX5_earlyEnd 109 = .ok (.aload_n 0, 1) := by decide +kernel
theorem dX5_earlyEnd_110 : decode cX5_earlyEnd 110 = .ok (.aload_n 1, 1) := by decide +kernel
theorem dX5_earlyEnd_111 : decode cX5_earlyEnd 111 = .ok (.iconst 0, 1) := by decide +kernel
theorem dX5_earlyEnd_112 : decode cX5_earlyEnd 112 = .ok (.invokevirtual 297, 3) := by decide +kernel
theorem dX5_earlyEnd_115 : decode cX5_earlyEnd 115 = .ok (.ifCond .ne 12, 3) := by decide +kernel
theorem dX5_earlyEnd_118 : decode cX5_earlyEnd 118 = .ok (.aload_n 0, 1) := by decide +kernel
theorem dX5_earlyEnd_119 : decode cX5_earlyEnd 119 = .ok (.aload_n 1, 1) := by decide +kernel
theorem dX5_earlyEnd_120 : decode cX5_earlyEnd 120 = .ok (.iconst 1, 1) := by decide +kernel
theorem dX5_earlyEnd_121 : decode cX5_earlyEnd 121 = .ok (.invokevirtual 297, 3) := by decide +kernel
theorem dX5_earlyEnd_124 : decode cX5_earlyEnd 124 = .ok (.ifCond .eq 7, 3) := by decide +kernel
theorem dX5_earlyEnd_127 : decode cX5_earlyEnd 127 = .ok (.iconst 4, 1) := by decide +kernel
theorem dX5_earlyEnd_128 : decode cX5_earlyEnd 128 = .ok (.goto 4, 3) := by decide +kernel
theorem dX5_earlyEnd_131 : decode cX5_earlyEnd 131 = .ok (.iconst 0, 1) := by decide +kernel
theorem dX5_earlyEnd_132 : decode cX5_earlyEnd 132 = .ok (.ireturn, 1) := by decide +kernel
def sX5_earlyEnd_63 (h : Hp) : Option (Int32 × Hp) := some ((2 : Int32), h)
def sX5_earlyEnd_132 (h : Hp) (t0 : Int32) : Option (Int32 × Hp) := some (t0, h)
def sX5_earlyEnd_127 (h : Hp) : Option (Int32 × Hp) := sX5_earlyEnd_132  h (4 : Int32)
def sX5_earlyEnd_109 (h : Hp) (x0 : Nat) (x1 : Nat) : Option (Int32 × Hp) := cl (sX5_isBare h x0 x1 (0 : Int32)) fun o_1 => br (o_1.1 = 0) (cl (sX5_isBare o_1.2 x0 x1 (1 : Int32)) fun o_3 => br (o_3.1 = 0) (sX5_earlyEnd_132  o_3.2 (0 : Int32)) (sX5_earlyEnd_127  o_3.2 )) (sX5_earlyEnd_127  o_1.2 )
def sX5_earlyEnd_107 (h : Hp) : Option (Int32 × Hp) := some ((3 : Int32), h)
def sX5_earlyEnd_45 (h : Hp) (x0 : Nat) (x1 : Nat) : Option (Int32 × Hp) := cl (sX5_isOnHill h x0 x1 (0 : Int32)) fun o_1 => br (o_1.1 = 0) (cl (sX5_isOnHill o_1.2 x0 x1 (1 : Int32)) fun o_3 => br (o_3.1 = 0) (cl (hR o_3.2 x0 0) fun r_5 => br ((hI o_3.2 r_5 7) ≤ 0) (sX5_earlyEnd_109  o_3.2 x0 x1) (cl (hR o_3.2 x1 4) fun r_7 => gd (inB (0 : Int32) (hN o_3.2 r_7)) <| cl (hR o_3.2 x0 0) fun r_9 => br ((hI o_3.2 r_9 7) ≤ (hI o_3.2 r_7 (0 : Int32).toNatClampNeg)) (sX5_earlyEnd_107  o_3.2 ) (cl (hR o_3.2 x1 4) fun r_11 => gd (inB (1 : Int32) (hN o_3.2 r_11)) <| cl (hR o_3.2 x0 0) fun r_13 => br ((hI o_3.2 r_11 (1 : Int32).toNatClampNeg) < (hI o_3.2 r_13 7)) (sX5_earlyEnd_109  o_3.2 x0 x1) (sX5_earlyEnd_107  o_3.2 )))) (sX5_earlyEnd_63  o_3.2 )) (sX5_earlyEnd_63  o_1.2 )
def sX5_earlyEnd_43 (h : Hp) : Option (Int32 × Hp) := some ((1 : Int32), h)
def sX5_earlyEnd (h : Hp) (x0 : Nat) (x1 : Nat) : Option (Int32 × Hp) := cl (hR h x0 0) fun r_1 => cl (sX1_has h r_1 (8 : Int32)) fun o_2 => br (o_2.1 = 0) (sX5_earlyEnd_45  o_2.2 x0 x1) (cl (hR o_2.2 x0 0) fun r_4 => br ((hI o_2.2 r_4 4) = (-1 : Int32)) (sX5_earlyEnd_45  o_2.2 x0 x1) (cl (hR o_2.2 x1 2) fun r_6 => gd (inB (0 : Int32) (hN o_2.2 r_6)) <| br ((hI o_2.2 r_6 (0 : Int32).toNatClampNeg) = (-1 : Int32)) (sX5_earlyEnd_43  o_2.2 ) (cl (hR o_2.2 x1 2) fun r_9 => gd (inB (1 : Int32) (hN o_2.2 r_9)) <| br ((hI o_2.2 r_9 (1 : Int32).toNatClampNeg) = (-1 : Int32)) (sX5_earlyEnd_43  o_2.2 ) (sX5_earlyEnd_45  o_2.2 x0 x1))))
set_option maxRecDepth 20000 in
theorem moX5_earlyEnd_63 {o : Int32 × Hp} {h : Hp} (hE : sX5_earlyEnd_63 h  = some o) : Le h o.2 := by
  exact le_some2 hE
set_option maxRecDepth 20000 in
theorem moX5_earlyEnd_132 {o : Int32 × Hp} {h : Hp} {t0 : Int32} (hE : sX5_earlyEnd_132 h  t0 = some o) : Le h o.2 := by
  exact le_some2 hE
set_option maxRecDepth 20000 in
theorem moX5_earlyEnd_127 {o : Int32 × Hp} {h : Hp} (hE : sX5_earlyEnd_127 h  = some o) : Le h o.2 := by
  exact moX5_earlyEnd_132 hE
set_option maxRecDepth 20000 in
theorem moX5_earlyEnd_109 {o : Int32 × Hp} {h : Hp} {x0 : Nat} {x1 : Nat} (hE : sX5_earlyEnd_109 h x0 x1 = some o) : Le h o.2 := by
  obtain ⟨o_1, eo_1, hE⟩ := cl_e hE
  refine (moX5_isBare eo_1).tr ?_
  rcases br_e hE with ⟨_, hE⟩ | ⟨_, hE⟩
  · obtain ⟨o_3, eo_3, hE⟩ := cl_e hE
    refine (moX5_isBare eo_3).tr ?_
    rcases br_e hE with ⟨_, hE⟩ | ⟨_, hE⟩
    · exact moX5_earlyEnd_132 hE
    · exact moX5_earlyEnd_127 hE
  · exact moX5_earlyEnd_127 hE
set_option maxRecDepth 20000 in
theorem moX5_earlyEnd_107 {o : Int32 × Hp} {h : Hp} (hE : sX5_earlyEnd_107 h  = some o) : Le h o.2 := by
  exact le_some2 hE
set_option maxRecDepth 20000 in
theorem moX5_earlyEnd_45 {o : Int32 × Hp} {h : Hp} {x0 : Nat} {x1 : Nat} (hE : sX5_earlyEnd_45 h x0 x1 = some o) : Le h o.2 := by
  obtain ⟨o_1, eo_1, hE⟩ := cl_e hE
  refine (moX5_isOnHill eo_1).tr ?_
  rcases br_e hE with ⟨_, hE⟩ | ⟨_, hE⟩
  · obtain ⟨o_3, eo_3, hE⟩ := cl_e hE
    refine (moX5_isOnHill eo_3).tr ?_
    rcases br_e hE with ⟨_, hE⟩ | ⟨_, hE⟩
    · obtain ⟨r_5, er_5, hE⟩ := cl_e hE
      rcases br_e hE with ⟨_, hE⟩ | ⟨_, hE⟩
      · exact moX5_earlyEnd_109 hE
      · obtain ⟨r_7, er_7, hE⟩ := cl_e hE
        obtain ⟨g_8, hE⟩ := gd_e hE
        obtain ⟨r_9, er_9, hE⟩ := cl_e hE
        rcases br_e hE with ⟨_, hE⟩ | ⟨_, hE⟩
        · exact moX5_earlyEnd_107 hE
        · obtain ⟨r_11, er_11, hE⟩ := cl_e hE
          obtain ⟨g_12, hE⟩ := gd_e hE
          obtain ⟨r_13, er_13, hE⟩ := cl_e hE
          rcases br_e hE with ⟨_, hE⟩ | ⟨_, hE⟩
          · exact moX5_earlyEnd_109 hE
          · exact moX5_earlyEnd_107 hE
    · exact moX5_earlyEnd_63 hE
  · exact moX5_earlyEnd_63 hE
set_option maxRecDepth 20000 in
theorem moX5_earlyEnd_43 {o : Int32 × Hp} {h : Hp} (hE : sX5_earlyEnd_43 h  = some o) : Le h o.2 := by
  exact le_some2 hE
set_option maxRecDepth 20000 in
theorem moX5_earlyEnd {o : Int32 × Hp} {h : Hp} {x0 : Nat} {x1 : Nat} (hE : sX5_earlyEnd h x0 x1 = some o) : Le h o.2 := by
  obtain ⟨r_1, er_1, hE⟩ := cl_e hE
  obtain ⟨o_2, eo_2, hE⟩ := cl_e hE
  refine (moX1_has eo_2).tr ?_
  rcases br_e hE with ⟨_, hE⟩ | ⟨_, hE⟩
  · exact moX5_earlyEnd_45 hE
  · obtain ⟨r_4, er_4, hE⟩ := cl_e hE
    rcases br_e hE with ⟨_, hE⟩ | ⟨_, hE⟩
    · exact moX5_earlyEnd_45 hE
    · obtain ⟨r_6, er_6, hE⟩ := cl_e hE
      obtain ⟨g_7, hE⟩ := gd_e hE
      rcases br_e hE with ⟨_, hE⟩ | ⟨_, hE⟩
      · exact moX5_earlyEnd_43 hE
      · obtain ⟨r_9, er_9, hE⟩ := cl_e hE
        obtain ⟨g_10, hE⟩ := gd_e hE
        rcases br_e hE with ⟨_, hE⟩ | ⟨_, hE⟩
        · exact moX5_earlyEnd_43 hE
        · exact moX5_earlyEnd_45 hE
set_option maxRecDepth 20000 in
theorem bX5_earlyEnd_63 {p : Program} {l : Launch} {e : Env} {s : State} {m : MethodId} {args : Array Value} {below : List Frame} {meth : Method} {c : Code} {X : Ec} {h0 : Hp} {o : Int32 × Hp} (C : Cx X p s m args meth c RX5 cX5_earlyEnd 2 (some .int) "earlyEnd") {h : Hp} {H : Heap} {locs : List Loc} (hkm : Km h0 h) (hW : Wx X h H) (hZ : va_S (aA (eB X)) s.heap H locs) (ls : Array Slot) (hl : lv_has ls 2 []) (hE : sX5_earlyEnd_63 h  = some o) : W p l e (rm 1 22) s m args below meth c H locs 0 0 (MQ below (QI X h0 o.1 o.2) args s 0 0 (aA (eB X))) (F0 m 63 ls []) := by
  refine lv_iconst (v := (2 : Int32)) C.1 C.2.1 dX5_earlyEnd_63 (by decide) ?_
  exact x_iret C rfl rfl hW hZ hkm hE dX5_earlyEnd_64
set_option maxRecDepth 20000 in
theorem bX5_earlyEnd_132 {p : Program} {l : Launch} {e : Env} {s : State} {m : MethodId} {args : Array Value} {below : List Frame} {meth : Method} {c : Code} {X : Ec} {h0 : Hp} {o : Int32 × Hp} (C : Cx X p s m args meth c RX5 cX5_earlyEnd 2 (some .int) "earlyEnd") {h : Hp} {t0 : Int32} {H : Heap} {locs : List Loc} (hkm : Km h0 h) (hW : Wx X h H) (hZ : va_S (aA (eB X)) s.heap H locs) (ls : Array Slot) (hl : lv_has ls 2 []) (hE : sX5_earlyEnd_132 h  t0 = some o) : W p l e (rm 1 22) s m args below meth c H locs 0 0 (MQ below (QI X h0 o.1 o.2) args s 0 0 (aA (eB X))) (F0 m 132 ls [.int t0]) := by
  exact x_iret C rfl rfl hW hZ hkm hE dX5_earlyEnd_132
set_option maxRecDepth 20000 in
theorem bX5_earlyEnd_127 {p : Program} {l : Launch} {e : Env} {s : State} {m : MethodId} {args : Array Value} {below : List Frame} {meth : Method} {c : Code} {X : Ec} {h0 : Hp} {o : Int32 × Hp} (C : Cx X p s m args meth c RX5 cX5_earlyEnd 2 (some .int) "earlyEnd") {h : Hp} {H : Heap} {locs : List Loc} (hkm : Km h0 h) (hW : Wx X h H) (hZ : va_S (aA (eB X)) s.heap H locs) (ls : Array Slot) (hl : lv_has ls 2 []) (hE : sX5_earlyEnd_127 h  = some o) : W p l e (rm 1 22) s m args below meth c H locs 0 0 (MQ below (QI X h0 o.1 o.2) args s 0 0 (aA (eB X))) (F0 m 127 ls []) := by
  refine lv_iconst (v := (4 : Int32)) C.1 C.2.1 dX5_earlyEnd_127 (by decide) ?_
  refine lv_goto (tgt := 132) C.1 C.2.1 dX5_earlyEnd_128 (by decide) ?_
  exact bX5_earlyEnd_132 C hkm hW hZ _ (lv_sub hl [] rfl) hE
set_option maxRecDepth 20000 in
theorem bX5_earlyEnd_109 {p : Program} {l : Launch} {e : Env} {s : State} {m : MethodId} {args : Array Value} {below : List Frame} {meth : Method} {c : Code} {X : Ec} {h0 : Hp} {o : Int32 × Hp} (C : Cx X p s m args meth c RX5 cX5_earlyEnd 2 (some .int) "earlyEnd") {h : Hp} {x0 : Nat} {x1 : Nat} {H : Heap} {locs : List Loc} (k_x0 : hK h x0 = 5) (k_x1 : hK h x1 = 3) (hkm : Km h0 h) (hW : Wx X h H) (hZ : va_S (aA (eB X)) s.heap H locs) (ls : Array Slot) (hl : lv_has ls 2 [(0, .ref x0), (1, .ref x1)]) (hE : sX5_earlyEnd_109 h x0 x1 = some o) : W p l e (rm 1 22) s m args below meth c H locs 0 0 (MQ below (QI X h0 o.1 o.2) args s 0 0 (aA (eB X))) (F0 m 109 ls []) := by
  refine lv_aload_n C.1 C.2.1 dX5_earlyEnd_109 rfl (lv_at hl 0 rfl) ?_
  refine lv_aload_n C.1 C.2.1 dX5_earlyEnd_110 rfl (lv_at hl 1 rfl) ?_
  refine lv_iconst (v := (0 : Int32)) C.1 C.2.1 dX5_earlyEnd_111 (by decide) ?_
  obtain ⟨o_1, eo_1, hE⟩ := cl_e hE
  refine x_kI (o := o_1) (z_runV (As := [.ref x1, .int (0 : Int32)]) (rest := []) C (ct_X5_isBare l X k_x0 k_x1 eo_1) cw_X5_297 hW hZ k_x0 (by decide) rfl rfl rfl hl.1 (Nat.le_of_ble_eq_true rfl) rfl dX5_earlyEnd_112 ⟨Nat.le_of_ble_eq_true rfl, Nat.le_of_ble_eq_true rfl⟩ ⟨Nat.le_refl _, Nat.le_refl _⟩) hZ (fun _ _ hW km hZ => ?_)
  replace hkm := hkm.tr km
  replace k_x0 := km.at k_x0 (by decide)
  replace k_x1 := km.at k_x1 (by decide)
  refine lv_if_ne (tgt := 127) C.1 C.2.1 dX5_earlyEnd_115 (by decide) (fun c_2 => ?_) (fun c_2 => ?_)
  · have hE := br_n hE c_2
    exact bX5_earlyEnd_127 C hkm hW hZ _ (lv_sub hl [] rfl) hE
  · have hE := br_p hE c_2
    refine lv_aload_n C.1 C.2.1 dX5_earlyEnd_118 rfl (lv_at hl 0 rfl) ?_
    refine lv_aload_n C.1 C.2.1 dX5_earlyEnd_119 rfl (lv_at hl 1 rfl) ?_
    refine lv_iconst (v := (1 : Int32)) C.1 C.2.1 dX5_earlyEnd_120 (by decide) ?_
    obtain ⟨o_3, eo_3, hE⟩ := cl_e hE
    refine x_kI (o := o_3) (z_runV (As := [.ref x1, .int (1 : Int32)]) (rest := []) C (ct_X5_isBare l X k_x0 k_x1 eo_3) cw_X5_297 hW hZ k_x0 (by decide) rfl rfl rfl hl.1 (Nat.le_of_ble_eq_true rfl) rfl dX5_earlyEnd_121 ⟨Nat.le_of_ble_eq_true rfl, Nat.le_of_ble_eq_true rfl⟩ ⟨Nat.le_refl _, Nat.le_refl _⟩) hZ (fun _ _ hW km hZ => ?_)
    replace hkm := hkm.tr km
    replace k_x0 := km.at k_x0 (by decide)
    replace k_x1 := km.at k_x1 (by decide)
    refine lv_if_eq (tgt := 131) C.1 C.2.1 dX5_earlyEnd_124 (by decide) (fun c_4 => ?_) (fun c_4 => ?_)
    · have hE := br_p hE c_4
      refine lv_iconst (v := (0 : Int32)) C.1 C.2.1 dX5_earlyEnd_131 (by decide) ?_
      exact bX5_earlyEnd_132 C hkm hW hZ _ (lv_sub hl [] rfl) hE
    · have hE := br_n hE c_4
      exact bX5_earlyEnd_127 C hkm hW hZ _ (lv_sub hl [] rfl) hE
set_option maxRecDepth 20000 in
theorem bX5_earlyEnd_107 {p : Program} {l : Launch} {e : Env} {s : State} {m : MethodId} {args : Array Value} {below : List Frame} {meth : Method} {c : Code} {X : Ec} {h0 : Hp} {o : Int32 × Hp} (C : Cx X p s m args meth c RX5 cX5_earlyEnd 2 (some .int) "earlyEnd") {h : Hp} {H : Heap} {locs : List Loc} (hkm : Km h0 h) (hW : Wx X h H) (hZ : va_S (aA (eB X)) s.heap H locs) (ls : Array Slot) (hl : lv_has ls 2 []) (hE : sX5_earlyEnd_107 h  = some o) : W p l e (rm 1 22) s m args below meth c H locs 0 0 (MQ below (QI X h0 o.1 o.2) args s 0 0 (aA (eB X))) (F0 m 107 ls []) := by
  refine lv_iconst (v := (3 : Int32)) C.1 C.2.1 dX5_earlyEnd_107 (by decide) ?_
  exact x_iret C rfl rfl hW hZ hkm hE dX5_earlyEnd_108
set_option maxRecDepth 20000 in
theorem bX5_earlyEnd_45 {p : Program} {l : Launch} {e : Env} {s : State} {m : MethodId} {args : Array Value} {below : List Frame} {meth : Method} {c : Code} {X : Ec} {h0 : Hp} {o : Int32 × Hp} (C : Cx X p s m args meth c RX5 cX5_earlyEnd 2 (some .int) "earlyEnd") {h : Hp} {x0 : Nat} {x1 : Nat} {H : Heap} {locs : List Loc} (k_x0 : hK h x0 = 5) (k_x1 : hK h x1 = 3) (hkm : Km h0 h) (hW : Wx X h H) (hZ : va_S (aA (eB X)) s.heap H locs) (ls : Array Slot) (hl : lv_has ls 2 [(0, .ref x0), (1, .ref x1)]) (hE : sX5_earlyEnd_45 h x0 x1 = some o) : W p l e (rm 1 22) s m args below meth c H locs 0 0 (MQ below (QI X h0 o.1 o.2) args s 0 0 (aA (eB X))) (F0 m 45 ls []) := by
  refine lv_aload_n C.1 C.2.1 dX5_earlyEnd_45 rfl (lv_at hl 0 rfl) ?_
  refine lv_aload_n C.1 C.2.1 dX5_earlyEnd_46 rfl (lv_at hl 1 rfl) ?_
  refine lv_iconst (v := (0 : Int32)) C.1 C.2.1 dX5_earlyEnd_47 (by decide) ?_
  obtain ⟨o_1, eo_1, hE⟩ := cl_e hE
  refine x_kI (o := o_1) (z_runV (As := [.ref x1, .int (0 : Int32)]) (rest := []) C (ct_X5_isOnHill l X k_x0 k_x1 eo_1) cw_X5_294 hW hZ k_x0 (by decide) rfl rfl rfl hl.1 (Nat.le_of_ble_eq_true rfl) rfl dX5_earlyEnd_48 ⟨Nat.le_of_ble_eq_true rfl, Nat.le_of_ble_eq_true rfl⟩ ⟨Nat.le_refl _, Nat.le_refl _⟩) hZ (fun _ _ hW km hZ => ?_)
  replace hkm := hkm.tr km
  replace k_x0 := km.at k_x0 (by decide)
  replace k_x1 := km.at k_x1 (by decide)
  refine lv_if_ne (tgt := 63) C.1 C.2.1 dX5_earlyEnd_51 (by decide) (fun c_2 => ?_) (fun c_2 => ?_)
  · have hE := br_n hE c_2
    exact bX5_earlyEnd_63 C hkm hW hZ _ (lv_sub hl [] rfl) hE
  · have hE := br_p hE c_2
    refine lv_aload_n C.1 C.2.1 dX5_earlyEnd_54 rfl (lv_at hl 0 rfl) ?_
    refine lv_aload_n C.1 C.2.1 dX5_earlyEnd_55 rfl (lv_at hl 1 rfl) ?_
    refine lv_iconst (v := (1 : Int32)) C.1 C.2.1 dX5_earlyEnd_56 (by decide) ?_
    obtain ⟨o_3, eo_3, hE⟩ := cl_e hE
    refine x_kI (o := o_3) (z_runV (As := [.ref x1, .int (1 : Int32)]) (rest := []) C (ct_X5_isOnHill l X k_x0 k_x1 eo_3) cw_X5_294 hW hZ k_x0 (by decide) rfl rfl rfl hl.1 (Nat.le_of_ble_eq_true rfl) rfl dX5_earlyEnd_57 ⟨Nat.le_of_ble_eq_true rfl, Nat.le_of_ble_eq_true rfl⟩ ⟨Nat.le_refl _, Nat.le_refl _⟩) hZ (fun _ _ hW km hZ => ?_)
    replace hkm := hkm.tr km
    replace k_x0 := km.at k_x0 (by decide)
    replace k_x1 := km.at k_x1 (by decide)
    refine lv_if_eq (tgt := 65) C.1 C.2.1 dX5_earlyEnd_60 (by decide) (fun c_4 => ?_) (fun c_4 => ?_)
    · have hE := br_p hE c_4
      refine lv_aload_n C.1 C.2.1 dX5_earlyEnd_65 rfl (lv_at hl 0 rfl) ?_
      obtain ⟨r_5, er_5, hE⟩ := cl_e hE
      refine gf_X5_22 C hW k_x0 er_5 dX5_earlyEnd_66 (fun k_r_5 => ?_)
      refine gf_X5_276 C hW k_r_5 dX5_earlyEnd_69 ?_
      refine lv_if_le (tgt := 109) C.1 C.2.1 dX5_earlyEnd_72 (by decide) (fun c_6 => ?_) (fun c_6 => ?_)
      · have hE := br_p hE c_6
        exact bX5_earlyEnd_109 C k_x0 k_x1 hkm hW hZ _ (lv_sub hl [0, 1] rfl) hE
      · have hE := br_n hE c_6
        refine lv_aload_n C.1 C.2.1 dX5_earlyEnd_75 rfl (lv_at hl 1 rfl) ?_
        obtain ⟨r_7, er_7, hE⟩ := cl_e hE
        refine gf_X5_283 C hW k_x1 er_7 dX5_earlyEnd_76 (fun k_r_7 => ?_)
        refine lv_iconst (v := (0 : Int32)) C.1 C.2.1 dX5_earlyEnd_79 (by decide) ?_
        obtain ⟨g_8, hE⟩ := gd_e hE
        refine y_iald C hW k_r_7 g_8 dX5_earlyEnd_80 ?_
        refine lv_aload_n C.1 C.2.1 dX5_earlyEnd_81 rfl (lv_at hl 0 rfl) ?_
        obtain ⟨r_9, er_9, hE⟩ := cl_e hE
        refine gf_X5_22 C hW k_x0 er_9 dX5_earlyEnd_82 (fun k_r_9 => ?_)
        refine gf_X5_276 C hW k_r_9 dX5_earlyEnd_85 ?_
        refine lv_icmp_ge (tgt := 107) C.1 C.2.1 dX5_earlyEnd_88 (by decide) (fun c_10 => ?_) (fun c_10 => ?_)
        · have hE := br_p hE c_10
          exact bX5_earlyEnd_107 C hkm hW hZ _ (lv_sub hl [] rfl) hE
        · have hE := br_n hE c_10
          refine lv_aload_n C.1 C.2.1 dX5_earlyEnd_91 rfl (lv_at hl 1 rfl) ?_
          obtain ⟨r_11, er_11, hE⟩ := cl_e hE
          refine gf_X5_283 C hW k_x1 er_11 dX5_earlyEnd_92 (fun k_r_11 => ?_)
          refine lv_iconst (v := (1 : Int32)) C.1 C.2.1 dX5_earlyEnd_95 (by decide) ?_
          obtain ⟨g_12, hE⟩ := gd_e hE
          refine y_iald C hW k_r_11 g_12 dX5_earlyEnd_96 ?_
          refine lv_aload_n C.1 C.2.1 dX5_earlyEnd_97 rfl (lv_at hl 0 rfl) ?_
          obtain ⟨r_13, er_13, hE⟩ := cl_e hE
          refine gf_X5_22 C hW k_x0 er_13 dX5_earlyEnd_98 (fun k_r_13 => ?_)
          refine gf_X5_276 C hW k_r_13 dX5_earlyEnd_101 ?_
          refine lv_icmp_lt (tgt := 109) C.1 C.2.1 dX5_earlyEnd_104 (by decide) (fun c_14 => ?_) (fun c_14 => ?_)
          · have hE := br_p hE c_14
            exact bX5_earlyEnd_109 C k_x0 k_x1 hkm hW hZ _ (lv_sub hl [0, 1] rfl) hE
          · have hE := br_n hE c_14
            exact bX5_earlyEnd_107 C hkm hW hZ _ (lv_sub hl [] rfl) hE
    · have hE := br_n hE c_4
      exact bX5_earlyEnd_63 C hkm hW hZ _ (lv_sub hl [] rfl) hE
set_option maxRecDepth 20000 in
theorem bX5_earlyEnd_43 {p : Program} {l : Launch} {e : Env} {s : State} {m : MethodId} {args : Array Value} {below : List Frame} {meth : Method} {c : Code} {X : Ec} {h0 : Hp} {o : Int32 × Hp} (C : Cx X p s m args meth c RX5 cX5_earlyEnd 2 (some .int) "earlyEnd") {h : Hp} {H : Heap} {locs : List Loc} (hkm : Km h0 h) (hW : Wx X h H) (hZ : va_S (aA (eB X)) s.heap H locs) (ls : Array Slot) (hl : lv_has ls 2 []) (hE : sX5_earlyEnd_43 h  = some o) : W p l e (rm 1 22) s m args below meth c H locs 0 0 (MQ below (QI X h0 o.1 o.2) args s 0 0 (aA (eB X))) (F0 m 43 ls []) := by
  refine lv_iconst (v := (1 : Int32)) C.1 C.2.1 dX5_earlyEnd_43 (by decide) ?_
  exact x_iret C rfl rfl hW hZ hkm hE dX5_earlyEnd_44
set_option maxRecDepth 20000 in
theorem ct_X5_earlyEnd (l : Launch) (X : Ec) {h : Hp} {x0 : Nat} {x1 : Nat} {o : Int32 × Hp} (k_x0 : hK h x0 = 5) (k_x1 : hK h x1 = 3) (hE : sX5_earlyEnd h x0 x1 = some o) : MetI l yX5_earlyEnd cX5_earlyEnd 2 (some .int) 1 22 X [.ref x0, .ref x1] h o := by
  refine x_met (by decide) (Nat.le_of_ble_eq_true rfl) ?_
  intro p e s m below meth c ls C hl hW hZ
  have hl : lv_has ls 2 [(0, .ref x0), (1, .ref x1)] := hl
  have hkm : Km h h := Km.rf h
  refine lv_aload_n C.1 C.2.1 dX5_earlyEnd_0 rfl (lv_at hl 0 rfl) ?_
  obtain ⟨r_1, er_1, hE⟩ := cl_e hE
  refine gf_X5_22 C hW k_x0 er_1 dX5_earlyEnd_1 (fun k_r_1 => ?_)
  refine lv_bipush (v := (8 : Int32)) C.1 C.2.1 dX5_earlyEnd_4 (by decide) ?_
  obtain ⟨o_2, eo_2, hE⟩ := cl_e hE
  refine x_kI (o := o_2) (z_runV (As := [.int (8 : Int32)]) (rest := []) C (ct_X1_has l X k_r_1 eo_2) cw_X5_104 hW hZ k_r_1 (by decide) rfl rfl rfl hl.1 (Nat.le_of_ble_eq_true rfl) rfl dX5_earlyEnd_6 ⟨Nat.le_of_ble_eq_true rfl, Nat.le_of_ble_eq_true rfl⟩ ⟨Nat.le_refl _, Nat.le_refl _⟩) hZ (fun _ _ hW km hZ => ?_)
  replace hkm := hkm.tr km
  replace k_x0 := km.at k_x0 (by decide)
  replace k_x1 := km.at k_x1 (by decide)
  refine lv_if_eq (tgt := 45) C.1 C.2.1 dX5_earlyEnd_9 (by decide) (fun c_3 => ?_) (fun c_3 => ?_)
  · have hE := br_p hE c_3
    exact bX5_earlyEnd_45 C k_x0 k_x1 hkm hW hZ _ (lv_sub hl [0, 1] rfl) hE
  · have hE := br_n hE c_3
    refine lv_aload_n C.1 C.2.1 dX5_earlyEnd_12 rfl (lv_at hl 0 rfl) ?_
    obtain ⟨r_4, er_4, hE⟩ := cl_e hE
    refine gf_X5_22 C hW k_x0 er_4 dX5_earlyEnd_13 (fun k_r_4 => ?_)
    refine gf_X5_129 C hW k_r_4 dX5_earlyEnd_16 ?_
    refine lv_iconst (v := (-1 : Int32)) C.1 C.2.1 dX5_earlyEnd_19 (by decide) ?_
    refine lv_icmp_eq (tgt := 45) C.1 C.2.1 dX5_earlyEnd_20 (by decide) (fun c_5 => ?_) (fun c_5 => ?_)
    · have hE := br_p hE c_5
      exact bX5_earlyEnd_45 C k_x0 k_x1 hkm hW hZ _ (lv_sub hl [0, 1] rfl) hE
    · have hE := br_n hE c_5
      refine lv_aload_n C.1 C.2.1 dX5_earlyEnd_23 rfl (lv_at hl 1 rfl) ?_
      obtain ⟨r_6, er_6, hE⟩ := cl_e hE
      refine gf_X5_60 C hW k_x1 er_6 dX5_earlyEnd_24 (fun k_r_6 => ?_)
      refine lv_iconst (v := (0 : Int32)) C.1 C.2.1 dX5_earlyEnd_27 (by decide) ?_
      obtain ⟨g_7, hE⟩ := gd_e hE
      refine y_iald C hW k_r_6 g_7 dX5_earlyEnd_28 ?_
      refine lv_iconst (v := (-1 : Int32)) C.1 C.2.1 dX5_earlyEnd_29 (by decide) ?_
      refine lv_icmp_eq (tgt := 43) C.1 C.2.1 dX5_earlyEnd_30 (by decide) (fun c_8 => ?_) (fun c_8 => ?_)
      · have hE := br_p hE c_8
        exact bX5_earlyEnd_43 C hkm hW hZ _ (lv_sub hl [] rfl) hE
      · have hE := br_n hE c_8
        refine lv_aload_n C.1 C.2.1 dX5_earlyEnd_33 rfl (lv_at hl 1 rfl) ?_
        obtain ⟨r_9, er_9, hE⟩ := cl_e hE
        refine gf_X5_60 C hW k_x1 er_9 dX5_earlyEnd_34 (fun k_r_9 => ?_)
        refine lv_iconst (v := (1 : Int32)) C.1 C.2.1 dX5_earlyEnd_37 (by decide) ?_
        obtain ⟨g_10, hE⟩ := gd_e hE
        refine y_iald C hW k_r_9 g_10 dX5_earlyEnd_38 ?_
        refine lv_iconst (v := (-1 : Int32)) C.1 C.2.1 dX5_earlyEnd_39 (by decide) ?_
        refine lv_icmp_ne (tgt := 45) C.1 C.2.1 dX5_earlyEnd_40 (by decide) (fun c_11 => ?_) (fun c_11 => ?_)
        · have hE := br_n hE c_11
          exact bX5_earlyEnd_45 C k_x0 k_x1 hkm hW hZ _ (lv_sub hl [0, 1] rfl) hE
        · have hE := br_p hE c_11
          exact bX5_earlyEnd_43 C hkm hW hZ _ (lv_sub hl [] rfl) hE
theorem dX5_leads_0 : decode cX5_leads 0 = .ok (.aload_n 0, 1) := by decide +kernel
theorem dX5_leads_1 : decode cX5_leads 1 = .ok (.getfield 26, 3) := by decide +kernel
theorem dX5_leads_4 : decode cX5_leads 4 = .ok (.getfield 54, 3) := by decide +kernel
theorem dX5_leads_7 : decode cX5_leads 7 = .ok (.iload_n 2, 1) := by decide +kernel
theorem dX5_leads_8 : decode cX5_leads 8 = .ok (.iaload, 1) := by decide +kernel
theorem dX5_leads_9 : decode cX5_leads 9 = .ok (.bipush 6, 2) := by decide +kernel
theorem dX5_leads_11 : decode cX5_leads 11 = .ok (.ishr, 1) := by decide +kernel
theorem dX5_leads_12 : decode cX5_leads 12 = .ok (.bipush 63, 2) := by decide +kernel
theorem dX5_leads_14 : decode cX5_leads 14 = .ok (.iand, 1) := by decide +kernel
theorem dX5_leads_15 : decode cX5_leads 15 = .ok (.istore 4, 2) := by decide +kernel
theorem dX5_leads_17 : decode cX5_leads 17 = .ok (.lconst 1, 1) := by decide +kernel
theorem dX5_leads_18 : decode cX5_leads 18 = .ok (.aload_n 0, 1) := by decide +kernel
theorem dX5_leads_19 : decode cX5_leads 19 = .ok (.getfield 26, 3) := by decide +kernel
theorem dX5_leads_22 : decode cX5_leads 22 = .ok (.getfield 54, 3) := by decide +kernel
theorem dX5_leads_25 : decode cX5_leads 25 = .ok (.iload_n 2, 1) := by decide +kernel
theorem dX5_leads_26 : decode cX5_leads 26 = .ok (.iaload, 1) := by decide +kernel
theorem dX5_leads_27 : decode cX5_leads 27 = .ok (.bipush 63, 2) := by decide +kernel
theorem dX5_leads_29 : decode cX5_leads 29 = .ok (.iand, 1) := by decide +kernel
theorem dX5_leads_30 : decode cX5_leads 30 = .ok (.lshl, 1) := by decide +kernel
theorem dX5_leads_31 : decode cX5_leads 31 = .ok (.lstore 5, 2) := by decide +kernel
theorem dX5_leads_33 : decode cX5_leads 33 = .ok (.aload_n 1, 1) := by decide +kernel
theorem dX5_leads_34 : decode cX5_leads 34 = .ok (.getfield 33, 3) := by decide +kernel
theorem dX5_leads_37 : decode cX5_leads 37 = .ok (.iload_n 3, 1) := by decide +kernel
theorem dX5_leads_38 : decode cX5_leads 38 = .ok (.laload, 1) := by decide +kernel
theorem dX5_leads_39 : decode cX5_leads 39 = .ok (.lload 5, 2) := by decide +kernel
theorem dX5_leads_41 : decode cX5_leads 41 = .ok (.land, 1) := by decide +kernel
theorem dX5_leads_42 : decode cX5_leads 42 = .ok (.lconst 0, 1) := by decide +kernel
theorem dX5_leads_43 : decode cX5_leads 43 = .ok (.lcmp, 1) := by decide +kernel
theorem dX5_leads_44 : decode cX5_leads 44 = .ok (.ifCond .ne 18, 3) := by decide +kernel
theorem dX5_leads_47 : decode cX5_leads 47 = .ok (.aload_n 0, 1) := by decide +kernel
theorem dX5_leads_48 : decode cX5_leads 48 = .ok (.getfield 26, 3) := by decide +kernel
theorem dX5_leads_51 : decode cX5_leads 51 = .ok (.iload_n 2, 1) := by decide +kernel
theorem dX5_leads_52 : decode cX5_leads 52 = .ok (.aload_n 1, 1) := by decide +kernel
theorem dX5_leads_53 : decode cX5_leads 53 = .ok (.invokevirtual 138, 3) := by decide +kernel
theorem dX5_leads_56 : decode cX5_leads 56 = .ok (.invokevirtual 146, 3) := by decide +kernel
theorem dX5_leads_59 : decode cX5_leads 59 = .ok (.ifCond .ne 5, 3) := by decide +kernel
theorem dX5_leads_62 : decode cX5_leads 62 = .ok (.iconst 0, 1) := by decide +kernel
theorem dX5_leads_63 : decode cX5_leads 63 = .ok (.ireturn, 1) := by decide +kernel
theorem dX5_leads_64 : decode cX5_leads 64 = .ok (.iload 4, 2) := by decide +kernel
theorem dX5_leads_66 : decode cX5_leads 66 = .ok (.bipush 32, 2) := by decide +kernel
theorem dX5_leads_68 : decode cX5_leads 68 = .ok (.iand, 1) := by decide +kernel
theorem dX5_leads_69 : decode cX5_leads 69 = .ok (.ifCond .eq 25, 3) := by decide +kernel
theorem dX5_leads_72 : decode cX5_leads 72 = .ok (.iload_n 3, 1) := by decide +kernel
theorem dX5_leads_73 : decode cX5_leads 73 = .ok (.aload_n 1, 1) := by decide +kernel
theorem dX5_leads_74 : decode cX5_leads 74 = .ok (.getfield 78, 3) := by decide +kernel
theorem dX5_leads_77 : decode cX5_leads 77 = .ok (.if_icmp .ne 17, 3) := by decide +kernel
theorem dX5_leads_80 : decode cX5_leads 80 = .ok (.aload_n 1, 1) := by decide +kernel
theorem dX5_leads_81 : decode cX5_leads 81 = .ok (.getfield 150, 3) := by decide +kernel
theorem dX5_leads_84 : decode cX5_leads 84 = .ok (.lload 5, 2) := by decide +kernel
theorem dX5_leads_86 : decode cX5_leads 86 = .ok (.land, 1) := by decide +kernel
theorem dX5_leads_87 : decode cX5_leads 87 = .ok (.lconst 0, 1) := by decide +kernel
theorem dX5_leads_88 : decode cX5_leads 88 = .ok (.lcmp, 1) := by decide +kernel
theorem dX5_leads_89 : decode cX5_leads 89 = .ok (.ifCond .eq 5, 3) := by decide +kernel
theorem dX5_leads_92 : decode cX5_leads 92 = .ok (.iconst 1, 1) := by decide +kernel
theorem dX5_leads_93 : decode cX5_leads 93 = .ok (.ireturn, 1) := by decide +kernel
theorem dX5_leads_94 : decode cX5_leads 94 = .ok (.aload_n 1, 1) := by decide +kernel
theorem dX5_leads_95 : decode cX5_leads 95 = .ok (.getfield 33, 3) := by decide +kernel
theorem dX5_leads_98 : decode cX5_leads 98 = .ok (.iconst 1, 1) := by decide +kernel
theorem dX5_leads_99 : decode cX5_leads 99 = .ok (.iload_n 3, 1) := by decide +kernel
theorem dX5_leads_100 : decode cX5_leads 100 = .ok (.isub, 1) := by decide +kernel
theorem dX5_leads_101 : decode cX5_leads 101 = .ok (.laload, 1) := by decide +kernel
theorem dX5_leads_102 : decode cX5_leads 102 = .ok (.lload 5, 2) := by decide +kernel
theorem dX5_leads_104 : decode cX5_leads 104 = .ok (.land, 1) := by decide +kernel
theorem dX5_leads_105 : decode cX5_leads 105 = .ok (.lconst 0, 1) := by decide +kernel
theorem dX5_leads_106 : decode cX5_leads 106 = .ok (.lcmp, 1) := by decide +kernel
theorem dX5_leads_107 : decode cX5_leads 107 = .ok (.ifCond .eq 7, 3) := by decide +kernel
theorem dX5_leads_110 : decode cX5_leads 110 = .ok (.iconst 1, 1) := by decide +kernel
theorem dX5_leads_111 : decode cX5_leads 111 = .ok (.goto 4, 3) := by decide +kernel
theorem dX5_leads_114 : decode cX5_leads 114 = .ok (.iconst 0, 1) := by decide +kernel
theorem dX5_leads_115 : decode cX5_leads 115 = .ok (.istore 7, 2) := by decide +kernel
theorem dX5_leads_117 : decode cX5_leads 117 = .ok (.iload 4, 2) := by decide +kernel
theorem dX5_leads_119 : decode cX5_leads 119 = .ok (.iload 7, 2) := by decide +kernel
theorem dX5_leads_121 : decode cX5_leads 121 = .ok (.ifCond .eq 7, 3) := by decide +kernel
theorem dX5_leads_124 : decode cX5_leads 124 = .ok (.iconst 1, 1) := by decide +kernel
theorem dX5_leads_125 : decode cX5_leads 125 = .ok (.goto 4, 3) := by decide +kernel
theorem dX5_leads_128 : decode cX5_leads 128 = .ok (.iconst 2, 1) := by decide +kernel
theorem dX5_leads_129 : decode cX5_leads 129 = .ok (.iand, 1) := by decide +kernel
theorem dX5_leads_130 : decode cX5_leads 130 = .ok (.ifCond .ne 7, 3) := by decide +kernel
theorem dX5_leads_133 : decode cX5_leads 133 = .ok (.iconst 1, 1) := by decide +kernel
theorem dX5_leads_134 : decode cX5_leads 134 = .ok (.goto 4, 3) := by decide +kernel
theorem dX5_leads_137 : decode cX5_leads 137 = .ok (.iconst 0, 1) := by decide +kernel
theorem dX5_leads_138 : decode cX5_leads 138 = .ok (.ireturn, 1) := by decide +kernel
def sX5_leads_62 (h : Hp) : Option (Int32 × Hp) := some ((0 : Int32), h)
def sX5_leads_138 (h : Hp) (t0 : Int32) : Option (Int32 × Hp) := gd (t0 &&& 1 = t0) <| some (t0, h)
def sX5_leads_129 (h : Hp) (t0 : Int32) (t1 : Int32) : Option (Int32 × Hp) := br ((t1 &&& t0) = 0) (sX5_leads_138  h (1 : Int32)) (sX5_leads_138  h (0 : Int32))
def sX5_leads_115 (h : Hp) (x4 : Int32) (t0 : Int32) : Option (Int32 × Hp) := br (t0 = 0) (sX5_leads_129  h (2 : Int32) x4) (sX5_leads_129  h (1 : Int32) x4)
def sX5_leads_94 (h : Hp) (x1 : Nat) (x3 : Int32) (x4 : Int32) (x5 : Int64) : Option (Int32 × Hp) := cl (hR h x1 1) fun r_1 => gd (inB ((1 : Int32) - x3) (hN h r_1)) <| br ((lg_cmp ((hJ h r_1 ((1 : Int32) - x3).toNatClampNeg) &&& x5) (0 : Int64)) = 0) (sX5_leads_115  h x4 (0 : Int32)) (sX5_leads_115  h x4 (1 : Int32))
def sX5_leads (h : Hp) (x0 : Nat) (x1 : Nat) (x2 : Int32) (x3 : Int32) : Option (Int32 × Hp) := cl (hR h x0 1) fun r_1 => cl (hR h r_1 1) fun r_2 => gd (inB x2 (hN h r_2)) <| nm (((hI h r_2 x2.toNatClampNeg) >>> ((6 : Int32) &&& 31)) &&& (63 : Int32)) fun v_4 => cl (hR h x0 1) fun r_5 => cl (hR h r_5 1) fun r_6 => gd (inB x2 (hN h r_6)) <| nm ((1 : Int64) <<< (((hI h r_6 x2.toNatClampNeg) &&& (63 : Int32)).toInt64 &&& 63)) fun v_8 => cl (hR h x1 1) fun r_9 => gd (inB x3 (hN h r_9)) <| br ((lg_cmp ((hJ h r_9 x3.toNatClampNeg) &&& v_8) (0 : Int64)) = 0) (cl (hR h x0 1) fun r_12 => cl (sX3_occupied h x1) fun o_13 => cl (sX10_isOpen o_13.2 r_12 x2 o_13.1) fun o_14 => br (o_14.1 = 0) (sX5_leads_62  o_14.2 ) (br ((v_4 &&& (32 : Int32)) = 0) (sX5_leads_94  o_14.2 x1 x3 v_4 v_8) (br (x3 = (hI o_14.2 x1 5)) (br ((lg_cmp ((hJ o_14.2 x1 10) &&& v_8) (0 : Int64)) = 0) (sX5_leads_94  o_14.2 x1 x3 v_4 v_8) (some ((1 : Int32), o_14.2))) (sX5_leads_94  o_14.2 x1 x3 v_4 v_8)))) (sX5_leads_62  h )
set_option maxRecDepth 20000 in
theorem moX5_leads_62 {o : Int32 × Hp} {h : Hp} (hE : sX5_leads_62 h  = some o) : Le h o.2 := by
  exact le_some2 hE
set_option maxRecDepth 20000 in
theorem moX5_leads_138 {o : Int32 × Hp} {h : Hp} {t0 : Int32} (hE : sX5_leads_138 h  t0 = some o) : Le h o.2 := by
  obtain ⟨g_1, hE⟩ := gd_e hE
  exact le_some2 hE
set_option maxRecDepth 20000 in
theorem moX5_leads_129 {o : Int32 × Hp} {h : Hp} {t0 : Int32} {t1 : Int32} (hE : sX5_leads_129 h  t0 t1 = some o) : Le h o.2 := by
  rcases br_e hE with ⟨_, hE⟩ | ⟨_, hE⟩
  · exact moX5_leads_138 hE
  · exact moX5_leads_138 hE
set_option maxRecDepth 20000 in
theorem moX5_leads_115 {o : Int32 × Hp} {h : Hp} {x4 : Int32} {t0 : Int32} (hE : sX5_leads_115 h x4 t0 = some o) : Le h o.2 := by
  rcases br_e hE with ⟨_, hE⟩ | ⟨_, hE⟩
  · exact moX5_leads_129 hE
  · exact moX5_leads_129 hE
set_option maxRecDepth 20000 in
theorem moX5_leads_94 {o : Int32 × Hp} {h : Hp} {x1 : Nat} {x3 : Int32} {x4 : Int32} {x5 : Int64} (hE : sX5_leads_94 h x1 x3 x4 x5 = some o) : Le h o.2 := by
  obtain ⟨r_1, er_1, hE⟩ := cl_e hE
  obtain ⟨g_2, hE⟩ := gd_e hE
  rcases br_e hE with ⟨_, hE⟩ | ⟨_, hE⟩
  · exact moX5_leads_115 hE
  · exact moX5_leads_115 hE
set_option maxRecDepth 20000 in
theorem moX5_leads {o : Int32 × Hp} {h : Hp} {x0 : Nat} {x1 : Nat} {x2 : Int32} {x3 : Int32} (hE : sX5_leads h x0 x1 x2 x3 = some o) : Le h o.2 := by
  obtain ⟨r_1, er_1, hE⟩ := cl_e hE
  obtain ⟨r_2, er_2, hE⟩ := cl_e hE
  obtain ⟨g_3, hE⟩ := gd_e hE
  obtain ⟨v_4, ev_4, hE⟩ := nm_e2 hE
  obtain ⟨r_5, er_5, hE⟩ := cl_e hE
  obtain ⟨r_6, er_6, hE⟩ := cl_e hE
  obtain ⟨g_7, hE⟩ := gd_e hE
  obtain ⟨v_8, ev_8, hE⟩ := nm_e2 hE
  obtain ⟨r_9, er_9, hE⟩ := cl_e hE
  obtain ⟨g_10, hE⟩ := gd_e hE
  rcases br_e hE with ⟨_, hE⟩ | ⟨_, hE⟩
  · obtain ⟨r_12, er_12, hE⟩ := cl_e hE
    obtain ⟨o_13, eo_13, hE⟩ := cl_e hE
    refine (moX3_occupied eo_13).tr ?_
    obtain ⟨o_14, eo_14, hE⟩ := cl_e hE
    refine (moX10_isOpen eo_14).tr ?_
    rcases br_e hE with ⟨_, hE⟩ | ⟨_, hE⟩
    · exact moX5_leads_62 hE
    · rcases br_e hE with ⟨_, hE⟩ | ⟨_, hE⟩
      · exact moX5_leads_94 hE
      · rcases br_e hE with ⟨_, hE⟩ | ⟨_, hE⟩
        · rcases br_e hE with ⟨_, hE⟩ | ⟨_, hE⟩
          · exact moX5_leads_94 hE
          · exact le_some2 hE
        · exact moX5_leads_94 hE
  · exact moX5_leads_62 hE
set_option maxRecDepth 20000 in
theorem bX5_leads_62 {p : Program} {l : Launch} {e : Env} {s : State} {m : MethodId} {args : Array Value} {below : List Frame} {meth : Method} {c : Code} {X : Ec} {h0 : Hp} {o : Int32 × Hp} (C : Cx X p s m args meth c RX5 cX5_leads 8 (some .boolean) "leads") {h : Hp} {H : Heap} {locs : List Loc} (hkm : Km h0 h) (hW : Wx X h H) (hZ : va_S (aA (eB X)) s.heap H locs) (ls : Array Slot) (hl : lv_has ls 8 []) (hE : sX5_leads_62 h  = some o) : W p l e (rm 1 25) s m args below meth c H locs 0 0 (MQ below (QI X h0 o.1 o.2) args s 0 0 (aA (eB X))) (F0 m 62 ls []) := by
  refine lv_iconst (v := (0 : Int32)) C.1 C.2.1 dX5_leads_62 (by decide) ?_
  exact x_iret C rfl (by decide) hW hZ hkm hE dX5_leads_63
set_option maxRecDepth 20000 in
theorem bX5_leads_138 {p : Program} {l : Launch} {e : Env} {s : State} {m : MethodId} {args : Array Value} {below : List Frame} {meth : Method} {c : Code} {X : Ec} {h0 : Hp} {o : Int32 × Hp} (C : Cx X p s m args meth c RX5 cX5_leads 8 (some .boolean) "leads") {h : Hp} {t0 : Int32} {H : Heap} {locs : List Loc} (hkm : Km h0 h) (hW : Wx X h H) (hZ : va_S (aA (eB X)) s.heap H locs) (ls : Array Slot) (hl : lv_has ls 8 []) (hE : sX5_leads_138 h  t0 = some o) : W p l e (rm 1 25) s m args below meth c H locs 0 0 (MQ below (QI X h0 o.1 o.2) args s 0 0 (aA (eB X))) (F0 m 138 ls [.int t0]) := by
  obtain ⟨g_1, hE⟩ := gd_e hE
  exact x_iret C rfl (narB g_1) hW hZ hkm hE dX5_leads_138
set_option maxRecDepth 20000 in
theorem bX5_leads_129 {p : Program} {l : Launch} {e : Env} {s : State} {m : MethodId} {args : Array Value} {below : List Frame} {meth : Method} {c : Code} {X : Ec} {h0 : Hp} {o : Int32 × Hp} (C : Cx X p s m args meth c RX5 cX5_leads 8 (some .boolean) "leads") {h : Hp} {t0 : Int32} {t1 : Int32} {H : Heap} {locs : List Loc} (hkm : Km h0 h) (hW : Wx X h H) (hZ : va_S (aA (eB X)) s.heap H locs) (ls : Array Slot) (hl : lv_has ls 8 []) (hE : sX5_leads_129 h  t0 t1 = some o) : W p l e (rm 1 25) s m args below meth c H locs 0 0 (MQ below (QI X h0 o.1 o.2) args s 0 0 (aA (eB X))) (F0 m 129 ls [.int t0, .int t1]) := by
  refine lv_iand C.1 C.2.1 dX5_leads_129 ?_
  refine lv_if_ne (tgt := 137) C.1 C.2.1 dX5_leads_130 (by decide) (fun c_1 => ?_) (fun c_1 => ?_)
  · have hE := br_n hE c_1
    refine lv_iconst (v := (0 : Int32)) C.1 C.2.1 dX5_leads_137 (by decide) ?_
    exact bX5_leads_138 C hkm hW hZ _ (lv_sub hl [] rfl) hE
  · have hE := br_p hE c_1
    refine lv_iconst (v := (1 : Int32)) C.1 C.2.1 dX5_leads_133 (by decide) ?_
    refine lv_goto (tgt := 138) C.1 C.2.1 dX5_leads_134 (by decide) ?_
    exact bX5_leads_138 C hkm hW hZ _ (lv_sub hl [] rfl) hE
set_option maxRecDepth 20000 in
theorem bX5_leads_115 {p : Program} {l : Launch} {e : Env} {s : State} {m : MethodId} {args : Array Value} {below : List Frame} {meth : Method} {c : Code} {X : Ec} {h0 : Hp} {o : Int32 × Hp} (C : Cx X p s m args meth c RX5 cX5_leads 8 (some .boolean) "leads") {h : Hp} {x4 : Int32} {t0 : Int32} {H : Heap} {locs : List Loc} (hkm : Km h0 h) (hW : Wx X h H) (hZ : va_S (aA (eB X)) s.heap H locs) (ls : Array Slot) (hl : lv_has ls 8 [(4, .int x4)]) (hE : sX5_leads_115 h x4 t0 = some o) : W p l e (rm 1 25) s m args below meth c H locs 0 0 (MQ below (QI X h0 o.1 o.2) args s 0 0 (aA (eB X))) (F0 m 115 ls [.int t0]) := by
  refine lv_istore (lv' := [(7, .int t0), (4, .int x4)]) C.1 C.2.1 dX5_leads_115 hl (by decide) rfl (fun ls hl => ?_)
  refine lv_iload C.1 C.2.1 dX5_leads_117 (lv_at hl 1 rfl) ?_
  refine lv_iload C.1 C.2.1 dX5_leads_119 (lv_at hl 0 rfl) ?_
  refine lv_if_eq (tgt := 128) C.1 C.2.1 dX5_leads_121 (by decide) (fun c_1 => ?_) (fun c_1 => ?_)
  · have hE := br_p hE c_1
    refine lv_iconst (v := (2 : Int32)) C.1 C.2.1 dX5_leads_128 (by decide) ?_
    exact bX5_leads_129 C hkm hW hZ _ (lv_sub hl [] rfl) hE
  · have hE := br_n hE c_1
    refine lv_iconst (v := (1 : Int32)) C.1 C.2.1 dX5_leads_124 (by decide) ?_
    refine lv_goto (tgt := 129) C.1 C.2.1 dX5_leads_125 (by decide) ?_
    exact bX5_leads_129 C hkm hW hZ _ (lv_sub hl [] rfl) hE
set_option maxRecDepth 20000 in
theorem bX5_leads_94 {p : Program} {l : Launch} {e : Env} {s : State} {m : MethodId} {args : Array Value} {below : List Frame} {meth : Method} {c : Code} {X : Ec} {h0 : Hp} {o : Int32 × Hp} (C : Cx X p s m args meth c RX5 cX5_leads 8 (some .boolean) "leads") {h : Hp} {x1 : Nat} {x3 : Int32} {x4 : Int32} {x5 : Int64} {H : Heap} {locs : List Loc} (k_x1 : hK h x1 = 3) (hkm : Km h0 h) (hW : Wx X h H) (hZ : va_S (aA (eB X)) s.heap H locs) (ls : Array Slot) (hl : lv_has ls 8 [(1, .ref x1), (3, .int x3), (4, .int x4), (5, .long x5)]) (hE : sX5_leads_94 h x1 x3 x4 x5 = some o) : W p l e (rm 1 25) s m args below meth c H locs 0 0 (MQ below (QI X h0 o.1 o.2) args s 0 0 (aA (eB X))) (F0 m 94 ls []) := by
  refine lv_aload_n C.1 C.2.1 dX5_leads_94 rfl (lv_at hl 0 rfl) ?_
  obtain ⟨r_1, er_1, hE⟩ := cl_e hE
  refine gf_X5_33 C hW k_x1 er_1 dX5_leads_95 (fun k_r_1 => ?_)
  refine lv_iconst (v := (1 : Int32)) C.1 C.2.1 dX5_leads_98 (by decide) ?_
  refine lv_iload_n C.1 C.2.1 dX5_leads_99 rfl (lv_at hl 1 rfl) ?_
  refine lv_isub C.1 C.2.1 dX5_leads_100 ?_
  obtain ⟨g_2, hE⟩ := gd_e hE
  refine y_lald C hW k_r_1 g_2 dX5_leads_101 ?_
  refine lv_lload C.1 C.2.1 dX5_leads_102 (lv_at hl 3 rfl) ?_
  refine lv_land C.1 C.2.1 dX5_leads_104 ?_
  refine lv_lconst (v := (0 : Int64)) C.1 C.2.1 dX5_leads_105 (by decide) ?_
  refine W.lcmp C.1 C.2.1 dX5_leads_106 ?_
  refine lv_if_eq (tgt := 114) C.1 C.2.1 dX5_leads_107 (by decide) (fun c_3 => ?_) (fun c_3 => ?_)
  · have hE := br_p hE c_3
    refine lv_iconst (v := (0 : Int32)) C.1 C.2.1 dX5_leads_114 (by decide) ?_
    exact bX5_leads_115 C hkm hW hZ _ (lv_sub hl [2] rfl) hE
  · have hE := br_n hE c_3
    refine lv_iconst (v := (1 : Int32)) C.1 C.2.1 dX5_leads_110 (by decide) ?_
    refine lv_goto (tgt := 115) C.1 C.2.1 dX5_leads_111 (by decide) ?_
    exact bX5_leads_115 C hkm hW hZ _ (lv_sub hl [2] rfl) hE
set_option maxRecDepth 20000 in
theorem ct_X5_leads (l : Launch) (X : Ec) {h : Hp} {x0 : Nat} {x1 : Nat} {x2 : Int32} {x3 : Int32} {o : Int32 × Hp} (k_x0 : hK h x0 = 5) (k_x1 : hK h x1 = 3) (hE : sX5_leads h x0 x1 x2 x3 = some o) : MetI l yX5_leads cX5_leads 8 (some .boolean) 1 25 X [.ref x0, .ref x1, .int x2, .int x3] h o := by
  refine x_met (by decide) (Nat.le_of_ble_eq_true rfl) ?_
  intro p e s m below meth c ls C hl hW hZ
  have hl : lv_has ls 8 [(0, .ref x0), (1, .ref x1), (2, .int x2), (3, .int x3)] := hl
  have hkm : Km h h := Km.rf h
  refine lv_aload_n C.1 C.2.1 dX5_leads_0 rfl (lv_at hl 0 rfl) ?_
  obtain ⟨r_1, er_1, hE⟩ := cl_e hE
  refine gf_X5_26 C hW k_x0 er_1 dX5_leads_1 (fun k_r_1 => ?_)
  obtain ⟨r_2, er_2, hE⟩ := cl_e hE
  refine gf_X5_54 C hW k_r_1 er_2 dX5_leads_4 (fun k_r_2 => ?_)
  refine lv_iload_n C.1 C.2.1 dX5_leads_7 rfl (lv_at hl 2 rfl) ?_
  obtain ⟨g_3, hE⟩ := gd_e hE
  refine y_iald C hW k_r_2 g_3 dX5_leads_8 ?_
  refine lv_bipush (v := (6 : Int32)) C.1 C.2.1 dX5_leads_9 (by decide) ?_
  refine lv_ishr C.1 C.2.1 dX5_leads_11 ?_
  refine lv_bipush (v := (63 : Int32)) C.1 C.2.1 dX5_leads_12 (by decide) ?_
  refine lv_iand C.1 C.2.1 dX5_leads_14 ?_
  obtain ⟨v_4, ev_4, hE⟩ := nm_e2 hE
  refine x_nmI ev_4 ?_
  refine lv_istore (lv' := [(4, .int v_4), (0, .ref x0), (1, .ref x1), (2, .int x2), (3, .int x3)]) C.1 C.2.1 dX5_leads_15 hl (by decide) rfl (fun ls hl => ?_)
  refine lv_lconst (v := (1 : Int64)) C.1 C.2.1 dX5_leads_17 (by decide) ?_
  refine lv_aload_n C.1 C.2.1 dX5_leads_18 rfl (lv_at hl 1 rfl) ?_
  obtain ⟨r_5, er_5, hE⟩ := cl_e hE
  refine gf_X5_26 C hW k_x0 er_5 dX5_leads_19 (fun k_r_5 => ?_)
  obtain ⟨r_6, er_6, hE⟩ := cl_e hE
  refine gf_X5_54 C hW k_r_5 er_6 dX5_leads_22 (fun k_r_6 => ?_)
  refine lv_iload_n C.1 C.2.1 dX5_leads_25 rfl (lv_at hl 3 rfl) ?_
  obtain ⟨g_7, hE⟩ := gd_e hE
  refine y_iald C hW k_r_6 g_7 dX5_leads_26 ?_
  refine lv_bipush (v := (63 : Int32)) C.1 C.2.1 dX5_leads_27 (by decide) ?_
  refine lv_iand C.1 C.2.1 dX5_leads_29 ?_
  refine lv_lshl C.1 C.2.1 dX5_leads_30 rfl ?_
  obtain ⟨v_8, ev_8, hE⟩ := nm_e2 hE
  refine x_nmJ ev_8 ?_
  refine lv_lstore (lv' := [(5, .long v_8), (4, .int v_4), (0, .ref x0), (1, .ref x1), (2, .int x2), (3, .int x3)]) C.1 C.2.1 dX5_leads_31 hl (by decide) rfl (fun ls hl => ?_)
  refine lv_aload_n C.1 C.2.1 dX5_leads_33 rfl (lv_at hl 3 rfl) ?_
  obtain ⟨r_9, er_9, hE⟩ := cl_e hE
  refine gf_X5_33 C hW k_x1 er_9 dX5_leads_34 (fun k_r_9 => ?_)
  refine lv_iload_n C.1 C.2.1 dX5_leads_37 rfl (lv_at hl 5 rfl) ?_
  obtain ⟨g_10, hE⟩ := gd_e hE
  refine y_lald C hW k_r_9 g_10 dX5_leads_38 ?_
  refine lv_lload C.1 C.2.1 dX5_leads_39 (lv_at hl 0 rfl) ?_
  refine lv_land C.1 C.2.1 dX5_leads_41 ?_
  refine lv_lconst (v := (0 : Int64)) C.1 C.2.1 dX5_leads_42 (by decide) ?_
  refine W.lcmp C.1 C.2.1 dX5_leads_43 ?_
  refine lv_if_ne (tgt := 62) C.1 C.2.1 dX5_leads_44 (by decide) (fun c_11 => ?_) (fun c_11 => ?_)
  · have hE := br_n hE c_11
    exact bX5_leads_62 C hkm hW hZ _ (lv_sub hl [] rfl) hE
  · have hE := br_p hE c_11
    refine lv_aload_n C.1 C.2.1 dX5_leads_47 rfl (lv_at hl 2 rfl) ?_
    obtain ⟨r_12, er_12, hE⟩ := cl_e hE
    refine gf_X5_26 C hW k_x0 er_12 dX5_leads_48 (fun k_r_12 => ?_)
    refine lv_iload_n C.1 C.2.1 dX5_leads_51 rfl (lv_at hl 4 rfl) ?_
    refine lv_aload_n C.1 C.2.1 dX5_leads_52 rfl (lv_at hl 3 rfl) ?_
    obtain ⟨o_13, eo_13, hE⟩ := cl_e hE
    refine x_kJ (o := o_13) (z_runV (As := []) (rest := [.int x2, .ref r_12]) C (ct_X3_occupied l X k_x1 eo_13) cw_X5_138 hW hZ k_x1 (by decide) rfl rfl rfl hl.1 (Nat.le_of_ble_eq_true rfl) rfl dX5_leads_53 ⟨Nat.le_of_ble_eq_true rfl, Nat.le_of_ble_eq_true rfl⟩ ⟨Nat.le_refl _, Nat.le_refl _⟩) hZ (fun _ _ hW km hZ => ?_)
    replace hkm := hkm.tr km
    replace k_x0 := km.at k_x0 (by decide)
    replace k_x1 := km.at k_x1 (by decide)
    replace k_r_12 := km.at k_r_12 (by decide)
    obtain ⟨o_14, eo_14, hE⟩ := cl_e hE
    refine x_kI (o := o_14) (z_runV (As := [.int x2, .long o_13.1]) (rest := []) C (ct_X10_isOpen l X k_r_12 eo_14) cw_X5_146 hW hZ k_r_12 (by decide) rfl rfl rfl hl.1 (Nat.le_of_ble_eq_true rfl) rfl dX5_leads_56 ⟨Nat.le_of_ble_eq_true rfl, Nat.le_of_ble_eq_true rfl⟩ ⟨Nat.le_refl _, Nat.le_refl _⟩) hZ (fun _ _ hW km hZ => ?_)
    replace hkm := hkm.tr km
    replace k_x0 := km.at k_x0 (by decide)
    replace k_x1 := km.at k_x1 (by decide)
    refine lv_if_ne (tgt := 64) C.1 C.2.1 dX5_leads_59 (by decide) (fun c_15 => ?_) (fun c_15 => ?_)
    · have hE := br_n hE c_15
      refine lv_iload C.1 C.2.1 dX5_leads_64 (lv_at hl 1 rfl) ?_
      refine lv_bipush (v := (32 : Int32)) C.1 C.2.1 dX5_leads_66 (by decide) ?_
      refine lv_iand C.1 C.2.1 dX5_leads_68 ?_
      refine lv_if_eq (tgt := 94) C.1 C.2.1 dX5_leads_69 (by decide) (fun c_16 => ?_) (fun c_16 => ?_)
      · have hE := br_p hE c_16
        exact bX5_leads_94 C k_x1 hkm hW hZ _ (lv_sub hl [3, 5, 1, 0] rfl) hE
      · have hE := br_n hE c_16
        refine lv_iload_n C.1 C.2.1 dX5_leads_72 rfl (lv_at hl 5 rfl) ?_
        refine lv_aload_n C.1 C.2.1 dX5_leads_73 rfl (lv_at hl 3 rfl) ?_
        refine gf_X5_78 C hW k_x1 dX5_leads_74 ?_
        refine lv_icmp_ne (tgt := 94) C.1 C.2.1 dX5_leads_77 (by decide) (fun c_17 => ?_) (fun c_17 => ?_)
        · have hE := br_n hE c_17
          exact bX5_leads_94 C k_x1 hkm hW hZ _ (lv_sub hl [3, 5, 1, 0] rfl) hE
        · have hE := br_p hE c_17
          refine lv_aload_n C.1 C.2.1 dX5_leads_80 rfl (lv_at hl 3 rfl) ?_
          refine gf_X5_150 C hW k_x1 dX5_leads_81 ?_
          refine lv_lload C.1 C.2.1 dX5_leads_84 (lv_at hl 0 rfl) ?_
          refine lv_land C.1 C.2.1 dX5_leads_86 ?_
          refine lv_lconst (v := (0 : Int64)) C.1 C.2.1 dX5_leads_87 (by decide) ?_
          refine W.lcmp C.1 C.2.1 dX5_leads_88 ?_
          refine lv_if_eq (tgt := 94) C.1 C.2.1 dX5_leads_89 (by decide) (fun c_18 => ?_) (fun c_18 => ?_)
          · have hE := br_p hE c_18
            exact bX5_leads_94 C k_x1 hkm hW hZ _ (lv_sub hl [3, 5, 1, 0] rfl) hE
          · have hE := br_n hE c_18
            refine lv_iconst (v := (1 : Int32)) C.1 C.2.1 dX5_leads_92 (by decide) ?_
            exact x_iret C rfl (by decide) hW hZ hkm hE dX5_leads_93
    · have hE := br_p hE c_15
      exact bX5_leads_62 C hkm hW hZ _ (lv_sub hl [] rfl) hE
set_option maxRecDepth 100000 in
theorem m_1180 : Cond.constant RX5 30 (983040 : Int32) ∈ W0 := w0_in (List.mem_append_right _ (List.mem_of_getElem? (i := 1180) rfl)) rfl
set_option maxRecDepth 100000 in
theorem m_1181 : Cond.constant RX5 31 (15728640 : Int32) ∈ W0 := w0_in (List.mem_append_right _ (List.mem_of_getElem? (i := 1181) rfl)) rfl
theorem dX5_plainMove_0 : decode cX5_plainMove 0 = .ok (.iload_n 1, 1) := by decide +kernel
theorem dX5_plainMove_1 : decode cX5_plainMove 1 = .ok (.iload_n 0, 1) := by decide +kernel
theorem dX5_plainMove_2 : decode cX5_plainMove 2 = .ok (.bipush 6, 2) := by decide +kernel
theorem dX5_plainMove_4 : decode cX5_plainMove 4 = .ok (.ishl, 1) := by decide +kernel
theorem dX5_plainMove_5 : decode cX5_plainMove 5 = .ok (.ior, 1) := by decide +kernel
theorem dX5_plainMove_6 : decode cX5_plainMove 6 = .ok (.iload_n 2, 1) := by decide +kernel
theorem dX5_plainMove_7 : decode cX5_plainMove 7 = .ok (.bipush 12, 2) := by decide +kernel
theorem dX5_plainMove_9 : decode cX5_plainMove 9 = .ok (.ishl, 1) := by decide +kernel
theorem dX5_plainMove_10 : decode cX5_plainMove 10 = .ok (.ior, 1) := by decide +kernel
theorem dX5_plainMove_11 : decode cX5_plainMove 11 = .ok (.ldc 30, 2) := by decide +kernel
theorem dX5_plainMove_13 : decode cX5_plainMove 13 = .ok (.ior, 1) := by decide +kernel
theorem dX5_plainMove_14 : decode cX5_plainMove 14 = .ok (.ldc 31, 2) := by decide +kernel
theorem dX5_plainMove_16 : decode cX5_plainMove 16 = .ok (.ior, 1) := by decide +kernel
theorem dX5_plainMove_17 : decode cX5_plainMove 17 = .ok (.iload_n 3, 1) := by decide +kernel
theorem dX5_plainMove_18 : decode cX5_plainMove 18 = .ok (.bipush 24, 2) := by decide +kernel
theorem dX5_plainMove_20 : decode cX5_plainMove 20 = .ok (.ishl, 1) := by decide +kernel
theorem dX5_plainMove_21 : decode cX5_plainMove 21 = .ok (.ior, 1) := by decide +kernel
theorem dX5_plainMove_22 : decode cX5_plainMove 22 = .ok (.ireturn, 1) := by decide +kernel
def sX5_plainMove (h : Hp) (x0 : Int32) (x1 : Int32) (x2 : Int32) (x3 : Int32) : Option (Int32 × Hp) := some (((((x1 ||| (x0 <<< ((6 : Int32) &&& 31))) ||| (x2 <<< ((12 : Int32) &&& 31))) ||| (983040 : Int32)) ||| (15728640 : Int32)) ||| (x3 <<< ((24 : Int32) &&& 31)), h)
set_option maxRecDepth 20000 in
theorem moX5_plainMove {o : Int32 × Hp} {h : Hp} {x0 : Int32} {x1 : Int32} {x2 : Int32} {x3 : Int32} (hE : sX5_plainMove h x0 x1 x2 x3 = some o) : Le h o.2 := by
  exact le_some2 hE
set_option maxRecDepth 20000 in
theorem ct_X5_plainMove (l : Launch) (X : Ec) {h : Hp} {x0 : Int32} {x1 : Int32} {x2 : Int32} {x3 : Int32} {o : Int32 × Hp} (hE : sX5_plainMove h x0 x1 x2 x3 = some o) : MetI l yX5_plainMove cX5_plainMove 4 (some .int) 0 0 X [.int x0, .int x1, .int x2, .int x3] h o := by
  refine x_met (by decide) (Nat.le_of_ble_eq_true rfl) ?_
  intro p e s m below meth c ls C hl hW hZ
  have hl : lv_has ls 4 [(0, .int x0), (1, .int x1), (2, .int x2), (3, .int x3)] := hl
  have hkm : Km h h := Km.rf h
  refine lv_iload_n C.1 C.2.1 dX5_plainMove_0 rfl (lv_at hl 1 rfl) ?_
  refine lv_iload_n C.1 C.2.1 dX5_plainMove_1 rfl (lv_at hl 0 rfl) ?_
  refine lv_bipush (v := (6 : Int32)) C.1 C.2.1 dX5_plainMove_2 (by decide) ?_
  refine lv_ishl C.1 C.2.1 dX5_plainMove_4 ?_
  refine lv_ior C.1 C.2.1 dX5_plainMove_5 ?_
  refine lv_iload_n C.1 C.2.1 dX5_plainMove_6 rfl (lv_at hl 2 rfl) ?_
  refine lv_bipush (v := (12 : Int32)) C.1 C.2.1 dX5_plainMove_7 (by decide) ?_
  refine lv_ishl C.1 C.2.1 dX5_plainMove_9 ?_
  refine lv_ior C.1 C.2.1 dX5_plainMove_10 ?_
  refine lv_ldc (v := (983040 : Int32)) C.1 C.2.1 C.2.2.2.1 (C.2.2.2.2.1 _ m_1180) dX5_plainMove_11 ?_
  refine lv_ior C.1 C.2.1 dX5_plainMove_13 ?_
  refine lv_ldc (v := (15728640 : Int32)) C.1 C.2.1 C.2.2.2.1 (C.2.2.2.2.1 _ m_1181) dX5_plainMove_14 ?_
  refine lv_ior C.1 C.2.1 dX5_plainMove_16 ?_
  refine lv_iload_n C.1 C.2.1 dX5_plainMove_17 rfl (lv_at hl 3 rfl) ?_
  refine lv_bipush (v := (24 : Int32)) C.1 C.2.1 dX5_plainMove_18 (by decide) ?_
  refine lv_ishl C.1 C.2.1 dX5_plainMove_20 ?_
  refine lv_ior C.1 C.2.1 dX5_plainMove_21 ?_
  exact x_iret C rfl rfl hW hZ hkm hE dX5_plainMove_22
set_option maxRecDepth 100000 in
theorem m_1177 : Cond.methodLink RX5 176 yX5_plainMove ∈ W0 := w0_in (List.mem_append_right _ (List.mem_of_getElem? (i := 1177) rfl)) rfl
set_option maxRecDepth 100000 in
theorem m_1178 : Cond.static yX5_plainMove ∈ W0 := w0_in (List.mem_append_right _ (List.mem_of_getElem? (i := 1178) rfl)) rfl
set_option maxRecDepth 100000 in
theorem m_1179 : Cond.code yX5_plainMove cX5_plainMove 4 (some .int) ∈ W0 := w0_in (List.mem_append_right _ (List.mem_of_getElem? (i := 1179) rfl)) rfl
set_option maxRecDepth 100000 in
theorem m_1182 : Cond.constant RX5 180 (-15728641 : Int32) ∈ W0 := w0_in (List.mem_append_right _ (List.mem_of_getElem? (i := 1182) rfl)) rfl
theorem cw_X5_176 : cwd RX5 176 yX5_plainMove cX5_plainMove 4 (some .int) true 4 := ⟨m_1179, m_1177, m_7, m_1178, by decide, by decide, by decide +kernel⟩
theorem dX5_moveAlong_0 : decode cX5_moveAlong 0 = .ok (.aload_n 0, 1) := by decide +kernel
theorem dX5_moveAlong_1 : decode cX5_moveAlong 1 = .ok (.getfield 26, 3) := by decide +kernel
theorem dX5_moveAlong_4 : decode cX5_moveAlong 4 = .ok (.getfield 54, 3) := by decide +kernel
theorem dX5_moveAlong_7 : decode cX5_moveAlong 7 = .ok (.iload_n 1, 1) := by decide +kernel
theorem dX5_moveAlong_8 : decode cX5_moveAlong 8 = .ok (.iaload, 1) := by decide +kernel
theorem dX5_moveAlong_9 : decode cX5_moveAlong 9 = .ok (.bipush 63, 2) := by decide +kernel
theorem dX5_moveAlong_11 : decode cX5_moveAlong 11 = .ok (.iand, 1) := by decide +kernel
theorem dX5_moveAlong_12 : decode cX5_moveAlong 12 = .ok (.istore 4, 2) := by decide +kernel
theorem dX5_moveAlong_14 : decode cX5_moveAlong 14 = .ok (.aload_n 0, 1) := by decide +kernel
theorem dX5_moveAlong_15 : decode cX5_moveAlong 15 = .ok (.getfield 26, 3) := by decide +kernel
theorem dX5_moveAlong_18 : decode cX5_moveAlong 18 = .ok (.getfield 54, 3) := by decide +kernel
theorem dX5_moveAlong_21 : decode cX5_moveAlong 21 = .ok (.iload_n 1, 1) := by decide +kernel
theorem dX5_moveAlong_22 : decode cX5_moveAlong 22 = .ok (.iaload, 1) := by decide +kernel
theorem dX5_moveAlong_23 : decode cX5_moveAlong 23 = .ok (.bipush 6, 2) := by decide +kernel
theorem dX5_moveAlong_25 : decode cX5_moveAlong 25 = .ok (.ishr, 1) := by decide +kernel
theorem dX5_moveAlong_26 : decode cX5_moveAlong 26 = .ok (.bipush 63, 2) := by decide +kernel
theorem dX5_moveAlong_28 : decode cX5_moveAlong 28 = .ok (.iand, 1) := by decide +kernel
theorem dX5_moveAlong_29 : decode cX5_moveAlong 29 = .ok (.istore 5, 2) := by decide +kernel
theorem dX5_moveAlong_31 : decode cX5_moveAlong 31 = .ok (.aload_n 0, 1) := by decide +kernel
theorem dX5_moveAlong_32 : decode cX5_moveAlong 32 = .ok (.getfield 26, 3) := by decide +kernel
theorem dX5_moveAlong_35 : decode cX5_moveAlong 35 = .ok (.getfield 54, 3) := by decide +kernel
theorem dX5_moveAlong_38 : decode cX5_moveAlong 38 = .ok (.iload_n 1, 1) := by decide +kernel
theorem dX5_moveAlong_39 : decode cX5_moveAlong 39 = .ok (.iaload, 1) := by decide +kernel
theorem dX5_moveAlong_40 : decode cX5_moveAlong 40 = .ok (.bipush 12, 2) := by decide +kernel
theorem dX5_moveAlong_42 : decode cX5_moveAlong 42 = .ok (.ishr, 1) := by decide +kernel
theorem dX5_moveAlong_43 : decode cX5_moveAlong 43 = .ok (.istore 6, 2) := by decide +kernel
theorem dX5_moveAlong_45 : decode cX5_moveAlong 45 = .ok (.iload 5, 2) := by decide +kernel
theorem dX5_moveAlong_47 : decode cX5_moveAlong 47 = .ok (.bipush 32, 2) := by decide +kernel
theorem dX5_moveAlong_49 : decode cX5_moveAlong 49 = .ok (.iand, 1) := by decide +kernel
theorem dX5_moveAlong_50 : decode cX5_moveAlong 50 = .ok (.ifCond .eq 24, 3) := by decide +kernel
theorem dX5_moveAlong_53 : decode cX5_moveAlong 53 = .ok (.aload_n 0, 1) := by decide +kernel
theorem dX5_moveAlong_54 : decode cX5_moveAlong 54 = .ok (.getfield 71, 3) := by decide +kernel
theorem dX5_moveAlong_57 : decode cX5_moveAlong 57 = .ok (.getfield 150, 3) := by decide +kernel
theorem dX5_moveAlong_60 : decode cX5_moveAlong 60 = .ok (.iload 4, 2) := by decide +kernel
theorem dX5_moveAlong_62 : decode cX5_moveAlong 62 = .ok (.lushr, 1) := by decide +kernel
theorem dX5_moveAlong_63 : decode cX5_moveAlong 63 = .ok (.lconst 1, 1) := by decide +kernel
theorem dX5_moveAlong_64 : decode cX5_moveAlong 64 = .ok (.land, 1) := by decide +kernel
theorem dX5_moveAlong_65 : decode cX5_moveAlong 65 = .ok (.lconst 0, 1) := by decide +kernel
theorem dX5_moveAlong_66 : decode cX5_moveAlong 66 = .ok (.lcmp, 1) := by decide +kernel
theorem dX5_moveAlong_67 : decode cX5_moveAlong 67 = .ok (.ifCond .eq 7, 3) := by decide +kernel
theorem dX5_moveAlong_70 : decode cX5_moveAlong 70 = .ok (.iconst 1, 1) := by decide +kernel
theorem dX5_moveAlong_71 : decode cX5_moveAlong 71 = .ok (.goto 4, 3) := by decide +kernel
theorem dX5_moveAlong_74 : decode cX5_moveAlong 74 = .ok (.iconst 0, 1) := by decide +kernel
theorem dX5_moveAlong_75 : decode cX5_moveAlong 75 = .ok (.istore 7, 2) := by decide +kernel
theorem dX5_moveAlong_77 : decode cX5_moveAlong 77 = .ok (.iload 7, 2) := by decide +kernel
theorem dX5_moveAlong_79 : decode cX5_moveAlong 79 = .ok (.ifCond .eq 22, 3) := by decide +kernel
theorem dX5_moveAlong_82 : decode cX5_moveAlong 82 = .ok (.aload_n 0, 1) := by decide +kernel
theorem dX5_moveAlong_83 : decode cX5_moveAlong 83 = .ok (.getfield 71, 3) := by decide +kernel
theorem dX5_moveAlong_86 : decode cX5_moveAlong 86 = .ok (.getfield 42, 3) := by decide +kernel
theorem dX5_moveAlong_89 : decode cX5_moveAlong 89 = .ok (.aload_n 0, 1) := by decide +kernel
theorem dX5_moveAlong_90 : decode cX5_moveAlong 90 = .ok (.getfield 71, 3) := by decide +kernel
theorem dX5_moveAlong_93 : decode cX5_moveAlong 93 = .ok (.iconst 0, 1) := by decide +kernel
theorem dX5_moveAlong_94 : decode cX5_moveAlong 94 = .ok (.invokevirtual 173, 3) := by decide +kernel
theorem dX5_moveAlong_97 : decode cX5_moveAlong 97 = .ok (.baload, 1) := by decide +kernel
theorem dX5_moveAlong_98 : decode cX5_moveAlong 98 = .ok (.goto 13, 3) := by decide +kernel
theorem dX5_moveAlong_101 : decode cX5_moveAlong 101 = .ok (.aload_n 0, 1) := by decide +kernel
theorem dX5_moveAlong_102 : decode cX5_moveAlong 102 = .ok (.getfield 71, 3) := by decide +kernel
theorem dX5_moveAlong_105 : decode cX5_moveAlong 105 = .ok (.getfield 42, 3) := by decide +kernel
theorem dX5_moveAlong_108 : decode cX5_moveAlong 108 = .ok (.iload 4, 2) := by decide +kernel
theorem dX5_moveAlong_110 : decode cX5_moveAlong 110 = .ok (.baload, 1) := by decide +kernel
theorem dX5_moveAlong_111 : decode cX5_moveAlong 111 = .ok (.istore 8, 2) := by decide +kernel
theorem dX5_moveAlong_113 : decode cX5_moveAlong 113 = .ok (.iload_n 2, 1) := by decide +kernel
theorem dX5_moveAlong_114 : decode cX5_moveAlong 114 = .ok (.iload 4, 2) := by decide +kernel
theorem dX5_moveAlong_116 : decode cX5_moveAlong 116 = .ok (.iload_n 3, 1) := by decide +kernel
theorem dX5_moveAlong_117 : decode cX5_moveAlong 117 = .ok (.iconst 1, 1) := by decide +kernel
theorem dX5_moveAlong_118 : decode cX5_moveAlong 118 = .ok (.ishr, 1) := by decide +kernel
theorem dX5_moveAlong_119 : decode cX5_moveAlong 119 = .ok (.iload 7, 2) := by decide +kernel
theorem dX5_moveAlong_121 : decode cX5_moveAlong 121 = .ok (.ifCond .eq 7, 3) := by decide +kernel
theorem dX5_moveAlong_124 : decode cX5_moveAlong 124 = .ok (.iconst 1, 1) := by decide +kernel
theorem dX5_moveAlong_125 : decode cX5_moveAlong 125 = .ok (.goto 4, 3) := by decide +kernel
theorem dX5_moveAlong_128 : decode cX5_moveAlong 128 = .ok (.iconst 0, 1) := by decide +kernel
theorem dX5_moveAlong_129 : decode cX5_moveAlong 129 = .ok (.invokestatic 176, 3) := by decide +kernel
theorem dX5_moveAlong_132 : decode cX5_moveAlong 132 = .ok (.istore 9, 2) := by decide +kernel
theorem dX5_moveAlong_134 : decode cX5_moveAlong 134 = .ok (.iload 8, 2) := by decide +kernel
theorem dX5_moveAlong_136 : decode cX5_moveAlong 136 = .ok (.ifCond .lt 18, 3) := by decide +kernel
theorem dX5_moveAlong_139 : decode cX5_moveAlong 139 = .ok (.iload 9, 2) := by decide +kernel
theorem dX5_moveAlong_141 : decode cX5_moveAlong 141 = .ok (.ldc 180, 2) := by decide +kernel
theorem dX5_moveAlong_143 : decode cX5_moveAlong 143 = .ok (.iand, 1) := by decide +kernel
theorem dX5_moveAlong_144 : decode cX5_moveAlong 144 = .ok (.iload 8, 2) := by decide +kernel
theorem dX5_moveAlong_146 : decode cX5_moveAlong 146 = .ok (.iconst 1, 1) := by decide +kernel
theorem dX5_moveAlong_147 : decode cX5_moveAlong 147 = .ok (.ishr, 1) := by decide +kernel
theorem dX5_moveAlong_148 : decode cX5_moveAlong 148 = .ok (.bipush 20, 2) := by decide +kernel
theorem dX5_moveAlong_150 : decode cX5_moveAlong 150 = .ok (.ishl, 1) := by decide +kernel
theorem dX5_moveAlong_151 : decode cX5_moveAlong 151 = .ok (.ior, 1) := by decide +kernel
theorem dX5_moveAlong_152 : decode cX5_moveAlong 152 = .ok (.istore 9, 2) := by decide +kernel
theorem dX5_moveAlong_154 : decode cX5_moveAlong 154 = .ok (.iload 5, 2) := by decide +kernel
theorem dX5_moveAlong_156 : decode cX5_moveAlong 156 = .ok (.bipush 16, 2) := by decide +kernel
theorem dX5_moveAlong_158 : decode cX5_moveAlong 158 = .ok (.iand, 1) := by decide +kernel
theorem dX5_moveAlong_159 : decode cX5_moveAlong 159 = .ok (.ifCond .eq 20, 3) := by decide +kernel
theorem dX5_moveAlong_162 : decode cX5_moveAlong 162 = .ok (.iload 6, 2) := by decide +kernel
theorem dX5_moveAlong_164 : decode cX5_moveAlong 164 = .ok (.iconst 1, 1) := by decide +kernel
theorem dX5_moveAlong_165 : decode cX5_moveAlong 165 = .ok (.if_icmp .le 14, 3) := by decide +kernel
theorem dX5_moveAlong_168 : decode cX5_moveAlong 168 = .ok (.iload 9, 2) := by decide +kernel
theorem dX5_moveAlong_170 : decode cX5_moveAlong 170 = .ok (.iload 6, 2) := by decide +kernel
theorem dX5_moveAlong_172 : decode cX5_moveAlong 172 = .ok (.bipush 26, 2) := by decide +kernel
theorem dX5_moveAlong_174 : decode cX5_moveAlong 174 = .ok (.ishl, 1) := by decide +kernel
theorem dX5_moveAlong_175 : decode cX5_moveAlong 175 = .ok (.ior, 1) := by decide +kernel
theorem dX5_moveAlong_176 : decode cX5_moveAlong 176 = .ok (.goto 5, 3) := by decide +kernel
theorem dX5_moveAlong_179 : decode cX5_moveAlong 179 = .ok (.iload 9, 2) := by decide +kernel
theorem dX5_moveAlong_181 : decode cX5_moveAlong 181 = .ok (.ireturn, 1) := by decide +kernel
def sX5_moveAlong_181 (h : Hp) (t0 : Int32) : Option (Int32 × Hp) := some (t0, h)
def sX5_moveAlong_179 (h : Hp) (x9 : Int32) : Option (Int32 × Hp) := sX5_moveAlong_181  h x9
def sX5_moveAlong_154 (h : Hp) (x5 : Int32) (x6 : Int32) (x9 : Int32) : Option (Int32 × Hp) := br ((x5 &&& (16 : Int32)) = 0) (sX5_moveAlong_179  h x9) (br (x6 ≤ (1 : Int32)) (sX5_moveAlong_179  h x9) (sX5_moveAlong_181  h (x9 ||| (x6 <<< ((26 : Int32) &&& 31)))))
def sX5_moveAlong_129 (h : Hp) (x5 : Int32) (x6 : Int32) (x8 : Int32) (t0 : Int32) (t1 : Int32) (t2 : Int32) (t3 : Int32) : Option (Int32 × Hp) := cl (sX5_plainMove h t3 t2 t1 t0) fun o_1 => br (x8 < 0) (sX5_moveAlong_154  o_1.2 x5 x6 o_1.1) (nm ((o_1.1 &&& (-15728641 : Int32)) ||| ((x8 >>> ((1 : Int32) &&& 31)) <<< ((20 : Int32) &&& 31))) fun v_3 => sX5_moveAlong_154  o_1.2 x5 x6 v_3)
def sX5_moveAlong_111 (h : Hp) (x2 : Int32) (x3 : Int32) (x4 : Int32) (x5 : Int32) (x6 : Int32) (x7 : Int32) (t0 : Int32) : Option (Int32 × Hp) := br (x7 = 0) (sX5_moveAlong_129  h x5 x6 t0 (0 : Int32) (x3 >>> ((1 : Int32) &&& 31)) x4 x2) (sX5_moveAlong_129  h x5 x6 t0 (1 : Int32) (x3 >>> ((1 : Int32) &&& 31)) x4 x2)
def sX5_moveAlong_75 (h : Hp) (x0 : Nat) (x2 : Int32) (x3 : Int32) (x4 : Int32) (x5 : Int32) (x6 : Int32) (t0 : Int32) : Option (Int32 × Hp) := br (t0 = 0) (cl (hR h x0 4) fun r_2 => cl (hR h r_2 0) fun r_3 => gd (inB x4 (hN h r_3)) <| sX5_moveAlong_111  h x2 x3 x4 x5 x6 t0 (hI h r_3 x4.toNatClampNeg)) (cl (hR h x0 4) fun r_5 => cl (hR h r_5 0) fun r_6 => cl (hR h x0 4) fun r_7 => cl (sX3_passSquare h r_7 (0 : Int32)) fun o_8 => gd (inB o_8.1 (hN o_8.2 r_6)) <| sX5_moveAlong_111  o_8.2 x2 x3 x4 x5 x6 t0 (hI o_8.2 r_6 o_8.1.toNatClampNeg))
def sX5_moveAlong_74 (h : Hp) (x0 : Nat) (x2 : Int32) (x3 : Int32) (x4 : Int32) (x5 : Int32) (x6 : Int32) : Option (Int32 × Hp) := sX5_moveAlong_75  h x0 x2 x3 x4 x5 x6 (0 : Int32)
def sX5_moveAlong (h : Hp) (x0 : Nat) (x1 : Int32) (x2 : Int32) (x3 : Int32) : Option (Int32 × Hp) := cl (hR h x0 1) fun r_1 => cl (hR h r_1 1) fun r_2 => gd (inB x1 (hN h r_2)) <| nm ((hI h r_2 x1.toNatClampNeg) &&& (63 : Int32)) fun v_4 => cl (hR h x0 1) fun r_5 => cl (hR h r_5 1) fun r_6 => gd (inB x1 (hN h r_6)) <| nm (((hI h r_6 x1.toNatClampNeg) >>> ((6 : Int32) &&& 31)) &&& (63 : Int32)) fun v_8 => cl (hR h x0 1) fun r_9 => cl (hR h r_9 1) fun r_10 => gd (inB x1 (hN h r_10)) <| nm ((hI h r_10 x1.toNatClampNeg) >>> ((12 : Int32) &&& 31)) fun v_12 => br ((v_8 &&& (32 : Int32)) = 0) (sX5_moveAlong_74  h x0 x2 x3 v_4 v_8 v_12) (cl (hR h x0 4) fun r_14 => br ((lg_cmp ((((hJ h r_14 10).toUInt64 >>> (v_4.toInt64.toUInt64 &&& Int64.toUInt64 63)).toInt64) &&& (1 : Int64)) (0 : Int64)) = 0) (sX5_moveAlong_74  h x0 x2 x3 v_4 v_8 v_12) (sX5_moveAlong_75  h x0 x2 x3 v_4 v_8 v_12 (1 : Int32)))
set_option maxRecDepth 20000 in
theorem moX5_moveAlong_181 {o : Int32 × Hp} {h : Hp} {t0 : Int32} (hE : sX5_moveAlong_181 h  t0 = some o) : Le h o.2 := by
  exact le_some2 hE
set_option maxRecDepth 20000 in
theorem moX5_moveAlong_179 {o : Int32 × Hp} {h : Hp} {x9 : Int32} (hE : sX5_moveAlong_179 h x9 = some o) : Le h o.2 := by
  exact moX5_moveAlong_181 hE
set_option maxRecDepth 20000 in
theorem moX5_moveAlong_154 {o : Int32 × Hp} {h : Hp} {x5 : Int32} {x6 : Int32} {x9 : Int32} (hE : sX5_moveAlong_154 h x5 x6 x9 = some o) : Le h o.2 := by
  rcases br_e hE with ⟨_, hE⟩ | ⟨_, hE⟩
  · exact moX5_moveAlong_179 hE
  · rcases br_e hE with ⟨_, hE⟩ | ⟨_, hE⟩
    · exact moX5_moveAlong_179 hE
    · exact moX5_moveAlong_181 hE
set_option maxRecDepth 20000 in
theorem moX5_moveAlong_129 {o : Int32 × Hp} {h : Hp} {x5 : Int32} {x6 : Int32} {x8 : Int32} {t0 : Int32} {t1 : Int32} {t2 : Int32} {t3 : Int32} (hE : sX5_moveAlong_129 h x5 x6 x8 t0 t1 t2 t3 = some o) : Le h o.2 := by
  obtain ⟨o_1, eo_1, hE⟩ := cl_e hE
  refine (moX5_plainMove eo_1).tr ?_
  rcases br_e hE with ⟨_, hE⟩ | ⟨_, hE⟩
  · exact moX5_moveAlong_154 hE
  · obtain ⟨v_3, ev_3, hE⟩ := nm_e2 hE
    exact moX5_moveAlong_154 hE
set_option maxRecDepth 20000 in
theorem moX5_moveAlong_111 {o : Int32 × Hp} {h : Hp} {x2 : Int32} {x3 : Int32} {x4 : Int32} {x5 : Int32} {x6 : Int32} {x7 : Int32} {t0 : Int32} (hE : sX5_moveAlong_111 h x2 x3 x4 x5 x6 x7 t0 = some o) : Le h o.2 := by
  rcases br_e hE with ⟨_, hE⟩ | ⟨_, hE⟩
  · exact moX5_moveAlong_129 hE
  · exact moX5_moveAlong_129 hE
set_option maxRecDepth 20000 in
theorem moX5_moveAlong_75 {o : Int32 × Hp} {h : Hp} {x0 : Nat} {x2 : Int32} {x3 : Int32} {x4 : Int32} {x5 : Int32} {x6 : Int32} {t0 : Int32} (hE : sX5_moveAlong_75 h x0 x2 x3 x4 x5 x6 t0 = some o) : Le h o.2 := by
  rcases br_e hE with ⟨_, hE⟩ | ⟨_, hE⟩
  · obtain ⟨r_2, er_2, hE⟩ := cl_e hE
    obtain ⟨r_3, er_3, hE⟩ := cl_e hE
    obtain ⟨g_4, hE⟩ := gd_e hE
    exact moX5_moveAlong_111 hE
  · obtain ⟨r_5, er_5, hE⟩ := cl_e hE
    obtain ⟨r_6, er_6, hE⟩ := cl_e hE
    obtain ⟨r_7, er_7, hE⟩ := cl_e hE
    obtain ⟨o_8, eo_8, hE⟩ := cl_e hE
    refine (moX3_passSquare eo_8).tr ?_
    obtain ⟨g_9, hE⟩ := gd_e hE
    exact moX5_moveAlong_111 hE
set_option maxRecDepth 20000 in
theorem moX5_moveAlong_74 {o : Int32 × Hp} {h : Hp} {x0 : Nat} {x2 : Int32} {x3 : Int32} {x4 : Int32} {x5 : Int32} {x6 : Int32} (hE : sX5_moveAlong_74 h x0 x2 x3 x4 x5 x6 = some o) : Le h o.2 := by
  exact moX5_moveAlong_75 hE
set_option maxRecDepth 20000 in
theorem moX5_moveAlong {o : Int32 × Hp} {h : Hp} {x0 : Nat} {x1 : Int32} {x2 : Int32} {x3 : Int32} (hE : sX5_moveAlong h x0 x1 x2 x3 = some o) : Le h o.2 := by
  obtain ⟨r_1, er_1, hE⟩ := cl_e hE
  obtain ⟨r_2, er_2, hE⟩ := cl_e hE
  obtain ⟨g_3, hE⟩ := gd_e hE
  obtain ⟨v_4, ev_4, hE⟩ := nm_e2 hE
  obtain ⟨r_5, er_5, hE⟩ := cl_e hE
  obtain ⟨r_6, er_6, hE⟩ := cl_e hE
  obtain ⟨g_7, hE⟩ := gd_e hE
  obtain ⟨v_8, ev_8, hE⟩ := nm_e2 hE
  obtain ⟨r_9, er_9, hE⟩ := cl_e hE
  obtain ⟨r_10, er_10, hE⟩ := cl_e hE
  obtain ⟨g_11, hE⟩ := gd_e hE
  obtain ⟨v_12, ev_12, hE⟩ := nm_e2 hE
  rcases br_e hE with ⟨_, hE⟩ | ⟨_, hE⟩
  · exact moX5_moveAlong_74 hE
  · obtain ⟨r_14, er_14, hE⟩ := cl_e hE
    rcases br_e hE with ⟨_, hE⟩ | ⟨_, hE⟩
    · exact moX5_moveAlong_74 hE
    · exact moX5_moveAlong_75 hE
set_option maxRecDepth 20000 in
theorem bX5_moveAlong_181 {p : Program} {l : Launch} {e : Env} {s : State} {m : MethodId} {args : Array Value} {below : List Frame} {meth : Method} {c : Code} {X : Ec} {h0 : Hp} {o : Int32 × Hp} (C : Cx X p s m args meth c RX5 cX5_moveAlong 10 (some .int) "moveAlong") {h : Hp} {t0 : Int32} {H : Heap} {locs : List Loc} (hkm : Km h0 h) (hW : Wx X h H) (hZ : va_S (aA (eB X)) s.heap H locs) (ls : Array Slot) (hl : lv_has ls 10 []) (hE : sX5_moveAlong_181 h  t0 = some o) : W p l e (rm 1 23) s m args below meth c H locs 0 0 (MQ below (QI X h0 o.1 o.2) args s 0 0 (aA (eB X))) (F0 m 181 ls [.int t0]) := by
  exact x_iret C rfl rfl hW hZ hkm hE dX5_moveAlong_181
set_option maxRecDepth 20000 in
theorem bX5_moveAlong_179 {p : Program} {l : Launch} {e : Env} {s : State} {m : MethodId} {args : Array Value} {below : List Frame} {meth : Method} {c : Code} {X : Ec} {h0 : Hp} {o : Int32 × Hp} (C : Cx X p s m args meth c RX5 cX5_moveAlong 10 (some .int) "moveAlong") {h : Hp} {x9 : Int32} {H : Heap} {locs : List Loc} (hkm : Km h0 h) (hW : Wx X h H) (hZ : va_S (aA (eB X)) s.heap H locs) (ls : Array Slot) (hl : lv_has ls 10 [(9, .int x9)]) (hE : sX5_moveAlong_179 h x9 = some o) : W p l e (rm 1 23) s m args below meth c H locs 0 0 (MQ below (QI X h0 o.1 o.2) args s 0 0 (aA (eB X))) (F0 m 179 ls []) := by
  refine lv_iload C.1 C.2.1 dX5_moveAlong_179 (lv_at hl 0 rfl) ?_
  exact bX5_moveAlong_181 C hkm hW hZ _ (lv_sub hl [] rfl) hE
set_option maxRecDepth 20000 in
theorem bX5_moveAlong_154 {p : Program} {l : Launch} {e : Env} {s : State} {m : MethodId} {args : Array Value} {below : List Frame} {meth : Method} {c : Code} {X : Ec} {h0 : Hp} {o : Int32 × Hp} (C : Cx X p s m args meth c RX5 cX5_moveAlong 10 (some .int) "moveAlong") {h : Hp} {x5 : Int32} {x6 : Int32} {x9 : Int32} {H : Heap} {locs : List Loc} (hkm : Km h0 h) (hW : Wx X h H) (hZ : va_S (aA (eB X)) s.heap H locs) (ls : Array Slot) (hl : lv_has ls 10 [(5, .int x5), (6, .int x6), (9, .int x9)]) (hE : sX5_moveAlong_154 h x5 x6 x9 = some o) : W p l e (rm 1 23) s m args below meth c H locs 0 0 (MQ below (QI X h0 o.1 o.2) args s 0 0 (aA (eB X))) (F0 m 154 ls []) := by
  refine lv_iload C.1 C.2.1 dX5_moveAlong_154 (lv_at hl 0 rfl) ?_
  refine lv_bipush (v := (16 : Int32)) C.1 C.2.1 dX5_moveAlong_156 (by decide) ?_
  refine lv_iand C.1 C.2.1 dX5_moveAlong_158 ?_
  refine lv_if_eq (tgt := 179) C.1 C.2.1 dX5_moveAlong_159 (by decide) (fun c_1 => ?_) (fun c_1 => ?_)
  · have hE := br_p hE c_1
    exact bX5_moveAlong_179 C hkm hW hZ _ (lv_sub hl [2] rfl) hE
  · have hE := br_n hE c_1
    refine lv_iload C.1 C.2.1 dX5_moveAlong_162 (lv_at hl 1 rfl) ?_
    refine lv_iconst (v := (1 : Int32)) C.1 C.2.1 dX5_moveAlong_164 (by decide) ?_
    refine lv_icmp_le (tgt := 179) C.1 C.2.1 dX5_moveAlong_165 (by decide) (fun c_2 => ?_) (fun c_2 => ?_)
    · have hE := br_p hE c_2
      exact bX5_moveAlong_179 C hkm hW hZ _ (lv_sub hl [2] rfl) hE
    · have hE := br_n hE c_2
      refine lv_iload C.1 C.2.1 dX5_moveAlong_168 (lv_at hl 2 rfl) ?_
      refine lv_iload C.1 C.2.1 dX5_moveAlong_170 (lv_at hl 1 rfl) ?_
      refine lv_bipush (v := (26 : Int32)) C.1 C.2.1 dX5_moveAlong_172 (by decide) ?_
      refine lv_ishl C.1 C.2.1 dX5_moveAlong_174 ?_
      refine lv_ior C.1 C.2.1 dX5_moveAlong_175 ?_
      refine lv_goto (tgt := 181) C.1 C.2.1 dX5_moveAlong_176 (by decide) ?_
      exact bX5_moveAlong_181 C hkm hW hZ _ (lv_sub hl [] rfl) hE
set_option maxRecDepth 20000 in
theorem bX5_moveAlong_129 {p : Program} {l : Launch} {e : Env} {s : State} {m : MethodId} {args : Array Value} {below : List Frame} {meth : Method} {c : Code} {X : Ec} {h0 : Hp} {o : Int32 × Hp} (C : Cx X p s m args meth c RX5 cX5_moveAlong 10 (some .int) "moveAlong") {h : Hp} {x5 : Int32} {x6 : Int32} {x8 : Int32} {t0 : Int32} {t1 : Int32} {t2 : Int32} {t3 : Int32} {H : Heap} {locs : List Loc} (hkm : Km h0 h) (hW : Wx X h H) (hZ : va_S (aA (eB X)) s.heap H locs) (ls : Array Slot) (hl : lv_has ls 10 [(5, .int x5), (6, .int x6), (8, .int x8)]) (hE : sX5_moveAlong_129 h x5 x6 x8 t0 t1 t2 t3 = some o) : W p l e (rm 1 23) s m args below meth c H locs 0 0 (MQ below (QI X h0 o.1 o.2) args s 0 0 (aA (eB X))) (F0 m 129 ls [.int t0, .int t1, .int t2, .int t3]) := by
  obtain ⟨o_1, eo_1, hE⟩ := cl_e hE
  refine x_kI (o := o_1) (z_runS (As := [.int t3, .int t2, .int t1, .int t0]) (rest := []) C (ct_X5_plainMove l X eo_1) cw_X5_176 hW hZ rfl hl.1 (Nat.le_of_ble_eq_true rfl) rfl dX5_moveAlong_129 ⟨Nat.le_of_ble_eq_true rfl, Nat.le_of_ble_eq_true rfl⟩ ⟨Nat.le_refl _, Nat.le_refl _⟩) hZ (fun _ _ hW km hZ => ?_)
  replace hkm := hkm.tr km
  refine lv_istore (lv' := [(9, .int o_1.1), (5, .int x5), (6, .int x6), (8, .int x8)]) C.1 C.2.1 dX5_moveAlong_132 hl (by decide) rfl (fun ls hl => ?_)
  refine lv_iload C.1 C.2.1 dX5_moveAlong_134 (lv_at hl 3 rfl) ?_
  refine lv_if_lt (tgt := 154) C.1 C.2.1 dX5_moveAlong_136 (by decide) (fun c_2 => ?_) (fun c_2 => ?_)
  · have hE := br_p hE c_2
    exact bX5_moveAlong_154 C hkm hW hZ _ (lv_sub hl [1, 2, 0] rfl) hE
  · have hE := br_n hE c_2
    refine lv_iload C.1 C.2.1 dX5_moveAlong_139 (lv_at hl 0 rfl) ?_
    refine lv_ldc (v := (-15728641 : Int32)) C.1 C.2.1 C.2.2.2.1 (C.2.2.2.2.1 _ m_1182) dX5_moveAlong_141 ?_
    refine lv_iand C.1 C.2.1 dX5_moveAlong_143 ?_
    refine lv_iload C.1 C.2.1 dX5_moveAlong_144 (lv_at hl 3 rfl) ?_
    refine lv_iconst (v := (1 : Int32)) C.1 C.2.1 dX5_moveAlong_146 (by decide) ?_
    refine lv_ishr C.1 C.2.1 dX5_moveAlong_147 ?_
    refine lv_bipush (v := (20 : Int32)) C.1 C.2.1 dX5_moveAlong_148 (by decide) ?_
    refine lv_ishl C.1 C.2.1 dX5_moveAlong_150 ?_
    refine lv_ior C.1 C.2.1 dX5_moveAlong_151 ?_
    obtain ⟨v_3, ev_3, hE⟩ := nm_e2 hE
    refine x_nmI ev_3 ?_
    refine lv_istore (lv' := [(9, .int v_3), (5, .int x5), (6, .int x6), (8, .int x8)]) C.1 C.2.1 dX5_moveAlong_152 hl (by decide) rfl (fun ls hl => ?_)
    exact bX5_moveAlong_154 C hkm hW hZ _ (lv_sub hl [1, 2, 0] rfl) hE
set_option maxRecDepth 20000 in
theorem bX5_moveAlong_111 {p : Program} {l : Launch} {e : Env} {s : State} {m : MethodId} {args : Array Value} {below : List Frame} {meth : Method} {c : Code} {X : Ec} {h0 : Hp} {o : Int32 × Hp} (C : Cx X p s m args meth c RX5 cX5_moveAlong 10 (some .int) "moveAlong") {h : Hp} {x2 : Int32} {x3 : Int32} {x4 : Int32} {x5 : Int32} {x6 : Int32} {x7 : Int32} {t0 : Int32} {H : Heap} {locs : List Loc} (hkm : Km h0 h) (hW : Wx X h H) (hZ : va_S (aA (eB X)) s.heap H locs) (ls : Array Slot) (hl : lv_has ls 10 [(2, .int x2), (3, .int x3), (4, .int x4), (5, .int x5), (6, .int x6), (7, .int x7)]) (hE : sX5_moveAlong_111 h x2 x3 x4 x5 x6 x7 t0 = some o) : W p l e (rm 1 23) s m args below meth c H locs 0 0 (MQ below (QI X h0 o.1 o.2) args s 0 0 (aA (eB X))) (F0 m 111 ls [.int t0]) := by
  refine lv_istore (lv' := [(8, .int t0), (2, .int x2), (3, .int x3), (4, .int x4), (5, .int x5), (6, .int x6), (7, .int x7)]) C.1 C.2.1 dX5_moveAlong_111 hl (by decide) rfl (fun ls hl => ?_)
  refine lv_iload_n C.1 C.2.1 dX5_moveAlong_113 rfl (lv_at hl 1 rfl) ?_
  refine lv_iload C.1 C.2.1 dX5_moveAlong_114 (lv_at hl 3 rfl) ?_
  refine lv_iload_n C.1 C.2.1 dX5_moveAlong_116 rfl (lv_at hl 2 rfl) ?_
  refine lv_iconst (v := (1 : Int32)) C.1 C.2.1 dX5_moveAlong_117 (by decide) ?_
  refine lv_ishr C.1 C.2.1 dX5_moveAlong_118 ?_
  refine lv_iload C.1 C.2.1 dX5_moveAlong_119 (lv_at hl 6 rfl) ?_
  refine lv_if_eq (tgt := 128) C.1 C.2.1 dX5_moveAlong_121 (by decide) (fun c_1 => ?_) (fun c_1 => ?_)
  · have hE := br_p hE c_1
    refine lv_iconst (v := (0 : Int32)) C.1 C.2.1 dX5_moveAlong_128 (by decide) ?_
    exact bX5_moveAlong_129 C hkm hW hZ _ (lv_sub hl [4, 5, 0] rfl) hE
  · have hE := br_n hE c_1
    refine lv_iconst (v := (1 : Int32)) C.1 C.2.1 dX5_moveAlong_124 (by decide) ?_
    refine lv_goto (tgt := 129) C.1 C.2.1 dX5_moveAlong_125 (by decide) ?_
    exact bX5_moveAlong_129 C hkm hW hZ _ (lv_sub hl [4, 5, 0] rfl) hE
set_option maxRecDepth 20000 in
theorem bX5_moveAlong_75 {p : Program} {l : Launch} {e : Env} {s : State} {m : MethodId} {args : Array Value} {below : List Frame} {meth : Method} {c : Code} {X : Ec} {h0 : Hp} {o : Int32 × Hp} (C : Cx X p s m args meth c RX5 cX5_moveAlong 10 (some .int) "moveAlong") {h : Hp} {x0 : Nat} {x2 : Int32} {x3 : Int32} {x4 : Int32} {x5 : Int32} {x6 : Int32} {t0 : Int32} {H : Heap} {locs : List Loc} (k_x0 : hK h x0 = 5) (hkm : Km h0 h) (hW : Wx X h H) (hZ : va_S (aA (eB X)) s.heap H locs) (ls : Array Slot) (hl : lv_has ls 10 [(0, .ref x0), (2, .int x2), (3, .int x3), (4, .int x4), (5, .int x5), (6, .int x6)]) (hE : sX5_moveAlong_75 h x0 x2 x3 x4 x5 x6 t0 = some o) : W p l e (rm 1 23) s m args below meth c H locs 0 0 (MQ below (QI X h0 o.1 o.2) args s 0 0 (aA (eB X))) (F0 m 75 ls [.int t0]) := by
  refine lv_istore (lv' := [(7, .int t0), (0, .ref x0), (2, .int x2), (3, .int x3), (4, .int x4), (5, .int x5), (6, .int x6)]) C.1 C.2.1 dX5_moveAlong_75 hl (by decide) rfl (fun ls hl => ?_)
  refine lv_iload C.1 C.2.1 dX5_moveAlong_77 (lv_at hl 0 rfl) ?_
  refine lv_if_eq (tgt := 101) C.1 C.2.1 dX5_moveAlong_79 (by decide) (fun c_1 => ?_) (fun c_1 => ?_)
  · have hE := br_p hE c_1
    refine lv_aload_n C.1 C.2.1 dX5_moveAlong_101 rfl (lv_at hl 1 rfl) ?_
    obtain ⟨r_2, er_2, hE⟩ := cl_e hE
    refine gf_X5_71 C hW k_x0 er_2 dX5_moveAlong_102 (fun k_r_2 => ?_)
    obtain ⟨r_3, er_3, hE⟩ := cl_e hE
    refine gf_X5_42 C hW k_r_2 er_3 dX5_moveAlong_105 (fun k_r_3 => ?_)
    refine lv_iload C.1 C.2.1 dX5_moveAlong_108 (lv_at hl 4 rfl) ?_
    obtain ⟨g_4, hE⟩ := gd_e hE
    refine y_bald C hW k_r_3 g_4 dX5_moveAlong_110 ?_
    exact bX5_moveAlong_111 C hkm hW hZ _ (lv_sub hl [2, 3, 4, 5, 6, 0] rfl) hE
  · have hE := br_n hE c_1
    refine lv_aload_n C.1 C.2.1 dX5_moveAlong_82 rfl (lv_at hl 1 rfl) ?_
    obtain ⟨r_5, er_5, hE⟩ := cl_e hE
    refine gf_X5_71 C hW k_x0 er_5 dX5_moveAlong_83 (fun k_r_5 => ?_)
    obtain ⟨r_6, er_6, hE⟩ := cl_e hE
    refine gf_X5_42 C hW k_r_5 er_6 dX5_moveAlong_86 (fun k_r_6 => ?_)
    refine lv_aload_n C.1 C.2.1 dX5_moveAlong_89 rfl (lv_at hl 1 rfl) ?_
    obtain ⟨r_7, er_7, hE⟩ := cl_e hE
    refine gf_X5_71 C hW k_x0 er_7 dX5_moveAlong_90 (fun k_r_7 => ?_)
    refine lv_iconst (v := (0 : Int32)) C.1 C.2.1 dX5_moveAlong_93 (by decide) ?_
    obtain ⟨o_8, eo_8, hE⟩ := cl_e hE
    refine x_kI (o := o_8) (z_runV (As := [.int (0 : Int32)]) (rest := [.ref r_6]) C (ct_X3_passSquare l X k_r_7 eo_8) cw_X5_173 hW hZ k_r_7 (by decide) rfl rfl rfl hl.1 (Nat.le_of_ble_eq_true rfl) rfl dX5_moveAlong_94 ⟨Nat.le_of_ble_eq_true rfl, Nat.le_of_ble_eq_true rfl⟩ ⟨Nat.le_refl _, Nat.le_refl _⟩) hZ (fun _ _ hW km hZ => ?_)
    replace hkm := hkm.tr km
    replace k_x0 := km.at k_x0 (by decide)
    replace k_r_6 := km.at k_r_6 (by decide)
    obtain ⟨g_9, hE⟩ := gd_e hE
    refine y_bald C hW k_r_6 g_9 dX5_moveAlong_97 ?_
    refine lv_goto (tgt := 111) C.1 C.2.1 dX5_moveAlong_98 (by decide) ?_
    exact bX5_moveAlong_111 C hkm hW hZ _ (lv_sub hl [2, 3, 4, 5, 6, 0] rfl) hE
set_option maxRecDepth 20000 in
theorem bX5_moveAlong_74 {p : Program} {l : Launch} {e : Env} {s : State} {m : MethodId} {args : Array Value} {below : List Frame} {meth : Method} {c : Code} {X : Ec} {h0 : Hp} {o : Int32 × Hp} (C : Cx X p s m args meth c RX5 cX5_moveAlong 10 (some .int) "moveAlong") {h : Hp} {x0 : Nat} {x2 : Int32} {x3 : Int32} {x4 : Int32} {x5 : Int32} {x6 : Int32} {H : Heap} {locs : List Loc} (k_x0 : hK h x0 = 5) (hkm : Km h0 h) (hW : Wx X h H) (hZ : va_S (aA (eB X)) s.heap H locs) (ls : Array Slot) (hl : lv_has ls 10 [(0, .ref x0), (2, .int x2), (3, .int x3), (4, .int x4), (5, .int x5), (6, .int x6)]) (hE : sX5_moveAlong_74 h x0 x2 x3 x4 x5 x6 = some o) : W p l e (rm 1 23) s m args below meth c H locs 0 0 (MQ below (QI X h0 o.1 o.2) args s 0 0 (aA (eB X))) (F0 m 74 ls []) := by
  refine lv_iconst (v := (0 : Int32)) C.1 C.2.1 dX5_moveAlong_74 (by decide) ?_
  exact bX5_moveAlong_75 C k_x0 hkm hW hZ _ (lv_sub hl [0, 1, 2, 3, 4, 5] rfl) hE
set_option maxRecDepth 20000 in
theorem ct_X5_moveAlong (l : Launch) (X : Ec) {h : Hp} {x0 : Nat} {x1 : Int32} {x2 : Int32} {x3 : Int32} {o : Int32 × Hp} (k_x0 : hK h x0 = 5) (hE : sX5_moveAlong h x0 x1 x2 x3 = some o) : MetI l yX5_moveAlong cX5_moveAlong 10 (some .int) 1 23 X [.ref x0, .int x1, .int x2, .int x3] h o := by
  refine x_met (by decide) (Nat.le_of_ble_eq_true rfl) ?_
  intro p e s m below meth c ls C hl hW hZ
  have hl : lv_has ls 10 [(0, .ref x0), (1, .int x1), (2, .int x2), (3, .int x3)] := hl
  have hkm : Km h h := Km.rf h
  refine lv_aload_n C.1 C.2.1 dX5_moveAlong_0 rfl (lv_at hl 0 rfl) ?_
  obtain ⟨r_1, er_1, hE⟩ := cl_e hE
  refine gf_X5_26 C hW k_x0 er_1 dX5_moveAlong_1 (fun k_r_1 => ?_)
  obtain ⟨r_2, er_2, hE⟩ := cl_e hE
  refine gf_X5_54 C hW k_r_1 er_2 dX5_moveAlong_4 (fun k_r_2 => ?_)
  refine lv_iload_n C.1 C.2.1 dX5_moveAlong_7 rfl (lv_at hl 1 rfl) ?_
  obtain ⟨g_3, hE⟩ := gd_e hE
  refine y_iald C hW k_r_2 g_3 dX5_moveAlong_8 ?_
  refine lv_bipush (v := (63 : Int32)) C.1 C.2.1 dX5_moveAlong_9 (by decide) ?_
  refine lv_iand C.1 C.2.1 dX5_moveAlong_11 ?_
  obtain ⟨v_4, ev_4, hE⟩ := nm_e2 hE
  refine x_nmI ev_4 ?_
  refine lv_istore (lv' := [(4, .int v_4), (0, .ref x0), (1, .int x1), (2, .int x2), (3, .int x3)]) C.1 C.2.1 dX5_moveAlong_12 hl (by decide) rfl (fun ls hl => ?_)
  refine lv_aload_n C.1 C.2.1 dX5_moveAlong_14 rfl (lv_at hl 1 rfl) ?_
  obtain ⟨r_5, er_5, hE⟩ := cl_e hE
  refine gf_X5_26 C hW k_x0 er_5 dX5_moveAlong_15 (fun k_r_5 => ?_)
  obtain ⟨r_6, er_6, hE⟩ := cl_e hE
  refine gf_X5_54 C hW k_r_5 er_6 dX5_moveAlong_18 (fun k_r_6 => ?_)
  refine lv_iload_n C.1 C.2.1 dX5_moveAlong_21 rfl (lv_at hl 2 rfl) ?_
  obtain ⟨g_7, hE⟩ := gd_e hE
  refine y_iald C hW k_r_6 g_7 dX5_moveAlong_22 ?_
  refine lv_bipush (v := (6 : Int32)) C.1 C.2.1 dX5_moveAlong_23 (by decide) ?_
  refine lv_ishr C.1 C.2.1 dX5_moveAlong_25 ?_
  refine lv_bipush (v := (63 : Int32)) C.1 C.2.1 dX5_moveAlong_26 (by decide) ?_
  refine lv_iand C.1 C.2.1 dX5_moveAlong_28 ?_
  obtain ⟨v_8, ev_8, hE⟩ := nm_e2 hE
  refine x_nmI ev_8 ?_
  refine lv_istore (lv' := [(5, .int v_8), (4, .int v_4), (0, .ref x0), (1, .int x1), (2, .int x2), (3, .int x3)]) C.1 C.2.1 dX5_moveAlong_29 hl (by decide) rfl (fun ls hl => ?_)
  refine lv_aload_n C.1 C.2.1 dX5_moveAlong_31 rfl (lv_at hl 2 rfl) ?_
  obtain ⟨r_9, er_9, hE⟩ := cl_e hE
  refine gf_X5_26 C hW k_x0 er_9 dX5_moveAlong_32 (fun k_r_9 => ?_)
  obtain ⟨r_10, er_10, hE⟩ := cl_e hE
  refine gf_X5_54 C hW k_r_9 er_10 dX5_moveAlong_35 (fun k_r_10 => ?_)
  refine lv_iload_n C.1 C.2.1 dX5_moveAlong_38 rfl (lv_at hl 3 rfl) ?_
  obtain ⟨g_11, hE⟩ := gd_e hE
  refine y_iald C hW k_r_10 g_11 dX5_moveAlong_39 ?_
  refine lv_bipush (v := (12 : Int32)) C.1 C.2.1 dX5_moveAlong_40 (by decide) ?_
  refine lv_ishr C.1 C.2.1 dX5_moveAlong_42 ?_
  obtain ⟨v_12, ev_12, hE⟩ := nm_e2 hE
  refine x_nmI ev_12 ?_
  refine lv_istore (lv' := [(6, .int v_12), (5, .int v_8), (4, .int v_4), (0, .ref x0), (1, .int x1), (2, .int x2), (3, .int x3)]) C.1 C.2.1 dX5_moveAlong_43 hl (by decide) rfl (fun ls hl => ?_)
  refine lv_iload C.1 C.2.1 dX5_moveAlong_45 (lv_at hl 1 rfl) ?_
  refine lv_bipush (v := (32 : Int32)) C.1 C.2.1 dX5_moveAlong_47 (by decide) ?_
  refine lv_iand C.1 C.2.1 dX5_moveAlong_49 ?_
  refine lv_if_eq (tgt := 74) C.1 C.2.1 dX5_moveAlong_50 (by decide) (fun c_13 => ?_) (fun c_13 => ?_)
  · have hE := br_p hE c_13
    exact bX5_moveAlong_74 C k_x0 hkm hW hZ _ (lv_sub hl [3, 5, 6, 2, 1, 0] rfl) hE
  · have hE := br_n hE c_13
    refine lv_aload_n C.1 C.2.1 dX5_moveAlong_53 rfl (lv_at hl 3 rfl) ?_
    obtain ⟨r_14, er_14, hE⟩ := cl_e hE
    refine gf_X5_71 C hW k_x0 er_14 dX5_moveAlong_54 (fun k_r_14 => ?_)
    refine gf_X5_150 C hW k_r_14 dX5_moveAlong_57 ?_
    refine lv_iload C.1 C.2.1 dX5_moveAlong_60 (lv_at hl 2 rfl) ?_
    refine lv_lushr C.1 C.2.1 dX5_moveAlong_62 rfl ?_
    refine lv_lconst (v := (1 : Int64)) C.1 C.2.1 dX5_moveAlong_63 (by decide) ?_
    refine lv_land C.1 C.2.1 dX5_moveAlong_64 ?_
    refine lv_lconst (v := (0 : Int64)) C.1 C.2.1 dX5_moveAlong_65 (by decide) ?_
    refine W.lcmp C.1 C.2.1 dX5_moveAlong_66 ?_
    refine lv_if_eq (tgt := 74) C.1 C.2.1 dX5_moveAlong_67 (by decide) (fun c_15 => ?_) (fun c_15 => ?_)
    · have hE := br_p hE c_15
      exact bX5_moveAlong_74 C k_x0 hkm hW hZ _ (lv_sub hl [3, 5, 6, 2, 1, 0] rfl) hE
    · have hE := br_n hE c_15
      refine lv_iconst (v := (1 : Int32)) C.1 C.2.1 dX5_moveAlong_70 (by decide) ?_
      refine lv_goto (tgt := 75) C.1 C.2.1 dX5_moveAlong_71 (by decide) ?_
      exact bX5_moveAlong_75 C k_x0 hkm hW hZ _ (lv_sub hl [3, 5, 6, 2, 1, 0] rfl) hE
theorem dX5_takenBy_0 : decode cX5_takenBy 0 = .ok (.iload_n 0, 1) := by decide +kernel
theorem dX5_takenBy_1 : decode cX5_takenBy 1 = .ok (.bipush 20, 2) := by decide +kernel
theorem dX5_takenBy_3 : decode cX5_takenBy 3 = .ok (.ishr, 1) := by decide +kernel
theorem dX5_takenBy_4 : decode cX5_takenBy 4 = .ok (.bipush 15, 2) := by decide +kernel
theorem dX5_takenBy_6 : decode cX5_takenBy 6 = .ok (.iand, 1) := by decide +kernel
theorem dX5_takenBy_7 : decode cX5_takenBy 7 = .ok (.istore_n 1, 1) := by decide +kernel
theorem dX5_takenBy_8 : decode cX5_takenBy 8 = .ok (.iload_n 1, 1) := by decide +kernel
theorem dX5_takenBy_9 : decode cX5_takenBy 9 = .ok (.bipush 15, 2) := by decide +kernel
theorem dX5_takenBy_11 : decode cX5_takenBy 11 = .ok (.if_icmp .ne 7, 3) := by decide +kernel
theorem dX5_takenBy_14 : decode cX5_takenBy 14 = .ok (.iconst (-1), 1) := by decide +kernel
theorem dX5_takenBy_15 : decode cX5_takenBy 15 = .ok (.goto 4, 3) := by decide +kernel
theorem dX5_takenBy_18 : decode cX5_takenBy 18 = .ok (.iload_n 1, 1) := by decide +kernel
theorem dX5_takenBy_19 : decode cX5_takenBy 19 = .ok (.ireturn, 1) := by decide +kernel
def sX5_takenBy_19 (h : Hp) (t0 : Int32) : Option (Int32 × Hp) := some (t0, h)
def sX5_takenBy (h : Hp) (x0 : Int32) : Option (Int32 × Hp) := nm ((x0 >>> ((20 : Int32) &&& 31)) &&& (15 : Int32)) fun v_1 => br (v_1 = (15 : Int32)) (sX5_takenBy_19  h (-1 : Int32)) (sX5_takenBy_19  h v_1)
set_option maxRecDepth 20000 in
theorem moX5_takenBy_19 {o : Int32 × Hp} {h : Hp} {t0 : Int32} (hE : sX5_takenBy_19 h  t0 = some o) : Le h o.2 := by
  exact le_some2 hE
set_option maxRecDepth 20000 in
theorem moX5_takenBy {o : Int32 × Hp} {h : Hp} {x0 : Int32} (hE : sX5_takenBy h x0 = some o) : Le h o.2 := by
  obtain ⟨v_1, ev_1, hE⟩ := nm_e2 hE
  rcases br_e hE with ⟨_, hE⟩ | ⟨_, hE⟩
  · exact moX5_takenBy_19 hE
  · exact moX5_takenBy_19 hE
set_option maxRecDepth 20000 in
theorem bX5_takenBy_19 {p : Program} {l : Launch} {e : Env} {s : State} {m : MethodId} {args : Array Value} {below : List Frame} {meth : Method} {c : Code} {X : Ec} {h0 : Hp} {o : Int32 × Hp} (C : Cx X p s m args meth c RX5 cX5_takenBy 2 (some .int) "takenBy") {h : Hp} {t0 : Int32} {H : Heap} {locs : List Loc} (hkm : Km h0 h) (hW : Wx X h H) (hZ : va_S (aA (eB X)) s.heap H locs) (ls : Array Slot) (hl : lv_has ls 2 []) (hE : sX5_takenBy_19 h  t0 = some o) : W p l e (rm 0 0) s m args below meth c H locs 0 0 (MQ below (QI X h0 o.1 o.2) args s 0 0 (aA (eB X))) (F0 m 19 ls [.int t0]) := by
  exact x_iret C rfl rfl hW hZ hkm hE dX5_takenBy_19
set_option maxRecDepth 20000 in
theorem ct_X5_takenBy (l : Launch) (X : Ec) {h : Hp} {x0 : Int32} {o : Int32 × Hp} (hE : sX5_takenBy h x0 = some o) : MetI l yX5_takenBy cX5_takenBy 2 (some .int) 0 0 X [.int x0] h o := by
  refine x_met (by decide) (Nat.le_of_ble_eq_true rfl) ?_
  intro p e s m below meth c ls C hl hW hZ
  have hl : lv_has ls 2 [(0, .int x0)] := hl
  have hkm : Km h h := Km.rf h
  refine lv_iload_n C.1 C.2.1 dX5_takenBy_0 rfl (lv_at hl 0 rfl) ?_
  refine lv_bipush (v := (20 : Int32)) C.1 C.2.1 dX5_takenBy_1 (by decide) ?_
  refine lv_ishr C.1 C.2.1 dX5_takenBy_3 ?_
  refine lv_bipush (v := (15 : Int32)) C.1 C.2.1 dX5_takenBy_4 (by decide) ?_
  refine lv_iand C.1 C.2.1 dX5_takenBy_6 ?_
  obtain ⟨v_1, ev_1, hE⟩ := nm_e2 hE
  refine x_nmI ev_1 ?_
  refine lv_istore_n (lv' := [(1, .int v_1), (0, .int x0)]) C.1 C.2.1 dX5_takenBy_7 rfl hl (by decide) rfl (fun ls hl => ?_)
  refine lv_iload_n C.1 C.2.1 dX5_takenBy_8 rfl (lv_at hl 0 rfl) ?_
  refine lv_bipush (v := (15 : Int32)) C.1 C.2.1 dX5_takenBy_9 (by decide) ?_
  refine lv_icmp_ne (tgt := 18) C.1 C.2.1 dX5_takenBy_11 (by decide) (fun c_2 => ?_) (fun c_2 => ?_)
  · have hE := br_n hE c_2
    refine lv_iload_n C.1 C.2.1 dX5_takenBy_18 rfl (lv_at hl 0 rfl) ?_
    exact bX5_takenBy_19 C hkm hW hZ _ (lv_sub hl [] rfl) hE
  · have hE := br_p hE c_2
    refine lv_iconst (v := (-1 : Int32)) C.1 C.2.1 dX5_takenBy_14 (by decide) ?_
    refine lv_goto (tgt := 19) C.1 C.2.1 dX5_takenBy_15 (by decide) ?_
    exact bX5_takenBy_19 C hkm hW hZ _ (lv_sub hl [] rfl) hE
theorem dX5_comeTo_0 : decode cX5_comeTo 0 = .ok (.iload_n 0, 1) := by decide +kernel
theorem dX5_comeTo_1 : decode cX5_comeTo 1 = .ok (.bipush 63, 2) := by decide +kernel
theorem dX5_comeTo_3 : decode cX5_comeTo 3 = .ok (.iand, 1) := by decide +kernel
theorem dX5_comeTo_4 : decode cX5_comeTo 4 = .ok (.ireturn, 1) := by decide +kernel
def sX5_comeTo (h : Hp) (x0 : Int32) : Option (Int32 × Hp) := some (x0 &&& (63 : Int32), h)
set_option maxRecDepth 20000 in
theorem moX5_comeTo {o : Int32 × Hp} {h : Hp} {x0 : Int32} (hE : sX5_comeTo h x0 = some o) : Le h o.2 := by
  exact le_some2 hE
set_option maxRecDepth 20000 in
theorem ct_X5_comeTo (l : Launch) (X : Ec) {h : Hp} {x0 : Int32} {o : Int32 × Hp} (hE : sX5_comeTo h x0 = some o) : MetI l yX5_comeTo cX5_comeTo 1 (some .int) 0 0 X [.int x0] h o := by
  refine x_met (by decide) (Nat.le_of_ble_eq_true rfl) ?_
  intro p e s m below meth c ls C hl hW hZ
  have hl : lv_has ls 1 [(0, .int x0)] := hl
  have hkm : Km h h := Km.rf h
  refine lv_iload_n C.1 C.2.1 dX5_comeTo_0 rfl (lv_at hl 0 rfl) ?_
  refine lv_bipush (v := (63 : Int32)) C.1 C.2.1 dX5_comeTo_1 (by decide) ?_
  refine lv_iand C.1 C.2.1 dX5_comeTo_3 ?_
  exact x_iret C rfl rfl hW hZ hkm hE dX5_comeTo_4
theorem dX5_manOf_0 : decode cX5_manOf 0 = .ok (.iload_n 0, 1) := by decide +kernel
theorem dX5_manOf_1 : decode cX5_manOf 1 = .ok (.bipush 12, 2) := by decide +kernel
theorem dX5_manOf_3 : decode cX5_manOf 3 = .ok (.ishr, 1) := by decide +kernel
theorem dX5_manOf_4 : decode cX5_manOf 4 = .ok (.bipush 15, 2) := by decide +kernel
theorem dX5_manOf_6 : decode cX5_manOf 6 = .ok (.iand, 1) := by decide +kernel
theorem dX5_manOf_7 : decode cX5_manOf 7 = .ok (.ireturn, 1) := by decide +kernel
def sX5_manOf (h : Hp) (x0 : Int32) : Option (Int32 × Hp) := some ((x0 >>> ((12 : Int32) &&& 31)) &&& (15 : Int32), h)
set_option maxRecDepth 20000 in
theorem moX5_manOf {o : Int32 × Hp} {h : Hp} {x0 : Int32} (hE : sX5_manOf h x0 = some o) : Le h o.2 := by
  exact le_some2 hE
set_option maxRecDepth 20000 in
theorem ct_X5_manOf (l : Launch) (X : Ec) {h : Hp} {x0 : Int32} {o : Int32 × Hp} (hE : sX5_manOf h x0 = some o) : MetI l yX5_manOf cX5_manOf 1 (some .int) 0 0 X [.int x0] h o := by
  refine x_met (by decide) (Nat.le_of_ble_eq_true rfl) ?_
  intro p e s m below meth c ls C hl hW hZ
  have hl : lv_has ls 1 [(0, .int x0)] := hl
  have hkm : Km h h := Km.rf h
  refine lv_iload_n C.1 C.2.1 dX5_manOf_0 rfl (lv_at hl 0 rfl) ?_
  refine lv_bipush (v := (12 : Int32)) C.1 C.2.1 dX5_manOf_1 (by decide) ?_
  refine lv_ishr C.1 C.2.1 dX5_manOf_3 ?_
  refine lv_bipush (v := (15 : Int32)) C.1 C.2.1 dX5_manOf_4 (by decide) ?_
  refine lv_iand C.1 C.2.1 dX5_manOf_6 ?_
  exact x_iret C rfl rfl hW hZ hkm hE dX5_manOf_7
set_option maxRecDepth 100000 in
theorem m_133 : Cond.fieldLink RX5 191 (TX1 18).1 (TX1 18).2.1 (TX1 18).2.2.1 ∈ W0 := w0_in (List.mem_append_right _ (List.mem_of_getElem? (i := 133) rfl)) rfl
set_option maxRecDepth 100000 in
theorem m_1187 : Cond.methodLink RX5 181 yX5_takenBy ∈ W0 := w0_in (List.mem_append_right _ (List.mem_of_getElem? (i := 1187) rfl)) rfl
set_option maxRecDepth 100000 in
theorem m_1188 : Cond.static yX5_takenBy ∈ W0 := w0_in (List.mem_append_right _ (List.mem_of_getElem? (i := 1188) rfl)) rfl
set_option maxRecDepth 100000 in
theorem m_1189 : Cond.code yX5_takenBy cX5_takenBy 2 (some .int) ∈ W0 := w0_in (List.mem_append_right _ (List.mem_of_getElem? (i := 1189) rfl)) rfl
set_option maxRecDepth 100000 in
theorem m_1190 : Cond.methodLink RX5 184 yX5_comeTo ∈ W0 := w0_in (List.mem_append_right _ (List.mem_of_getElem? (i := 1190) rfl)) rfl
set_option maxRecDepth 100000 in
theorem m_1191 : Cond.static yX5_comeTo ∈ W0 := w0_in (List.mem_append_right _ (List.mem_of_getElem? (i := 1191) rfl)) rfl
set_option maxRecDepth 100000 in
theorem m_1192 : Cond.code yX5_comeTo cX5_comeTo 1 (some .int) ∈ W0 := w0_in (List.mem_append_right _ (List.mem_of_getElem? (i := 1192) rfl)) rfl
set_option maxRecDepth 100000 in
theorem m_1193 : Cond.methodLink RX5 194 yX5_manOf ∈ W0 := w0_in (List.mem_append_right _ (List.mem_of_getElem? (i := 1193) rfl)) rfl
set_option maxRecDepth 100000 in
theorem m_1194 : Cond.static yX5_manOf ∈ W0 := w0_in (List.mem_append_right _ (List.mem_of_getElem? (i := 1194) rfl)) rfl
set_option maxRecDepth 100000 in
theorem m_1195 : Cond.code yX5_manOf cX5_manOf 1 (some .int) ∈ W0 := w0_in (List.mem_append_right _ (List.mem_of_getElem? (i := 1195) rfl)) rfl
section
variable {p : Program} {l : Launch} {e : Env} {R : Room} {s : State} {m : MethodId} {args : Array Value} {below : List Frame} {meth : Method} {c : Code} {H : Heap} {locs : List Loc} {cells slots : Nat} {Q : State → Prop}
variable {cc : ByteArray} {pc : Nat} {ls : Array Slot} {rest : List Value} {X : Ec} {h h1 : Hp} {nL : Nat} {rt : Option FieldType} {mn : String}
theorem gf_X5_191 {a r : Nat} (C : Cx X p s m args meth c RX5 cc nL rt mn) (hW : Wx X h H) (ha : hK h a = 1) (hr : hR h a 18 = some r) (hdg : decode cc pc = .ok (.getfield 191, 3)) (kk : hK h r = 17 → W p l e R s m args below meth c H locs cells slots Q (F0 m (pc + 3) ls (.ref r :: rest))) : W p l e R s m args below meth c H locs cells slots Q (F0 m pc ls (.ref a :: rest)) :=
  y_getr C hW ha i_X1 (by decide) rfl (by decide) m_133 rfl rfl hr hdg kk
end
theorem cw_X5_184 : cwd RX5 184 yX5_comeTo cX5_comeTo 1 (some .int) true 1 := ⟨m_1192, m_1190, m_7, m_1191, by decide, by decide, by decide +kernel⟩
theorem cw_X5_194 : cwd RX5 194 yX5_manOf cX5_manOf 1 (some .int) true 1 := ⟨m_1195, m_1193, m_7, m_1194, by decide, by decide, by decide +kernel⟩
theorem cw_X5_181 : cwd RX5 181 yX5_takenBy cX5_takenBy 2 (some .int) true 1 := ⟨m_1189, m_1187, m_7, m_1188, by decide, by decide, by decide +kernel⟩
theorem dX5_choices_0 : decode cX5_choices 0 = .ok (.aload_n 0, 1) := by decide +kernel
theorem dX5_choices_1 : decode cX5_choices 1 = .ok (.getfield 22, 3) := by decide +kernel
theorem dX5_choices_4 : decode cX5_choices 4 = .ok (.bipush 8, 2) := by decide +kernel
theorem dX5_choices_6 : decode cX5_choices 6 = .ok (.invokevirtual 104, 3) := by decide +kernel
theorem dX5_choices_9 : decode cX5_choices 9 = .ok (.ifCond .eq 15, 3) := by decide +kernel
theorem dX5_choices_12 : decode cX5_choices 12 = .ok (.iload_n 1, 1) := by decide +kernel
theorem dX5_choices_13 : decode cX5_choices 13 = .ok (.invokestatic 181, 3) := by decide +kernel
theorem dX5_choices_16 : decode cX5_choices 16 = .ok (.iconst (-1), 1) := by decide +kernel
theorem dX5_choices_17 : decode cX5_choices 17 = .ok (.if_icmp .eq 7, 3) := by decide +kernel
theorem dX5_choices_20 : decode cX5_choices 20 = .ok (.iconst 1, 1) := by decide +kernel
theorem dX5_choices_21 : decode cX5_choices 21 = .ok (.goto 4, 3) := by decide +kernel
theorem dX5_choices_24 : decode cX5_choices 24 = .ok (.iconst 0, 1) := by decide +kernel
theorem dX5_choices_25 : decode cX5_choices 25 = .ok (.istore_n 2, 1) := by decide +kernel
theorem dX5_choices_26 : decode cX5_choices 26 = .ok (.iload_n 2, 1) := by decide +kernel
theorem dX5_choices_27 : decode cX5_choices 27 = .ok (.ifCond .ne 39, 3) := by decide +kernel
theorem dX5_choices_30 : decode cX5_choices 30 = .ok (.aload_n 0, 1) := by decide +kernel
theorem dX5_choices_31 : decode cX5_choices 31 = .ok (.getfield 22, 3) := by decide +kernel
theorem dX5_choices_34 : decode cX5_choices 34 = .ok (.iload_n 1, 1) := by decide +kernel
theorem dX5_choices_35 : decode cX5_choices 35 = .ok (.invokestatic 184, 3) := by decide +kernel
theorem dX5_choices_38 : decode cX5_choices 38 = .ok (.aload_n 0, 1) := by decide +kernel
theorem dX5_choices_39 : decode cX5_choices 39 = .ok (.getfield 71, 3) := by decide +kernel
theorem dX5_choices_42 : decode cX5_choices 42 = .ok (.getfield 78, 3) := by decide +kernel
theorem dX5_choices_45 : decode cX5_choices 45 = .ok (.invokevirtual 187, 3) := by decide +kernel
theorem dX5_choices_48 : decode cX5_choices 48 = .ok (.ifCond .eq 18, 3) := by decide +kernel
theorem dX5_choices_51 : decode cX5_choices 51 = .ok (.aload_n 0, 1) := by decide +kernel
theorem dX5_choices_52 : decode cX5_choices 52 = .ok (.getfield 22, 3) := by decide +kernel
theorem dX5_choices_55 : decode cX5_choices 55 = .ok (.getfield 191, 3) := by decide +kernel
theorem dX5_choices_58 : decode cX5_choices 58 = .ok (.iload_n 1, 1) := by decide +kernel
theorem dX5_choices_59 : decode cX5_choices 59 = .ok (.invokestatic 194, 3) := by decide +kernel
theorem dX5_choices_62 : decode cX5_choices 62 = .ok (.iaload, 1) := by decide +kernel
theorem dX5_choices_63 : decode cX5_choices 63 = .ok (.goto 4, 3) := by decide +kernel
theorem dX5_choices_66 : decode cX5_choices 66 = .ok (.iconst 0, 1) := by decide +kernel
theorem dX5_choices_67 : decode cX5_choices 67 = .ok (.ireturn, 1) := by decide +kernel
def sX5_choices_67 (h : Hp) (t0 : Int32) : Option (Int32 × Hp) := some (t0, h)
def sX5_choices_66 (h : Hp) : Option (Int32 × Hp) := sX5_choices_67  h (0 : Int32)
def sX5_choices_25 (h : Hp) (x0 : Nat) (x1 : Int32) (t0 : Int32) : Option (Int32 × Hp) := br (t0 = 0) (cl (hR h x0 0) fun r_2 => cl (sX5_comeTo h x1) fun o_3 => cl (hR o_3.2 x0 4) fun r_4 => cl (sX1_isLast o_3.2 r_2 o_3.1 (hI o_3.2 r_4 5)) fun o_5 => br (o_5.1 = 0) (sX5_choices_66  o_5.2 ) (cl (hR o_5.2 x0 0) fun r_7 => cl (hR o_5.2 r_7 18) fun r_8 => cl (sX5_manOf o_5.2 x1) fun o_9 => gd (inB o_9.1 (hN o_9.2 r_8)) <| sX5_choices_67  o_9.2 (hI o_9.2 r_8 o_9.1.toNatClampNeg))) (sX5_choices_66  h )
def sX5_choices_24 (h : Hp) (x0 : Nat) (x1 : Int32) : Option (Int32 × Hp) := sX5_choices_25  h x0 x1 (0 : Int32)
def sX5_choices (h : Hp) (x0 : Nat) (x1 : Int32) : Option (Int32 × Hp) := cl (hR h x0 0) fun r_1 => cl (sX1_has h r_1 (8 : Int32)) fun o_2 => br (o_2.1 = 0) (sX5_choices_24  o_2.2 x0 x1) (cl (sX5_takenBy o_2.2 x1) fun o_4 => br (o_4.1 = (-1 : Int32)) (sX5_choices_24  o_4.2 x0 x1) (sX5_choices_25  o_4.2 x0 x1 (1 : Int32)))
set_option maxRecDepth 20000 in
theorem moX5_choices_67 {o : Int32 × Hp} {h : Hp} {t0 : Int32} (hE : sX5_choices_67 h  t0 = some o) : Le h o.2 := by
  exact le_some2 hE
set_option maxRecDepth 20000 in
theorem moX5_choices_66 {o : Int32 × Hp} {h : Hp} (hE : sX5_choices_66 h  = some o) : Le h o.2 := by
  exact moX5_choices_67 hE
set_option maxRecDepth 20000 in
theorem moX5_choices_25 {o : Int32 × Hp} {h : Hp} {x0 : Nat} {x1 : Int32} {t0 : Int32} (hE : sX5_choices_25 h x0 x1 t0 = some o) : Le h o.2 := by
  rcases br_e hE with ⟨_, hE⟩ | ⟨_, hE⟩
  · obtain ⟨r_2, er_2, hE⟩ := cl_e hE
    obtain ⟨o_3, eo_3, hE⟩ := cl_e hE
    refine (moX5_comeTo eo_3).tr ?_
    obtain ⟨r_4, er_4, hE⟩ := cl_e hE
    obtain ⟨o_5, eo_5, hE⟩ := cl_e hE
    refine (moX1_isLast eo_5).tr ?_
    rcases br_e hE with ⟨_, hE⟩ | ⟨_, hE⟩
    · exact moX5_choices_66 hE
    · obtain ⟨r_7, er_7, hE⟩ := cl_e hE
      obtain ⟨r_8, er_8, hE⟩ := cl_e hE
      obtain ⟨o_9, eo_9, hE⟩ := cl_e hE
      refine (moX5_manOf eo_9).tr ?_
      obtain ⟨g_10, hE⟩ := gd_e hE
      exact moX5_choices_67 hE
  · exact moX5_choices_66 hE
set_option maxRecDepth 20000 in
theorem moX5_choices_24 {o : Int32 × Hp} {h : Hp} {x0 : Nat} {x1 : Int32} (hE : sX5_choices_24 h x0 x1 = some o) : Le h o.2 := by
  exact moX5_choices_25 hE
set_option maxRecDepth 20000 in
theorem moX5_choices {o : Int32 × Hp} {h : Hp} {x0 : Nat} {x1 : Int32} (hE : sX5_choices h x0 x1 = some o) : Le h o.2 := by
  obtain ⟨r_1, er_1, hE⟩ := cl_e hE
  obtain ⟨o_2, eo_2, hE⟩ := cl_e hE
  refine (moX1_has eo_2).tr ?_
  rcases br_e hE with ⟨_, hE⟩ | ⟨_, hE⟩
  · exact moX5_choices_24 hE
  · obtain ⟨o_4, eo_4, hE⟩ := cl_e hE
    refine (moX5_takenBy eo_4).tr ?_
    rcases br_e hE with ⟨_, hE⟩ | ⟨_, hE⟩
    · exact moX5_choices_24 hE
    · exact moX5_choices_25 hE
set_option maxRecDepth 20000 in
theorem bX5_choices_67 {p : Program} {l : Launch} {e : Env} {s : State} {m : MethodId} {args : Array Value} {below : List Frame} {meth : Method} {c : Code} {X : Ec} {h0 : Hp} {o : Int32 × Hp} (C : Cx X p s m args meth c RX5 cX5_choices 3 (some .int) "choices") {h : Hp} {t0 : Int32} {H : Heap} {locs : List Loc} (hkm : Km h0 h) (hW : Wx X h H) (hZ : va_S (aA (eB X)) s.heap H locs) (ls : Array Slot) (hl : lv_has ls 3 []) (hE : sX5_choices_67 h  t0 = some o) : W p l e (rm 1 22) s m args below meth c H locs 0 0 (MQ below (QI X h0 o.1 o.2) args s 0 0 (aA (eB X))) (F0 m 67 ls [.int t0]) := by
  exact x_iret C rfl rfl hW hZ hkm hE dX5_choices_67
set_option maxRecDepth 20000 in
theorem bX5_choices_66 {p : Program} {l : Launch} {e : Env} {s : State} {m : MethodId} {args : Array Value} {below : List Frame} {meth : Method} {c : Code} {X : Ec} {h0 : Hp} {o : Int32 × Hp} (C : Cx X p s m args meth c RX5 cX5_choices 3 (some .int) "choices") {h : Hp} {H : Heap} {locs : List Loc} (hkm : Km h0 h) (hW : Wx X h H) (hZ : va_S (aA (eB X)) s.heap H locs) (ls : Array Slot) (hl : lv_has ls 3 []) (hE : sX5_choices_66 h  = some o) : W p l e (rm 1 22) s m args below meth c H locs 0 0 (MQ below (QI X h0 o.1 o.2) args s 0 0 (aA (eB X))) (F0 m 66 ls []) := by
  refine lv_iconst (v := (0 : Int32)) C.1 C.2.1 dX5_choices_66 (by decide) ?_
  exact bX5_choices_67 C hkm hW hZ _ (lv_sub hl [] rfl) hE
set_option maxRecDepth 20000 in
theorem bX5_choices_25 {p : Program} {l : Launch} {e : Env} {s : State} {m : MethodId} {args : Array Value} {below : List Frame} {meth : Method} {c : Code} {X : Ec} {h0 : Hp} {o : Int32 × Hp} (C : Cx X p s m args meth c RX5 cX5_choices 3 (some .int) "choices") {h : Hp} {x0 : Nat} {x1 : Int32} {t0 : Int32} {H : Heap} {locs : List Loc} (k_x0 : hK h x0 = 5) (hkm : Km h0 h) (hW : Wx X h H) (hZ : va_S (aA (eB X)) s.heap H locs) (ls : Array Slot) (hl : lv_has ls 3 [(0, .ref x0), (1, .int x1)]) (hE : sX5_choices_25 h x0 x1 t0 = some o) : W p l e (rm 1 22) s m args below meth c H locs 0 0 (MQ below (QI X h0 o.1 o.2) args s 0 0 (aA (eB X))) (F0 m 25 ls [.int t0]) := by
  refine lv_istore_n (lv' := [(2, .int t0), (0, .ref x0), (1, .int x1)]) C.1 C.2.1 dX5_choices_25 rfl hl (by decide) rfl (fun ls hl => ?_)
  refine lv_iload_n C.1 C.2.1 dX5_choices_26 rfl (lv_at hl 0 rfl) ?_
  refine lv_if_ne (tgt := 66) C.1 C.2.1 dX5_choices_27 (by decide) (fun c_1 => ?_) (fun c_1 => ?_)
  · have hE := br_n hE c_1
    exact bX5_choices_66 C hkm hW hZ _ (lv_sub hl [] rfl) hE
  · have hE := br_p hE c_1
    refine lv_aload_n C.1 C.2.1 dX5_choices_30 rfl (lv_at hl 1 rfl) ?_
    obtain ⟨r_2, er_2, hE⟩ := cl_e hE
    refine gf_X5_22 C hW k_x0 er_2 dX5_choices_31 (fun k_r_2 => ?_)
    refine lv_iload_n C.1 C.2.1 dX5_choices_34 rfl (lv_at hl 2 rfl) ?_
    obtain ⟨o_3, eo_3, hE⟩ := cl_e hE
    refine x_kI (o := o_3) (z_runS (As := [.int x1]) (rest := [.ref r_2]) C (ct_X5_comeTo l X eo_3) cw_X5_184 hW hZ rfl hl.1 (Nat.le_of_ble_eq_true rfl) rfl dX5_choices_35 ⟨Nat.le_of_ble_eq_true rfl, Nat.le_of_ble_eq_true rfl⟩ ⟨Nat.le_refl _, Nat.le_refl _⟩) hZ (fun _ _ hW km hZ => ?_)
    replace hkm := hkm.tr km
    replace k_x0 := km.at k_x0 (by decide)
    replace k_r_2 := km.at k_r_2 (by decide)
    refine lv_aload_n C.1 C.2.1 dX5_choices_38 rfl (lv_at hl 1 rfl) ?_
    obtain ⟨r_4, er_4, hE⟩ := cl_e hE
    refine gf_X5_71 C hW k_x0 er_4 dX5_choices_39 (fun k_r_4 => ?_)
    refine gf_X5_78 C hW k_r_4 dX5_choices_42 ?_
    obtain ⟨o_5, eo_5, hE⟩ := cl_e hE
    refine x_kI (o := o_5) (z_runV (As := [.int o_3.1, .int (hI o_3.2 r_4 5)]) (rest := []) C (ct_X1_isLast l X k_r_2 eo_5) cw_X5_187 hW hZ k_r_2 (by decide) rfl rfl rfl hl.1 (Nat.le_of_ble_eq_true rfl) rfl dX5_choices_45 ⟨Nat.le_of_ble_eq_true rfl, Nat.le_of_ble_eq_true rfl⟩ ⟨Nat.le_refl _, Nat.le_refl _⟩) hZ (fun _ _ hW km hZ => ?_)
    replace hkm := hkm.tr km
    replace k_x0 := km.at k_x0 (by decide)
    refine lv_if_eq (tgt := 66) C.1 C.2.1 dX5_choices_48 (by decide) (fun c_6 => ?_) (fun c_6 => ?_)
    · have hE := br_p hE c_6
      exact bX5_choices_66 C hkm hW hZ _ (lv_sub hl [] rfl) hE
    · have hE := br_n hE c_6
      refine lv_aload_n C.1 C.2.1 dX5_choices_51 rfl (lv_at hl 1 rfl) ?_
      obtain ⟨r_7, er_7, hE⟩ := cl_e hE
      refine gf_X5_22 C hW k_x0 er_7 dX5_choices_52 (fun k_r_7 => ?_)
      obtain ⟨r_8, er_8, hE⟩ := cl_e hE
      refine gf_X5_191 C hW k_r_7 er_8 dX5_choices_55 (fun k_r_8 => ?_)
      refine lv_iload_n C.1 C.2.1 dX5_choices_58 rfl (lv_at hl 2 rfl) ?_
      obtain ⟨o_9, eo_9, hE⟩ := cl_e hE
      refine x_kI (o := o_9) (z_runS (As := [.int x1]) (rest := [.ref r_8]) C (ct_X5_manOf l X eo_9) cw_X5_194 hW hZ rfl hl.1 (Nat.le_of_ble_eq_true rfl) rfl dX5_choices_59 ⟨Nat.le_of_ble_eq_true rfl, Nat.le_of_ble_eq_true rfl⟩ ⟨Nat.le_refl _, Nat.le_refl _⟩) hZ (fun _ _ hW km hZ => ?_)
      replace hkm := hkm.tr km
      replace k_x0 := km.at k_x0 (by decide)
      replace k_r_8 := km.at k_r_8 (by decide)
      obtain ⟨g_10, hE⟩ := gd_e hE
      refine y_iald C hW k_r_8 g_10 dX5_choices_62 ?_
      refine lv_goto (tgt := 67) C.1 C.2.1 dX5_choices_63 (by decide) ?_
      exact bX5_choices_67 C hkm hW hZ _ (lv_sub hl [] rfl) hE
set_option maxRecDepth 20000 in
theorem bX5_choices_24 {p : Program} {l : Launch} {e : Env} {s : State} {m : MethodId} {args : Array Value} {below : List Frame} {meth : Method} {c : Code} {X : Ec} {h0 : Hp} {o : Int32 × Hp} (C : Cx X p s m args meth c RX5 cX5_choices 3 (some .int) "choices") {h : Hp} {x0 : Nat} {x1 : Int32} {H : Heap} {locs : List Loc} (k_x0 : hK h x0 = 5) (hkm : Km h0 h) (hW : Wx X h H) (hZ : va_S (aA (eB X)) s.heap H locs) (ls : Array Slot) (hl : lv_has ls 3 [(0, .ref x0), (1, .int x1)]) (hE : sX5_choices_24 h x0 x1 = some o) : W p l e (rm 1 22) s m args below meth c H locs 0 0 (MQ below (QI X h0 o.1 o.2) args s 0 0 (aA (eB X))) (F0 m 24 ls []) := by
  refine lv_iconst (v := (0 : Int32)) C.1 C.2.1 dX5_choices_24 (by decide) ?_
  exact bX5_choices_25 C k_x0 hkm hW hZ _ (lv_sub hl [0, 1] rfl) hE
set_option maxRecDepth 20000 in
theorem ct_X5_choices (l : Launch) (X : Ec) {h : Hp} {x0 : Nat} {x1 : Int32} {o : Int32 × Hp} (k_x0 : hK h x0 = 5) (hE : sX5_choices h x0 x1 = some o) : MetI l yX5_choices cX5_choices 3 (some .int) 1 22 X [.ref x0, .int x1] h o := by
  refine x_met (by decide) (Nat.le_of_ble_eq_true rfl) ?_
  intro p e s m below meth c ls C hl hW hZ
  have hl : lv_has ls 3 [(0, .ref x0), (1, .int x1)] := hl
  have hkm : Km h h := Km.rf h
  refine lv_aload_n C.1 C.2.1 dX5_choices_0 rfl (lv_at hl 0 rfl) ?_
  obtain ⟨r_1, er_1, hE⟩ := cl_e hE
  refine gf_X5_22 C hW k_x0 er_1 dX5_choices_1 (fun k_r_1 => ?_)
  refine lv_bipush (v := (8 : Int32)) C.1 C.2.1 dX5_choices_4 (by decide) ?_
  obtain ⟨o_2, eo_2, hE⟩ := cl_e hE
  refine x_kI (o := o_2) (z_runV (As := [.int (8 : Int32)]) (rest := []) C (ct_X1_has l X k_r_1 eo_2) cw_X5_104 hW hZ k_r_1 (by decide) rfl rfl rfl hl.1 (Nat.le_of_ble_eq_true rfl) rfl dX5_choices_6 ⟨Nat.le_of_ble_eq_true rfl, Nat.le_of_ble_eq_true rfl⟩ ⟨Nat.le_refl _, Nat.le_refl _⟩) hZ (fun _ _ hW km hZ => ?_)
  replace hkm := hkm.tr km
  replace k_x0 := km.at k_x0 (by decide)
  refine lv_if_eq (tgt := 24) C.1 C.2.1 dX5_choices_9 (by decide) (fun c_3 => ?_) (fun c_3 => ?_)
  · have hE := br_p hE c_3
    exact bX5_choices_24 C k_x0 hkm hW hZ _ (lv_sub hl [0, 1] rfl) hE
  · have hE := br_n hE c_3
    refine lv_iload_n C.1 C.2.1 dX5_choices_12 rfl (lv_at hl 1 rfl) ?_
    obtain ⟨o_4, eo_4, hE⟩ := cl_e hE
    refine x_kI (o := o_4) (z_runS (As := [.int x1]) (rest := []) C (ct_X5_takenBy l X eo_4) cw_X5_181 hW hZ rfl hl.1 (Nat.le_of_ble_eq_true rfl) rfl dX5_choices_13 ⟨Nat.le_of_ble_eq_true rfl, Nat.le_of_ble_eq_true rfl⟩ ⟨Nat.le_refl _, Nat.le_refl _⟩) hZ (fun _ _ hW km hZ => ?_)
    replace hkm := hkm.tr km
    replace k_x0 := km.at k_x0 (by decide)
    refine lv_iconst (v := (-1 : Int32)) C.1 C.2.1 dX5_choices_16 (by decide) ?_
    refine lv_icmp_eq (tgt := 24) C.1 C.2.1 dX5_choices_17 (by decide) (fun c_5 => ?_) (fun c_5 => ?_)
    · have hE := br_p hE c_5
      exact bX5_choices_24 C k_x0 hkm hW hZ _ (lv_sub hl [0, 1] rfl) hE
    · have hE := br_n hE c_5
      refine lv_iconst (v := (1 : Int32)) C.1 C.2.1 dX5_choices_20 (by decide) ?_
      refine lv_goto (tgt := 25) C.1 C.2.1 dX5_choices_21 (by decide) ?_
      exact bX5_choices_25 C k_x0 hkm hW hZ _ (lv_sub hl [0, 1] rfl) hE
