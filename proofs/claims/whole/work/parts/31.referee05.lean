theorem dX5_becomes_0 : decode cX5_becomes 0 = .ok (.iload_n 0, 1) := by decide +kernel
theorem dX5_becomes_1 : decode cX5_becomes 1 = .ok (.bipush 16, 2) := by decide +kernel
theorem dX5_becomes_3 : decode cX5_becomes 3 = .ok (.ishr, 1) := by decide +kernel
theorem dX5_becomes_4 : decode cX5_becomes 4 = .ok (.bipush 15, 2) := by decide +kernel
theorem dX5_becomes_6 : decode cX5_becomes 6 = .ok (.iand, 1) := by decide +kernel
theorem dX5_becomes_7 : decode cX5_becomes 7 = .ok (.istore_n 1, 1) := by decide +kernel
theorem dX5_becomes_8 : decode cX5_becomes 8 = .ok (.iload_n 1, 1) := by decide +kernel
theorem dX5_becomes_9 : decode cX5_becomes 9 = .ok (.bipush 15, 2) := by decide +kernel
theorem dX5_becomes_11 : decode cX5_becomes 11 = .ok (.if_icmp .ne 7, 3) := by decide +kernel
theorem dX5_becomes_14 : decode cX5_becomes 14 = .ok (.iconst (-1), 1) := by decide +kernel
theorem dX5_becomes_15 : decode cX5_becomes 15 = .ok (.goto 4, 3) := by decide +kernel
theorem dX5_becomes_18 : decode cX5_becomes 18 = .ok (.iload_n 1, 1) := by decide +kernel
theorem dX5_becomes_19 : decode cX5_becomes 19 = .ok (.ireturn, 1) := by decide +kernel
def sX5_becomes_19 (h : Hp) (t0 : Int32) : Option (Int32 × Hp) := some (t0, h)
def sX5_becomes (h : Hp) (x0 : Int32) : Option (Int32 × Hp) := nm ((x0 >>> ((16 : Int32) &&& 31)) &&& (15 : Int32)) fun v_1 => br (v_1 = (15 : Int32)) (sX5_becomes_19  h (-1 : Int32)) (sX5_becomes_19  h v_1)
set_option maxRecDepth 20000 in
theorem moX5_becomes_19 {o : Int32 × Hp} {h : Hp} {t0 : Int32} (hE : sX5_becomes_19 h  t0 = some o) : Le h o.2 := by
  exact le_some2 hE
set_option maxRecDepth 20000 in
theorem moX5_becomes {o : Int32 × Hp} {h : Hp} {x0 : Int32} (hE : sX5_becomes h x0 = some o) : Le h o.2 := by
  obtain ⟨v_1, ev_1, hE⟩ := nm_e2 hE
  rcases br_e hE with ⟨_, hE⟩ | ⟨_, hE⟩
  · exact moX5_becomes_19 hE
  · exact moX5_becomes_19 hE
set_option maxRecDepth 20000 in
theorem bX5_becomes_19 {p : Program} {l : Launch} {e : Env} {s : State} {m : MethodId} {args : Array Value} {below : List Frame} {meth : Method} {c : Code} {X : Ec} {h0 : Hp} {o : Int32 × Hp} (C : Cx X p s m args meth c RX5 cX5_becomes 2 (some .int) "becomes") {h : Hp} {t0 : Int32} {H : Heap} {locs : List Loc} (hkm : Km h0 h) (hW : Wx X h H) (hZ : va_S (aA (eB X)) s.heap H locs) (ls : Array Slot) (hl : lv_has ls 2 []) (hE : sX5_becomes_19 h  t0 = some o) : W p l e (rm 0 0) s m args below meth c H locs 0 0 (MQ below (QI X h0 o.1 o.2) args s 0 0 (aA (eB X))) (F0 m 19 ls [.int t0]) := by
  exact x_iret C rfl rfl hW hZ hkm hE dX5_becomes_19
set_option maxRecDepth 20000 in
theorem ct_X5_becomes (l : Launch) (X : Ec) {h : Hp} {x0 : Int32} {o : Int32 × Hp} (hE : sX5_becomes h x0 = some o) : MetI l yX5_becomes cX5_becomes 2 (some .int) 0 0 X [.int x0] h o := by
  refine x_met (by decide) (Nat.le_of_ble_eq_true rfl) ?_
  intro p e s m below meth c ls C hl hW hZ
  have hl : lv_has ls 2 [(0, .int x0)] := hl
  have hkm : Km h h := Km.rf h
  refine lv_iload_n C.1 C.2.1 dX5_becomes_0 rfl (lv_at hl 0 rfl) ?_
  refine lv_bipush (v := (16 : Int32)) C.1 C.2.1 dX5_becomes_1 (by decide) ?_
  refine lv_ishr C.1 C.2.1 dX5_becomes_3 ?_
  refine lv_bipush (v := (15 : Int32)) C.1 C.2.1 dX5_becomes_4 (by decide) ?_
  refine lv_iand C.1 C.2.1 dX5_becomes_6 ?_
  obtain ⟨v_1, ev_1, hE⟩ := nm_e2 hE
  refine x_nmI ev_1 ?_
  refine lv_istore_n (lv' := [(1, .int v_1), (0, .int x0)]) C.1 C.2.1 dX5_becomes_7 rfl hl (by decide) rfl (fun ls hl => ?_)
  refine lv_iload_n C.1 C.2.1 dX5_becomes_8 rfl (lv_at hl 0 rfl) ?_
  refine lv_bipush (v := (15 : Int32)) C.1 C.2.1 dX5_becomes_9 (by decide) ?_
  refine lv_icmp_ne (tgt := 18) C.1 C.2.1 dX5_becomes_11 (by decide) (fun c_2 => ?_) (fun c_2 => ?_)
  · have hE := br_n hE c_2
    refine lv_iload_n C.1 C.2.1 dX5_becomes_18 rfl (lv_at hl 0 rfl) ?_
    exact bX5_becomes_19 C hkm hW hZ _ (lv_sub hl [] rfl) hE
  · have hE := br_p hE c_2
    refine lv_iconst (v := (-1 : Int32)) C.1 C.2.1 dX5_becomes_14 (by decide) ?_
    refine lv_goto (tgt := 19) C.1 C.2.1 dX5_becomes_15 (by decide) ?_
    exact bX5_becomes_19 C hkm hW hZ _ (lv_sub hl [] rfl) hE
set_option maxRecDepth 100000 in
theorem m_1240 : Cond.methodLink RX5 245 yX3_put ∈ W0 := w0_in (List.mem_append_right _ (List.mem_of_getElem? (i := 1240) rfl)) rfl
set_option maxRecDepth 100000 in
theorem m_1241 : Cond.methodLink RX5 251 yX5_becomes ∈ W0 := w0_in (List.mem_append_right _ (List.mem_of_getElem? (i := 1241) rfl)) rfl
set_option maxRecDepth 100000 in
theorem m_1242 : Cond.static yX5_becomes ∈ W0 := w0_in (List.mem_append_right _ (List.mem_of_getElem? (i := 1242) rfl)) rfl
set_option maxRecDepth 100000 in
theorem m_1243 : Cond.code yX5_becomes cX5_becomes 2 (some .int) ∈ W0 := w0_in (List.mem_append_right _ (List.mem_of_getElem? (i := 1243) rfl)) rfl
theorem cw_X5_245 : cwd RX5 245 yX3_put cX3_put 7 none false 3 := ⟨m_964, m_1240, m_8, ⟨m_962, m_963⟩, by decide, by decide, by decide +kernel⟩
theorem cw_X5_251 : cwd RX5 251 yX5_becomes cX5_becomes 2 (some .int) true 1 := ⟨m_1243, m_1241, m_7, m_1242, by decide, by decide, by decide +kernel⟩
theorem dX5_shift_0 : decode cX5_shift 0 = .ok (.iload_n 2, 1) := by decide +kernel
theorem dX5_shift_1 : decode cX5_shift 1 = .ok (.invokestatic 236, 3) := by decide +kernel
theorem dX5_shift_4 : decode cX5_shift 4 = .ok (.istore_n 3, 1) := by decide +kernel
theorem dX5_shift_5 : decode cX5_shift 5 = .ok (.iload_n 2, 1) := by decide +kernel
theorem dX5_shift_6 : decode cX5_shift 6 = .ok (.invokestatic 184, 3) := by decide +kernel
theorem dX5_shift_9 : decode cX5_shift 9 = .ok (.istore 4, 2) := by decide +kernel
theorem dX5_shift_11 : decode cX5_shift 11 = .ok (.iload_n 2, 1) := by decide +kernel
theorem dX5_shift_12 : decode cX5_shift 12 = .ok (.invokestatic 233, 3) := by decide +kernel
theorem dX5_shift_15 : decode cX5_shift 15 = .ok (.istore 5, 2) := by decide +kernel
theorem dX5_shift_17 : decode cX5_shift 17 = .ok (.iconst 2, 1) := by decide +kernel
theorem dX5_shift_18 : decode cX5_shift 18 = .ok (.iload_n 2, 1) := by decide +kernel
theorem dX5_shift_19 : decode cX5_shift 19 = .ok (.invokestatic 194, 3) := by decide +kernel
theorem dX5_shift_22 : decode cX5_shift 22 = .ok (.imul, 1) := by decide +kernel
theorem dX5_shift_23 : decode cX5_shift 23 = .ok (.aload_n 1, 1) := by decide +kernel
theorem dX5_shift_24 : decode cX5_shift 24 = .ok (.getfield 78, 3) := by decide +kernel
theorem dX5_shift_27 : decode cX5_shift 27 = .ok (.iadd, 1) := by decide +kernel
theorem dX5_shift_28 : decode cX5_shift 28 = .ok (.istore 6, 2) := by decide +kernel
theorem dX5_shift_30 : decode cX5_shift 30 = .ok (.iload 5, 2) := by decide +kernel
theorem dX5_shift_32 : decode cX5_shift 32 = .ok (.iconst 3, 1) := by decide +kernel
theorem dX5_shift_33 : decode cX5_shift 33 = .ok (.if_icmp .ne 19, 3) := by decide +kernel
theorem dX5_shift_36 : decode cX5_shift 36 = .ok (.aload_n 1, 1) := by decide +kernel
theorem dX5_shift_37 : decode cX5_shift 37 = .ok (.iload 4, 2) := by decide +kernel
theorem dX5_shift_39 : decode cX5_shift 39 = .ok (.iload 6, 2) := by decide +kernel
theorem dX5_shift_41 : decode cX5_shift 41 = .ok (.aload_n 0, 1) := by decide +kernel
theorem dX5_shift_42 : decode cX5_shift 42 = .ok (.getfield 22, 3) := by decide +kernel
theorem dX5_shift_45 : decode cX5_shift 45 = .ok (.getfield 129, 3) := by decide +kernel
theorem dX5_shift_48 : decode cX5_shift 48 = .ok (.invokevirtual 245, 3) := by decide +kernel
theorem dX5_shift_51 : decode cX5_shift 51 = .ok (.return_, 1) := by decide +kernel
theorem dX5_shift_52 : decode cX5_shift 52 = .ok (.iload 5, 2) := by decide +kernel
theorem dX5_shift_54 : decode cX5_shift 54 = .ok (.iconst 2, 1) := by decide +kernel
theorem dX5_shift_55 : decode cX5_shift 55 = .ok (.if_icmp .ne 67, 3) := by decide +kernel
theorem dX5_shift_58 : decode cX5_shift 58 = .ok (.aload_n 0, 1) := by decide +kernel
theorem dX5_shift_59 : decode cX5_shift 59 = .ok (.aload_n 1, 1) := by decide +kernel
theorem dX5_shift_60 : decode cX5_shift 60 = .ok (.iload_n 3, 1) := by decide +kernel
theorem dX5_shift_61 : decode cX5_shift 61 = .ok (.iload 4, 2) := by decide +kernel
theorem dX5_shift_63 : decode cX5_shift 63 = .ok (.iload_n 3, 1) := by decide +kernel
theorem dX5_shift_64 : decode cX5_shift 64 = .ok (.if_icmp .le 7, 3) := by decide +kernel
theorem dX5_shift_67 : decode cX5_shift 67 = .ok (.iconst 1, 1) := by decide +kernel
theorem dX5_shift_68 : decode cX5_shift 68 = .ok (.goto 4, 3) := by decide +kernel
theorem dX5_shift_71 : decode cX5_shift 71 = .ok (.iconst (-1), 1) := by decide +kernel
theorem dX5_shift_72 : decode cX5_shift 72 = .ok (.invokevirtual 197, 3) := by decide +kernel
theorem dX5_shift_75 : decode cX5_shift 75 = .ok (.istore 7, 2) := by decide +kernel
theorem dX5_shift_77 : decode cX5_shift 77 = .ok (.aload_n 1, 1) := by decide +kernel
theorem dX5_shift_78 : decode cX5_shift 78 = .ok (.iload 7, 2) := by decide +kernel
theorem dX5_shift_80 : decode cX5_shift 80 = .ok (.iconst (-1), 1) := by decide +kernel
theorem dX5_shift_81 : decode cX5_shift 81 = .ok (.aload_n 0, 1) := by decide +kernel
theorem dX5_shift_82 : decode cX5_shift 82 = .ok (.getfield 22, 3) := by decide +kernel
theorem dX5_shift_85 : decode cX5_shift 85 = .ok (.getfield 129, 3) := by decide +kernel
theorem dX5_shift_88 : decode cX5_shift 88 = .ok (.invokevirtual 245, 3) := by decide +kernel
theorem dX5_shift_91 : decode cX5_shift 91 = .ok (.aload_n 1, 1) := by decide +kernel
theorem dX5_shift_92 : decode cX5_shift 92 = .ok (.iload_n 3, 1) := by decide +kernel
theorem dX5_shift_93 : decode cX5_shift 93 = .ok (.iload 4, 2) := by decide +kernel
theorem dX5_shift_95 : decode cX5_shift 95 = .ok (.iadd, 1) := by decide +kernel
theorem dX5_shift_96 : decode cX5_shift 96 = .ok (.iconst 1, 1) := by decide +kernel
theorem dX5_shift_97 : decode cX5_shift 97 = .ok (.ishr, 1) := by decide +kernel
theorem dX5_shift_98 : decode cX5_shift 98 = .ok (.iconst 2, 1) := by decide +kernel
theorem dX5_shift_99 : decode cX5_shift 99 = .ok (.aload_n 0, 1) := by decide +kernel
theorem dX5_shift_100 : decode cX5_shift 100 = .ok (.getfield 22, 3) := by decide +kernel
theorem dX5_shift_103 : decode cX5_shift 103 = .ok (.getfield 248, 3) := by decide +kernel
theorem dX5_shift_106 : decode cX5_shift 106 = .ok (.imul, 1) := by decide +kernel
theorem dX5_shift_107 : decode cX5_shift 107 = .ok (.aload_n 1, 1) := by decide +kernel
theorem dX5_shift_108 : decode cX5_shift 108 = .ok (.getfield 78, 3) := by decide +kernel
theorem dX5_shift_111 : decode cX5_shift 111 = .ok (.iadd, 1) := by decide +kernel
theorem dX5_shift_112 : decode cX5_shift 112 = .ok (.aload_n 0, 1) := by decide +kernel
theorem dX5_shift_113 : decode cX5_shift 113 = .ok (.getfield 22, 3) := by decide +kernel
theorem dX5_shift_116 : decode cX5_shift 116 = .ok (.getfield 129, 3) := by decide +kernel
theorem dX5_shift_119 : decode cX5_shift 119 = .ok (.invokevirtual 245, 3) := by decide +kernel
theorem dX5_shift_122 : decode cX5_shift 122 = .ok (.iload 5, 2) := by decide +kernel
theorem dX5_shift_124 : decode cX5_shift 124 = .ok (.iconst 1, 1) := by decide +kernel
theorem dX5_shift_125 : decode cX5_shift 125 = .ok (.if_icmp .ne 20, 3) := by decide +kernel
theorem dX5_shift_128 : decode cX5_shift 128 = .ok (.aload_n 1, 1) := by decide +kernel
theorem dX5_shift_129 : decode cX5_shift 129 = .ok (.aload_n 1, 1) := by decide +kernel
theorem dX5_shift_130 : decode cX5_shift 130 = .ok (.iconst 0, 1) := by decide +kernel
theorem dX5_shift_131 : decode cX5_shift 131 = .ok (.invokevirtual 173, 3) := by decide +kernel
theorem dX5_shift_134 : decode cX5_shift 134 = .ok (.iconst (-1), 1) := by decide +kernel
theorem dX5_shift_135 : decode cX5_shift 135 = .ok (.aload_n 0, 1) := by decide +kernel
theorem dX5_shift_136 : decode cX5_shift 136 = .ok (.getfield 22, 3) := by decide +kernel
theorem dX5_shift_139 : decode cX5_shift 139 = .ok (.getfield 129, 3) := by decide +kernel
theorem dX5_shift_142 : decode cX5_shift 142 = .ok (.invokevirtual 245, 3) := by decide +kernel
theorem dX5_shift_145 : decode cX5_shift 145 = .ok (.aload_n 1, 1) := by decide +kernel
theorem dX5_shift_146 : decode cX5_shift 146 = .ok (.iload_n 3, 1) := by decide +kernel
theorem dX5_shift_147 : decode cX5_shift 147 = .ok (.iconst (-1), 1) := by decide +kernel
theorem dX5_shift_148 : decode cX5_shift 148 = .ok (.aload_n 0, 1) := by decide +kernel
theorem dX5_shift_149 : decode cX5_shift 149 = .ok (.getfield 22, 3) := by decide +kernel
theorem dX5_shift_152 : decode cX5_shift 152 = .ok (.getfield 129, 3) := by decide +kernel
theorem dX5_shift_155 : decode cX5_shift 155 = .ok (.invokevirtual 245, 3) := by decide +kernel
theorem dX5_shift_158 : decode cX5_shift 158 = .ok (.aload_n 1, 1) := by decide +kernel
theorem dX5_shift_159 : decode cX5_shift 159 = .ok (.iload 4, 2) := by decide +kernel
theorem dX5_shift_161 : decode cX5_shift 161 = .ok (.iload_n 2, 1) := by decide +kernel
theorem dX5_shift_162 : decode cX5_shift 162 = .ok (.invokestatic 251, 3) := by decide +kernel
theorem dX5_shift_165 : decode cX5_shift 165 = .ok (.iconst (-1), 1) := by decide +kernel
theorem dX5_shift_166 : decode cX5_shift 166 = .ok (.if_icmp .ne 8, 3) := by decide +kernel
theorem dX5_shift_169 : decode cX5_shift 169 = .ok (.iload 6, 2) := by decide +kernel
theorem dX5_shift_171 : decode cX5_shift 171 = .ok (.goto 14, 3) := by decide +kernel
theorem dX5_shift_174 : decode cX5_shift 174 = .ok (.iconst 2, 1) := by decide +kernel
theorem dX5_shift_175 : decode cX5_shift 175 = .ok (.iload_n 2, 1) := by decide +kernel
theorem dX5_shift_176 : decode cX5_shift 176 = .ok (.invokestatic 251, 3) := by decide +kernel
theorem dX5_shift_179 : decode cX5_shift 179 = .ok (.imul, 1) := by decide +kernel
theorem dX5_shift_180 : decode cX5_shift 180 = .ok (.aload_n 1, 1) := by decide +kernel
theorem dX5_shift_181 : decode cX5_shift 181 = .ok (.getfield 78, 3) := by decide +kernel
theorem dX5_shift_184 : decode cX5_shift 184 = .ok (.iadd, 1) := by decide +kernel
theorem dX5_shift_185 : decode cX5_shift 185 = .ok (.aload_n 0, 1) := by decide +kernel
theorem dX5_shift_186 : decode cX5_shift 186 = .ok (.getfield 22, 3) := by decide +kernel
theorem dX5_shift_189 : decode cX5_shift 189 = .ok (.getfield 129, 3) := by decide +kernel
theorem dX5_shift_192 : decode cX5_shift 192 = .ok (.invokevirtual 245, 3) := by decide +kernel
theorem dX5_shift_195 : decode cX5_shift 195 = .ok (.return_, 1) := by decide +kernel
def sX5_shift_185 (F : Nat) (h : Hp) (x0 : Nat) (t0 : Int32) (t1 : Int32) (t2 : Nat) : Option (Hp) := cl (hR h x0 0) fun r_1 => cl (sX3_put h t2 t1 t0 (hI h r_1 4)) fun o_2 => some o_2
def sX5_shift_145 (F : Nat) (h : Hp) (x0 : Nat) (x1 : Nat) (x2 : Int32) (x3 : Int32) (x4 : Int32) (x6 : Int32) : Option (Hp) := cl (hR h x0 0) fun r_1 => cl (sX3_put h x1 x3 (-1 : Int32) (hI h r_1 4)) fun o_2 => cl (sX5_becomes o_2 x2) fun o_3 => br (o_3.1 = (-1 : Int32)) (sX5_shift_185 F o_3.2 x0 x6 x4 x1) (cl (sX5_becomes o_3.2 x2) fun o_5 => sX5_shift_185 F o_5.2 x0 (((2 : Int32) * o_5.1) + (hI o_5.2 x1 5)) x4 x1)
def sX5_shift_122 (F : Nat) (h : Hp) (x0 : Nat) (x1 : Nat) (x2 : Int32) (x3 : Int32) (x4 : Int32) (x5 : Int32) (x6 : Int32) : Option (Hp) := br (x5 = (1 : Int32)) (cl (sX3_passSquare h x1 (0 : Int32)) fun o_2 => cl (hR o_2.2 x0 0) fun r_3 => cl (sX3_put o_2.2 x1 o_2.1 (-1 : Int32) (hI o_2.2 r_3 4)) fun o_4 => sX5_shift_145 F o_4 x0 x1 x2 x3 x4 x6) (sX5_shift_145 F h x0 x1 x2 x3 x4 x6)
def sX5_shift_72 (F : Nat) (h : Hp) (x0 : Nat) (x1 : Nat) (x2 : Int32) (x3 : Int32) (x4 : Int32) (x5 : Int32) (x6 : Int32) (t0 : Int32) (t1 : Int32) (t2 : Nat) (t3 : Nat) : Option (Hp) := cl (sX5_nearest F h t3 t2 t1 t0) fun o_1 => cl (hR o_1.2 x0 0) fun r_2 => cl (sX3_put o_1.2 x1 o_1.1 (-1 : Int32) (hI o_1.2 r_2 4)) fun o_3 => cl (hR o_3 x0 0) fun r_4 => cl (hR o_3 x0 0) fun r_5 => cl (sX3_put o_3 x1 ((x3 + x4) >>> ((1 : Int32) &&& 31)) (((2 : Int32) * (hI o_3 r_4 6)) + (hI o_3 x1 5)) (hI o_3 r_5 4)) fun o_6 => sX5_shift_122 F o_6 x0 x1 x2 x3 x4 x5 x6
def sX5_shift (F : Nat) (h : Hp) (x0 : Nat) (x1 : Nat) (x2 : Int32) : Option (Hp) := cl (sX5_leftBy h x2) fun o_1 => cl (sX5_comeTo o_1.2 x2) fun o_2 => cl (sX5_kindOf o_2.2 x2) fun o_3 => cl (sX5_manOf o_3.2 x2) fun o_4 => nm (((2 : Int32) * o_4.1) + (hI o_4.2 x1 5)) fun v_5 => br (o_3.1 = (3 : Int32)) (cl (hR o_4.2 x0 0) fun r_9 => cl (sX3_put o_4.2 x1 o_2.1 v_5 (hI o_4.2 r_9 4)) fun o_10 => some o_10) (br (o_3.1 = (2 : Int32)) (br (o_2.1 ≤ o_1.1) (sX5_shift_72 F o_4.2 x0 x1 x2 o_1.1 o_2.1 o_3.1 v_5 (-1 : Int32) o_1.1 x1 x0) (sX5_shift_72 F o_4.2 x0 x1 x2 o_1.1 o_2.1 o_3.1 v_5 (1 : Int32) o_1.1 x1 x0)) (sX5_shift_122 F o_4.2 x0 x1 x2 o_1.1 o_2.1 o_3.1 v_5))
set_option maxRecDepth 20000 in
theorem moX5_shift_185 {o : Hp} {F : Nat} {h : Hp} {x0 : Nat} {t0 : Int32} {t1 : Int32} {t2 : Nat} (hE : sX5_shift_185 F h x0 t0 t1 t2 = some o) : Le h o := by
  obtain ⟨r_1, er_1, hE⟩ := cl_e hE
  obtain ⟨o_2, eo_2, hE⟩ := cl_e hE
  refine (moX3_put eo_2).tr ?_
  exact le_some1 hE
set_option maxRecDepth 20000 in
theorem moX5_shift_145 {o : Hp} {F : Nat} {h : Hp} {x0 : Nat} {x1 : Nat} {x2 : Int32} {x3 : Int32} {x4 : Int32} {x6 : Int32} (hE : sX5_shift_145 F h x0 x1 x2 x3 x4 x6 = some o) : Le h o := by
  obtain ⟨r_1, er_1, hE⟩ := cl_e hE
  obtain ⟨o_2, eo_2, hE⟩ := cl_e hE
  refine (moX3_put eo_2).tr ?_
  obtain ⟨o_3, eo_3, hE⟩ := cl_e hE
  refine (moX5_becomes eo_3).tr ?_
  rcases br_e hE with ⟨_, hE⟩ | ⟨_, hE⟩
  · exact moX5_shift_185 hE
  · obtain ⟨o_5, eo_5, hE⟩ := cl_e hE
    refine (moX5_becomes eo_5).tr ?_
    exact moX5_shift_185 hE
set_option maxRecDepth 20000 in
theorem moX5_shift_122 {o : Hp} {F : Nat} {h : Hp} {x0 : Nat} {x1 : Nat} {x2 : Int32} {x3 : Int32} {x4 : Int32} {x5 : Int32} {x6 : Int32} (hE : sX5_shift_122 F h x0 x1 x2 x3 x4 x5 x6 = some o) : Le h o := by
  rcases br_e hE with ⟨_, hE⟩ | ⟨_, hE⟩
  · obtain ⟨o_2, eo_2, hE⟩ := cl_e hE
    refine (moX3_passSquare eo_2).tr ?_
    obtain ⟨r_3, er_3, hE⟩ := cl_e hE
    obtain ⟨o_4, eo_4, hE⟩ := cl_e hE
    refine (moX3_put eo_4).tr ?_
    exact moX5_shift_145 hE
  · exact moX5_shift_145 hE
set_option maxRecDepth 20000 in
theorem moX5_shift_72 {o : Hp} {F : Nat} {h : Hp} {x0 : Nat} {x1 : Nat} {x2 : Int32} {x3 : Int32} {x4 : Int32} {x5 : Int32} {x6 : Int32} {t0 : Int32} {t1 : Int32} {t2 : Nat} {t3 : Nat} (hE : sX5_shift_72 F h x0 x1 x2 x3 x4 x5 x6 t0 t1 t2 t3 = some o) : Le h o := by
  obtain ⟨o_1, eo_1, hE⟩ := cl_e hE
  refine (moX5_nearest eo_1).tr ?_
  obtain ⟨r_2, er_2, hE⟩ := cl_e hE
  obtain ⟨o_3, eo_3, hE⟩ := cl_e hE
  refine (moX3_put eo_3).tr ?_
  obtain ⟨r_4, er_4, hE⟩ := cl_e hE
  obtain ⟨r_5, er_5, hE⟩ := cl_e hE
  obtain ⟨o_6, eo_6, hE⟩ := cl_e hE
  refine (moX3_put eo_6).tr ?_
  exact moX5_shift_122 hE
set_option maxRecDepth 20000 in
theorem moX5_shift {o : Hp} {F : Nat} {h : Hp} {x0 : Nat} {x1 : Nat} {x2 : Int32} (hE : sX5_shift F h x0 x1 x2 = some o) : Le h o := by
  obtain ⟨o_1, eo_1, hE⟩ := cl_e hE
  refine (moX5_leftBy eo_1).tr ?_
  obtain ⟨o_2, eo_2, hE⟩ := cl_e hE
  refine (moX5_comeTo eo_2).tr ?_
  obtain ⟨o_3, eo_3, hE⟩ := cl_e hE
  refine (moX5_kindOf eo_3).tr ?_
  obtain ⟨o_4, eo_4, hE⟩ := cl_e hE
  refine (moX5_manOf eo_4).tr ?_
  obtain ⟨v_5, ev_5, hE⟩ := nm_e2 hE
  rcases br_e hE with ⟨_, hE⟩ | ⟨_, hE⟩
  · obtain ⟨r_9, er_9, hE⟩ := cl_e hE
    obtain ⟨o_10, eo_10, hE⟩ := cl_e hE
    refine (moX3_put eo_10).tr ?_
    exact le_some1 hE
  · rcases br_e hE with ⟨_, hE⟩ | ⟨_, hE⟩
    · rcases br_e hE with ⟨_, hE⟩ | ⟨_, hE⟩
      · exact moX5_shift_72 hE
      · exact moX5_shift_72 hE
    · exact moX5_shift_122 hE
set_option maxRecDepth 20000 in
theorem bX5_shift_185 {p : Program} {l : Launch} {e : Env} {s : State} {m : MethodId} {args : Array Value} {below : List Frame} {meth : Method} {c : Code} {X : Ec} {h0 : Hp} {o : Hp} {F : Nat} (C : Cx X p s m args meth c RX5 cX5_shift 8 none "shift") {h : Hp} {x0 : Nat} {t0 : Int32} {t1 : Int32} {t2 : Nat} {H : Heap} {locs : List Loc} (k_x0 : hK h x0 = 5) (k_t2 : hK h t2 = 3) (hkm : Km h0 h) (hW : Wx X h H) (hZ : va_S (aA (eB X)) s.heap H locs) (ls : Array Slot) (hl : lv_has ls 8 [(0, .ref x0)]) (hE : sX5_shift_185 F h x0 t0 t1 t2 = some o) : W p l e (rm 1 26) s m args below meth c H locs 0 0 (MQ below (QV X h0 o) args s 0 0 (aA (eB X))) (F0 m 185 ls [.int t0, .int t1, .ref t2]) := by
  refine lv_aload_n C.1 C.2.1 dX5_shift_185 rfl (lv_at hl 0 rfl) ?_
  obtain ⟨r_1, er_1, hE⟩ := cl_e hE
  refine gf_X5_22 C hW k_x0 er_1 dX5_shift_186 (fun k_r_1 => ?_)
  refine gf_X5_129 C hW k_r_1 dX5_shift_189 ?_
  obtain ⟨o_2, eo_2, hE⟩ := cl_e hE
  refine x_kV (o := o_2) (z_runV (As := [.int t1, .int t0, .int (hI h r_1 4)]) (rest := []) C (ct_X3_put l X k_t2 eo_2) cw_X5_245 hW hZ k_t2 (by decide) rfl rfl rfl hl.1 (Nat.le_of_ble_eq_true rfl) rfl dX5_shift_192 ⟨Nat.le_of_ble_eq_true rfl, Nat.le_of_ble_eq_true rfl⟩ ⟨Nat.le_refl _, Nat.le_refl _⟩) hZ (fun _ _ hW km hZ => ?_)
  replace hkm := hkm.tr km
  replace k_x0 := km.at k_x0 (by decide)
  exact x_vret C rfl hW hZ hkm hE dX5_shift_195
set_option maxRecDepth 20000 in
theorem bX5_shift_145 {p : Program} {l : Launch} {e : Env} {s : State} {m : MethodId} {args : Array Value} {below : List Frame} {meth : Method} {c : Code} {X : Ec} {h0 : Hp} {o : Hp} {F : Nat} (C : Cx X p s m args meth c RX5 cX5_shift 8 none "shift") {h : Hp} {x0 : Nat} {x1 : Nat} {x2 : Int32} {x3 : Int32} {x4 : Int32} {x6 : Int32} {H : Heap} {locs : List Loc} (k_x0 : hK h x0 = 5) (k_x1 : hK h x1 = 3) (hkm : Km h0 h) (hW : Wx X h H) (hZ : va_S (aA (eB X)) s.heap H locs) (ls : Array Slot) (hl : lv_has ls 8 [(0, .ref x0), (1, .ref x1), (2, .int x2), (3, .int x3), (4, .int x4), (6, .int x6)]) (hE : sX5_shift_145 F h x0 x1 x2 x3 x4 x6 = some o) : W p l e (rm 1 26) s m args below meth c H locs 0 0 (MQ below (QV X h0 o) args s 0 0 (aA (eB X))) (F0 m 145 ls []) := by
  refine lv_aload_n C.1 C.2.1 dX5_shift_145 rfl (lv_at hl 1 rfl) ?_
  refine lv_iload_n C.1 C.2.1 dX5_shift_146 rfl (lv_at hl 3 rfl) ?_
  refine lv_iconst (v := (-1 : Int32)) C.1 C.2.1 dX5_shift_147 (by decide) ?_
  refine lv_aload_n C.1 C.2.1 dX5_shift_148 rfl (lv_at hl 0 rfl) ?_
  obtain ⟨r_1, er_1, hE⟩ := cl_e hE
  refine gf_X5_22 C hW k_x0 er_1 dX5_shift_149 (fun k_r_1 => ?_)
  refine gf_X5_129 C hW k_r_1 dX5_shift_152 ?_
  obtain ⟨o_2, eo_2, hE⟩ := cl_e hE
  refine x_kV (o := o_2) (z_runV (As := [.int x3, .int (-1 : Int32), .int (hI h r_1 4)]) (rest := []) C (ct_X3_put l X k_x1 eo_2) cw_X5_245 hW hZ k_x1 (by decide) rfl rfl rfl hl.1 (Nat.le_of_ble_eq_true rfl) rfl dX5_shift_155 ⟨Nat.le_of_ble_eq_true rfl, Nat.le_of_ble_eq_true rfl⟩ ⟨Nat.le_refl _, Nat.le_refl _⟩) hZ (fun _ _ hW km hZ => ?_)
  replace hkm := hkm.tr km
  replace k_x0 := km.at k_x0 (by decide)
  replace k_x1 := km.at k_x1 (by decide)
  refine lv_aload_n C.1 C.2.1 dX5_shift_158 rfl (lv_at hl 1 rfl) ?_
  refine lv_iload C.1 C.2.1 dX5_shift_159 (lv_at hl 4 rfl) ?_
  refine lv_iload_n C.1 C.2.1 dX5_shift_161 rfl (lv_at hl 2 rfl) ?_
  obtain ⟨o_3, eo_3, hE⟩ := cl_e hE
  refine x_kI (o := o_3) (z_runS (As := [.int x2]) (rest := [.int x4, .ref x1]) C (ct_X5_becomes l X eo_3) cw_X5_251 hW hZ rfl hl.1 (Nat.le_of_ble_eq_true rfl) rfl dX5_shift_162 ⟨Nat.le_of_ble_eq_true rfl, Nat.le_of_ble_eq_true rfl⟩ ⟨Nat.le_refl _, Nat.le_refl _⟩) hZ (fun _ _ hW km hZ => ?_)
  replace hkm := hkm.tr km
  replace k_x0 := km.at k_x0 (by decide)
  replace k_x1 := km.at k_x1 (by decide)
  refine lv_iconst (v := (-1 : Int32)) C.1 C.2.1 dX5_shift_165 (by decide) ?_
  refine lv_icmp_ne (tgt := 174) C.1 C.2.1 dX5_shift_166 (by decide) (fun c_4 => ?_) (fun c_4 => ?_)
  · have hE := br_n hE c_4
    refine lv_iconst (v := (2 : Int32)) C.1 C.2.1 dX5_shift_174 (by decide) ?_
    refine lv_iload_n C.1 C.2.1 dX5_shift_175 rfl (lv_at hl 2 rfl) ?_
    obtain ⟨o_5, eo_5, hE⟩ := cl_e hE
    refine x_kI (o := o_5) (z_runS (As := [.int x2]) (rest := [.int (2 : Int32), .int x4, .ref x1]) C (ct_X5_becomes l X eo_5) cw_X5_251 hW hZ rfl hl.1 (Nat.le_of_ble_eq_true rfl) rfl dX5_shift_176 ⟨Nat.le_of_ble_eq_true rfl, Nat.le_of_ble_eq_true rfl⟩ ⟨Nat.le_refl _, Nat.le_refl _⟩) hZ (fun _ _ hW km hZ => ?_)
    replace hkm := hkm.tr km
    replace k_x0 := km.at k_x0 (by decide)
    replace k_x1 := km.at k_x1 (by decide)
    refine lv_imul C.1 C.2.1 dX5_shift_179 ?_
    refine lv_aload_n C.1 C.2.1 dX5_shift_180 rfl (lv_at hl 1 rfl) ?_
    refine gf_X5_78 C hW k_x1 dX5_shift_181 ?_
    refine lv_iadd C.1 C.2.1 dX5_shift_184 ?_
    exact bX5_shift_185 C k_x0 k_x1 hkm hW hZ _ (lv_sub hl [0] rfl) hE
  · have hE := br_p hE c_4
    refine lv_iload C.1 C.2.1 dX5_shift_169 (lv_at hl 5 rfl) ?_
    refine lv_goto (tgt := 185) C.1 C.2.1 dX5_shift_171 (by decide) ?_
    exact bX5_shift_185 C k_x0 k_x1 hkm hW hZ _ (lv_sub hl [0] rfl) hE
set_option maxRecDepth 20000 in
theorem bX5_shift_122 {p : Program} {l : Launch} {e : Env} {s : State} {m : MethodId} {args : Array Value} {below : List Frame} {meth : Method} {c : Code} {X : Ec} {h0 : Hp} {o : Hp} {F : Nat} (C : Cx X p s m args meth c RX5 cX5_shift 8 none "shift") {h : Hp} {x0 : Nat} {x1 : Nat} {x2 : Int32} {x3 : Int32} {x4 : Int32} {x5 : Int32} {x6 : Int32} {H : Heap} {locs : List Loc} (k_x0 : hK h x0 = 5) (k_x1 : hK h x1 = 3) (hkm : Km h0 h) (hW : Wx X h H) (hZ : va_S (aA (eB X)) s.heap H locs) (ls : Array Slot) (hl : lv_has ls 8 [(0, .ref x0), (1, .ref x1), (2, .int x2), (3, .int x3), (4, .int x4), (5, .int x5), (6, .int x6)]) (hE : sX5_shift_122 F h x0 x1 x2 x3 x4 x5 x6 = some o) : W p l e (rm 1 26) s m args below meth c H locs 0 0 (MQ below (QV X h0 o) args s 0 0 (aA (eB X))) (F0 m 122 ls []) := by
  refine lv_iload C.1 C.2.1 dX5_shift_122 (lv_at hl 5 rfl) ?_
  refine lv_iconst (v := (1 : Int32)) C.1 C.2.1 dX5_shift_124 (by decide) ?_
  refine lv_icmp_ne (tgt := 145) C.1 C.2.1 dX5_shift_125 (by decide) (fun c_1 => ?_) (fun c_1 => ?_)
  · have hE := br_n hE c_1
    exact bX5_shift_145 C k_x0 k_x1 hkm hW hZ _ (lv_sub hl [0, 1, 2, 3, 4, 6] rfl) hE
  · have hE := br_p hE c_1
    refine lv_aload_n C.1 C.2.1 dX5_shift_128 rfl (lv_at hl 1 rfl) ?_
    refine lv_aload_n C.1 C.2.1 dX5_shift_129 rfl (lv_at hl 1 rfl) ?_
    refine lv_iconst (v := (0 : Int32)) C.1 C.2.1 dX5_shift_130 (by decide) ?_
    obtain ⟨o_2, eo_2, hE⟩ := cl_e hE
    refine x_kI (o := o_2) (z_runV (As := [.int (0 : Int32)]) (rest := [.ref x1]) C (ct_X3_passSquare l X k_x1 eo_2) cw_X5_173 hW hZ k_x1 (by decide) rfl rfl rfl hl.1 (Nat.le_of_ble_eq_true rfl) rfl dX5_shift_131 ⟨Nat.le_of_ble_eq_true rfl, Nat.le_of_ble_eq_true rfl⟩ ⟨Nat.le_refl _, Nat.le_refl _⟩) hZ (fun _ _ hW km hZ => ?_)
    replace hkm := hkm.tr km
    replace k_x0 := km.at k_x0 (by decide)
    replace k_x1 := km.at k_x1 (by decide)
    refine lv_iconst (v := (-1 : Int32)) C.1 C.2.1 dX5_shift_134 (by decide) ?_
    refine lv_aload_n C.1 C.2.1 dX5_shift_135 rfl (lv_at hl 0 rfl) ?_
    obtain ⟨r_3, er_3, hE⟩ := cl_e hE
    refine gf_X5_22 C hW k_x0 er_3 dX5_shift_136 (fun k_r_3 => ?_)
    refine gf_X5_129 C hW k_r_3 dX5_shift_139 ?_
    obtain ⟨o_4, eo_4, hE⟩ := cl_e hE
    refine x_kV (o := o_4) (z_runV (As := [.int o_2.1, .int (-1 : Int32), .int (hI o_2.2 r_3 4)]) (rest := []) C (ct_X3_put l X k_x1 eo_4) cw_X5_245 hW hZ k_x1 (by decide) rfl rfl rfl hl.1 (Nat.le_of_ble_eq_true rfl) rfl dX5_shift_142 ⟨Nat.le_of_ble_eq_true rfl, Nat.le_of_ble_eq_true rfl⟩ ⟨Nat.le_refl _, Nat.le_refl _⟩) hZ (fun _ _ hW km hZ => ?_)
    replace hkm := hkm.tr km
    replace k_x0 := km.at k_x0 (by decide)
    replace k_x1 := km.at k_x1 (by decide)
    exact bX5_shift_145 C k_x0 k_x1 hkm hW hZ _ (lv_sub hl [0, 1, 2, 3, 4, 6] rfl) hE
set_option maxRecDepth 20000 in
theorem bX5_shift_72 {p : Program} {l : Launch} {e : Env} {s : State} {m : MethodId} {args : Array Value} {below : List Frame} {meth : Method} {c : Code} {X : Ec} {h0 : Hp} {o : Hp} {F : Nat} (C : Cx X p s m args meth c RX5 cX5_shift 8 none "shift") {h : Hp} {x0 : Nat} {x1 : Nat} {x2 : Int32} {x3 : Int32} {x4 : Int32} {x5 : Int32} {x6 : Int32} {t0 : Int32} {t1 : Int32} {t2 : Nat} {t3 : Nat} {H : Heap} {locs : List Loc} (k_x0 : hK h x0 = 5) (k_x1 : hK h x1 = 3) (k_t2 : hK h t2 = 3) (k_t3 : hK h t3 = 5) (hkm : Km h0 h) (hW : Wx X h H) (hZ : va_S (aA (eB X)) s.heap H locs) (ls : Array Slot) (hl : lv_has ls 8 [(0, .ref x0), (1, .ref x1), (2, .int x2), (3, .int x3), (4, .int x4), (5, .int x5), (6, .int x6)]) (hE : sX5_shift_72 F h x0 x1 x2 x3 x4 x5 x6 t0 t1 t2 t3 = some o) : W p l e (rm 1 26) s m args below meth c H locs 0 0 (MQ below (QV X h0 o) args s 0 0 (aA (eB X))) (F0 m 72 ls [.int t0, .int t1, .ref t2, .ref t3]) := by
  obtain ⟨o_1, eo_1, hE⟩ := cl_e hE
  refine x_kI (o := o_1) (z_runV (As := [.ref t2, .int t1, .int t0]) (rest := []) C (ct_X5_nearest l X F k_t3 k_t2 eo_1) cw_X5_197 hW hZ k_t3 (by decide) rfl rfl rfl hl.1 (Nat.le_of_ble_eq_true rfl) rfl dX5_shift_72 ⟨Nat.le_of_ble_eq_true rfl, Nat.le_of_ble_eq_true rfl⟩ ⟨Nat.le_refl _, Nat.le_refl _⟩) hZ (fun _ _ hW km hZ => ?_)
  replace hkm := hkm.tr km
  replace k_x0 := km.at k_x0 (by decide)
  replace k_x1 := km.at k_x1 (by decide)
  refine lv_istore (lv' := [(7, .int o_1.1), (0, .ref x0), (1, .ref x1), (2, .int x2), (3, .int x3), (4, .int x4), (5, .int x5), (6, .int x6)]) C.1 C.2.1 dX5_shift_75 hl (by decide) rfl (fun ls hl => ?_)
  refine lv_aload_n C.1 C.2.1 dX5_shift_77 rfl (lv_at hl 2 rfl) ?_
  refine lv_iload C.1 C.2.1 dX5_shift_78 (lv_at hl 0 rfl) ?_
  refine lv_iconst (v := (-1 : Int32)) C.1 C.2.1 dX5_shift_80 (by decide) ?_
  refine lv_aload_n C.1 C.2.1 dX5_shift_81 rfl (lv_at hl 1 rfl) ?_
  obtain ⟨r_2, er_2, hE⟩ := cl_e hE
  refine gf_X5_22 C hW k_x0 er_2 dX5_shift_82 (fun k_r_2 => ?_)
  refine gf_X5_129 C hW k_r_2 dX5_shift_85 ?_
  obtain ⟨o_3, eo_3, hE⟩ := cl_e hE
  refine x_kV (o := o_3) (z_runV (As := [.int o_1.1, .int (-1 : Int32), .int (hI o_1.2 r_2 4)]) (rest := []) C (ct_X3_put l X k_x1 eo_3) cw_X5_245 hW hZ k_x1 (by decide) rfl rfl rfl hl.1 (Nat.le_of_ble_eq_true rfl) rfl dX5_shift_88 ⟨Nat.le_of_ble_eq_true rfl, Nat.le_of_ble_eq_true rfl⟩ ⟨Nat.le_refl _, Nat.le_refl _⟩) hZ (fun _ _ hW km hZ => ?_)
  replace hkm := hkm.tr km
  replace k_x0 := km.at k_x0 (by decide)
  replace k_x1 := km.at k_x1 (by decide)
  refine lv_aload_n C.1 C.2.1 dX5_shift_91 rfl (lv_at hl 2 rfl) ?_
  refine lv_iload_n C.1 C.2.1 dX5_shift_92 rfl (lv_at hl 4 rfl) ?_
  refine lv_iload C.1 C.2.1 dX5_shift_93 (lv_at hl 5 rfl) ?_
  refine lv_iadd C.1 C.2.1 dX5_shift_95 ?_
  refine lv_iconst (v := (1 : Int32)) C.1 C.2.1 dX5_shift_96 (by decide) ?_
  refine lv_ishr C.1 C.2.1 dX5_shift_97 ?_
  refine lv_iconst (v := (2 : Int32)) C.1 C.2.1 dX5_shift_98 (by decide) ?_
  refine lv_aload_n C.1 C.2.1 dX5_shift_99 rfl (lv_at hl 1 rfl) ?_
  obtain ⟨r_4, er_4, hE⟩ := cl_e hE
  refine gf_X5_22 C hW k_x0 er_4 dX5_shift_100 (fun k_r_4 => ?_)
  refine gf_X5_248 C hW k_r_4 dX5_shift_103 ?_
  refine lv_imul C.1 C.2.1 dX5_shift_106 ?_
  refine lv_aload_n C.1 C.2.1 dX5_shift_107 rfl (lv_at hl 2 rfl) ?_
  refine gf_X5_78 C hW k_x1 dX5_shift_108 ?_
  refine lv_iadd C.1 C.2.1 dX5_shift_111 ?_
  refine lv_aload_n C.1 C.2.1 dX5_shift_112 rfl (lv_at hl 1 rfl) ?_
  obtain ⟨r_5, er_5, hE⟩ := cl_e hE
  refine gf_X5_22 C hW k_x0 er_5 dX5_shift_113 (fun k_r_5 => ?_)
  refine gf_X5_129 C hW k_r_5 dX5_shift_116 ?_
  obtain ⟨o_6, eo_6, hE⟩ := cl_e hE
  refine x_kV (o := o_6) (z_runV (As := [.int ((x3 + x4) >>> ((1 : Int32) &&& 31)), .int (((2 : Int32) * (hI o_3 r_4 6)) + (hI o_3 x1 5)), .int (hI o_3 r_5 4)]) (rest := []) C (ct_X3_put l X k_x1 eo_6) cw_X5_245 hW hZ k_x1 (by decide) rfl rfl rfl hl.1 (Nat.le_of_ble_eq_true rfl) rfl dX5_shift_119 ⟨Nat.le_of_ble_eq_true rfl, Nat.le_of_ble_eq_true rfl⟩ ⟨Nat.le_refl _, Nat.le_refl _⟩) hZ (fun _ _ hW km hZ => ?_)
  replace hkm := hkm.tr km
  replace k_x0 := km.at k_x0 (by decide)
  replace k_x1 := km.at k_x1 (by decide)
  exact bX5_shift_122 C k_x0 k_x1 hkm hW hZ _ (lv_sub hl [1, 2, 3, 4, 5, 6, 7] rfl) hE
set_option maxRecDepth 20000 in
theorem ct_X5_shift (l : Launch) (X : Ec) (F : Nat) {h : Hp} {x0 : Nat} {x1 : Nat} {x2 : Int32} {o : Hp} (k_x0 : hK h x0 = 5) (k_x1 : hK h x1 = 3) (hE : sX5_shift F h x0 x1 x2 = some o) : MetV l yX5_shift cX5_shift 8 none 1 26 X [.ref x0, .ref x1, .int x2] h o := by
  refine x_met (by decide) (Nat.le_of_ble_eq_true rfl) ?_
  intro p e s m below meth c ls C hl hW hZ
  have hl : lv_has ls 8 [(0, .ref x0), (1, .ref x1), (2, .int x2)] := hl
  have hkm : Km h h := Km.rf h
  refine lv_iload_n C.1 C.2.1 dX5_shift_0 rfl (lv_at hl 2 rfl) ?_
  obtain ⟨o_1, eo_1, hE⟩ := cl_e hE
  refine x_kI (o := o_1) (z_runS (As := [.int x2]) (rest := []) C (ct_X5_leftBy l X eo_1) cw_X5_236 hW hZ rfl hl.1 (Nat.le_of_ble_eq_true rfl) rfl dX5_shift_1 ⟨Nat.le_of_ble_eq_true rfl, Nat.le_of_ble_eq_true rfl⟩ ⟨Nat.le_refl _, Nat.le_refl _⟩) hZ (fun _ _ hW km hZ => ?_)
  replace hkm := hkm.tr km
  replace k_x0 := km.at k_x0 (by decide)
  replace k_x1 := km.at k_x1 (by decide)
  refine lv_istore_n (lv' := [(3, .int o_1.1), (0, .ref x0), (1, .ref x1), (2, .int x2)]) C.1 C.2.1 dX5_shift_4 rfl hl (by decide) rfl (fun ls hl => ?_)
  refine lv_iload_n C.1 C.2.1 dX5_shift_5 rfl (lv_at hl 3 rfl) ?_
  obtain ⟨o_2, eo_2, hE⟩ := cl_e hE
  refine x_kI (o := o_2) (z_runS (As := [.int x2]) (rest := []) C (ct_X5_comeTo l X eo_2) cw_X5_184 hW hZ rfl hl.1 (Nat.le_of_ble_eq_true rfl) rfl dX5_shift_6 ⟨Nat.le_of_ble_eq_true rfl, Nat.le_of_ble_eq_true rfl⟩ ⟨Nat.le_refl _, Nat.le_refl _⟩) hZ (fun _ _ hW km hZ => ?_)
  replace hkm := hkm.tr km
  replace k_x0 := km.at k_x0 (by decide)
  replace k_x1 := km.at k_x1 (by decide)
  refine lv_istore (lv' := [(4, .int o_2.1), (3, .int o_1.1), (0, .ref x0), (1, .ref x1), (2, .int x2)]) C.1 C.2.1 dX5_shift_9 hl (by decide) rfl (fun ls hl => ?_)
  refine lv_iload_n C.1 C.2.1 dX5_shift_11 rfl (lv_at hl 4 rfl) ?_
  obtain ⟨o_3, eo_3, hE⟩ := cl_e hE
  refine x_kI (o := o_3) (z_runS (As := [.int x2]) (rest := []) C (ct_X5_kindOf l X eo_3) cw_X5_233 hW hZ rfl hl.1 (Nat.le_of_ble_eq_true rfl) rfl dX5_shift_12 ⟨Nat.le_of_ble_eq_true rfl, Nat.le_of_ble_eq_true rfl⟩ ⟨Nat.le_refl _, Nat.le_refl _⟩) hZ (fun _ _ hW km hZ => ?_)
  replace hkm := hkm.tr km
  replace k_x0 := km.at k_x0 (by decide)
  replace k_x1 := km.at k_x1 (by decide)
  refine lv_istore (lv' := [(5, .int o_3.1), (4, .int o_2.1), (3, .int o_1.1), (0, .ref x0), (1, .ref x1), (2, .int x2)]) C.1 C.2.1 dX5_shift_15 hl (by decide) rfl (fun ls hl => ?_)
  refine lv_iconst (v := (2 : Int32)) C.1 C.2.1 dX5_shift_17 (by decide) ?_
  refine lv_iload_n C.1 C.2.1 dX5_shift_18 rfl (lv_at hl 5 rfl) ?_
  obtain ⟨o_4, eo_4, hE⟩ := cl_e hE
  refine x_kI (o := o_4) (z_runS (As := [.int x2]) (rest := [.int (2 : Int32)]) C (ct_X5_manOf l X eo_4) cw_X5_194 hW hZ rfl hl.1 (Nat.le_of_ble_eq_true rfl) rfl dX5_shift_19 ⟨Nat.le_of_ble_eq_true rfl, Nat.le_of_ble_eq_true rfl⟩ ⟨Nat.le_refl _, Nat.le_refl _⟩) hZ (fun _ _ hW km hZ => ?_)
  replace hkm := hkm.tr km
  replace k_x0 := km.at k_x0 (by decide)
  replace k_x1 := km.at k_x1 (by decide)
  refine lv_imul C.1 C.2.1 dX5_shift_22 ?_
  refine lv_aload_n C.1 C.2.1 dX5_shift_23 rfl (lv_at hl 4 rfl) ?_
  refine gf_X5_78 C hW k_x1 dX5_shift_24 ?_
  refine lv_iadd C.1 C.2.1 dX5_shift_27 ?_
  obtain ⟨v_5, ev_5, hE⟩ := nm_e2 hE
  refine x_nmI ev_5 ?_
  refine lv_istore (lv' := [(6, .int v_5), (5, .int o_3.1), (4, .int o_2.1), (3, .int o_1.1), (0, .ref x0), (1, .ref x1), (2, .int x2)]) C.1 C.2.1 dX5_shift_28 hl (by decide) rfl (fun ls hl => ?_)
  refine lv_iload C.1 C.2.1 dX5_shift_30 (lv_at hl 1 rfl) ?_
  refine lv_iconst (v := (3 : Int32)) C.1 C.2.1 dX5_shift_32 (by decide) ?_
  refine lv_icmp_ne (tgt := 52) C.1 C.2.1 dX5_shift_33 (by decide) (fun c_6 => ?_) (fun c_6 => ?_)
  · have hE := br_n hE c_6
    refine lv_iload C.1 C.2.1 dX5_shift_52 (lv_at hl 1 rfl) ?_
    refine lv_iconst (v := (2 : Int32)) C.1 C.2.1 dX5_shift_54 (by decide) ?_
    refine lv_icmp_ne (tgt := 122) C.1 C.2.1 dX5_shift_55 (by decide) (fun c_7 => ?_) (fun c_7 => ?_)
    · have hE := br_n hE c_7
      exact bX5_shift_122 C k_x0 k_x1 hkm hW hZ _ (lv_sub hl [4, 5, 6, 3, 2, 1, 0] rfl) hE
    · have hE := br_p hE c_7
      refine lv_aload_n C.1 C.2.1 dX5_shift_58 rfl (lv_at hl 4 rfl) ?_
      refine lv_aload_n C.1 C.2.1 dX5_shift_59 rfl (lv_at hl 5 rfl) ?_
      refine lv_iload_n C.1 C.2.1 dX5_shift_60 rfl (lv_at hl 3 rfl) ?_
      refine lv_iload C.1 C.2.1 dX5_shift_61 (lv_at hl 2 rfl) ?_
      refine lv_iload_n C.1 C.2.1 dX5_shift_63 rfl (lv_at hl 3 rfl) ?_
      refine lv_icmp_le (tgt := 71) C.1 C.2.1 dX5_shift_64 (by decide) (fun c_8 => ?_) (fun c_8 => ?_)
      · have hE := br_p hE c_8
        refine lv_iconst (v := (-1 : Int32)) C.1 C.2.1 dX5_shift_71 (by decide) ?_
        exact bX5_shift_72 C k_x0 k_x1 k_x1 k_x0 hkm hW hZ _ (lv_sub hl [4, 5, 6, 3, 2, 1, 0] rfl) hE
      · have hE := br_n hE c_8
        refine lv_iconst (v := (1 : Int32)) C.1 C.2.1 dX5_shift_67 (by decide) ?_
        refine lv_goto (tgt := 72) C.1 C.2.1 dX5_shift_68 (by decide) ?_
        exact bX5_shift_72 C k_x0 k_x1 k_x1 k_x0 hkm hW hZ _ (lv_sub hl [4, 5, 6, 3, 2, 1, 0] rfl) hE
  · have hE := br_p hE c_6
    refine lv_aload_n C.1 C.2.1 dX5_shift_36 rfl (lv_at hl 5 rfl) ?_
    refine lv_iload C.1 C.2.1 dX5_shift_37 (lv_at hl 2 rfl) ?_
    refine lv_iload C.1 C.2.1 dX5_shift_39 (lv_at hl 0 rfl) ?_
    refine lv_aload_n C.1 C.2.1 dX5_shift_41 rfl (lv_at hl 4 rfl) ?_
    obtain ⟨r_9, er_9, hE⟩ := cl_e hE
    refine gf_X5_22 C hW k_x0 er_9 dX5_shift_42 (fun k_r_9 => ?_)
    refine gf_X5_129 C hW k_r_9 dX5_shift_45 ?_
    obtain ⟨o_10, eo_10, hE⟩ := cl_e hE
    refine x_kV (o := o_10) (z_runV (As := [.int o_2.1, .int v_5, .int (hI o_4.2 r_9 4)]) (rest := []) C (ct_X3_put l X k_x1 eo_10) cw_X5_245 hW hZ k_x1 (by decide) rfl rfl rfl hl.1 (Nat.le_of_ble_eq_true rfl) rfl dX5_shift_48 ⟨Nat.le_of_ble_eq_true rfl, Nat.le_of_ble_eq_true rfl⟩ ⟨Nat.le_refl _, Nat.le_refl _⟩) hZ (fun _ _ hW km hZ => ?_)
    replace hkm := hkm.tr km
    replace k_x0 := km.at k_x0 (by decide)
    replace k_x1 := km.at k_x1 (by decide)
    exact x_vret C rfl hW hZ hkm hE dX5_shift_51
set_option maxRecDepth 100000 in
theorem m_113 : Cond.fieldLink RX5 256 (TX1 11).1 (TX1 11).2.1 (TX1 11).2.2.1 ∈ W0 := w0_in (List.mem_append_right _ (List.mem_of_getElem? (i := 113) rfl)) rfl
set_option maxRecDepth 100000 in
theorem m_235 : Cond.fieldLink RX5 253 (TX10 5).1 (TX10 5).2.1 (TX10 5).2.2.1 ∈ W0 := w0_in (List.mem_append_right _ (List.mem_of_getElem? (i := 235) rfl)) rfl
section
variable {p : Program} {l : Launch} {e : Env} {R : Room} {s : State} {m : MethodId} {args : Array Value} {below : List Frame} {meth : Method} {c : Code} {H : Heap} {locs : List Loc} {cells slots : Nat} {Q : State → Prop}
variable {cc : ByteArray} {pc : Nat} {ls : Array Slot} {rest : List Value} {X : Ec} {h h1 : Hp} {nL : Nat} {rt : Option FieldType} {mn : String}
theorem gf_X5_256 {a : Nat} (C : Cx X p s m args meth c RX5 cc nL rt mn) (hW : Wx X h H) (ha : hK h a = 1) (hdg : decode cc pc = .ok (.getfield 256, 3)) (kk : W p l e R s m args below meth c H locs cells slots Q (F0 m (pc + 3) ls (.int (hI h a 11) :: rest))) : W p l e R s m args below meth c H locs cells slots Q (F0 m pc ls (.ref a :: rest)) :=
  y_geti C hW ha i_X1 (by decide) rfl (by decide) m_113 rfl hdg kk
theorem gf_X5_253 {a r : Nat} (C : Cx X p s m args meth c RX5 cc nL rt mn) (hW : Wx X h H) (ha : hK h a = 10) (hr : hR h a 5 = some r) (hdg : decode cc pc = .ok (.getfield 253, 3)) (kk : hK h r = 18 → W p l e R s m args below meth c H locs cells slots Q (F0 m (pc + 3) ls (.ref r :: rest))) : W p l e R s m args below meth c H locs cells slots Q (F0 m pc ls (.ref a :: rest)) :=
  y_getr C hW ha i_X10 (by decide) rfl (by decide) m_235 rfl rfl hr hdg kk
end
theorem dX5_blast_0 : decode cX5_blast 0 = .ok (.aload_n 0, 1) := by decide +kernel
theorem dX5_blast_1 : decode cX5_blast 1 = .ok (.getfield 22, 3) := by decide +kernel
theorem dX5_blast_4 : decode cX5_blast 4 = .ok (.bipush 8, 2) := by decide +kernel
theorem dX5_blast_6 : decode cX5_blast 6 = .ok (.invokevirtual 104, 3) := by decide +kernel
theorem dX5_blast_9 : decode cX5_blast 9 = .ok (.ifCond .eq 11, 3) := by decide +kernel
theorem dX5_blast_12 : decode cX5_blast 12 = .ok (.iload_n 2, 1) := by decide +kernel
theorem dX5_blast_13 : decode cX5_blast 13 = .ok (.invokestatic 181, 3) := by decide +kernel
theorem dX5_blast_16 : decode cX5_blast 16 = .ok (.iconst (-1), 1) := by decide +kernel
theorem dX5_blast_17 : decode cX5_blast 17 = .ok (.if_icmp .ne 4, 3) := by decide +kernel
theorem dX5_blast_20 : decode cX5_blast 20 = .ok (.return_, 1) := by decide +kernel
theorem dX5_blast_21 : decode cX5_blast 21 = .ok (.iload_n 2, 1) := by decide +kernel
theorem dX5_blast_22 : decode cX5_blast 22 = .ok (.invokestatic 184, 3) := by decide +kernel
theorem dX5_blast_25 : decode cX5_blast 25 = .ok (.istore_n 3, 1) := by decide +kernel
theorem dX5_blast_26 : decode cX5_blast 26 = .ok (.aload_n 1, 1) := by decide +kernel
theorem dX5_blast_27 : decode cX5_blast 27 = .ok (.iload_n 3, 1) := by decide +kernel
theorem dX5_blast_28 : decode cX5_blast 28 = .ok (.iconst (-1), 1) := by decide +kernel
theorem dX5_blast_29 : decode cX5_blast 29 = .ok (.aload_n 0, 1) := by decide +kernel
theorem dX5_blast_30 : decode cX5_blast 30 = .ok (.getfield 22, 3) := by decide +kernel
theorem dX5_blast_33 : decode cX5_blast 33 = .ok (.getfield 129, 3) := by decide +kernel
theorem dX5_blast_36 : decode cX5_blast 36 = .ok (.invokevirtual 245, 3) := by decide +kernel
theorem dX5_blast_39 : decode cX5_blast 39 = .ok (.aload_n 0, 1) := by decide +kernel
theorem dX5_blast_40 : decode cX5_blast 40 = .ok (.getfield 26, 3) := by decide +kernel
theorem dX5_blast_43 : decode cX5_blast 43 = .ok (.getfield 253, 3) := by decide +kernel
theorem dX5_blast_46 : decode cX5_blast 46 = .ok (.iload_n 3, 1) := by decide +kernel
theorem dX5_blast_47 : decode cX5_blast 47 = .ok (.laload, 1) := by decide +kernel
theorem dX5_blast_48 : decode cX5_blast 48 = .ok (.aload_n 1, 1) := by decide +kernel
theorem dX5_blast_49 : decode cX5_blast 49 = .ok (.invokevirtual 138, 3) := by decide +kernel
theorem dX5_blast_52 : decode cX5_blast 52 = .ok (.land, 1) := by decide +kernel
theorem dX5_blast_53 : decode cX5_blast 53 = .ok (.lstore 4, 2) := by decide +kernel
theorem dX5_blast_55 : decode cX5_blast 55 = .ok (.iconst 0, 1) := by decide +kernel
theorem dX5_blast_56 : decode cX5_blast 56 = .ok (.istore 6, 2) := by decide +kernel
theorem dX5_blast_58 : decode cX5_blast 58 = .ok (.iload 6, 2) := by decide +kernel
theorem dX5_blast_60 : decode cX5_blast 60 = .ok (.bipush 64, 2) := by decide +kernel
theorem dX5_blast_62 : decode cX5_blast 62 = .ok (.if_icmp .ge 68, 3) := by decide +kernel
theorem dX5_blast_65 : decode cX5_blast 65 = .ok (.lload 4, 2) := by decide +kernel
theorem dX5_blast_67 : decode cX5_blast 67 = .ok (.lconst 0, 1) := by decide +kernel
theorem dX5_blast_68 : decode cX5_blast 68 = .ok (.lcmp, 1) := by decide +kernel
theorem dX5_blast_69 : decode cX5_blast 69 = .ok (.ifCond .eq 61, 3) := by decide +kernel
theorem dX5_blast_72 : decode cX5_blast 72 = .ok (.lload 4, 2) := by decide +kernel
theorem dX5_blast_74 : decode cX5_blast 74 = .ok (.invokestatic 85, 3) := by decide +kernel
theorem dX5_blast_77 : decode cX5_blast 77 = .ok (.istore 7, 2) := by decide +kernel
theorem dX5_blast_79 : decode cX5_blast 79 = .ok (.lload 4, 2) := by decide +kernel
theorem dX5_blast_81 : decode cX5_blast 81 = .ok (.lload 4, 2) := by decide +kernel
theorem dX5_blast_83 : decode cX5_blast 83 = .ok (.lconst 1, 1) := by decide +kernel
theorem dX5_blast_84 : decode cX5_blast 84 = .ok (.lsub, 1) := by decide +kernel
theorem dX5_blast_85 : decode cX5_blast 85 = .ok (.land, 1) := by decide +kernel
theorem dX5_blast_86 : decode cX5_blast 86 = .ok (.lstore 4, 2) := by decide +kernel
theorem dX5_blast_88 : decode cX5_blast 88 = .ok (.aload_n 0, 1) := by decide +kernel
theorem dX5_blast_89 : decode cX5_blast 89 = .ok (.getfield 22, 3) := by decide +kernel
theorem dX5_blast_92 : decode cX5_blast 92 = .ok (.getfield 256, 3) := by decide +kernel
theorem dX5_blast_95 : decode cX5_blast 95 = .ok (.aload_n 1, 1) := by decide +kernel
theorem dX5_blast_96 : decode cX5_blast 96 = .ok (.getfield 42, 3) := by decide +kernel
theorem dX5_blast_99 : decode cX5_blast 99 = .ok (.iload 7, 2) := by decide +kernel
theorem dX5_blast_101 : decode cX5_blast 101 = .ok (.baload, 1) := by decide +kernel
theorem dX5_blast_102 : decode cX5_blast 102 = .ok (.iconst 1, 1) := by decide +kernel
theorem dX5_blast_103 : decode cX5_blast 103 = .ok (.ishr, 1) := by decide +kernel
theorem dX5_blast_104 : decode cX5_blast 104 = .ok (.ishr, 1) := by decide +kernel
theorem dX5_blast_105 : decode cX5_blast 105 = .ok (.iconst 1, 1) := by decide +kernel
theorem dX5_blast_106 : decode cX5_blast 106 = .ok (.iand, 1) := by decide +kernel
theorem dX5_blast_107 : decode cX5_blast 107 = .ok (.ifCond .ne 17, 3) := by decide +kernel
theorem dX5_blast_110 : decode cX5_blast 110 = .ok (.aload_n 1, 1) := by decide +kernel
theorem dX5_blast_111 : decode cX5_blast 111 = .ok (.iload 7, 2) := by decide +kernel
theorem dX5_blast_113 : decode cX5_blast 113 = .ok (.iconst (-1), 1) := by decide +kernel
theorem dX5_blast_114 : decode cX5_blast 114 = .ok (.aload_n 0, 1) := by decide +kernel
theorem dX5_blast_115 : decode cX5_blast 115 = .ok (.getfield 22, 3) := by decide +kernel
theorem dX5_blast_118 : decode cX5_blast 118 = .ok (.getfield 129, 3) := by decide +kernel
theorem dX5_blast_121 : decode cX5_blast 121 = .ok (.invokevirtual 245, 3) := by decide +kernel
theorem dX5_blast_124 : decode cX5_blast 124 = .ok (.iinc 6 1, 3) := by decide +kernel
theorem dX5_blast_127 : decode cX5_blast 127 = .ok (.goto (-69), 3) := by decide +kernel
theorem dX5_blast_130 : decode cX5_blast 130 = .ok (.return_, 1) := by decide +kernel
def sX5_blast_20 (F : Nat) (h : Hp) : Option (Hp) := some h
def sX5_blast_130 (F : Nat) (h : Hp) : Option (Hp) := some h
def sX5_blast_124 (F : Nat) (k_58 : Hp → Nat → Nat → Int64 → Int32 → Option (Hp)) (h : Hp) (x0 : Nat) (x1 : Nat) (x4 : Int64) (x6 : Int32) : Option (Hp) := nm (x6 + (1 : Int32)) fun v_1 => k_58 h x0 x1 x4 v_1
def sX5_blast_58 (F : Nat) : Nat → Hp → Nat → Nat → Int64 → Int32 → Option (Hp)
  | 0, _, _, _, _, _ => none
  | f + 1, h, x0, x1, x4, x6 => br ((64 : Int32) ≤ x6) (sX5_blast_130 F h ) (br ((lg_cmp x4 (0 : Int64)) = 0) (sX5_blast_130 F h ) (cl (sX11_lowest h x4) fun o_3 => nm (x4 &&& (x4 - (1 : Int64))) fun v_4 => cl (hR o_3.2 x0 0) fun r_5 => cl (hR o_3.2 x1 0) fun r_6 => gd (inB o_3.1 (hN o_3.2 r_6)) <| br ((((hI o_3.2 r_5 11) >>> (((hI o_3.2 r_6 o_3.1.toNatClampNeg) >>> ((1 : Int32) &&& 31)) &&& 31)) &&& (1 : Int32)) = 0) (cl (hR o_3.2 x0 0) fun r_9 => cl (sX3_put o_3.2 x1 o_3.1 (-1 : Int32) (hI o_3.2 r_9 4)) fun o_10 => sX5_blast_124 F (sX5_blast_58 F f) o_10 x0 x1 v_4 x6) (sX5_blast_124 F (sX5_blast_58 F f) o_3.2 x0 x1 v_4 x6)))
def sX5_blast (F : Nat) (h : Hp) (x0 : Nat) (x1 : Nat) (x2 : Int32) : Option (Hp) := cl (hR h x0 0) fun r_1 => cl (sX1_has h r_1 (8 : Int32)) fun o_2 => br (o_2.1 = 0) (sX5_blast_20 F o_2.2 ) (cl (sX5_takenBy o_2.2 x2) fun o_4 => br (o_4.1 = (-1 : Int32)) (sX5_blast_20 F o_4.2 ) (cl (sX5_comeTo o_4.2 x2) fun o_6 => cl (hR o_6.2 x0 0) fun r_7 => cl (sX3_put o_6.2 x1 o_6.1 (-1 : Int32) (hI o_6.2 r_7 4)) fun o_8 => cl (hR o_8 x0 1) fun r_9 => cl (hR o_8 r_9 5) fun r_10 => gd (inB o_6.1 (hN o_8 r_10)) <| cl (sX3_occupied o_8 x1) fun o_12 => nm ((hJ o_8 r_10 o_6.1.toNatClampNeg) &&& o_12.1) fun v_13 => sX5_blast_58 F F o_12.2 x0 x1 v_13 (0 : Int32)))
set_option maxRecDepth 20000 in
theorem moX5_blast_20 {o : Hp} {F : Nat} {h : Hp} (hE : sX5_blast_20 F h  = some o) : Le h o := by
  exact le_some1 hE
set_option maxRecDepth 20000 in
theorem moX5_blast_130 {o : Hp} {F : Nat} {h : Hp} (hE : sX5_blast_130 F h  = some o) : Le h o := by
  exact le_some1 hE
set_option maxRecDepth 20000 in
theorem moX5_blast_124 {o : Hp} {k_58 : Hp → Nat → Nat → Int64 → Int32 → Option (Hp)} {F : Nat} (mk_58 : ∀ (h : Hp) (x0 : Nat) (x1 : Nat) (x4 : Int64) (x6 : Int32), k_58 h x0 x1 x4 x6 = some o → Le h o) {h : Hp} {x0 : Nat} {x1 : Nat} {x4 : Int64} {x6 : Int32} (hE : sX5_blast_124 F k_58 h x0 x1 x4 x6 = some o) : Le h o := by
  obtain ⟨v_1, ev_1, hE⟩ := nm_e2 hE
  exact mk_58 _ _ _ _ _ hE
set_option maxRecDepth 20000 in
theorem moX5_blast_58 {o : Hp} {F : Nat} : ∀ (f : Nat) {h : Hp} {x0 : Nat} {x1 : Nat} {x4 : Int64} {x6 : Int32}, sX5_blast_58 F f h x0 x1 x4 x6 = some o → Le h o := by
  intro f
  induction f with
  | zero =>
    intro h x0 x1 x4 x6 hE
    rw [sX5_blast_58] at hE
    cases hE
  | succ f ih =>
    intro h x0 x1 x4 x6 hE
    rw [sX5_blast_58] at hE
    have mk_58 : ∀ (h : Hp) (x0 : Nat) (x1 : Nat) (x4 : Int64) (x6 : Int32), sX5_blast_58 F f h x0 x1 x4 x6 = some o → Le h o := fun h x0 x1 x4 x6 hE => ih hE
    rcases br_e hE with ⟨_, hE⟩ | ⟨_, hE⟩
    · exact moX5_blast_130 hE
    · rcases br_e hE with ⟨_, hE⟩ | ⟨_, hE⟩
      · exact moX5_blast_130 hE
      · obtain ⟨o_3, eo_3, hE⟩ := cl_e hE
        refine (moX11_lowest eo_3).tr ?_
        obtain ⟨v_4, ev_4, hE⟩ := nm_e2 hE
        obtain ⟨r_5, er_5, hE⟩ := cl_e hE
        obtain ⟨r_6, er_6, hE⟩ := cl_e hE
        obtain ⟨g_7, hE⟩ := gd_e hE
        rcases br_e hE with ⟨_, hE⟩ | ⟨_, hE⟩
        · obtain ⟨r_9, er_9, hE⟩ := cl_e hE
          obtain ⟨o_10, eo_10, hE⟩ := cl_e hE
          refine (moX3_put eo_10).tr ?_
          exact moX5_blast_124 mk_58 hE
        · exact moX5_blast_124 mk_58 hE
set_option maxRecDepth 20000 in
theorem moX5_blast {o : Hp} {F : Nat} {h : Hp} {x0 : Nat} {x1 : Nat} {x2 : Int32} (hE : sX5_blast F h x0 x1 x2 = some o) : Le h o := by
  obtain ⟨r_1, er_1, hE⟩ := cl_e hE
  obtain ⟨o_2, eo_2, hE⟩ := cl_e hE
  refine (moX1_has eo_2).tr ?_
  rcases br_e hE with ⟨_, hE⟩ | ⟨_, hE⟩
  · exact moX5_blast_20 hE
  · obtain ⟨o_4, eo_4, hE⟩ := cl_e hE
    refine (moX5_takenBy eo_4).tr ?_
    rcases br_e hE with ⟨_, hE⟩ | ⟨_, hE⟩
    · exact moX5_blast_20 hE
    · obtain ⟨o_6, eo_6, hE⟩ := cl_e hE
      refine (moX5_comeTo eo_6).tr ?_
      obtain ⟨r_7, er_7, hE⟩ := cl_e hE
      obtain ⟨o_8, eo_8, hE⟩ := cl_e hE
      refine (moX3_put eo_8).tr ?_
      obtain ⟨r_9, er_9, hE⟩ := cl_e hE
      obtain ⟨r_10, er_10, hE⟩ := cl_e hE
      obtain ⟨g_11, hE⟩ := gd_e hE
      obtain ⟨o_12, eo_12, hE⟩ := cl_e hE
      refine (moX3_occupied eo_12).tr ?_
      obtain ⟨v_13, ev_13, hE⟩ := nm_e2 hE
      exact moX5_blast_58 _ hE
set_option maxRecDepth 20000 in
theorem bX5_blast_20 {p : Program} {l : Launch} {e : Env} {s : State} {m : MethodId} {args : Array Value} {below : List Frame} {meth : Method} {c : Code} {X : Ec} {h0 : Hp} {o : Hp} {F : Nat} (C : Cx X p s m args meth c RX5 cX5_blast 8 none "blast") {h : Hp} {H : Heap} {locs : List Loc} (hkm : Km h0 h) (hW : Wx X h H) (hZ : va_S (aA (eB X)) s.heap H locs) (ls : Array Slot) (hl : lv_has ls 8 []) (hE : sX5_blast_20 F h  = some o) : W p l e (rm 1 26) s m args below meth c H locs 0 0 (MQ below (QV X h0 o) args s 0 0 (aA (eB X))) (F0 m 20 ls []) := by
  exact x_vret C rfl hW hZ hkm hE dX5_blast_20
set_option maxRecDepth 20000 in
theorem bX5_blast_130 {p : Program} {l : Launch} {e : Env} {s : State} {m : MethodId} {args : Array Value} {below : List Frame} {meth : Method} {c : Code} {X : Ec} {h0 : Hp} {o : Hp} {F : Nat} (C : Cx X p s m args meth c RX5 cX5_blast 8 none "blast") {h : Hp} {H : Heap} {locs : List Loc} (hkm : Km h0 h) (hW : Wx X h H) (hZ : va_S (aA (eB X)) s.heap H locs) (ls : Array Slot) (hl : lv_has ls 8 []) (hE : sX5_blast_130 F h  = some o) : W p l e (rm 1 26) s m args below meth c H locs 0 0 (MQ below (QV X h0 o) args s 0 0 (aA (eB X))) (F0 m 130 ls []) := by
  exact x_vret C rfl hW hZ hkm hE dX5_blast_130
set_option maxRecDepth 20000 in
theorem bX5_blast_124 {p : Program} {l : Launch} {e : Env} {s : State} {m : MethodId} {args : Array Value} {below : List Frame} {meth : Method} {c : Code} {X : Ec} {h0 : Hp} {o : Hp} {k_58 : Hp → Nat → Nat → Int64 → Int32 → Option (Hp)} {F : Nat} (C : Cx X p s m args meth c RX5 cX5_blast 8 none "blast") (hk_58 : ∀ (h : Hp) (x0 : Nat) (x1 : Nat) (x4 : Int64) (x6 : Int32) (H : Heap) (locs : List Loc), hK h x0 = 5 → hK h x1 = 3 → Km h0 h → Wx X h H → va_S (aA (eB X)) s.heap H locs → ∀ (ls : Array Slot), lv_has ls 8 [(0, .ref x0), (1, .ref x1), (4, .long x4), (6, .int x6)] → k_58 h x0 x1 x4 x6 = some o → W p l e (rm 1 26) s m args below meth c H locs 0 0 (MQ below (QV X h0 o) args s 0 0 (aA (eB X))) (F0 m 58 ls [])) {h : Hp} {x0 : Nat} {x1 : Nat} {x4 : Int64} {x6 : Int32} {H : Heap} {locs : List Loc} (k_x0 : hK h x0 = 5) (k_x1 : hK h x1 = 3) (hkm : Km h0 h) (hW : Wx X h H) (hZ : va_S (aA (eB X)) s.heap H locs) (ls : Array Slot) (hl : lv_has ls 8 [(0, .ref x0), (1, .ref x1), (4, .long x4), (6, .int x6)]) (hE : sX5_blast_124 F k_58 h x0 x1 x4 x6 = some o) : W p l e (rm 1 26) s m args below meth c H locs 0 0 (MQ below (QV X h0 o) args s 0 0 (aA (eB X))) (F0 m 124 ls []) := by
  obtain ⟨v_1, ev_1, hE⟩ := nm_e2 hE
  refine lv_iinc (v := v_1) (lv' := [(6, .int v_1), (0, .ref x0), (1, .ref x1), (4, .long x4)]) C.1 C.2.1 dX5_blast_124 hl (k := 3) rfl (by rw [ev_1]; rfl) (by decide) rfl (fun ls hl => ?_)
  refine lv_goto (tgt := 58) C.1 C.2.1 dX5_blast_127 (by decide) ?_
  exact hk_58 _ _ _ _ _ _ _ k_x0 k_x1 hkm hW hZ _ (lv_sub hl [1, 2, 3, 0] rfl) hE
set_option maxRecDepth 20000 in
theorem bX5_blast_58 {p : Program} {l : Launch} {e : Env} {s : State} {m : MethodId} {args : Array Value} {below : List Frame} {meth : Method} {c : Code} {X : Ec} {h0 : Hp} {o : Hp} {F : Nat} (C : Cx X p s m args meth c RX5 cX5_blast 8 none "blast") : ∀ (f : Nat) {h : Hp} {x0 : Nat} {x1 : Nat} {x4 : Int64} {x6 : Int32} {H : Heap} {locs : List Loc} (k_x0 : hK h x0 = 5) (k_x1 : hK h x1 = 3), Km h0 h → Wx X h H → va_S (aA (eB X)) s.heap H locs → ∀ (ls : Array Slot), lv_has ls 8 [(0, .ref x0), (1, .ref x1), (4, .long x4), (6, .int x6)] → sX5_blast_58 F f h x0 x1 x4 x6 = some o → W p l e (rm 1 26) s m args below meth c H locs 0 0 (MQ below (QV X h0 o) args s 0 0 (aA (eB X))) (F0 m 58 ls []) := by
  intro f
  induction f with
  | zero =>
    intro h x0 x1 x4 x6 H locs k_x0 k_x1 hkm hW hZ ls hl hE
    rw [sX5_blast_58] at hE
    cases hE
  | succ f ih =>
    intro h x0 x1 x4 x6 H locs k_x0 k_x1 hkm hW hZ ls hl hE
    rw [sX5_blast_58] at hE
    have hk_58 : ∀ (h : Hp) (x0 : Nat) (x1 : Nat) (x4 : Int64) (x6 : Int32) (H : Heap) (locs : List Loc), hK h x0 = 5 → hK h x1 = 3 → Km h0 h → Wx X h H → va_S (aA (eB X)) s.heap H locs → ∀ (ls : Array Slot), lv_has ls 8 [(0, .ref x0), (1, .ref x1), (4, .long x4), (6, .int x6)] → sX5_blast_58 F f h x0 x1 x4 x6 = some o → W p l e (rm 1 26) s m args below meth c H locs 0 0 (MQ below (QV X h0 o) args s 0 0 (aA (eB X))) (F0 m 58 ls []) := fun h x0 x1 x4 x6 H locs k_x0 k_x1 a b c ls hl hE => ih k_x0 k_x1 a b c ls hl hE
    refine lv_iload C.1 C.2.1 dX5_blast_58 (lv_at hl 3 rfl) ?_
    refine lv_bipush (v := (64 : Int32)) C.1 C.2.1 dX5_blast_60 (by decide) ?_
    refine lv_icmp_ge (tgt := 130) C.1 C.2.1 dX5_blast_62 (by decide) (fun c_1 => ?_) (fun c_1 => ?_)
    · have hE := br_p hE c_1
      exact bX5_blast_130 C hkm hW hZ _ (lv_sub hl [] rfl) hE
    · have hE := br_n hE c_1
      refine lv_lload C.1 C.2.1 dX5_blast_65 (lv_at hl 2 rfl) ?_
      refine lv_lconst (v := (0 : Int64)) C.1 C.2.1 dX5_blast_67 (by decide) ?_
      refine W.lcmp C.1 C.2.1 dX5_blast_68 ?_
      refine lv_if_eq (tgt := 130) C.1 C.2.1 dX5_blast_69 (by decide) (fun c_2 => ?_) (fun c_2 => ?_)
      · have hE := br_p hE c_2
        exact bX5_blast_130 C hkm hW hZ _ (lv_sub hl [] rfl) hE
      · have hE := br_n hE c_2
        refine lv_lload C.1 C.2.1 dX5_blast_72 (lv_at hl 2 rfl) ?_
        obtain ⟨o_3, eo_3, hE⟩ := cl_e hE
        refine x_kI (o := o_3) (x_runSN (As := [.long x4]) (rest := []) C (ct_X11_lowest l X eo_3) cn_X5_85 hW hZ rfl hl.1 (Nat.le_of_ble_eq_true rfl) rfl dX5_blast_74 ⟨Nat.le_of_ble_eq_true rfl, Nat.le_of_ble_eq_true rfl⟩ ⟨Nat.le_refl _, Nat.le_refl _⟩) hZ (fun _ _ hW km hZ => ?_)
        replace hkm := hkm.tr km
        replace k_x0 := km.at k_x0 (by decide)
        replace k_x1 := km.at k_x1 (by decide)
        refine lv_istore (lv' := [(7, .int o_3.1), (0, .ref x0), (1, .ref x1), (4, .long x4), (6, .int x6)]) C.1 C.2.1 dX5_blast_77 hl (by decide) rfl (fun ls hl => ?_)
        refine lv_lload C.1 C.2.1 dX5_blast_79 (lv_at hl 3 rfl) ?_
        refine lv_lload C.1 C.2.1 dX5_blast_81 (lv_at hl 3 rfl) ?_
        refine lv_lconst (v := (1 : Int64)) C.1 C.2.1 dX5_blast_83 (by decide) ?_
        refine lv_lsub C.1 C.2.1 dX5_blast_84 ?_
        refine lv_land C.1 C.2.1 dX5_blast_85 ?_
        obtain ⟨v_4, ev_4, hE⟩ := nm_e2 hE
        refine x_nmJ ev_4 ?_
        refine lv_lstore (lv' := [(4, .long v_4), (7, .int o_3.1), (0, .ref x0), (1, .ref x1), (6, .int x6)]) C.1 C.2.1 dX5_blast_86 hl (by decide) rfl (fun ls hl => ?_)
        refine lv_aload_n C.1 C.2.1 dX5_blast_88 rfl (lv_at hl 2 rfl) ?_
        obtain ⟨r_5, er_5, hE⟩ := cl_e hE
        refine gf_X5_22 C hW k_x0 er_5 dX5_blast_89 (fun k_r_5 => ?_)
        refine gf_X5_256 C hW k_r_5 dX5_blast_92 ?_
        refine lv_aload_n C.1 C.2.1 dX5_blast_95 rfl (lv_at hl 3 rfl) ?_
        obtain ⟨r_6, er_6, hE⟩ := cl_e hE
        refine gf_X5_42 C hW k_x1 er_6 dX5_blast_96 (fun k_r_6 => ?_)
        refine lv_iload C.1 C.2.1 dX5_blast_99 (lv_at hl 1 rfl) ?_
        obtain ⟨g_7, hE⟩ := gd_e hE
        refine y_bald C hW k_r_6 g_7 dX5_blast_101 ?_
        refine lv_iconst (v := (1 : Int32)) C.1 C.2.1 dX5_blast_102 (by decide) ?_
        refine lv_ishr C.1 C.2.1 dX5_blast_103 ?_
        refine lv_ishr C.1 C.2.1 dX5_blast_104 ?_
        refine lv_iconst (v := (1 : Int32)) C.1 C.2.1 dX5_blast_105 (by decide) ?_
        refine lv_iand C.1 C.2.1 dX5_blast_106 ?_
        refine lv_if_ne (tgt := 124) C.1 C.2.1 dX5_blast_107 (by decide) (fun c_8 => ?_) (fun c_8 => ?_)
        · have hE := br_n hE c_8
          exact bX5_blast_124 C hk_58 k_x0 k_x1 hkm hW hZ _ (lv_sub hl [2, 3, 0, 4] rfl) hE
        · have hE := br_p hE c_8
          refine lv_aload_n C.1 C.2.1 dX5_blast_110 rfl (lv_at hl 3 rfl) ?_
          refine lv_iload C.1 C.2.1 dX5_blast_111 (lv_at hl 1 rfl) ?_
          refine lv_iconst (v := (-1 : Int32)) C.1 C.2.1 dX5_blast_113 (by decide) ?_
          refine lv_aload_n C.1 C.2.1 dX5_blast_114 rfl (lv_at hl 2 rfl) ?_
          obtain ⟨r_9, er_9, hE⟩ := cl_e hE
          refine gf_X5_22 C hW k_x0 er_9 dX5_blast_115 (fun k_r_9 => ?_)
          refine gf_X5_129 C hW k_r_9 dX5_blast_118 ?_
          obtain ⟨o_10, eo_10, hE⟩ := cl_e hE
          refine x_kV (o := o_10) (z_runV (As := [.int o_3.1, .int (-1 : Int32), .int (hI o_3.2 r_9 4)]) (rest := []) C (ct_X3_put l X k_x1 eo_10) cw_X5_245 hW hZ k_x1 (by decide) rfl rfl rfl hl.1 (Nat.le_of_ble_eq_true rfl) rfl dX5_blast_121 ⟨Nat.le_of_ble_eq_true rfl, Nat.le_of_ble_eq_true rfl⟩ ⟨Nat.le_refl _, Nat.le_refl _⟩) hZ (fun _ _ hW km hZ => ?_)
          replace hkm := hkm.tr km
          replace k_x0 := km.at k_x0 (by decide)
          replace k_x1 := km.at k_x1 (by decide)
          exact bX5_blast_124 C hk_58 k_x0 k_x1 hkm hW hZ _ (lv_sub hl [2, 3, 0, 4] rfl) hE
set_option maxRecDepth 20000 in
theorem ct_X5_blast (l : Launch) (X : Ec) (F : Nat) {h : Hp} {x0 : Nat} {x1 : Nat} {x2 : Int32} {o : Hp} (k_x0 : hK h x0 = 5) (k_x1 : hK h x1 = 3) (hE : sX5_blast F h x0 x1 x2 = some o) : MetV l yX5_blast cX5_blast 8 none 1 26 X [.ref x0, .ref x1, .int x2] h o := by
  refine x_met (by decide) (Nat.le_of_ble_eq_true rfl) ?_
  intro p e s m below meth c ls C hl hW hZ
  have hl : lv_has ls 8 [(0, .ref x0), (1, .ref x1), (2, .int x2)] := hl
  have hkm : Km h h := Km.rf h
  refine lv_aload_n C.1 C.2.1 dX5_blast_0 rfl (lv_at hl 0 rfl) ?_
  obtain ⟨r_1, er_1, hE⟩ := cl_e hE
  refine gf_X5_22 C hW k_x0 er_1 dX5_blast_1 (fun k_r_1 => ?_)
  refine lv_bipush (v := (8 : Int32)) C.1 C.2.1 dX5_blast_4 (by decide) ?_
  obtain ⟨o_2, eo_2, hE⟩ := cl_e hE
  refine x_kI (o := o_2) (z_runV (As := [.int (8 : Int32)]) (rest := []) C (ct_X1_has l X k_r_1 eo_2) cw_X5_104 hW hZ k_r_1 (by decide) rfl rfl rfl hl.1 (Nat.le_of_ble_eq_true rfl) rfl dX5_blast_6 ⟨Nat.le_of_ble_eq_true rfl, Nat.le_of_ble_eq_true rfl⟩ ⟨Nat.le_refl _, Nat.le_refl _⟩) hZ (fun _ _ hW km hZ => ?_)
  replace hkm := hkm.tr km
  replace k_x0 := km.at k_x0 (by decide)
  replace k_x1 := km.at k_x1 (by decide)
  refine lv_if_eq (tgt := 20) C.1 C.2.1 dX5_blast_9 (by decide) (fun c_3 => ?_) (fun c_3 => ?_)
  · have hE := br_p hE c_3
    exact bX5_blast_20 C hkm hW hZ _ (lv_sub hl [] rfl) hE
  · have hE := br_n hE c_3
    refine lv_iload_n C.1 C.2.1 dX5_blast_12 rfl (lv_at hl 2 rfl) ?_
    obtain ⟨o_4, eo_4, hE⟩ := cl_e hE
    refine x_kI (o := o_4) (z_runS (As := [.int x2]) (rest := []) C (ct_X5_takenBy l X eo_4) cw_X5_181 hW hZ rfl hl.1 (Nat.le_of_ble_eq_true rfl) rfl dX5_blast_13 ⟨Nat.le_of_ble_eq_true rfl, Nat.le_of_ble_eq_true rfl⟩ ⟨Nat.le_refl _, Nat.le_refl _⟩) hZ (fun _ _ hW km hZ => ?_)
    replace hkm := hkm.tr km
    replace k_x0 := km.at k_x0 (by decide)
    replace k_x1 := km.at k_x1 (by decide)
    refine lv_iconst (v := (-1 : Int32)) C.1 C.2.1 dX5_blast_16 (by decide) ?_
    refine lv_icmp_ne (tgt := 21) C.1 C.2.1 dX5_blast_17 (by decide) (fun c_5 => ?_) (fun c_5 => ?_)
    · have hE := br_n hE c_5
      refine lv_iload_n C.1 C.2.1 dX5_blast_21 rfl (lv_at hl 2 rfl) ?_
      obtain ⟨o_6, eo_6, hE⟩ := cl_e hE
      refine x_kI (o := o_6) (z_runS (As := [.int x2]) (rest := []) C (ct_X5_comeTo l X eo_6) cw_X5_184 hW hZ rfl hl.1 (Nat.le_of_ble_eq_true rfl) rfl dX5_blast_22 ⟨Nat.le_of_ble_eq_true rfl, Nat.le_of_ble_eq_true rfl⟩ ⟨Nat.le_refl _, Nat.le_refl _⟩) hZ (fun _ _ hW km hZ => ?_)
      replace hkm := hkm.tr km
      replace k_x0 := km.at k_x0 (by decide)
      replace k_x1 := km.at k_x1 (by decide)
      refine lv_istore_n (lv' := [(3, .int o_6.1), (0, .ref x0), (1, .ref x1), (2, .int x2)]) C.1 C.2.1 dX5_blast_25 rfl hl (by decide) rfl (fun ls hl => ?_)
      refine lv_aload_n C.1 C.2.1 dX5_blast_26 rfl (lv_at hl 2 rfl) ?_
      refine lv_iload_n C.1 C.2.1 dX5_blast_27 rfl (lv_at hl 0 rfl) ?_
      refine lv_iconst (v := (-1 : Int32)) C.1 C.2.1 dX5_blast_28 (by decide) ?_
      refine lv_aload_n C.1 C.2.1 dX5_blast_29 rfl (lv_at hl 1 rfl) ?_
      obtain ⟨r_7, er_7, hE⟩ := cl_e hE
      refine gf_X5_22 C hW k_x0 er_7 dX5_blast_30 (fun k_r_7 => ?_)
      refine gf_X5_129 C hW k_r_7 dX5_blast_33 ?_
      obtain ⟨o_8, eo_8, hE⟩ := cl_e hE
      refine x_kV (o := o_8) (z_runV (As := [.int o_6.1, .int (-1 : Int32), .int (hI o_6.2 r_7 4)]) (rest := []) C (ct_X3_put l X k_x1 eo_8) cw_X5_245 hW hZ k_x1 (by decide) rfl rfl rfl hl.1 (Nat.le_of_ble_eq_true rfl) rfl dX5_blast_36 ⟨Nat.le_of_ble_eq_true rfl, Nat.le_of_ble_eq_true rfl⟩ ⟨Nat.le_refl _, Nat.le_refl _⟩) hZ (fun _ _ hW km hZ => ?_)
      replace hkm := hkm.tr km
      replace k_x0 := km.at k_x0 (by decide)
      replace k_x1 := km.at k_x1 (by decide)
      refine lv_aload_n C.1 C.2.1 dX5_blast_39 rfl (lv_at hl 1 rfl) ?_
      obtain ⟨r_9, er_9, hE⟩ := cl_e hE
      refine gf_X5_26 C hW k_x0 er_9 dX5_blast_40 (fun k_r_9 => ?_)
      obtain ⟨r_10, er_10, hE⟩ := cl_e hE
      refine gf_X5_253 C hW k_r_9 er_10 dX5_blast_43 (fun k_r_10 => ?_)
      refine lv_iload_n C.1 C.2.1 dX5_blast_46 rfl (lv_at hl 0 rfl) ?_
      obtain ⟨g_11, hE⟩ := gd_e hE
      refine y_lald C hW k_r_10 g_11 dX5_blast_47 ?_
      refine lv_aload_n C.1 C.2.1 dX5_blast_48 rfl (lv_at hl 2 rfl) ?_
      obtain ⟨o_12, eo_12, hE⟩ := cl_e hE
      refine x_kJ (o := o_12) (z_runV (As := []) (rest := [.long (hJ o_8 r_10 o_6.1.toNatClampNeg)]) C (ct_X3_occupied l X k_x1 eo_12) cw_X5_138 hW hZ k_x1 (by decide) rfl rfl rfl hl.1 (Nat.le_of_ble_eq_true rfl) rfl dX5_blast_49 ⟨Nat.le_of_ble_eq_true rfl, Nat.le_of_ble_eq_true rfl⟩ ⟨Nat.le_refl _, Nat.le_refl _⟩) hZ (fun _ _ hW km hZ => ?_)
      replace hkm := hkm.tr km
      replace k_x0 := km.at k_x0 (by decide)
      replace k_x1 := km.at k_x1 (by decide)
      refine lv_land C.1 C.2.1 dX5_blast_52 ?_
      obtain ⟨v_13, ev_13, hE⟩ := nm_e2 hE
      refine x_nmJ ev_13 ?_
      refine lv_lstore (lv' := [(4, .long v_13), (3, .int o_6.1), (0, .ref x0), (1, .ref x1), (2, .int x2)]) C.1 C.2.1 dX5_blast_53 hl (by decide) rfl (fun ls hl => ?_)
      refine lv_iconst (v := (0 : Int32)) C.1 C.2.1 dX5_blast_55 (by decide) ?_
      refine lv_istore (lv' := [(6, .int (0 : Int32)), (4, .long v_13), (3, .int o_6.1), (0, .ref x0), (1, .ref x1), (2, .int x2)]) C.1 C.2.1 dX5_blast_56 hl (by decide) rfl (fun ls hl => ?_)
      exact bX5_blast_58 C F k_x0 k_x1 hkm hW hZ _ (lv_sub hl [3, 4, 1, 0] rfl) hE
    · have hE := br_p hE c_5
      exact bX5_blast_20 C hkm hW hZ _ (lv_sub hl [] rfl) hE
section
variable {p : Program} {l : Launch} {e : Env} {R : Room} {s : State} {m : MethodId} {args : Array Value} {below : List Frame} {meth : Method} {c : Code} {H : Heap} {locs : List Loc} {cells slots : Nat} {Q : State → Prop}
variable {cc : ByteArray} {pc : Nat} {ls : Array Slot} {rest : List Value} {X : Ec} {h h1 : Hp} {nL : Nat} {rt : Option FieldType} {mn : String}
theorem gf_X5_18 {a r : Nat} (C : Cx X p s m args meth c RX5 cc nL rt mn) (hW : Wx X h H) (ha : hK h a = 5) (hr : hR h a 3 = some r) (hdg : decode cc pc = .ok (.getfield 18, 3)) (kk : hK h r = 3 → W p l e R s m args below meth c H locs cells slots Q (F0 m (pc + 3) ls (.ref r :: rest))) : W p l e R s m args below meth c H locs cells slots Q (F0 m pc ls (.ref a :: rest)) :=
  y_getr C hW ha i_X5 (by decide) rfl (by decide) m_348 rfl rfl hr hdg kk
end
theorem dX5_mayStand_0 : decode cX5_mayStand 0 = .ok (.aload_n 0, 1) := by decide +kernel
theorem dX5_mayStand_1 : decode cX5_mayStand 1 = .ok (.getfield 71, 3) := by decide +kernel
theorem dX5_mayStand_4 : decode cX5_mayStand 4 = .ok (.getfield 78, 3) := by decide +kernel
theorem dX5_mayStand_7 : decode cX5_mayStand 7 = .ok (.istore_n 1, 1) := by decide +kernel
theorem dX5_mayStand_8 : decode cX5_mayStand 8 = .ok (.iconst 1, 1) := by decide +kernel
theorem dX5_mayStand_9 : decode cX5_mayStand 9 = .ok (.iload_n 1, 1) := by decide +kernel
theorem dX5_mayStand_10 : decode cX5_mayStand 10 = .ok (.isub, 1) := by decide +kernel
theorem dX5_mayStand_11 : decode cX5_mayStand 11 = .ok (.istore_n 2, 1) := by decide +kernel
theorem dX5_mayStand_12 : decode cX5_mayStand 12 = .ok (.aload_n 0, 1) := by decide +kernel
theorem dX5_mayStand_13 : decode cX5_mayStand 13 = .ok (.getfield 18, 3) := by decide +kernel
theorem dX5_mayStand_16 : decode cX5_mayStand 16 = .ok (.getfield 60, 3) := by decide +kernel
theorem dX5_mayStand_19 : decode cX5_mayStand 19 = .ok (.iload_n 1, 1) := by decide +kernel
theorem dX5_mayStand_20 : decode cX5_mayStand 20 = .ok (.iaload, 1) := by decide +kernel
theorem dX5_mayStand_21 : decode cX5_mayStand 21 = .ok (.istore_n 3, 1) := by decide +kernel
theorem dX5_mayStand_22 : decode cX5_mayStand 22 = .ok (.aload_n 0, 1) := by decide +kernel
theorem dX5_mayStand_23 : decode cX5_mayStand 23 = .ok (.getfield 18, 3) := by decide +kernel
theorem dX5_mayStand_26 : decode cX5_mayStand 26 = .ok (.getfield 60, 3) := by decide +kernel
theorem dX5_mayStand_29 : decode cX5_mayStand 29 = .ok (.iload_n 2, 1) := by decide +kernel
theorem dX5_mayStand_30 : decode cX5_mayStand 30 = .ok (.iaload, 1) := by decide +kernel
theorem dX5_mayStand_31 : decode cX5_mayStand 31 = .ok (.istore 4, 2) := by decide +kernel
theorem dX5_mayStand_33 : decode cX5_mayStand 33 = .ok (.aload_n 0, 1) := by decide +kernel
theorem dX5_mayStand_34 : decode cX5_mayStand 34 = .ok (.getfield 71, 3) := by decide +kernel
theorem dX5_mayStand_37 : decode cX5_mayStand 37 = .ok (.getfield 60, 3) := by decide +kernel
theorem dX5_mayStand_40 : decode cX5_mayStand 40 = .ok (.iload_n 1, 1) := by decide +kernel
theorem dX5_mayStand_41 : decode cX5_mayStand 41 = .ok (.iaload, 1) := by decide +kernel
theorem dX5_mayStand_42 : decode cX5_mayStand 42 = .ok (.iconst (-1), 1) := by decide +kernel
theorem dX5_mayStand_43 : decode cX5_mayStand 43 = .ok (.if_icmp .eq 54, 3) := by decide +kernel
theorem dX5_mayStand_46 : decode cX5_mayStand 46 = .ok (.aload_n 0, 1) := by decide +kernel
theorem dX5_mayStand_47 : decode cX5_mayStand 47 = .ok (.getfield 71, 3) := by decide +kernel
theorem dX5_mayStand_50 : decode cX5_mayStand 50 = .ok (.getfield 60, 3) := by decide +kernel
theorem dX5_mayStand_53 : decode cX5_mayStand 53 = .ok (.iload_n 2, 1) := by decide +kernel
theorem dX5_mayStand_54 : decode cX5_mayStand 54 = .ok (.iaload, 1) := by decide +kernel
theorem dX5_mayStand_55 : decode cX5_mayStand 55 = .ok (.iconst (-1), 1) := by decide +kernel
theorem dX5_mayStand_56 : decode cX5_mayStand 56 = .ok (.if_icmp .eq 13, 3) := by decide +kernel
theorem dX5_mayStand_59 : decode cX5_mayStand 59 = .ok (.iload 4, 2) := by decide +kernel
theorem dX5_mayStand_61 : decode cX5_mayStand 61 = .ok (.iconst (-1), 1) := by decide +kernel
theorem dX5_mayStand_62 : decode cX5_mayStand 62 = .ok (.if_icmp .ne 7, 3) := by decide +kernel
theorem dX5_mayStand_65 : decode cX5_mayStand 65 = .ok (.iconst 1, 1) := by decide +kernel
theorem dX5_mayStand_66 : decode cX5_mayStand 66 = .ok (.goto 4, 3) := by decide +kernel
theorem dX5_mayStand_69 : decode cX5_mayStand 69 = .ok (.iconst 0, 1) := by decide +kernel
theorem dX5_mayStand_70 : decode cX5_mayStand 70 = .ok (.istore 5, 2) := by decide +kernel
theorem dX5_mayStand_72 : decode cX5_mayStand 72 = .ok (.iload_n 3, 1) := by decide +kernel
theorem dX5_mayStand_73 : decode cX5_mayStand 73 = .ok (.iconst (-1), 1) := by decide +kernel
theorem dX5_mayStand_74 : decode cX5_mayStand 74 = .ok (.if_icmp .eq 21, 3) := by decide +kernel
theorem dX5_mayStand_77 : decode cX5_mayStand 77 = .ok (.iload 5, 2) := by decide +kernel
theorem dX5_mayStand_79 : decode cX5_mayStand 79 = .ok (.ifCond .ne 18, 3) := by decide +kernel
theorem dX5_mayStand_82 : decode cX5_mayStand 82 = .ok (.aload_n 0, 1) := by decide +kernel
theorem dX5_mayStand_83 : decode cX5_mayStand 83 = .ok (.aload_n 0, 1) := by decide +kernel
theorem dX5_mayStand_84 : decode cX5_mayStand 84 = .ok (.getfield 18, 3) := by decide +kernel
theorem dX5_mayStand_87 : decode cX5_mayStand 87 = .ok (.iload_n 3, 1) := by decide +kernel
theorem dX5_mayStand_88 : decode cX5_mayStand 88 = .ok (.iload_n 2, 1) := by decide +kernel
theorem dX5_mayStand_89 : decode cX5_mayStand 89 = .ok (.invokevirtual 63, 3) := by decide +kernel
theorem dX5_mayStand_92 : decode cX5_mayStand 92 = .ok (.ifCond .eq 5, 3) := by decide +kernel
theorem dX5_mayStand_95 : decode cX5_mayStand 95 = .ok (.iconst 0, 1) := by decide +kernel
theorem dX5_mayStand_96 : decode cX5_mayStand 96 = .ok (.ireturn, 1) := by decide +kernel
theorem dX5_mayStand_97 : decode cX5_mayStand 97 = .ok (.aload_n 0, 1) := by decide +kernel
theorem dX5_mayStand_98 : decode cX5_mayStand 98 = .ok (.getfield 22, 3) := by decide +kernel
theorem dX5_mayStand_101 : decode cX5_mayStand 101 = .ok (.iconst 4, 1) := by decide +kernel
theorem dX5_mayStand_102 : decode cX5_mayStand 102 = .ok (.invokevirtual 104, 3) := by decide +kernel
theorem dX5_mayStand_105 : decode cX5_mayStand 105 = .ok (.ifCond .eq 23, 3) := by decide +kernel
theorem dX5_mayStand_108 : decode cX5_mayStand 108 = .ok (.iload 4, 2) := by decide +kernel
theorem dX5_mayStand_110 : decode cX5_mayStand 110 = .ok (.iconst (-1), 1) := by decide +kernel
theorem dX5_mayStand_111 : decode cX5_mayStand 111 = .ok (.if_icmp .eq 17, 3) := by decide +kernel
theorem dX5_mayStand_114 : decode cX5_mayStand 114 = .ok (.aload_n 0, 1) := by decide +kernel
theorem dX5_mayStand_115 : decode cX5_mayStand 115 = .ok (.aload_n 0, 1) := by decide +kernel
theorem dX5_mayStand_116 : decode cX5_mayStand 116 = .ok (.getfield 18, 3) := by decide +kernel
theorem dX5_mayStand_119 : decode cX5_mayStand 119 = .ok (.iload 4, 2) := by decide +kernel
theorem dX5_mayStand_121 : decode cX5_mayStand 121 = .ok (.iload_n 1, 1) := by decide +kernel
theorem dX5_mayStand_122 : decode cX5_mayStand 122 = .ok (.invokevirtual 63, 3) := by decide +kernel
theorem dX5_mayStand_125 : decode cX5_mayStand 125 = .ok (.ifCond .ne 7, 3) := by decide +kernel
theorem dX5_mayStand_128 : decode cX5_mayStand 128 = .ok (.iconst 1, 1) := by decide +kernel
theorem dX5_mayStand_129 : decode cX5_mayStand 129 = .ok (.goto 4, 3) := by decide +kernel
theorem dX5_mayStand_132 : decode cX5_mayStand 132 = .ok (.iconst 0, 1) := by decide +kernel
theorem dX5_mayStand_133 : decode cX5_mayStand 133 = .ok (.ireturn, 1) := by decide +kernel
def sX5_mayStand_133 (F : Nat) (h : Hp) (t0 : Int32) : Option (Int32 × Hp) := gd (t0 &&& 1 = t0) <| some (t0, h)
def sX5_mayStand_128 (F : Nat) (h : Hp) : Option (Int32 × Hp) := sX5_mayStand_133 F h (1 : Int32)
def sX5_mayStand_97 (F : Nat) (h : Hp) (x0 : Nat) (x1 : Int32) (x4 : Int32) : Option (Int32 × Hp) := cl (hR h x0 0) fun r_1 => cl (sX1_has h r_1 (4 : Int32)) fun o_2 => br (o_2.1 = 0) (sX5_mayStand_128 F o_2.2 ) (br (x4 = (-1 : Int32)) (sX5_mayStand_128 F o_2.2 ) (cl (hR o_2.2 x0 3) fun r_5 => cl (sX5_isHit F o_2.2 x0 r_5 x4 x1) fun o_6 => br (o_6.1 = 0) (sX5_mayStand_128 F o_6.2 ) (sX5_mayStand_133 F o_6.2 (0 : Int32))))
def sX5_mayStand_95 (F : Nat) (h : Hp) : Option (Int32 × Hp) := some ((0 : Int32), h)
def sX5_mayStand_70 (F : Nat) (h : Hp) (x0 : Nat) (x1 : Int32) (x2 : Int32) (x3 : Int32) (x4 : Int32) (t0 : Int32) : Option (Int32 × Hp) := br (x3 = (-1 : Int32)) (sX5_mayStand_95 F h ) (br (t0 = 0) (cl (hR h x0 3) fun r_3 => cl (sX5_isHit F h x0 r_3 x3 x2) fun o_4 => br (o_4.1 = 0) (sX5_mayStand_97 F o_4.2 x0 x1 x4) (sX5_mayStand_95 F o_4.2 )) (sX5_mayStand_97 F h x0 x1 x4))
def sX5_mayStand_69 (F : Nat) (h : Hp) (x0 : Nat) (x1 : Int32) (x2 : Int32) (x3 : Int32) (x4 : Int32) : Option (Int32 × Hp) := sX5_mayStand_70 F h x0 x1 x2 x3 x4 (0 : Int32)
def sX5_mayStand (F : Nat) (h : Hp) (x0 : Nat) : Option (Int32 × Hp) := cl (hR h x0 4) fun r_1 => nm (hI h r_1 5) fun v_2 => nm ((1 : Int32) - v_2) fun v_3 => cl (hR h x0 3) fun r_4 => cl (hR h r_4 2) fun r_5 => gd (inB v_2 (hN h r_5)) <| nm (hI h r_5 v_2.toNatClampNeg) fun v_7 => cl (hR h x0 3) fun r_8 => cl (hR h r_8 2) fun r_9 => gd (inB v_3 (hN h r_9)) <| nm (hI h r_9 v_3.toNatClampNeg) fun v_11 => cl (hR h x0 4) fun r_12 => cl (hR h r_12 2) fun r_13 => gd (inB v_2 (hN h r_13)) <| br ((hI h r_13 v_2.toNatClampNeg) = (-1 : Int32)) (sX5_mayStand_97 F h x0 v_2 v_11) (cl (hR h x0 4) fun r_16 => cl (hR h r_16 2) fun r_17 => gd (inB v_3 (hN h r_17)) <| br ((hI h r_17 v_3.toNatClampNeg) = (-1 : Int32)) (sX5_mayStand_69 F h x0 v_2 v_3 v_7 v_11) (br (v_11 = (-1 : Int32)) (sX5_mayStand_70 F h x0 v_2 v_3 v_7 v_11 (1 : Int32)) (sX5_mayStand_69 F h x0 v_2 v_3 v_7 v_11)))
set_option maxRecDepth 20000 in
theorem moX5_mayStand_133 {o : Int32 × Hp} {F : Nat} {h : Hp} {t0 : Int32} (hE : sX5_mayStand_133 F h  t0 = some o) : Le h o.2 := by
  obtain ⟨g_1, hE⟩ := gd_e hE
  exact le_some2 hE
set_option maxRecDepth 20000 in
theorem moX5_mayStand_128 {o : Int32 × Hp} {F : Nat} {h : Hp} (hE : sX5_mayStand_128 F h  = some o) : Le h o.2 := by
  exact moX5_mayStand_133 hE
set_option maxRecDepth 20000 in
theorem moX5_mayStand_97 {o : Int32 × Hp} {F : Nat} {h : Hp} {x0 : Nat} {x1 : Int32} {x4 : Int32} (hE : sX5_mayStand_97 F h x0 x1 x4 = some o) : Le h o.2 := by
  obtain ⟨r_1, er_1, hE⟩ := cl_e hE
  obtain ⟨o_2, eo_2, hE⟩ := cl_e hE
  refine (moX1_has eo_2).tr ?_
  rcases br_e hE with ⟨_, hE⟩ | ⟨_, hE⟩
  · exact moX5_mayStand_128 hE
  · rcases br_e hE with ⟨_, hE⟩ | ⟨_, hE⟩
    · exact moX5_mayStand_128 hE
    · obtain ⟨r_5, er_5, hE⟩ := cl_e hE
      obtain ⟨o_6, eo_6, hE⟩ := cl_e hE
      refine (moX5_isHit eo_6).tr ?_
      rcases br_e hE with ⟨_, hE⟩ | ⟨_, hE⟩
      · exact moX5_mayStand_128 hE
      · exact moX5_mayStand_133 hE
set_option maxRecDepth 20000 in
theorem moX5_mayStand_95 {o : Int32 × Hp} {F : Nat} {h : Hp} (hE : sX5_mayStand_95 F h  = some o) : Le h o.2 := by
  exact le_some2 hE
set_option maxRecDepth 20000 in
theorem moX5_mayStand_70 {o : Int32 × Hp} {F : Nat} {h : Hp} {x0 : Nat} {x1 : Int32} {x2 : Int32} {x3 : Int32} {x4 : Int32} {t0 : Int32} (hE : sX5_mayStand_70 F h x0 x1 x2 x3 x4 t0 = some o) : Le h o.2 := by
  rcases br_e hE with ⟨_, hE⟩ | ⟨_, hE⟩
  · exact moX5_mayStand_95 hE
  · rcases br_e hE with ⟨_, hE⟩ | ⟨_, hE⟩
    · obtain ⟨r_3, er_3, hE⟩ := cl_e hE
      obtain ⟨o_4, eo_4, hE⟩ := cl_e hE
      refine (moX5_isHit eo_4).tr ?_
      rcases br_e hE with ⟨_, hE⟩ | ⟨_, hE⟩
      · exact moX5_mayStand_97 hE
      · exact moX5_mayStand_95 hE
    · exact moX5_mayStand_97 hE
set_option maxRecDepth 20000 in
theorem moX5_mayStand_69 {o : Int32 × Hp} {F : Nat} {h : Hp} {x0 : Nat} {x1 : Int32} {x2 : Int32} {x3 : Int32} {x4 : Int32} (hE : sX5_mayStand_69 F h x0 x1 x2 x3 x4 = some o) : Le h o.2 := by
  exact moX5_mayStand_70 hE
set_option maxRecDepth 20000 in
theorem moX5_mayStand {o : Int32 × Hp} {F : Nat} {h : Hp} {x0 : Nat} (hE : sX5_mayStand F h x0 = some o) : Le h o.2 := by
  obtain ⟨r_1, er_1, hE⟩ := cl_e hE
  obtain ⟨v_2, ev_2, hE⟩ := nm_e2 hE
  obtain ⟨v_3, ev_3, hE⟩ := nm_e2 hE
  obtain ⟨r_4, er_4, hE⟩ := cl_e hE
  obtain ⟨r_5, er_5, hE⟩ := cl_e hE
  obtain ⟨g_6, hE⟩ := gd_e hE
  obtain ⟨v_7, ev_7, hE⟩ := nm_e2 hE
  obtain ⟨r_8, er_8, hE⟩ := cl_e hE
  obtain ⟨r_9, er_9, hE⟩ := cl_e hE
  obtain ⟨g_10, hE⟩ := gd_e hE
  obtain ⟨v_11, ev_11, hE⟩ := nm_e2 hE
  obtain ⟨r_12, er_12, hE⟩ := cl_e hE
  obtain ⟨r_13, er_13, hE⟩ := cl_e hE
  obtain ⟨g_14, hE⟩ := gd_e hE
  rcases br_e hE with ⟨_, hE⟩ | ⟨_, hE⟩
  · exact moX5_mayStand_97 hE
  · obtain ⟨r_16, er_16, hE⟩ := cl_e hE
    obtain ⟨r_17, er_17, hE⟩ := cl_e hE
    obtain ⟨g_18, hE⟩ := gd_e hE
    rcases br_e hE with ⟨_, hE⟩ | ⟨_, hE⟩
    · exact moX5_mayStand_69 hE
    · rcases br_e hE with ⟨_, hE⟩ | ⟨_, hE⟩
      · exact moX5_mayStand_70 hE
      · exact moX5_mayStand_69 hE
set_option maxRecDepth 20000 in
theorem bX5_mayStand_133 {p : Program} {l : Launch} {e : Env} {s : State} {m : MethodId} {args : Array Value} {below : List Frame} {meth : Method} {c : Code} {X : Ec} {h0 : Hp} {o : Int32 × Hp} {F : Nat} (C : Cx X p s m args meth c RX5 cX5_mayStand 6 (some .boolean) "mayStand") {h : Hp} {t0 : Int32} {H : Heap} {locs : List Loc} (hkm : Km h0 h) (hW : Wx X h H) (hZ : va_S (aA (eB X)) s.heap H locs) (ls : Array Slot) (hl : lv_has ls 6 []) (hE : sX5_mayStand_133 F h  t0 = some o) : W p l e (rm 1 38) s m args below meth c H locs 0 0 (MQ below (QI X h0 o.1 o.2) args s 0 0 (aA (eB X))) (F0 m 133 ls [.int t0]) := by
  obtain ⟨g_1, hE⟩ := gd_e hE
  exact x_iret C rfl (narB g_1) hW hZ hkm hE dX5_mayStand_133
set_option maxRecDepth 20000 in
theorem bX5_mayStand_128 {p : Program} {l : Launch} {e : Env} {s : State} {m : MethodId} {args : Array Value} {below : List Frame} {meth : Method} {c : Code} {X : Ec} {h0 : Hp} {o : Int32 × Hp} {F : Nat} (C : Cx X p s m args meth c RX5 cX5_mayStand 6 (some .boolean) "mayStand") {h : Hp} {H : Heap} {locs : List Loc} (hkm : Km h0 h) (hW : Wx X h H) (hZ : va_S (aA (eB X)) s.heap H locs) (ls : Array Slot) (hl : lv_has ls 6 []) (hE : sX5_mayStand_128 F h  = some o) : W p l e (rm 1 38) s m args below meth c H locs 0 0 (MQ below (QI X h0 o.1 o.2) args s 0 0 (aA (eB X))) (F0 m 128 ls []) := by
  refine lv_iconst (v := (1 : Int32)) C.1 C.2.1 dX5_mayStand_128 (by decide) ?_
  refine lv_goto (tgt := 133) C.1 C.2.1 dX5_mayStand_129 (by decide) ?_
  exact bX5_mayStand_133 C hkm hW hZ _ (lv_sub hl [] rfl) hE
set_option maxRecDepth 20000 in
theorem bX5_mayStand_97 {p : Program} {l : Launch} {e : Env} {s : State} {m : MethodId} {args : Array Value} {below : List Frame} {meth : Method} {c : Code} {X : Ec} {h0 : Hp} {o : Int32 × Hp} {F : Nat} (C : Cx X p s m args meth c RX5 cX5_mayStand 6 (some .boolean) "mayStand") {h : Hp} {x0 : Nat} {x1 : Int32} {x4 : Int32} {H : Heap} {locs : List Loc} (k_x0 : hK h x0 = 5) (hkm : Km h0 h) (hW : Wx X h H) (hZ : va_S (aA (eB X)) s.heap H locs) (ls : Array Slot) (hl : lv_has ls 6 [(0, .ref x0), (1, .int x1), (4, .int x4)]) (hE : sX5_mayStand_97 F h x0 x1 x4 = some o) : W p l e (rm 1 38) s m args below meth c H locs 0 0 (MQ below (QI X h0 o.1 o.2) args s 0 0 (aA (eB X))) (F0 m 97 ls []) := by
  refine lv_aload_n C.1 C.2.1 dX5_mayStand_97 rfl (lv_at hl 0 rfl) ?_
  obtain ⟨r_1, er_1, hE⟩ := cl_e hE
  refine gf_X5_22 C hW k_x0 er_1 dX5_mayStand_98 (fun k_r_1 => ?_)
  refine lv_iconst (v := (4 : Int32)) C.1 C.2.1 dX5_mayStand_101 (by decide) ?_
  obtain ⟨o_2, eo_2, hE⟩ := cl_e hE
  refine x_kI (o := o_2) (z_runV (As := [.int (4 : Int32)]) (rest := []) C (ct_X1_has l X k_r_1 eo_2) cw_X5_104 hW hZ k_r_1 (by decide) rfl rfl rfl hl.1 (Nat.le_of_ble_eq_true rfl) rfl dX5_mayStand_102 ⟨Nat.le_of_ble_eq_true rfl, Nat.le_of_ble_eq_true rfl⟩ ⟨Nat.le_refl _, Nat.le_refl _⟩) hZ (fun _ _ hW km hZ => ?_)
  replace hkm := hkm.tr km
  replace k_x0 := km.at k_x0 (by decide)
  refine lv_if_eq (tgt := 128) C.1 C.2.1 dX5_mayStand_105 (by decide) (fun c_3 => ?_) (fun c_3 => ?_)
  · have hE := br_p hE c_3
    exact bX5_mayStand_128 C hkm hW hZ _ (lv_sub hl [] rfl) hE
  · have hE := br_n hE c_3
    refine lv_iload C.1 C.2.1 dX5_mayStand_108 (lv_at hl 2 rfl) ?_
    refine lv_iconst (v := (-1 : Int32)) C.1 C.2.1 dX5_mayStand_110 (by decide) ?_
    refine lv_icmp_eq (tgt := 128) C.1 C.2.1 dX5_mayStand_111 (by decide) (fun c_4 => ?_) (fun c_4 => ?_)
    · have hE := br_p hE c_4
      exact bX5_mayStand_128 C hkm hW hZ _ (lv_sub hl [] rfl) hE
    · have hE := br_n hE c_4
      refine lv_aload_n C.1 C.2.1 dX5_mayStand_114 rfl (lv_at hl 0 rfl) ?_
      refine lv_aload_n C.1 C.2.1 dX5_mayStand_115 rfl (lv_at hl 0 rfl) ?_
      obtain ⟨r_5, er_5, hE⟩ := cl_e hE
      refine gf_X5_18 C hW k_x0 er_5 dX5_mayStand_116 (fun k_r_5 => ?_)
      refine lv_iload C.1 C.2.1 dX5_mayStand_119 (lv_at hl 2 rfl) ?_
      refine lv_iload_n C.1 C.2.1 dX5_mayStand_121 rfl (lv_at hl 1 rfl) ?_
      obtain ⟨o_6, eo_6, hE⟩ := cl_e hE
      refine x_kI (o := o_6) (z_runV (As := [.ref r_5, .int x4, .int x1]) (rest := []) C (ct_X5_isHit l X F k_x0 k_r_5 eo_6) cw_X5_63 hW hZ k_x0 (by decide) rfl rfl rfl hl.1 (Nat.le_of_ble_eq_true rfl) rfl dX5_mayStand_122 ⟨Nat.le_of_ble_eq_true rfl, Nat.le_of_ble_eq_true rfl⟩ ⟨Nat.le_refl _, Nat.le_refl _⟩) hZ (fun _ _ hW km hZ => ?_)
      replace hkm := hkm.tr km
      replace k_x0 := km.at k_x0 (by decide)
      refine lv_if_ne (tgt := 132) C.1 C.2.1 dX5_mayStand_125 (by decide) (fun c_7 => ?_) (fun c_7 => ?_)
      · have hE := br_n hE c_7
        refine lv_iconst (v := (0 : Int32)) C.1 C.2.1 dX5_mayStand_132 (by decide) ?_
        exact bX5_mayStand_133 C hkm hW hZ _ (lv_sub hl [] rfl) hE
      · have hE := br_p hE c_7
        exact bX5_mayStand_128 C hkm hW hZ _ (lv_sub hl [] rfl) hE
set_option maxRecDepth 20000 in
theorem bX5_mayStand_95 {p : Program} {l : Launch} {e : Env} {s : State} {m : MethodId} {args : Array Value} {below : List Frame} {meth : Method} {c : Code} {X : Ec} {h0 : Hp} {o : Int32 × Hp} {F : Nat} (C : Cx X p s m args meth c RX5 cX5_mayStand 6 (some .boolean) "mayStand") {h : Hp} {H : Heap} {locs : List Loc} (hkm : Km h0 h) (hW : Wx X h H) (hZ : va_S (aA (eB X)) s.heap H locs) (ls : Array Slot) (hl : lv_has ls 6 []) (hE : sX5_mayStand_95 F h  = some o) : W p l e (rm 1 38) s m args below meth c H locs 0 0 (MQ below (QI X h0 o.1 o.2) args s 0 0 (aA (eB X))) (F0 m 95 ls []) := by
  refine lv_iconst (v := (0 : Int32)) C.1 C.2.1 dX5_mayStand_95 (by decide) ?_
  exact x_iret C rfl (by decide) hW hZ hkm hE dX5_mayStand_96
set_option maxRecDepth 20000 in
theorem bX5_mayStand_70 {p : Program} {l : Launch} {e : Env} {s : State} {m : MethodId} {args : Array Value} {below : List Frame} {meth : Method} {c : Code} {X : Ec} {h0 : Hp} {o : Int32 × Hp} {F : Nat} (C : Cx X p s m args meth c RX5 cX5_mayStand 6 (some .boolean) "mayStand") {h : Hp} {x0 : Nat} {x1 : Int32} {x2 : Int32} {x3 : Int32} {x4 : Int32} {t0 : Int32} {H : Heap} {locs : List Loc} (k_x0 : hK h x0 = 5) (hkm : Km h0 h) (hW : Wx X h H) (hZ : va_S (aA (eB X)) s.heap H locs) (ls : Array Slot) (hl : lv_has ls 6 [(0, .ref x0), (1, .int x1), (2, .int x2), (3, .int x3), (4, .int x4)]) (hE : sX5_mayStand_70 F h x0 x1 x2 x3 x4 t0 = some o) : W p l e (rm 1 38) s m args below meth c H locs 0 0 (MQ below (QI X h0 o.1 o.2) args s 0 0 (aA (eB X))) (F0 m 70 ls [.int t0]) := by
  refine lv_istore (lv' := [(5, .int t0), (0, .ref x0), (1, .int x1), (2, .int x2), (3, .int x3), (4, .int x4)]) C.1 C.2.1 dX5_mayStand_70 hl (by decide) rfl (fun ls hl => ?_)
  refine lv_iload_n C.1 C.2.1 dX5_mayStand_72 rfl (lv_at hl 4 rfl) ?_
  refine lv_iconst (v := (-1 : Int32)) C.1 C.2.1 dX5_mayStand_73 (by decide) ?_
  refine lv_icmp_eq (tgt := 95) C.1 C.2.1 dX5_mayStand_74 (by decide) (fun c_1 => ?_) (fun c_1 => ?_)
  · have hE := br_p hE c_1
    exact bX5_mayStand_95 C hkm hW hZ _ (lv_sub hl [] rfl) hE
  · have hE := br_n hE c_1
    refine lv_iload C.1 C.2.1 dX5_mayStand_77 (lv_at hl 0 rfl) ?_
    refine lv_if_ne (tgt := 97) C.1 C.2.1 dX5_mayStand_79 (by decide) (fun c_2 => ?_) (fun c_2 => ?_)
    · have hE := br_n hE c_2
      exact bX5_mayStand_97 C k_x0 hkm hW hZ _ (lv_sub hl [1, 2, 5] rfl) hE
    · have hE := br_p hE c_2
      refine lv_aload_n C.1 C.2.1 dX5_mayStand_82 rfl (lv_at hl 1 rfl) ?_
      refine lv_aload_n C.1 C.2.1 dX5_mayStand_83 rfl (lv_at hl 1 rfl) ?_
      obtain ⟨r_3, er_3, hE⟩ := cl_e hE
      refine gf_X5_18 C hW k_x0 er_3 dX5_mayStand_84 (fun k_r_3 => ?_)
      refine lv_iload_n C.1 C.2.1 dX5_mayStand_87 rfl (lv_at hl 4 rfl) ?_
      refine lv_iload_n C.1 C.2.1 dX5_mayStand_88 rfl (lv_at hl 3 rfl) ?_
      obtain ⟨o_4, eo_4, hE⟩ := cl_e hE
      refine x_kI (o := o_4) (z_runV (As := [.ref r_3, .int x3, .int x2]) (rest := []) C (ct_X5_isHit l X F k_x0 k_r_3 eo_4) cw_X5_63 hW hZ k_x0 (by decide) rfl rfl rfl hl.1 (Nat.le_of_ble_eq_true rfl) rfl dX5_mayStand_89 ⟨Nat.le_of_ble_eq_true rfl, Nat.le_of_ble_eq_true rfl⟩ ⟨Nat.le_refl _, Nat.le_refl _⟩) hZ (fun _ _ hW km hZ => ?_)
      replace hkm := hkm.tr km
      replace k_x0 := km.at k_x0 (by decide)
      refine lv_if_eq (tgt := 97) C.1 C.2.1 dX5_mayStand_92 (by decide) (fun c_5 => ?_) (fun c_5 => ?_)
      · have hE := br_p hE c_5
        exact bX5_mayStand_97 C k_x0 hkm hW hZ _ (lv_sub hl [1, 2, 5] rfl) hE
      · have hE := br_n hE c_5
        exact bX5_mayStand_95 C hkm hW hZ _ (lv_sub hl [] rfl) hE
set_option maxRecDepth 20000 in
theorem bX5_mayStand_69 {p : Program} {l : Launch} {e : Env} {s : State} {m : MethodId} {args : Array Value} {below : List Frame} {meth : Method} {c : Code} {X : Ec} {h0 : Hp} {o : Int32 × Hp} {F : Nat} (C : Cx X p s m args meth c RX5 cX5_mayStand 6 (some .boolean) "mayStand") {h : Hp} {x0 : Nat} {x1 : Int32} {x2 : Int32} {x3 : Int32} {x4 : Int32} {H : Heap} {locs : List Loc} (k_x0 : hK h x0 = 5) (hkm : Km h0 h) (hW : Wx X h H) (hZ : va_S (aA (eB X)) s.heap H locs) (ls : Array Slot) (hl : lv_has ls 6 [(0, .ref x0), (1, .int x1), (2, .int x2), (3, .int x3), (4, .int x4)]) (hE : sX5_mayStand_69 F h x0 x1 x2 x3 x4 = some o) : W p l e (rm 1 38) s m args below meth c H locs 0 0 (MQ below (QI X h0 o.1 o.2) args s 0 0 (aA (eB X))) (F0 m 69 ls []) := by
  refine lv_iconst (v := (0 : Int32)) C.1 C.2.1 dX5_mayStand_69 (by decide) ?_
  exact bX5_mayStand_70 C k_x0 hkm hW hZ _ (lv_sub hl [0, 1, 2, 3, 4] rfl) hE
set_option maxRecDepth 20000 in
theorem ct_X5_mayStand (l : Launch) (X : Ec) (F : Nat) {h : Hp} {x0 : Nat} {o : Int32 × Hp} (k_x0 : hK h x0 = 5) (hE : sX5_mayStand F h x0 = some o) : MetI l yX5_mayStand cX5_mayStand 6 (some .boolean) 1 38 X [.ref x0] h o := by
  refine x_met (by decide) (Nat.le_of_ble_eq_true rfl) ?_
  intro p e s m below meth c ls C hl hW hZ
  have hl : lv_has ls 6 [(0, .ref x0)] := hl
  have hkm : Km h h := Km.rf h
  refine lv_aload_n C.1 C.2.1 dX5_mayStand_0 rfl (lv_at hl 0 rfl) ?_
  obtain ⟨r_1, er_1, hE⟩ := cl_e hE
  refine gf_X5_71 C hW k_x0 er_1 dX5_mayStand_1 (fun k_r_1 => ?_)
  refine gf_X5_78 C hW k_r_1 dX5_mayStand_4 ?_
  obtain ⟨v_2, ev_2, hE⟩ := nm_e2 hE
  refine x_nmI ev_2 ?_
  refine lv_istore_n (lv' := [(1, .int v_2), (0, .ref x0)]) C.1 C.2.1 dX5_mayStand_7 rfl hl (by decide) rfl (fun ls hl => ?_)
  refine lv_iconst (v := (1 : Int32)) C.1 C.2.1 dX5_mayStand_8 (by decide) ?_
  refine lv_iload_n C.1 C.2.1 dX5_mayStand_9 rfl (lv_at hl 0 rfl) ?_
  refine lv_isub C.1 C.2.1 dX5_mayStand_10 ?_
  obtain ⟨v_3, ev_3, hE⟩ := nm_e2 hE
  refine x_nmI ev_3 ?_
  refine lv_istore_n (lv' := [(2, .int v_3), (1, .int v_2), (0, .ref x0)]) C.1 C.2.1 dX5_mayStand_11 rfl hl (by decide) rfl (fun ls hl => ?_)
  refine lv_aload_n C.1 C.2.1 dX5_mayStand_12 rfl (lv_at hl 2 rfl) ?_
  obtain ⟨r_4, er_4, hE⟩ := cl_e hE
  refine gf_X5_18 C hW k_x0 er_4 dX5_mayStand_13 (fun k_r_4 => ?_)
  obtain ⟨r_5, er_5, hE⟩ := cl_e hE
  refine gf_X5_60 C hW k_r_4 er_5 dX5_mayStand_16 (fun k_r_5 => ?_)
  refine lv_iload_n C.1 C.2.1 dX5_mayStand_19 rfl (lv_at hl 1 rfl) ?_
  obtain ⟨g_6, hE⟩ := gd_e hE
  refine y_iald C hW k_r_5 g_6 dX5_mayStand_20 ?_
  obtain ⟨v_7, ev_7, hE⟩ := nm_e2 hE
  refine x_nmI ev_7 ?_
  refine lv_istore_n (lv' := [(3, .int v_7), (2, .int v_3), (1, .int v_2), (0, .ref x0)]) C.1 C.2.1 dX5_mayStand_21 rfl hl (by decide) rfl (fun ls hl => ?_)
  refine lv_aload_n C.1 C.2.1 dX5_mayStand_22 rfl (lv_at hl 3 rfl) ?_
  obtain ⟨r_8, er_8, hE⟩ := cl_e hE
  refine gf_X5_18 C hW k_x0 er_8 dX5_mayStand_23 (fun k_r_8 => ?_)
  obtain ⟨r_9, er_9, hE⟩ := cl_e hE
  refine gf_X5_60 C hW k_r_8 er_9 dX5_mayStand_26 (fun k_r_9 => ?_)
  refine lv_iload_n C.1 C.2.1 dX5_mayStand_29 rfl (lv_at hl 1 rfl) ?_
  obtain ⟨g_10, hE⟩ := gd_e hE
  refine y_iald C hW k_r_9 g_10 dX5_mayStand_30 ?_
  obtain ⟨v_11, ev_11, hE⟩ := nm_e2 hE
  refine x_nmI ev_11 ?_
  refine lv_istore (lv' := [(4, .int v_11), (3, .int v_7), (2, .int v_3), (1, .int v_2), (0, .ref x0)]) C.1 C.2.1 dX5_mayStand_31 hl (by decide) rfl (fun ls hl => ?_)
  refine lv_aload_n C.1 C.2.1 dX5_mayStand_33 rfl (lv_at hl 4 rfl) ?_
  obtain ⟨r_12, er_12, hE⟩ := cl_e hE
  refine gf_X5_71 C hW k_x0 er_12 dX5_mayStand_34 (fun k_r_12 => ?_)
  obtain ⟨r_13, er_13, hE⟩ := cl_e hE
  refine gf_X5_60 C hW k_r_12 er_13 dX5_mayStand_37 (fun k_r_13 => ?_)
  refine lv_iload_n C.1 C.2.1 dX5_mayStand_40 rfl (lv_at hl 3 rfl) ?_
  obtain ⟨g_14, hE⟩ := gd_e hE
  refine y_iald C hW k_r_13 g_14 dX5_mayStand_41 ?_
  refine lv_iconst (v := (-1 : Int32)) C.1 C.2.1 dX5_mayStand_42 (by decide) ?_
  refine lv_icmp_eq (tgt := 97) C.1 C.2.1 dX5_mayStand_43 (by decide) (fun c_15 => ?_) (fun c_15 => ?_)
  · have hE := br_p hE c_15
    exact bX5_mayStand_97 C k_x0 hkm hW hZ _ (lv_sub hl [4, 3, 0] rfl) hE
  · have hE := br_n hE c_15
    refine lv_aload_n C.1 C.2.1 dX5_mayStand_46 rfl (lv_at hl 4 rfl) ?_
    obtain ⟨r_16, er_16, hE⟩ := cl_e hE
    refine gf_X5_71 C hW k_x0 er_16 dX5_mayStand_47 (fun k_r_16 => ?_)
    obtain ⟨r_17, er_17, hE⟩ := cl_e hE
    refine gf_X5_60 C hW k_r_16 er_17 dX5_mayStand_50 (fun k_r_17 => ?_)
    refine lv_iload_n C.1 C.2.1 dX5_mayStand_53 rfl (lv_at hl 2 rfl) ?_
    obtain ⟨g_18, hE⟩ := gd_e hE
    refine y_iald C hW k_r_17 g_18 dX5_mayStand_54 ?_
    refine lv_iconst (v := (-1 : Int32)) C.1 C.2.1 dX5_mayStand_55 (by decide) ?_
    refine lv_icmp_eq (tgt := 69) C.1 C.2.1 dX5_mayStand_56 (by decide) (fun c_19 => ?_) (fun c_19 => ?_)
    · have hE := br_p hE c_19
      exact bX5_mayStand_69 C k_x0 hkm hW hZ _ (lv_sub hl [4, 3, 2, 1, 0] rfl) hE
    · have hE := br_n hE c_19
      refine lv_iload C.1 C.2.1 dX5_mayStand_59 (lv_at hl 0 rfl) ?_
      refine lv_iconst (v := (-1 : Int32)) C.1 C.2.1 dX5_mayStand_61 (by decide) ?_
      refine lv_icmp_ne (tgt := 69) C.1 C.2.1 dX5_mayStand_62 (by decide) (fun c_20 => ?_) (fun c_20 => ?_)
      · have hE := br_n hE c_20
        exact bX5_mayStand_69 C k_x0 hkm hW hZ _ (lv_sub hl [4, 3, 2, 1, 0] rfl) hE
      · have hE := br_p hE c_20
        refine lv_iconst (v := (1 : Int32)) C.1 C.2.1 dX5_mayStand_65 (by decide) ?_
        refine lv_goto (tgt := 70) C.1 C.2.1 dX5_mayStand_66 (by decide) ?_
        exact bX5_mayStand_70 C k_x0 hkm hW hZ _ (lv_sub hl [4, 3, 2, 1, 0] rfl) hE
set_option maxRecDepth 100000 in
theorem ms_64 : Cond.selects RX5 yX5_mayStand yX5_mayStand ∈ W0 := w0_in (List.mem_append_left _ (List.mem_of_getElem? (i := 64) rfl)) rfl
set_option maxRecDepth 100000 in
theorem ms_63 : Cond.selects RX5 yX5_blast yX5_blast ∈ W0 := w0_in (List.mem_append_left _ (List.mem_of_getElem? (i := 63) rfl)) rfl
set_option maxRecDepth 100000 in
theorem ms_62 : Cond.selects RX5 yX5_shift yX5_shift ∈ W0 := w0_in (List.mem_append_left _ (List.mem_of_getElem? (i := 62) rfl)) rfl
set_option maxRecDepth 100000 in
theorem ms_61 : Cond.selects RX5 yX5_isSafe yX5_isSafe ∈ W0 := w0_in (List.mem_append_left _ (List.mem_of_getElem? (i := 61) rfl)) rfl
set_option maxRecDepth 100000 in
theorem m_1219 : Cond.methodLink RX5 215 yX5_isSafe ∈ W0 := w0_in (List.mem_append_right _ (List.mem_of_getElem? (i := 1219) rfl)) rfl
set_option maxRecDepth 100000 in
theorem m_1221 : Cond.instanceMethod yX5_isSafe ∈ W0 := w0_in (List.mem_append_right _ (List.mem_of_getElem? (i := 1221) rfl)) rfl
set_option maxRecDepth 100000 in
theorem m_1222 : Cond.code yX5_isSafe cX5_isSafe 5 (some .boolean) ∈ W0 := w0_in (List.mem_append_right _ (List.mem_of_getElem? (i := 1222) rfl)) rfl
set_option maxRecDepth 100000 in
theorem m_1229 : Cond.methodLink RX5 218 yX3_copyFrom ∈ W0 := w0_in (List.mem_append_right _ (List.mem_of_getElem? (i := 1229) rfl)) rfl
set_option maxRecDepth 100000 in
theorem m_1230 : Cond.instanceMethod yX3_copyFrom ∈ W0 := w0_in (List.mem_append_right _ (List.mem_of_getElem? (i := 1230) rfl)) rfl
set_option maxRecDepth 100000 in
theorem m_1231 : Cond.selects RX3 yX3_copyFrom yX3_copyFrom ∈ W0 := w0_in (List.mem_append_right _ (List.mem_of_getElem? (i := 1231) rfl)) rfl
set_option maxRecDepth 100000 in
theorem m_1232 : Cond.code yX3_copyFrom cX3_copyFrom 3 none ∈ W0 := w0_in (List.mem_append_right _ (List.mem_of_getElem? (i := 1232) rfl)) rfl
set_option maxRecDepth 100000 in
theorem m_1236 : Cond.methodLink RX5 222 yX5_shift ∈ W0 := w0_in (List.mem_append_right _ (List.mem_of_getElem? (i := 1236) rfl)) rfl
set_option maxRecDepth 100000 in
theorem m_1238 : Cond.instanceMethod yX5_shift ∈ W0 := w0_in (List.mem_append_right _ (List.mem_of_getElem? (i := 1238) rfl)) rfl
set_option maxRecDepth 100000 in
theorem m_1239 : Cond.code yX5_shift cX5_shift 8 none ∈ W0 := w0_in (List.mem_append_right _ (List.mem_of_getElem? (i := 1239) rfl)) rfl
set_option maxRecDepth 100000 in
theorem m_1244 : Cond.methodLink RX5 226 yX5_blast ∈ W0 := w0_in (List.mem_append_right _ (List.mem_of_getElem? (i := 1244) rfl)) rfl
set_option maxRecDepth 100000 in
theorem m_1246 : Cond.instanceMethod yX5_blast ∈ W0 := w0_in (List.mem_append_right _ (List.mem_of_getElem? (i := 1246) rfl)) rfl
set_option maxRecDepth 100000 in
theorem m_1247 : Cond.code yX5_blast cX5_blast 8 none ∈ W0 := w0_in (List.mem_append_right _ (List.mem_of_getElem? (i := 1247) rfl)) rfl
set_option maxRecDepth 100000 in
theorem m_1248 : Cond.methodLink RX5 229 yX5_mayStand ∈ W0 := w0_in (List.mem_append_right _ (List.mem_of_getElem? (i := 1248) rfl)) rfl
set_option maxRecDepth 100000 in
theorem m_1250 : Cond.instanceMethod yX5_mayStand ∈ W0 := w0_in (List.mem_append_right _ (List.mem_of_getElem? (i := 1250) rfl)) rfl
set_option maxRecDepth 100000 in
theorem m_1251 : Cond.code yX5_mayStand cX5_mayStand 6 (some .boolean) ∈ W0 := w0_in (List.mem_append_right _ (List.mem_of_getElem? (i := 1251) rfl)) rfl
section
variable {p : Program} {l : Launch} {e : Env} {R : Room} {s : State} {m : MethodId} {args : Array Value} {below : List Frame} {meth : Method} {c : Code} {H : Heap} {locs : List Loc} {cells slots : Nat} {Q : State → Prop}
variable {cc : ByteArray} {pc : Nat} {ls : Array Slot} {rest : List Value} {X : Ec} {h h1 : Hp} {nL : Nat} {rt : Option FieldType} {mn : String}
theorem gf_X5_116 {a : Nat} (C : Cx X p s m args meth c RX5 cc nL rt mn) (hW : Wx X h H) (ha : hK h a = 5) (hdg : decode cc pc = .ok (.getfield 116, 3)) (kk : W p l e R s m args below meth c H locs cells slots Q (F0 m (pc + 3) ls (.int (hI h a 7) :: rest))) : W p l e R s m args below meth c H locs cells slots Q (F0 m pc ls (.ref a :: rest)) :=
  y_geti C hW ha i_X5 (by decide) rfl (by decide) m_352 rfl hdg kk
end
theorem cw_X5_215 : cwd RX5 215 yX5_isSafe cX5_isSafe 5 (some .boolean) false 1 := ⟨m_1222, m_1219, m_7, ⟨m_1221, ms_61⟩, by decide, by decide, by decide +kernel⟩
theorem cw_X5_218 : cwd RX5 218 yX3_copyFrom cX3_copyFrom 3 none false 1 := ⟨m_1232, m_1229, m_8, ⟨m_1230, m_1231⟩, by decide, by decide, by decide +kernel⟩
theorem cw_X5_222 : cwd RX5 222 yX5_shift cX5_shift 8 none false 2 := ⟨m_1239, m_1236, m_7, ⟨m_1238, ms_62⟩, by decide, by decide, by decide +kernel⟩
theorem cw_X5_226 : cwd RX5 226 yX5_blast cX5_blast 8 none false 2 := ⟨m_1247, m_1244, m_7, ⟨m_1246, ms_63⟩, by decide, by decide, by decide +kernel⟩
theorem cw_X5_229 : cwd RX5 229 yX5_mayStand cX5_mayStand 6 (some .boolean) false 0 := ⟨m_1251, m_1248, m_7, ⟨m_1250, ms_64⟩, by decide, by decide, by decide +kernel⟩
theorem dX5_keepLawful_0 : decode cX5_keepLawful 0 = .ok (.iload_n 1, 1) := by decide +kernel
theorem dX5_keepLawful_1 : decode cX5_keepLawful 1 = .ok (.istore_n 2, 1) := by decide +kernel
theorem dX5_keepLawful_2 : decode cX5_keepLawful 2 = .ok (.iload_n 1, 1) := by decide +kernel
theorem dX5_keepLawful_3 : decode cX5_keepLawful 3 = .ok (.istore_n 3, 1) := by decide +kernel
theorem dX5_keepLawful_4 : decode cX5_keepLawful 4 = .ok (.iload_n 3, 1) := by decide +kernel
theorem dX5_keepLawful_5 : decode cX5_keepLawful 5 = .ok (.aload_n 0, 1) := by decide +kernel
theorem dX5_keepLawful_6 : decode cX5_keepLawful 6 = .ok (.getfield 82, 3) := by decide +kernel
theorem dX5_keepLawful_9 : decode cX5_keepLawful 9 = .ok (.if_icmp .ge 108, 3) := by decide +kernel
theorem dX5_keepLawful_12 : decode cX5_keepLawful 12 = .ok (.aload_n 0, 1) := by decide +kernel
theorem dX5_keepLawful_13 : decode cX5_keepLawful 13 = .ok (.getfield 123, 3) := by decide +kernel
theorem dX5_keepLawful_16 : decode cX5_keepLawful 16 = .ok (.iload_n 3, 1) := by decide +kernel
theorem dX5_keepLawful_17 : decode cX5_keepLawful 17 = .ok (.iaload, 1) := by decide +kernel
theorem dX5_keepLawful_18 : decode cX5_keepLawful 18 = .ok (.istore 4, 2) := by decide +kernel
theorem dX5_keepLawful_20 : decode cX5_keepLawful 20 = .ok (.aload_n 0, 1) := by decide +kernel
theorem dX5_keepLawful_21 : decode cX5_keepLawful 21 = .ok (.iload 4, 2) := by decide +kernel
theorem dX5_keepLawful_23 : decode cX5_keepLawful 23 = .ok (.invokevirtual 215, 3) := by decide +kernel
theorem dX5_keepLawful_26 : decode cX5_keepLawful 26 = .ok (.istore 5, 2) := by decide +kernel
theorem dX5_keepLawful_28 : decode cX5_keepLawful 28 = .ok (.iload 5, 2) := by decide +kernel
theorem dX5_keepLawful_30 : decode cX5_keepLawful 30 = .ok (.ifCond .ne 40, 3) := by decide +kernel
theorem dX5_keepLawful_33 : decode cX5_keepLawful 33 = .ok (.aload_n 0, 1) := by decide +kernel
theorem dX5_keepLawful_34 : decode cX5_keepLawful 34 = .ok (.getfield 18, 3) := by decide +kernel
theorem dX5_keepLawful_37 : decode cX5_keepLawful 37 = .ok (.aload_n 0, 1) := by decide +kernel
theorem dX5_keepLawful_38 : decode cX5_keepLawful 38 = .ok (.getfield 71, 3) := by decide +kernel
theorem dX5_keepLawful_41 : decode cX5_keepLawful 41 = .ok (.invokevirtual 218, 3) := by decide +kernel
theorem dX5_keepLawful_44 : decode cX5_keepLawful 44 = .ok (.aload_n 0, 1) := by decide +kernel
theorem dX5_keepLawful_45 : decode cX5_keepLawful 45 = .ok (.aload_n 0, 1) := by decide +kernel
theorem dX5_keepLawful_46 : decode cX5_keepLawful 46 = .ok (.getfield 18, 3) := by decide +kernel
theorem dX5_keepLawful_49 : decode cX5_keepLawful 49 = .ok (.iload 4, 2) := by decide +kernel
theorem dX5_keepLawful_51 : decode cX5_keepLawful 51 = .ok (.invokevirtual 222, 3) := by decide +kernel
theorem dX5_keepLawful_54 : decode cX5_keepLawful 54 = .ok (.aload_n 0, 1) := by decide +kernel
theorem dX5_keepLawful_55 : decode cX5_keepLawful 55 = .ok (.aload_n 0, 1) := by decide +kernel
theorem dX5_keepLawful_56 : decode cX5_keepLawful 56 = .ok (.getfield 18, 3) := by decide +kernel
theorem dX5_keepLawful_59 : decode cX5_keepLawful 59 = .ok (.iload 4, 2) := by decide +kernel
theorem dX5_keepLawful_61 : decode cX5_keepLawful 61 = .ok (.invokevirtual 226, 3) := by decide +kernel
theorem dX5_keepLawful_64 : decode cX5_keepLawful 64 = .ok (.aload_n 0, 1) := by decide +kernel
theorem dX5_keepLawful_65 : decode cX5_keepLawful 65 = .ok (.invokevirtual 229, 3) := by decide +kernel
theorem dX5_keepLawful_68 : decode cX5_keepLawful 68 = .ok (.istore 5, 2) := by decide +kernel
theorem dX5_keepLawful_70 : decode cX5_keepLawful 70 = .ok (.iload 5, 2) := by decide +kernel
theorem dX5_keepLawful_72 : decode cX5_keepLawful 72 = .ok (.ifCond .eq 39, 3) := by decide +kernel
theorem dX5_keepLawful_75 : decode cX5_keepLawful 75 = .ok (.aload_n 0, 1) := by decide +kernel
theorem dX5_keepLawful_76 : decode cX5_keepLawful 76 = .ok (.getfield 123, 3) := by decide +kernel
theorem dX5_keepLawful_79 : decode cX5_keepLawful 79 = .ok (.iload_n 2, 1) := by decide +kernel
theorem dX5_keepLawful_80 : decode cX5_keepLawful 80 = .ok (.iload 4, 2) := by decide +kernel
theorem dX5_keepLawful_82 : decode cX5_keepLawful 82 = .ok (.iastore, 1) := by decide +kernel
theorem dX5_keepLawful_83 : decode cX5_keepLawful 83 = .ok (.iinc 2 1, 3) := by decide +kernel
theorem dX5_keepLawful_86 : decode cX5_keepLawful 86 = .ok (.aload_n 0, 1) := by decide +kernel
theorem dX5_keepLawful_87 : decode cX5_keepLawful 87 = .ok (.aload_n 0, 1) := by decide +kernel
theorem dX5_keepLawful_88 : decode cX5_keepLawful 88 = .ok (.getfield 116, 3) := by decide +kernel
theorem dX5_keepLawful_91 : decode cX5_keepLawful 91 = .ok (.ifCond .ne 12, 3) := by decide +kernel
theorem dX5_keepLawful_94 : decode cX5_keepLawful 94 = .ok (.iload 4, 2) := by decide +kernel
theorem dX5_keepLawful_96 : decode cX5_keepLawful 96 = .ok (.invokestatic 181, 3) := by decide +kernel
theorem dX5_keepLawful_99 : decode cX5_keepLawful 99 = .ok (.iconst (-1), 1) := by decide +kernel
theorem dX5_keepLawful_100 : decode cX5_keepLawful 100 = .ok (.if_icmp .eq 7, 3) := by decide +kernel
theorem dX5_keepLawful_103 : decode cX5_keepLawful 103 = .ok (.iconst 1, 1) := by decide +kernel
theorem dX5_keepLawful_104 : decode cX5_keepLawful 104 = .ok (.goto 4, 3) := by decide +kernel
theorem dX5_keepLawful_107 : decode cX5_keepLawful 107 = .ok (.iconst 0, 1) := by decide +kernel
theorem dX5_keepLawful_108 : decode cX5_keepLawful 108 = .ok (.putfield 116, 3) := by decide +kernel
theorem dX5_keepLawful_111 : decode cX5_keepLawful 111 = .ok (.iinc 3 1, 3) := by decide +kernel
theorem dX5_keepLawful_114 : decode cX5_keepLawful 114 = .ok (.goto (-110), 3) := by decide +kernel
theorem dX5_keepLawful_117 : decode cX5_keepLawful 117 = .ok (.aload_n 0, 1) := by decide +kernel
theorem dX5_keepLawful_118 : decode cX5_keepLawful 118 = .ok (.iload_n 2, 1) := by decide +kernel
theorem dX5_keepLawful_119 : decode cX5_keepLawful 119 = .ok (.putfield 82, 3) := by decide +kernel
theorem dX5_keepLawful_122 : decode cX5_keepLawful 122 = .ok (.return_, 1) := by decide +kernel
def sX5_keepLawful_111 (F : Nat) (k_4 : Hp → Nat → Int32 → Int32 → Option (Hp)) (h : Hp) (x0 : Nat) (x2 : Int32) (x3 : Int32) : Option (Hp) := nm (x3 + (1 : Int32)) fun v_1 => k_4 h x0 x2 v_1
def sX5_keepLawful_108 (F : Nat) (k_4 : Hp → Nat → Int32 → Int32 → Option (Hp)) (h : Hp) (x0 : Nat) (x2 : Int32) (x3 : Int32) (t0 : Int32) (t1 : Nat) : Option (Hp) := gd (t0 &&& 1 = t0) <| nm (wI h t1 7 t0) fun h_2 => sX5_keepLawful_111 F k_4 h_2 x0 x2 x3
def sX5_keepLawful_103 (F : Nat) (k_4 : Hp → Nat → Int32 → Int32 → Option (Hp)) (h : Hp) (x0 : Nat) (x2 : Int32) (x3 : Int32) (t0 : Nat) : Option (Hp) := sX5_keepLawful_108 F k_4 h x0 x2 x3 (1 : Int32) t0
def sX5_keepLawful_70 (F : Nat) (k_4 : Hp → Nat → Int32 → Int32 → Option (Hp)) (h : Hp) (x0 : Nat) (x2 : Int32) (x3 : Int32) (x4 : Int32) (x5 : Int32) : Option (Hp) := br (x5 = 0) (sX5_keepLawful_111 F k_4 h x0 x2 x3) (cl (hR h x0 5) fun r_2 => gd (inB x2 (hN h r_2)) <| nm (wI h r_2 x2.toNatClampNeg x4) fun h_4 => nm (x2 + (1 : Int32)) fun v_5 => br ((hI h_4 x0 7) = 0) (cl (sX5_takenBy h_4 x4) fun o_7 => br (o_7.1 = (-1 : Int32)) (sX5_keepLawful_108 F k_4 o_7.2 x0 v_5 x3 (0 : Int32) x0) (sX5_keepLawful_103 F k_4 o_7.2 x0 v_5 x3 x0)) (sX5_keepLawful_103 F k_4 h_4 x0 v_5 x3 x0))
def sX5_keepLawful_4 (F : Nat) : Nat → Hp → Nat → Int32 → Int32 → Option (Hp)
  | 0, _, _, _, _ => none
  | f + 1, h, x0, x2, x3 => br ((hI h x0 6) ≤ x3) (nm (wI h x0 6 x2) fun h_2 => some h_2) (cl (hR h x0 5) fun r_3 => gd (inB x3 (hN h r_3)) <| nm (hI h r_3 x3.toNatClampNeg) fun v_5 => cl (sX5_isSafe h x0 v_5) fun o_6 => br (o_6.1 = 0) (cl (hR o_6.2 x0 3) fun r_8 => cl (hR o_6.2 x0 4) fun r_9 => cl (sX3_copyFrom F o_6.2 r_8 r_9) fun o_10 => cl (hR o_10 x0 3) fun r_11 => cl (sX5_shift F o_10 x0 r_11 v_5) fun o_12 => cl (hR o_12 x0 3) fun r_13 => cl (sX5_blast F o_12 x0 r_13 v_5) fun o_14 => cl (sX5_mayStand F o_14 x0) fun o_15 => sX5_keepLawful_70 F (sX5_keepLawful_4 F f) o_15.2 x0 x2 x3 v_5 o_15.1) (sX5_keepLawful_70 F (sX5_keepLawful_4 F f) o_6.2 x0 x2 x3 v_5 o_6.1))
def sX5_keepLawful (F : Nat) (h : Hp) (x0 : Nat) (x1 : Int32) : Option (Hp) := sX5_keepLawful_4 F F h x0 x1 x1
set_option maxRecDepth 20000 in
theorem moX5_keepLawful_111 {o : Hp} {k_4 : Hp → Nat → Int32 → Int32 → Option (Hp)} {F : Nat} (mk_4 : ∀ (h : Hp) (x0 : Nat) (x2 : Int32) (x3 : Int32), k_4 h x0 x2 x3 = some o → Le h o) {h : Hp} {x0 : Nat} {x2 : Int32} {x3 : Int32} (hE : sX5_keepLawful_111 F k_4 h x0 x2 x3 = some o) : Le h o := by
  obtain ⟨v_1, ev_1, hE⟩ := nm_e2 hE
  exact mk_4 _ _ _ _ hE
set_option maxRecDepth 20000 in
theorem moX5_keepLawful_108 {o : Hp} {k_4 : Hp → Nat → Int32 → Int32 → Option (Hp)} {F : Nat} (mk_4 : ∀ (h : Hp) (x0 : Nat) (x2 : Int32) (x3 : Int32), k_4 h x0 x2 x3 = some o → Le h o) {h : Hp} {x0 : Nat} {x2 : Int32} {x3 : Int32} {t0 : Int32} {t1 : Nat} (hE : sX5_keepLawful_108 F k_4 h x0 x2 x3 t0 t1 = some o) : Le h o := by
  obtain ⟨g_1, hE⟩ := gd_e hE
  obtain ⟨h_2, eh_2, hE⟩ := nm_e2 hE
  refine (le_I eh_2).tr ?_
  exact moX5_keepLawful_111 mk_4 hE
set_option maxRecDepth 20000 in
theorem moX5_keepLawful_103 {o : Hp} {k_4 : Hp → Nat → Int32 → Int32 → Option (Hp)} {F : Nat} (mk_4 : ∀ (h : Hp) (x0 : Nat) (x2 : Int32) (x3 : Int32), k_4 h x0 x2 x3 = some o → Le h o) {h : Hp} {x0 : Nat} {x2 : Int32} {x3 : Int32} {t0 : Nat} (hE : sX5_keepLawful_103 F k_4 h x0 x2 x3 t0 = some o) : Le h o := by
  exact moX5_keepLawful_108 mk_4 hE
set_option maxRecDepth 20000 in
theorem moX5_keepLawful_70 {o : Hp} {k_4 : Hp → Nat → Int32 → Int32 → Option (Hp)} {F : Nat} (mk_4 : ∀ (h : Hp) (x0 : Nat) (x2 : Int32) (x3 : Int32), k_4 h x0 x2 x3 = some o → Le h o) {h : Hp} {x0 : Nat} {x2 : Int32} {x3 : Int32} {x4 : Int32} {x5 : Int32} (hE : sX5_keepLawful_70 F k_4 h x0 x2 x3 x4 x5 = some o) : Le h o := by
  rcases br_e hE with ⟨_, hE⟩ | ⟨_, hE⟩
  · exact moX5_keepLawful_111 mk_4 hE
  · obtain ⟨r_2, er_2, hE⟩ := cl_e hE
    obtain ⟨g_3, hE⟩ := gd_e hE
    obtain ⟨h_4, eh_4, hE⟩ := nm_e2 hE
    refine (le_I eh_4).tr ?_
    obtain ⟨v_5, ev_5, hE⟩ := nm_e2 hE
    rcases br_e hE with ⟨_, hE⟩ | ⟨_, hE⟩
    · obtain ⟨o_7, eo_7, hE⟩ := cl_e hE
      refine (moX5_takenBy eo_7).tr ?_
      rcases br_e hE with ⟨_, hE⟩ | ⟨_, hE⟩
      · exact moX5_keepLawful_108 mk_4 hE
      · exact moX5_keepLawful_103 mk_4 hE
    · exact moX5_keepLawful_103 mk_4 hE
set_option maxRecDepth 20000 in
theorem moX5_keepLawful_4 {o : Hp} {F : Nat} : ∀ (f : Nat) {h : Hp} {x0 : Nat} {x2 : Int32} {x3 : Int32}, sX5_keepLawful_4 F f h x0 x2 x3 = some o → Le h o := by
  intro f
  induction f with
  | zero =>
    intro h x0 x2 x3 hE
    rw [sX5_keepLawful_4] at hE
    cases hE
  | succ f ih =>
    intro h x0 x2 x3 hE
    rw [sX5_keepLawful_4] at hE
    have mk_4 : ∀ (h : Hp) (x0 : Nat) (x2 : Int32) (x3 : Int32), sX5_keepLawful_4 F f h x0 x2 x3 = some o → Le h o := fun h x0 x2 x3 hE => ih hE
    rcases br_e hE with ⟨_, hE⟩ | ⟨_, hE⟩
    · obtain ⟨h_2, eh_2, hE⟩ := nm_e2 hE
      refine (le_I eh_2).tr ?_
      exact le_some1 hE
    · obtain ⟨r_3, er_3, hE⟩ := cl_e hE
      obtain ⟨g_4, hE⟩ := gd_e hE
      obtain ⟨v_5, ev_5, hE⟩ := nm_e2 hE
      obtain ⟨o_6, eo_6, hE⟩ := cl_e hE
      refine (moX5_isSafe eo_6).tr ?_
      rcases br_e hE with ⟨_, hE⟩ | ⟨_, hE⟩
      · obtain ⟨r_8, er_8, hE⟩ := cl_e hE
        obtain ⟨r_9, er_9, hE⟩ := cl_e hE
        obtain ⟨o_10, eo_10, hE⟩ := cl_e hE
        refine (moX3_copyFrom eo_10).tr ?_
        obtain ⟨r_11, er_11, hE⟩ := cl_e hE
        obtain ⟨o_12, eo_12, hE⟩ := cl_e hE
        refine (moX5_shift eo_12).tr ?_
        obtain ⟨r_13, er_13, hE⟩ := cl_e hE
        obtain ⟨o_14, eo_14, hE⟩ := cl_e hE
        refine (moX5_blast eo_14).tr ?_
        obtain ⟨o_15, eo_15, hE⟩ := cl_e hE
        refine (moX5_mayStand eo_15).tr ?_
        exact moX5_keepLawful_70 mk_4 hE
      · exact moX5_keepLawful_70 mk_4 hE
set_option maxRecDepth 20000 in
theorem moX5_keepLawful {o : Hp} {F : Nat} {h : Hp} {x0 : Nat} {x1 : Int32} (hE : sX5_keepLawful F h x0 x1 = some o) : Le h o := by
  exact moX5_keepLawful_4 _ hE
set_option maxRecDepth 20000 in
theorem bX5_keepLawful_111 {p : Program} {l : Launch} {e : Env} {s : State} {m : MethodId} {args : Array Value} {below : List Frame} {meth : Method} {c : Code} {X : Ec} {h0 : Hp} {o : Hp} {k_4 : Hp → Nat → Int32 → Int32 → Option (Hp)} {F : Nat} (C : Cx X p s m args meth c RX5 cX5_keepLawful 6 none "keepLawful") (hk_4 : ∀ (h : Hp) (x0 : Nat) (x2 : Int32) (x3 : Int32) (H : Heap) (locs : List Loc), hK h x0 = 5 → Km h0 h → Wx X h H → va_S (aA (eB X)) s.heap H locs → ∀ (ls : Array Slot), lv_has ls 6 [(0, .ref x0), (2, .int x2), (3, .int x3)] → k_4 h x0 x2 x3 = some o → W p l e (rm 2 86) s m args below meth c H locs 0 0 (MQ below (QV X h0 o) args s 0 0 (aA (eB X))) (F0 m 4 ls [])) {h : Hp} {x0 : Nat} {x2 : Int32} {x3 : Int32} {H : Heap} {locs : List Loc} (k_x0 : hK h x0 = 5) (hkm : Km h0 h) (hW : Wx X h H) (hZ : va_S (aA (eB X)) s.heap H locs) (ls : Array Slot) (hl : lv_has ls 6 [(0, .ref x0), (2, .int x2), (3, .int x3)]) (hE : sX5_keepLawful_111 F k_4 h x0 x2 x3 = some o) : W p l e (rm 2 86) s m args below meth c H locs 0 0 (MQ below (QV X h0 o) args s 0 0 (aA (eB X))) (F0 m 111 ls []) := by
  obtain ⟨v_1, ev_1, hE⟩ := nm_e2 hE
  refine lv_iinc (v := v_1) (lv' := [(3, .int v_1), (0, .ref x0), (2, .int x2)]) C.1 C.2.1 dX5_keepLawful_111 hl (k := 2) rfl (by rw [ev_1]; rfl) (by decide) rfl (fun ls hl => ?_)
  refine lv_goto (tgt := 4) C.1 C.2.1 dX5_keepLawful_114 (by decide) ?_
  exact hk_4 _ _ _ _ _ _ k_x0 hkm hW hZ _ (lv_sub hl [1, 2, 0] rfl) hE
set_option maxRecDepth 20000 in
theorem bX5_keepLawful_108 {p : Program} {l : Launch} {e : Env} {s : State} {m : MethodId} {args : Array Value} {below : List Frame} {meth : Method} {c : Code} {X : Ec} {h0 : Hp} {o : Hp} {k_4 : Hp → Nat → Int32 → Int32 → Option (Hp)} {F : Nat} (C : Cx X p s m args meth c RX5 cX5_keepLawful 6 none "keepLawful") (hk_4 : ∀ (h : Hp) (x0 : Nat) (x2 : Int32) (x3 : Int32) (H : Heap) (locs : List Loc), hK h x0 = 5 → Km h0 h → Wx X h H → va_S (aA (eB X)) s.heap H locs → ∀ (ls : Array Slot), lv_has ls 6 [(0, .ref x0), (2, .int x2), (3, .int x3)] → k_4 h x0 x2 x3 = some o → W p l e (rm 2 86) s m args below meth c H locs 0 0 (MQ below (QV X h0 o) args s 0 0 (aA (eB X))) (F0 m 4 ls [])) {h : Hp} {x0 : Nat} {x2 : Int32} {x3 : Int32} {t0 : Int32} {t1 : Nat} {H : Heap} {locs : List Loc} (k_x0 : hK h x0 = 5) (k_t1 : hK h t1 = 5) (hkm : Km h0 h) (hW : Wx X h H) (hZ : va_S (aA (eB X)) s.heap H locs) (ls : Array Slot) (hl : lv_has ls 6 [(0, .ref x0), (2, .int x2), (3, .int x3)]) (hE : sX5_keepLawful_108 F k_4 h x0 x2 x3 t0 t1 = some o) : W p l e (rm 2 86) s m args below meth c H locs 0 0 (MQ below (QV X h0 o) args s 0 0 (aA (eB X))) (F0 m 108 ls [.int t0, .ref t1]) := by
  obtain ⟨g_1, hE⟩ := gd_e hE
  obtain ⟨h_2, eh_2, hE⟩ := nm_e2 hE
  refine pf_X5_116 C hW hZ k_t1 (narB g_1) eh_2 dX5_keepLawful_108 (fun _ _ hW km hZ => ?_)
  replace hkm := hkm.tr km
  replace k_x0 := km.at k_x0 (by decide)
  exact bX5_keepLawful_111 C hk_4 k_x0 hkm hW hZ _ (lv_sub hl [0, 1, 2] rfl) hE
set_option maxRecDepth 20000 in
theorem bX5_keepLawful_103 {p : Program} {l : Launch} {e : Env} {s : State} {m : MethodId} {args : Array Value} {below : List Frame} {meth : Method} {c : Code} {X : Ec} {h0 : Hp} {o : Hp} {k_4 : Hp → Nat → Int32 → Int32 → Option (Hp)} {F : Nat} (C : Cx X p s m args meth c RX5 cX5_keepLawful 6 none "keepLawful") (hk_4 : ∀ (h : Hp) (x0 : Nat) (x2 : Int32) (x3 : Int32) (H : Heap) (locs : List Loc), hK h x0 = 5 → Km h0 h → Wx X h H → va_S (aA (eB X)) s.heap H locs → ∀ (ls : Array Slot), lv_has ls 6 [(0, .ref x0), (2, .int x2), (3, .int x3)] → k_4 h x0 x2 x3 = some o → W p l e (rm 2 86) s m args below meth c H locs 0 0 (MQ below (QV X h0 o) args s 0 0 (aA (eB X))) (F0 m 4 ls [])) {h : Hp} {x0 : Nat} {x2 : Int32} {x3 : Int32} {t0 : Nat} {H : Heap} {locs : List Loc} (k_x0 : hK h x0 = 5) (k_t0 : hK h t0 = 5) (hkm : Km h0 h) (hW : Wx X h H) (hZ : va_S (aA (eB X)) s.heap H locs) (ls : Array Slot) (hl : lv_has ls 6 [(0, .ref x0), (2, .int x2), (3, .int x3)]) (hE : sX5_keepLawful_103 F k_4 h x0 x2 x3 t0 = some o) : W p l e (rm 2 86) s m args below meth c H locs 0 0 (MQ below (QV X h0 o) args s 0 0 (aA (eB X))) (F0 m 103 ls [.ref t0]) := by
  refine lv_iconst (v := (1 : Int32)) C.1 C.2.1 dX5_keepLawful_103 (by decide) ?_
  refine lv_goto (tgt := 108) C.1 C.2.1 dX5_keepLawful_104 (by decide) ?_
  exact bX5_keepLawful_108 C hk_4 k_x0 k_t0 hkm hW hZ _ (lv_sub hl [0, 1, 2] rfl) hE
set_option maxRecDepth 20000 in
theorem bX5_keepLawful_70 {p : Program} {l : Launch} {e : Env} {s : State} {m : MethodId} {args : Array Value} {below : List Frame} {meth : Method} {c : Code} {X : Ec} {h0 : Hp} {o : Hp} {k_4 : Hp → Nat → Int32 → Int32 → Option (Hp)} {F : Nat} (C : Cx X p s m args meth c RX5 cX5_keepLawful 6 none "keepLawful") (hk_4 : ∀ (h : Hp) (x0 : Nat) (x2 : Int32) (x3 : Int32) (H : Heap) (locs : List Loc), hK h x0 = 5 → Km h0 h → Wx X h H → va_S (aA (eB X)) s.heap H locs → ∀ (ls : Array Slot), lv_has ls 6 [(0, .ref x0), (2, .int x2), (3, .int x3)] → k_4 h x0 x2 x3 = some o → W p l e (rm 2 86) s m args below meth c H locs 0 0 (MQ below (QV X h0 o) args s 0 0 (aA (eB X))) (F0 m 4 ls [])) {h : Hp} {x0 : Nat} {x2 : Int32} {x3 : Int32} {x4 : Int32} {x5 : Int32} {H : Heap} {locs : List Loc} (k_x0 : hK h x0 = 5) (hkm : Km h0 h) (hW : Wx X h H) (hZ : va_S (aA (eB X)) s.heap H locs) (ls : Array Slot) (hl : lv_has ls 6 [(0, .ref x0), (2, .int x2), (3, .int x3), (4, .int x4), (5, .int x5)]) (hE : sX5_keepLawful_70 F k_4 h x0 x2 x3 x4 x5 = some o) : W p l e (rm 2 86) s m args below meth c H locs 0 0 (MQ below (QV X h0 o) args s 0 0 (aA (eB X))) (F0 m 70 ls []) := by
  refine lv_iload C.1 C.2.1 dX5_keepLawful_70 (lv_at hl 4 rfl) ?_
  refine lv_if_eq (tgt := 111) C.1 C.2.1 dX5_keepLawful_72 (by decide) (fun c_1 => ?_) (fun c_1 => ?_)
  · have hE := br_p hE c_1
    exact bX5_keepLawful_111 C hk_4 k_x0 hkm hW hZ _ (lv_sub hl [0, 1, 2] rfl) hE
  · have hE := br_n hE c_1
    refine lv_aload_n C.1 C.2.1 dX5_keepLawful_75 rfl (lv_at hl 0 rfl) ?_
    obtain ⟨r_2, er_2, hE⟩ := cl_e hE
    refine gf_X5_123 C hW k_x0 er_2 dX5_keepLawful_76 (fun k_r_2 => ?_)
    refine lv_iload_n C.1 C.2.1 dX5_keepLawful_79 rfl (lv_at hl 1 rfl) ?_
    refine lv_iload C.1 C.2.1 dX5_keepLawful_80 (lv_at hl 3 rfl) ?_
    obtain ⟨g_3, hE⟩ := gd_e hE
    obtain ⟨h_4, eh_4, hE⟩ := nm_e2 hE
    refine y_iast C hW hZ k_r_2 g_3 eh_4 dX5_keepLawful_82 (fun _ _ hW km hZ => ?_)
    replace hkm := hkm.tr km
    replace k_x0 := km.at k_x0 (by decide)
    obtain ⟨v_5, ev_5, hE⟩ := nm_e2 hE
    refine lv_iinc (v := v_5) (lv' := [(2, .int v_5), (0, .ref x0), (3, .int x3), (4, .int x4), (5, .int x5)]) C.1 C.2.1 dX5_keepLawful_83 hl (k := 1) rfl (by rw [ev_5]; rfl) (by decide) rfl (fun ls hl => ?_)
    refine lv_aload_n C.1 C.2.1 dX5_keepLawful_86 rfl (lv_at hl 1 rfl) ?_
    refine lv_aload_n C.1 C.2.1 dX5_keepLawful_87 rfl (lv_at hl 1 rfl) ?_
    refine gf_X5_116 C hW k_x0 dX5_keepLawful_88 ?_
    refine lv_if_ne (tgt := 103) C.1 C.2.1 dX5_keepLawful_91 (by decide) (fun c_6 => ?_) (fun c_6 => ?_)
    · have hE := br_n hE c_6
      exact bX5_keepLawful_103 C hk_4 k_x0 k_x0 hkm hW hZ _ (lv_sub hl [1, 0, 2] rfl) hE
    · have hE := br_p hE c_6
      refine lv_iload C.1 C.2.1 dX5_keepLawful_94 (lv_at hl 3 rfl) ?_
      obtain ⟨o_7, eo_7, hE⟩ := cl_e hE
      refine x_kI (o := o_7) (z_runS (As := [.int x4]) (rest := [.ref x0]) C (ct_X5_takenBy l X eo_7) cw_X5_181 hW hZ rfl hl.1 (Nat.le_of_ble_eq_true rfl) rfl dX5_keepLawful_96 ⟨Nat.le_of_ble_eq_true rfl, Nat.le_of_ble_eq_true rfl⟩ ⟨Nat.le_refl _, Nat.le_refl _⟩) hZ (fun _ _ hW km hZ => ?_)
      replace hkm := hkm.tr km
      replace k_x0 := km.at k_x0 (by decide)
      refine lv_iconst (v := (-1 : Int32)) C.1 C.2.1 dX5_keepLawful_99 (by decide) ?_
      refine lv_icmp_eq (tgt := 107) C.1 C.2.1 dX5_keepLawful_100 (by decide) (fun c_8 => ?_) (fun c_8 => ?_)
      · have hE := br_p hE c_8
        refine lv_iconst (v := (0 : Int32)) C.1 C.2.1 dX5_keepLawful_107 (by decide) ?_
        exact bX5_keepLawful_108 C hk_4 k_x0 k_x0 hkm hW hZ _ (lv_sub hl [1, 0, 2] rfl) hE
      · have hE := br_n hE c_8
        exact bX5_keepLawful_103 C hk_4 k_x0 k_x0 hkm hW hZ _ (lv_sub hl [1, 0, 2] rfl) hE
set_option maxRecDepth 20000 in
theorem bX5_keepLawful_4 {p : Program} {l : Launch} {e : Env} {s : State} {m : MethodId} {args : Array Value} {below : List Frame} {meth : Method} {c : Code} {X : Ec} {h0 : Hp} {o : Hp} {F : Nat} (C : Cx X p s m args meth c RX5 cX5_keepLawful 6 none "keepLawful") : ∀ (f : Nat) {h : Hp} {x0 : Nat} {x2 : Int32} {x3 : Int32} {H : Heap} {locs : List Loc} (k_x0 : hK h x0 = 5), Km h0 h → Wx X h H → va_S (aA (eB X)) s.heap H locs → ∀ (ls : Array Slot), lv_has ls 6 [(0, .ref x0), (2, .int x2), (3, .int x3)] → sX5_keepLawful_4 F f h x0 x2 x3 = some o → W p l e (rm 2 86) s m args below meth c H locs 0 0 (MQ below (QV X h0 o) args s 0 0 (aA (eB X))) (F0 m 4 ls []) := by
  intro f
  induction f with
  | zero =>
    intro h x0 x2 x3 H locs k_x0 hkm hW hZ ls hl hE
    rw [sX5_keepLawful_4] at hE
    cases hE
  | succ f ih =>
    intro h x0 x2 x3 H locs k_x0 hkm hW hZ ls hl hE
    rw [sX5_keepLawful_4] at hE
    have hk_4 : ∀ (h : Hp) (x0 : Nat) (x2 : Int32) (x3 : Int32) (H : Heap) (locs : List Loc), hK h x0 = 5 → Km h0 h → Wx X h H → va_S (aA (eB X)) s.heap H locs → ∀ (ls : Array Slot), lv_has ls 6 [(0, .ref x0), (2, .int x2), (3, .int x3)] → sX5_keepLawful_4 F f h x0 x2 x3 = some o → W p l e (rm 2 86) s m args below meth c H locs 0 0 (MQ below (QV X h0 o) args s 0 0 (aA (eB X))) (F0 m 4 ls []) := fun h x0 x2 x3 H locs k_x0 a b c ls hl hE => ih k_x0 a b c ls hl hE
    refine lv_iload_n C.1 C.2.1 dX5_keepLawful_4 rfl (lv_at hl 2 rfl) ?_
    refine lv_aload_n C.1 C.2.1 dX5_keepLawful_5 rfl (lv_at hl 0 rfl) ?_
    refine gf_X5_82 C hW k_x0 dX5_keepLawful_6 ?_
    refine lv_icmp_ge (tgt := 117) C.1 C.2.1 dX5_keepLawful_9 (by decide) (fun c_1 => ?_) (fun c_1 => ?_)
    · have hE := br_p hE c_1
      refine lv_aload_n C.1 C.2.1 dX5_keepLawful_117 rfl (lv_at hl 0 rfl) ?_
      refine lv_iload_n C.1 C.2.1 dX5_keepLawful_118 rfl (lv_at hl 1 rfl) ?_
      obtain ⟨h_2, eh_2, hE⟩ := nm_e2 hE
      refine pf_X5_82 C hW hZ k_x0 eh_2 dX5_keepLawful_119 (fun _ _ hW km hZ => ?_)
      replace hkm := hkm.tr km
      replace k_x0 := km.at k_x0 (by decide)
      exact x_vret C rfl hW hZ hkm hE dX5_keepLawful_122
    · have hE := br_n hE c_1
      refine lv_aload_n C.1 C.2.1 dX5_keepLawful_12 rfl (lv_at hl 0 rfl) ?_
      obtain ⟨r_3, er_3, hE⟩ := cl_e hE
      refine gf_X5_123 C hW k_x0 er_3 dX5_keepLawful_13 (fun k_r_3 => ?_)
      refine lv_iload_n C.1 C.2.1 dX5_keepLawful_16 rfl (lv_at hl 2 rfl) ?_
      obtain ⟨g_4, hE⟩ := gd_e hE
      refine y_iald C hW k_r_3 g_4 dX5_keepLawful_17 ?_
      obtain ⟨v_5, ev_5, hE⟩ := nm_e2 hE
      refine x_nmI ev_5 ?_
      refine lv_istore (lv' := [(4, .int v_5), (0, .ref x0), (2, .int x2), (3, .int x3)]) C.1 C.2.1 dX5_keepLawful_18 hl (by decide) rfl (fun ls hl => ?_)
      refine lv_aload_n C.1 C.2.1 dX5_keepLawful_20 rfl (lv_at hl 1 rfl) ?_
      refine lv_iload C.1 C.2.1 dX5_keepLawful_21 (lv_at hl 0 rfl) ?_
      obtain ⟨o_6, eo_6, hE⟩ := cl_e hE
      refine x_kI (o := o_6) (z_runV (As := [.int v_5]) (rest := []) C (ct_X5_isSafe l X k_x0 eo_6) cw_X5_215 hW hZ k_x0 (by decide) rfl rfl rfl hl.1 (Nat.le_of_ble_eq_true rfl) rfl dX5_keepLawful_23 ⟨Nat.le_of_ble_eq_true rfl, Nat.le_of_ble_eq_true rfl⟩ ⟨Nat.le_refl _, Nat.le_refl _⟩) hZ (fun _ _ hW km hZ => ?_)
      replace hkm := hkm.tr km
      replace k_x0 := km.at k_x0 (by decide)
      refine lv_istore (lv' := [(5, .int o_6.1), (4, .int v_5), (0, .ref x0), (2, .int x2), (3, .int x3)]) C.1 C.2.1 dX5_keepLawful_26 hl (by decide) rfl (fun ls hl => ?_)
      refine lv_iload C.1 C.2.1 dX5_keepLawful_28 (lv_at hl 0 rfl) ?_
      refine lv_if_ne (tgt := 70) C.1 C.2.1 dX5_keepLawful_30 (by decide) (fun c_7 => ?_) (fun c_7 => ?_)
      · have hE := br_n hE c_7
        exact bX5_keepLawful_70 C hk_4 k_x0 hkm hW hZ _ (lv_sub hl [2, 3, 4, 1, 0] rfl) hE
      · have hE := br_p hE c_7
        refine lv_aload_n C.1 C.2.1 dX5_keepLawful_33 rfl (lv_at hl 2 rfl) ?_
        obtain ⟨r_8, er_8, hE⟩ := cl_e hE
        refine gf_X5_18 C hW k_x0 er_8 dX5_keepLawful_34 (fun k_r_8 => ?_)
        refine lv_aload_n C.1 C.2.1 dX5_keepLawful_37 rfl (lv_at hl 2 rfl) ?_
        obtain ⟨r_9, er_9, hE⟩ := cl_e hE
        refine gf_X5_71 C hW k_x0 er_9 dX5_keepLawful_38 (fun k_r_9 => ?_)
        obtain ⟨o_10, eo_10, hE⟩ := cl_e hE
        refine x_kV (o := o_10) (z_runV (As := [.ref r_9]) (rest := []) C (ct_X3_copyFrom l X F k_r_8 k_r_9 eo_10) cw_X5_218 hW hZ k_r_8 (by decide) rfl rfl rfl hl.1 (Nat.le_of_ble_eq_true rfl) rfl dX5_keepLawful_41 ⟨Nat.le_of_ble_eq_true rfl, Nat.le_of_ble_eq_true rfl⟩ ⟨Nat.le_refl _, Nat.le_refl _⟩) hZ (fun _ _ hW km hZ => ?_)
        replace hkm := hkm.tr km
        replace k_x0 := km.at k_x0 (by decide)
        refine lv_aload_n C.1 C.2.1 dX5_keepLawful_44 rfl (lv_at hl 2 rfl) ?_
        refine lv_aload_n C.1 C.2.1 dX5_keepLawful_45 rfl (lv_at hl 2 rfl) ?_
        obtain ⟨r_11, er_11, hE⟩ := cl_e hE
        refine gf_X5_18 C hW k_x0 er_11 dX5_keepLawful_46 (fun k_r_11 => ?_)
        refine lv_iload C.1 C.2.1 dX5_keepLawful_49 (lv_at hl 1 rfl) ?_
        obtain ⟨o_12, eo_12, hE⟩ := cl_e hE
        refine x_kV (o := o_12) (z_runV (As := [.ref r_11, .int v_5]) (rest := []) C (ct_X5_shift l X F k_x0 k_r_11 eo_12) cw_X5_222 hW hZ k_x0 (by decide) rfl rfl rfl hl.1 (Nat.le_of_ble_eq_true rfl) rfl dX5_keepLawful_51 ⟨Nat.le_of_ble_eq_true rfl, Nat.le_of_ble_eq_true rfl⟩ ⟨Nat.le_refl _, Nat.le_refl _⟩) hZ (fun _ _ hW km hZ => ?_)
        replace hkm := hkm.tr km
        replace k_x0 := km.at k_x0 (by decide)
        refine lv_aload_n C.1 C.2.1 dX5_keepLawful_54 rfl (lv_at hl 2 rfl) ?_
        refine lv_aload_n C.1 C.2.1 dX5_keepLawful_55 rfl (lv_at hl 2 rfl) ?_
        obtain ⟨r_13, er_13, hE⟩ := cl_e hE
        refine gf_X5_18 C hW k_x0 er_13 dX5_keepLawful_56 (fun k_r_13 => ?_)
        refine lv_iload C.1 C.2.1 dX5_keepLawful_59 (lv_at hl 1 rfl) ?_
        obtain ⟨o_14, eo_14, hE⟩ := cl_e hE
        refine x_kV (o := o_14) (z_runV (As := [.ref r_13, .int v_5]) (rest := []) C (ct_X5_blast l X F k_x0 k_r_13 eo_14) cw_X5_226 hW hZ k_x0 (by decide) rfl rfl rfl hl.1 (Nat.le_of_ble_eq_true rfl) rfl dX5_keepLawful_61 ⟨Nat.le_of_ble_eq_true rfl, Nat.le_of_ble_eq_true rfl⟩ ⟨Nat.le_refl _, Nat.le_refl _⟩) hZ (fun _ _ hW km hZ => ?_)
        replace hkm := hkm.tr km
        replace k_x0 := km.at k_x0 (by decide)
        refine lv_aload_n C.1 C.2.1 dX5_keepLawful_64 rfl (lv_at hl 2 rfl) ?_
        obtain ⟨o_15, eo_15, hE⟩ := cl_e hE
        refine x_kI (o := o_15) (z_runV (As := []) (rest := []) C (ct_X5_mayStand l X F k_x0 eo_15) cw_X5_229 hW hZ k_x0 (by decide) rfl rfl rfl hl.1 (Nat.le_of_ble_eq_true rfl) rfl dX5_keepLawful_65 ⟨Nat.le_of_ble_eq_true rfl, Nat.le_of_ble_eq_true rfl⟩ ⟨Nat.le_refl _, Nat.le_refl _⟩) hZ (fun _ _ hW km hZ => ?_)
        replace hkm := hkm.tr km
        replace k_x0 := km.at k_x0 (by decide)
        refine lv_istore (lv' := [(5, .int o_15.1), (4, .int v_5), (0, .ref x0), (2, .int x2), (3, .int x3)]) C.1 C.2.1 dX5_keepLawful_68 hl (by decide) rfl (fun ls hl => ?_)
        exact bX5_keepLawful_70 C hk_4 k_x0 hkm hW hZ _ (lv_sub hl [2, 3, 4, 1, 0] rfl) hE
set_option maxRecDepth 20000 in
theorem ct_X5_keepLawful (l : Launch) (X : Ec) (F : Nat) {h : Hp} {x0 : Nat} {x1 : Int32} {o : Hp} (k_x0 : hK h x0 = 5) (hE : sX5_keepLawful F h x0 x1 = some o) : MetV l yX5_keepLawful cX5_keepLawful 6 none 2 86 X [.ref x0, .int x1] h o := by
  refine x_met (by decide) (Nat.le_of_ble_eq_true rfl) ?_
  intro p e s m below meth c ls C hl hW hZ
  have hl : lv_has ls 6 [(0, .ref x0), (1, .int x1)] := hl
  have hkm : Km h h := Km.rf h
  refine lv_iload_n C.1 C.2.1 dX5_keepLawful_0 rfl (lv_at hl 1 rfl) ?_
  refine lv_istore_n (lv' := [(2, .int x1), (0, .ref x0), (1, .int x1)]) C.1 C.2.1 dX5_keepLawful_1 rfl hl (by decide) rfl (fun ls hl => ?_)
  refine lv_iload_n C.1 C.2.1 dX5_keepLawful_2 rfl (lv_at hl 2 rfl) ?_
  refine lv_istore_n (lv' := [(3, .int x1), (2, .int x1), (0, .ref x0), (1, .int x1)]) C.1 C.2.1 dX5_keepLawful_3 rfl hl (by decide) rfl (fun ls hl => ?_)
  exact bX5_keepLawful_4 C F k_x0 hkm hW hZ _ (lv_sub hl [2, 1, 0] rfl) hE
