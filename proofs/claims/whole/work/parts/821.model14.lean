set_option maxRecDepth 100000 in
theorem ms_180 : Cond.selects RX15 yX15_make yX15_make ∈ W0 := w0_in (List.mem_append_left _ (List.mem_of_getElem? (i := 180) rfl)) rfl
set_option maxRecDepth 100000 in
theorem m_2563 : Cond.methodLink RX15 627 yX15_make ∈ W0 := w0_in (List.mem_append_right _ (List.mem_of_getElem? (i := 2563) rfl)) rfl
set_option maxRecDepth 100000 in
theorem m_2565 : Cond.instanceMethod yX15_make ∈ W0 := w0_in (List.mem_append_right _ (List.mem_of_getElem? (i := 2565) rfl)) rfl
set_option maxRecDepth 100000 in
theorem m_2566 : Cond.code yX15_make cX15_make 15 none ∈ W0 := w0_in (List.mem_append_right _ (List.mem_of_getElem? (i := 2566) rfl)) rfl
section
variable {p : Program} {l : Launch} {e : Env} {R : Room} {s : State} {m : MethodId} {args : Array Value} {below : List Frame} {meth : Method} {c : Code} {H : Heap} {locs : List Loc} {cells slots : Nat} {Q : State → Prop}
variable {cc : ByteArray} {pc : Nat} {ls : Array Slot} {rest : List Value} {X : Ec} {h h1 : Hp} {nL : Nat} {rt : Option FieldType} {mn : String}
theorem gf_X15_138 {a : Nat} (C : Cx X p s m args meth c RX15 cc nL rt mn) (hW : Wx X h H) (ha : hK h a = 14) (hdg : decode cc pc = .ok (.getfield 138, 3)) (kk : W p l e R s m args below meth c H locs cells slots Q (F0 m (pc + 3) ls (.int (hI h a 17) :: rest))) : W p l e R s m args below meth c H locs cells slots Q (F0 m pc ls (.ref a :: rest)) :=
  y_getiN C hW ha i_X14 (by decide) rfl (by decide) n_1839 rfl hdg kk
theorem gf_X15_282 {a r : Nat} (C : Cx X p s m args meth c RX15 cc nL rt mn) (hW : Wx X h H) (ha : hK h a = 15) (hr : hR h a 28 = some r) (hdg : decode cc pc = .ok (.getfield 282, 3)) (kk : hK h r = 12 → W p l e R s m args below meth c H locs cells slots Q (F0 m (pc + 3) ls (.ref r :: rest))) : W p l e R s m args below meth c H locs cells slots Q (F0 m pc ls (.ref a :: rest)) :=
  y_getr C hW ha i_X15 (by decide) rfl (by decide) m_2139 rfl rfl hr hdg kk
end
theorem cw_X15_627 : cwd RX15 627 yX15_make cX15_make 15 none false 4 := ⟨m_2566, m_2563, m_19, ⟨m_2565, ms_180⟩, by decide, by decide, by decide +kernel⟩
theorem dX15_isSafe_0 : decode cX15_isSafe 0 = .ok (.aload_n 0, 1) := by decide +kernel
theorem dX15_isSafe_1 : decode cX15_isSafe 1 = .ok (.aload_n 1, 1) := by decide +kernel
theorem dX15_isSafe_2 : decode cX15_isSafe 2 = .ok (.aload_n 2, 1) := by decide +kernel
theorem dX15_isSafe_3 : decode cX15_isSafe 3 = .ok (.iload_n 3, 1) := by decide +kernel
theorem dX15_isSafe_4 : decode cX15_isSafe 4 = .ok (.aload_n 0, 1) := by decide +kernel
theorem dX15_isSafe_5 : decode cX15_isSafe 5 = .ok (.getfield 282, 3) := by decide +kernel
theorem dX15_isSafe_8 : decode cX15_isSafe 8 = .ok (.invokevirtual 627, 3) := by decide +kernel
theorem dX15_isSafe_11 : decode cX15_isSafe 11 = .ok (.aload_n 0, 1) := by decide +kernel
theorem dX15_isSafe_12 : decode cX15_isSafe 12 = .ok (.aload_n 0, 1) := by decide +kernel
theorem dX15_isSafe_13 : decode cX15_isSafe 13 = .ok (.getfield 282, 3) := by decide +kernel
theorem dX15_isSafe_16 : decode cX15_isSafe 16 = .ok (.iconst 1, 1) := by decide +kernel
theorem dX15_isSafe_17 : decode cX15_isSafe 17 = .ok (.aload_n 1, 1) := by decide +kernel
theorem dX15_isSafe_18 : decode cX15_isSafe 18 = .ok (.getfield 452, 3) := by decide +kernel
theorem dX15_isSafe_21 : decode cX15_isSafe 21 = .ok (.isub, 1) := by decide +kernel
theorem dX15_isSafe_22 : decode cX15_isSafe 22 = .ok (.invokevirtual 508, 3) := by decide +kernel
theorem dX15_isSafe_25 : decode cX15_isSafe 25 = .ok (.istore 4, 2) := by decide +kernel
theorem dX15_isSafe_27 : decode cX15_isSafe 27 = .ok (.aload_n 0, 1) := by decide +kernel
theorem dX15_isSafe_28 : decode cX15_isSafe 28 = .ok (.aload_n 1, 1) := by decide +kernel
theorem dX15_isSafe_29 : decode cX15_isSafe 29 = .ok (.aload_n 1, 1) := by decide +kernel
theorem dX15_isSafe_30 : decode cX15_isSafe 30 = .ok (.getfield 452, 3) := by decide +kernel
theorem dX15_isSafe_33 : decode cX15_isSafe 33 = .ok (.invokevirtual 508, 3) := by decide +kernel
theorem dX15_isSafe_36 : decode cX15_isSafe 36 = .ok (.iconst (-1), 1) := by decide +kernel
theorem dX15_isSafe_37 : decode cX15_isSafe 37 = .ok (.if_icmp .eq 77, 3) := by decide +kernel
theorem dX15_isSafe_40 : decode cX15_isSafe 40 = .ok (.aload_n 0, 1) := by decide +kernel
theorem dX15_isSafe_41 : decode cX15_isSafe 41 = .ok (.aload_n 0, 1) := by decide +kernel
theorem dX15_isSafe_42 : decode cX15_isSafe 42 = .ok (.getfield 282, 3) := by decide +kernel
theorem dX15_isSafe_45 : decode cX15_isSafe 45 = .ok (.aload_n 1, 1) := by decide +kernel
theorem dX15_isSafe_46 : decode cX15_isSafe 46 = .ok (.getfield 452, 3) := by decide +kernel
theorem dX15_isSafe_49 : decode cX15_isSafe 49 = .ok (.invokevirtual 508, 3) := by decide +kernel
theorem dX15_isSafe_52 : decode cX15_isSafe 52 = .ok (.istore 5, 2) := by decide +kernel
theorem dX15_isSafe_54 : decode cX15_isSafe 54 = .ok (.aload_n 0, 1) := by decide +kernel
theorem dX15_isSafe_55 : decode cX15_isSafe 55 = .ok (.aload_n 1, 1) := by decide +kernel
theorem dX15_isSafe_56 : decode cX15_isSafe 56 = .ok (.iconst 1, 1) := by decide +kernel
theorem dX15_isSafe_57 : decode cX15_isSafe 57 = .ok (.aload_n 1, 1) := by decide +kernel
theorem dX15_isSafe_58 : decode cX15_isSafe 58 = .ok (.getfield 452, 3) := by decide +kernel
theorem dX15_isSafe_61 : decode cX15_isSafe 61 = .ok (.isub, 1) := by decide +kernel
theorem dX15_isSafe_62 : decode cX15_isSafe 62 = .ok (.invokevirtual 508, 3) := by decide +kernel
theorem dX15_isSafe_65 : decode cX15_isSafe 65 = .ok (.iconst (-1), 1) := by decide +kernel
theorem dX15_isSafe_66 : decode cX15_isSafe 66 = .ok (.if_icmp .eq 13, 3) := by decide +kernel
theorem dX15_isSafe_69 : decode cX15_isSafe 69 = .ok (.iload 4, 2) := by decide +kernel
theorem dX15_isSafe_71 : decode cX15_isSafe 71 = .ok (.iconst (-1), 1) := by decide +kernel
theorem dX15_isSafe_72 : decode cX15_isSafe 72 = .ok (.if_icmp .ne 7, 3) := by decide +kernel
theorem dX15_isSafe_75 : decode cX15_isSafe 75 = .ok (.iconst 1, 1) := by decide +kernel
theorem dX15_isSafe_76 : decode cX15_isSafe 76 = .ok (.goto 4, 3) := by decide +kernel
theorem dX15_isSafe_79 : decode cX15_isSafe 79 = .ok (.iconst 0, 1) := by decide +kernel
theorem dX15_isSafe_80 : decode cX15_isSafe 80 = .ok (.istore 6, 2) := by decide +kernel
theorem dX15_isSafe_82 : decode cX15_isSafe 82 = .ok (.iload 5, 2) := by decide +kernel
theorem dX15_isSafe_84 : decode cX15_isSafe 84 = .ok (.iconst (-1), 1) := by decide +kernel
theorem dX15_isSafe_85 : decode cX15_isSafe 85 = .ok (.if_icmp .eq 27, 3) := by decide +kernel
theorem dX15_isSafe_88 : decode cX15_isSafe 88 = .ok (.iload 6, 2) := by decide +kernel
theorem dX15_isSafe_90 : decode cX15_isSafe 90 = .ok (.ifCond .ne 24, 3) := by decide +kernel
theorem dX15_isSafe_93 : decode cX15_isSafe 93 = .ok (.aload_n 0, 1) := by decide +kernel
theorem dX15_isSafe_94 : decode cX15_isSafe 94 = .ok (.aload_n 0, 1) := by decide +kernel
theorem dX15_isSafe_95 : decode cX15_isSafe 95 = .ok (.getfield 282, 3) := by decide +kernel
theorem dX15_isSafe_98 : decode cX15_isSafe 98 = .ok (.iload 5, 2) := by decide +kernel
theorem dX15_isSafe_100 : decode cX15_isSafe 100 = .ok (.iconst 1, 1) := by decide +kernel
theorem dX15_isSafe_101 : decode cX15_isSafe 101 = .ok (.aload_n 1, 1) := by decide +kernel
theorem dX15_isSafe_102 : decode cX15_isSafe 102 = .ok (.getfield 452, 3) := by decide +kernel
theorem dX15_isSafe_105 : decode cX15_isSafe 105 = .ok (.isub, 1) := by decide +kernel
theorem dX15_isSafe_106 : decode cX15_isSafe 106 = .ok (.invokevirtual 512, 3) := by decide +kernel
theorem dX15_isSafe_109 : decode cX15_isSafe 109 = .ok (.ifCond .eq 5, 3) := by decide +kernel
theorem dX15_isSafe_112 : decode cX15_isSafe 112 = .ok (.iconst 0, 1) := by decide +kernel
theorem dX15_isSafe_113 : decode cX15_isSafe 113 = .ok (.ireturn, 1) := by decide +kernel
theorem dX15_isSafe_114 : decode cX15_isSafe 114 = .ok (.aload_n 0, 1) := by decide +kernel
theorem dX15_isSafe_115 : decode cX15_isSafe 115 = .ok (.getfield 252, 3) := by decide +kernel
theorem dX15_isSafe_118 : decode cX15_isSafe 118 = .ok (.getfield 138, 3) := by decide +kernel
theorem dX15_isSafe_121 : decode cX15_isSafe 121 = .ok (.ifCond .eq 26, 3) := by decide +kernel
theorem dX15_isSafe_124 : decode cX15_isSafe 124 = .ok (.iload 4, 2) := by decide +kernel
theorem dX15_isSafe_126 : decode cX15_isSafe 126 = .ok (.iconst (-1), 1) := by decide +kernel
theorem dX15_isSafe_127 : decode cX15_isSafe 127 = .ok (.if_icmp .eq 20, 3) := by decide +kernel
theorem dX15_isSafe_130 : decode cX15_isSafe 130 = .ok (.aload_n 0, 1) := by decide +kernel
theorem dX15_isSafe_131 : decode cX15_isSafe 131 = .ok (.aload_n 0, 1) := by decide +kernel
theorem dX15_isSafe_132 : decode cX15_isSafe 132 = .ok (.getfield 282, 3) := by decide +kernel
theorem dX15_isSafe_135 : decode cX15_isSafe 135 = .ok (.iload 4, 2) := by decide +kernel
theorem dX15_isSafe_137 : decode cX15_isSafe 137 = .ok (.aload_n 1, 1) := by decide +kernel
theorem dX15_isSafe_138 : decode cX15_isSafe 138 = .ok (.getfield 452, 3) := by decide +kernel
theorem dX15_isSafe_141 : decode cX15_isSafe 141 = .ok (.invokevirtual 512, 3) := by decide +kernel
theorem dX15_isSafe_144 : decode cX15_isSafe 144 = .ok (.ifCond .ne 7, 3) := by decide +kernel
theorem dX15_isSafe_147 : decode cX15_isSafe 147 = .ok (.iconst 1, 1) := by decide +kernel
theorem dX15_isSafe_148 : decode cX15_isSafe 148 = .ok (.goto 4, 3) := by decide +kernel
theorem dX15_isSafe_151 : decode cX15_isSafe 151 = .ok (.iconst 0, 1) := by decide +kernel
theorem dX15_isSafe_152 : decode cX15_isSafe 152 = .ok (.ireturn, 1) := by decide +kernel
set_option maxRecDepth 20000 in
theorem moX15_isSafe_152 {o : Int32 × Hp} {F : Nat} {h : Hp} {t0 : Int32} (hE : sX15_isSafe_152 F h  t0 = some o) : Le h o.2 := by
  obtain ⟨g_1, hE⟩ := gd_e hE
  exact le_some2 hE
set_option maxRecDepth 20000 in
theorem moX15_isSafe_147 {o : Int32 × Hp} {F : Nat} {h : Hp} (hE : sX15_isSafe_147 F h  = some o) : Le h o.2 := by
  exact moX15_isSafe_152 hE
set_option maxRecDepth 20000 in
theorem moX15_isSafe_114 {o : Int32 × Hp} {F : Nat} {h : Hp} {x0 : Nat} {x1 : Nat} {x4 : Int32} (hE : sX15_isSafe_114 F h x0 x1 x4 = some o) : Le h o.2 := by
  obtain ⟨r_1, er_1, hE⟩ := cl_e hE
  rcases br_e hE with ⟨_, hE⟩ | ⟨_, hE⟩
  · exact moX15_isSafe_147 hE
  · rcases br_e hE with ⟨_, hE⟩ | ⟨_, hE⟩
    · exact moX15_isSafe_147 hE
    · obtain ⟨r_4, er_4, hE⟩ := cl_e hE
      obtain ⟨o_5, eo_5, hE⟩ := cl_e hE
      refine (moX15_isAttacked eo_5).tr ?_
      rcases br_e hE with ⟨_, hE⟩ | ⟨_, hE⟩
      · exact moX15_isSafe_147 hE
      · exact moX15_isSafe_152 hE
set_option maxRecDepth 20000 in
theorem moX15_isSafe_112 {o : Int32 × Hp} {F : Nat} {h : Hp} (hE : sX15_isSafe_112 F h  = some o) : Le h o.2 := by
  exact le_some2 hE
set_option maxRecDepth 20000 in
theorem moX15_isSafe_80 {o : Int32 × Hp} {F : Nat} {h : Hp} {x0 : Nat} {x1 : Nat} {x4 : Int32} {x5 : Int32} {t0 : Int32} (hE : sX15_isSafe_80 F h x0 x1 x4 x5 t0 = some o) : Le h o.2 := by
  rcases br_e hE with ⟨_, hE⟩ | ⟨_, hE⟩
  · exact moX15_isSafe_112 hE
  · rcases br_e hE with ⟨_, hE⟩ | ⟨_, hE⟩
    · obtain ⟨r_3, er_3, hE⟩ := cl_e hE
      obtain ⟨o_4, eo_4, hE⟩ := cl_e hE
      refine (moX15_isAttacked eo_4).tr ?_
      rcases br_e hE with ⟨_, hE⟩ | ⟨_, hE⟩
      · exact moX15_isSafe_114 hE
      · exact moX15_isSafe_112 hE
    · exact moX15_isSafe_114 hE
set_option maxRecDepth 20000 in
theorem moX15_isSafe_79 {o : Int32 × Hp} {F : Nat} {h : Hp} {x0 : Nat} {x1 : Nat} {x4 : Int32} {x5 : Int32} (hE : sX15_isSafe_79 F h x0 x1 x4 x5 = some o) : Le h o.2 := by
  exact moX15_isSafe_80 hE
set_option maxRecDepth 20000 in
theorem moX15_isSafe {o : Int32 × Hp} {F : Nat} {h : Hp} {x0 : Nat} {x1 : Nat} {x2 : Nat} {x3 : Int32} (hE : sX15_isSafe F h x0 x1 x2 x3 = some o) : Le h o.2 := by
  obtain ⟨r_1, er_1, hE⟩ := cl_e hE
  obtain ⟨o_2, eo_2, hE⟩ := cl_e hE
  refine (moX15_make eo_2).tr ?_
  obtain ⟨r_3, er_3, hE⟩ := cl_e hE
  obtain ⟨o_4, eo_4, hE⟩ := cl_e hE
  refine (moX15_royalOf eo_4).tr ?_
  obtain ⟨o_5, eo_5, hE⟩ := cl_e hE
  refine (moX15_royalOf eo_5).tr ?_
  rcases br_e hE with ⟨_, hE⟩ | ⟨_, hE⟩
  · exact moX15_isSafe_114 hE
  · obtain ⟨r_7, er_7, hE⟩ := cl_e hE
    obtain ⟨o_8, eo_8, hE⟩ := cl_e hE
    refine (moX15_royalOf eo_8).tr ?_
    obtain ⟨o_9, eo_9, hE⟩ := cl_e hE
    refine (moX15_royalOf eo_9).tr ?_
    rcases br_e hE with ⟨_, hE⟩ | ⟨_, hE⟩
    · exact moX15_isSafe_79 hE
    · rcases br_e hE with ⟨_, hE⟩ | ⟨_, hE⟩
      · exact moX15_isSafe_80 hE
      · exact moX15_isSafe_79 hE
set_option maxRecDepth 20000 in
theorem bX15_isSafe_152 {p : Program} {l : Launch} {e : Env} {s : State} {m : MethodId} {args : Array Value} {below : List Frame} {meth : Method} {c : Code} {X : Ec} {h0 : Hp} {o : Int32 × Hp} {F : Nat} (C : Cx X p s m args meth c RX15 cX15_isSafe 7 (some .boolean) "isSafe") {h : Hp} {t0 : Int32} {H : Heap} {locs : List Loc} (hkm : Km h0 h) (hW : Wx X h H) (hZ : va_S (aA (eB X)) s.heap H locs) (ls : Array Slot) (hl : lv_has ls 7 []) (hE : sX15_isSafe_152 F h  t0 = some o) : W p l e (rm 5 140) s m args below meth c H locs 0 0 (MQ below (QI X h0 o.1 o.2) args s 0 0 (aA (eB X))) (F0 m 152 ls [.int t0]) := by
  obtain ⟨g_1, hE⟩ := gd_e hE
  exact x_iret C rfl (narB g_1) hW hZ hkm hE dX15_isSafe_152
set_option maxRecDepth 20000 in
theorem bX15_isSafe_147 {p : Program} {l : Launch} {e : Env} {s : State} {m : MethodId} {args : Array Value} {below : List Frame} {meth : Method} {c : Code} {X : Ec} {h0 : Hp} {o : Int32 × Hp} {F : Nat} (C : Cx X p s m args meth c RX15 cX15_isSafe 7 (some .boolean) "isSafe") {h : Hp} {H : Heap} {locs : List Loc} (hkm : Km h0 h) (hW : Wx X h H) (hZ : va_S (aA (eB X)) s.heap H locs) (ls : Array Slot) (hl : lv_has ls 7 []) (hE : sX15_isSafe_147 F h  = some o) : W p l e (rm 5 140) s m args below meth c H locs 0 0 (MQ below (QI X h0 o.1 o.2) args s 0 0 (aA (eB X))) (F0 m 147 ls []) := by
  refine lv_iconst (v := (1 : Int32)) C.1 C.2.1 dX15_isSafe_147 (by decide) ?_
  refine lv_goto (tgt := 152) C.1 C.2.1 dX15_isSafe_148 (by decide) ?_
  exact bX15_isSafe_152 C hkm hW hZ _ (lv_sub hl [] rfl) hE
set_option maxRecDepth 20000 in
theorem bX15_isSafe_114 {p : Program} {l : Launch} {e : Env} {s : State} {m : MethodId} {args : Array Value} {below : List Frame} {meth : Method} {c : Code} {X : Ec} {h0 : Hp} {o : Int32 × Hp} {F : Nat} (C : Cx X p s m args meth c RX15 cX15_isSafe 7 (some .boolean) "isSafe") {h : Hp} {x0 : Nat} {x1 : Nat} {x4 : Int32} {H : Heap} {locs : List Loc} (k_x0 : hK h x0 = 15) (k_x1 : hK h x1 = 12) (hkm : Km h0 h) (hW : Wx X h H) (hZ : va_S (aA (eB X)) s.heap H locs) (ls : Array Slot) (hl : lv_has ls 7 [(0, .ref x0), (1, .ref x1), (4, .int x4)]) (hE : sX15_isSafe_114 F h x0 x1 x4 = some o) : W p l e (rm 5 140) s m args below meth c H locs 0 0 (MQ below (QI X h0 o.1 o.2) args s 0 0 (aA (eB X))) (F0 m 114 ls []) := by
  refine lv_aload_n C.1 C.2.1 dX15_isSafe_114 rfl (lv_at hl 0 rfl) ?_
  obtain ⟨r_1, er_1, hE⟩ := cl_e hE
  refine gf_X15_252 C hW k_x0 er_1 dX15_isSafe_115 (fun k_r_1 => ?_)
  refine gf_X15_138 C hW k_r_1 dX15_isSafe_118 ?_
  refine lv_if_eq (tgt := 147) C.1 C.2.1 dX15_isSafe_121 (by decide) (fun c_2 => ?_) (fun c_2 => ?_)
  · have hE := br_p hE c_2
    exact bX15_isSafe_147 C hkm hW hZ _ (lv_sub hl [] rfl) hE
  · have hE := br_n hE c_2
    refine lv_iload C.1 C.2.1 dX15_isSafe_124 (lv_at hl 2 rfl) ?_
    refine lv_iconst (v := (-1 : Int32)) C.1 C.2.1 dX15_isSafe_126 (by decide) ?_
    refine lv_icmp_eq (tgt := 147) C.1 C.2.1 dX15_isSafe_127 (by decide) (fun c_3 => ?_) (fun c_3 => ?_)
    · have hE := br_p hE c_3
      exact bX15_isSafe_147 C hkm hW hZ _ (lv_sub hl [] rfl) hE
    · have hE := br_n hE c_3
      refine lv_aload_n C.1 C.2.1 dX15_isSafe_130 rfl (lv_at hl 0 rfl) ?_
      refine lv_aload_n C.1 C.2.1 dX15_isSafe_131 rfl (lv_at hl 0 rfl) ?_
      obtain ⟨r_4, er_4, hE⟩ := cl_e hE
      refine gf_X15_282 C hW k_x0 er_4 dX15_isSafe_132 (fun k_r_4 => ?_)
      refine lv_iload C.1 C.2.1 dX15_isSafe_135 (lv_at hl 2 rfl) ?_
      refine lv_aload_n C.1 C.2.1 dX15_isSafe_137 rfl (lv_at hl 1 rfl) ?_
      refine gf_X15_452 C hW k_x1 dX15_isSafe_138 ?_
      obtain ⟨o_5, eo_5, hE⟩ := cl_e hE
      refine x_kI (o := o_5) (z_runV (As := [.ref r_4, .int x4, .int (hI h x1 1)]) (rest := []) C (ct_X15_isAttacked l X F k_x0 k_r_4 eo_5) cw_X15_512 hW hZ k_x0 (by decide) rfl rfl rfl hl.1 (Nat.le_of_ble_eq_true rfl) rfl dX15_isSafe_141 ⟨Nat.le_of_ble_eq_true rfl, Nat.le_of_ble_eq_true rfl⟩ ⟨Nat.le_refl _, Nat.le_refl _⟩) hZ (fun _ _ hW km hZ => ?_)
      replace hkm := hkm.tr km
      replace k_x0 := km.at k_x0 (by decide)
      replace k_x1 := km.at k_x1 (by decide)
      refine lv_if_ne (tgt := 151) C.1 C.2.1 dX15_isSafe_144 (by decide) (fun c_6 => ?_) (fun c_6 => ?_)
      · have hE := br_n hE c_6
        refine lv_iconst (v := (0 : Int32)) C.1 C.2.1 dX15_isSafe_151 (by decide) ?_
        exact bX15_isSafe_152 C hkm hW hZ _ (lv_sub hl [] rfl) hE
      · have hE := br_p hE c_6
        exact bX15_isSafe_147 C hkm hW hZ _ (lv_sub hl [] rfl) hE
set_option maxRecDepth 20000 in
theorem bX15_isSafe_112 {p : Program} {l : Launch} {e : Env} {s : State} {m : MethodId} {args : Array Value} {below : List Frame} {meth : Method} {c : Code} {X : Ec} {h0 : Hp} {o : Int32 × Hp} {F : Nat} (C : Cx X p s m args meth c RX15 cX15_isSafe 7 (some .boolean) "isSafe") {h : Hp} {H : Heap} {locs : List Loc} (hkm : Km h0 h) (hW : Wx X h H) (hZ : va_S (aA (eB X)) s.heap H locs) (ls : Array Slot) (hl : lv_has ls 7 []) (hE : sX15_isSafe_112 F h  = some o) : W p l e (rm 5 140) s m args below meth c H locs 0 0 (MQ below (QI X h0 o.1 o.2) args s 0 0 (aA (eB X))) (F0 m 112 ls []) := by
  refine lv_iconst (v := (0 : Int32)) C.1 C.2.1 dX15_isSafe_112 (by decide) ?_
  exact x_iret C rfl (by decide) hW hZ hkm hE dX15_isSafe_113
set_option maxRecDepth 20000 in
theorem bX15_isSafe_80 {p : Program} {l : Launch} {e : Env} {s : State} {m : MethodId} {args : Array Value} {below : List Frame} {meth : Method} {c : Code} {X : Ec} {h0 : Hp} {o : Int32 × Hp} {F : Nat} (C : Cx X p s m args meth c RX15 cX15_isSafe 7 (some .boolean) "isSafe") {h : Hp} {x0 : Nat} {x1 : Nat} {x4 : Int32} {x5 : Int32} {t0 : Int32} {H : Heap} {locs : List Loc} (k_x0 : hK h x0 = 15) (k_x1 : hK h x1 = 12) (hkm : Km h0 h) (hW : Wx X h H) (hZ : va_S (aA (eB X)) s.heap H locs) (ls : Array Slot) (hl : lv_has ls 7 [(0, .ref x0), (1, .ref x1), (4, .int x4), (5, .int x5)]) (hE : sX15_isSafe_80 F h x0 x1 x4 x5 t0 = some o) : W p l e (rm 5 140) s m args below meth c H locs 0 0 (MQ below (QI X h0 o.1 o.2) args s 0 0 (aA (eB X))) (F0 m 80 ls [.int t0]) := by
  refine lv_istore (lv' := [(6, .int t0), (0, .ref x0), (1, .ref x1), (4, .int x4), (5, .int x5)]) C.1 C.2.1 dX15_isSafe_80 hl (by decide) rfl (fun ls hl => ?_)
  refine lv_iload C.1 C.2.1 dX15_isSafe_82 (lv_at hl 4 rfl) ?_
  refine lv_iconst (v := (-1 : Int32)) C.1 C.2.1 dX15_isSafe_84 (by decide) ?_
  refine lv_icmp_eq (tgt := 112) C.1 C.2.1 dX15_isSafe_85 (by decide) (fun c_1 => ?_) (fun c_1 => ?_)
  · have hE := br_p hE c_1
    exact bX15_isSafe_112 C hkm hW hZ _ (lv_sub hl [] rfl) hE
  · have hE := br_n hE c_1
    refine lv_iload C.1 C.2.1 dX15_isSafe_88 (lv_at hl 0 rfl) ?_
    refine lv_if_ne (tgt := 114) C.1 C.2.1 dX15_isSafe_90 (by decide) (fun c_2 => ?_) (fun c_2 => ?_)
    · have hE := br_n hE c_2
      exact bX15_isSafe_114 C k_x0 k_x1 hkm hW hZ _ (lv_sub hl [1, 2, 3] rfl) hE
    · have hE := br_p hE c_2
      refine lv_aload_n C.1 C.2.1 dX15_isSafe_93 rfl (lv_at hl 1 rfl) ?_
      refine lv_aload_n C.1 C.2.1 dX15_isSafe_94 rfl (lv_at hl 1 rfl) ?_
      obtain ⟨r_3, er_3, hE⟩ := cl_e hE
      refine gf_X15_282 C hW k_x0 er_3 dX15_isSafe_95 (fun k_r_3 => ?_)
      refine lv_iload C.1 C.2.1 dX15_isSafe_98 (lv_at hl 4 rfl) ?_
      refine lv_iconst (v := (1 : Int32)) C.1 C.2.1 dX15_isSafe_100 (by decide) ?_
      refine lv_aload_n C.1 C.2.1 dX15_isSafe_101 rfl (lv_at hl 2 rfl) ?_
      refine gf_X15_452 C hW k_x1 dX15_isSafe_102 ?_
      refine lv_isub C.1 C.2.1 dX15_isSafe_105 ?_
      obtain ⟨o_4, eo_4, hE⟩ := cl_e hE
      refine x_kI (o := o_4) (z_runV (As := [.ref r_3, .int x5, .int ((1 : Int32) - (hI h x1 1))]) (rest := []) C (ct_X15_isAttacked l X F k_x0 k_r_3 eo_4) cw_X15_512 hW hZ k_x0 (by decide) rfl rfl rfl hl.1 (Nat.le_of_ble_eq_true rfl) rfl dX15_isSafe_106 ⟨Nat.le_of_ble_eq_true rfl, Nat.le_of_ble_eq_true rfl⟩ ⟨Nat.le_refl _, Nat.le_refl _⟩) hZ (fun _ _ hW km hZ => ?_)
      replace hkm := hkm.tr km
      replace k_x0 := km.at k_x0 (by decide)
      replace k_x1 := km.at k_x1 (by decide)
      refine lv_if_eq (tgt := 114) C.1 C.2.1 dX15_isSafe_109 (by decide) (fun c_5 => ?_) (fun c_5 => ?_)
      · have hE := br_p hE c_5
        exact bX15_isSafe_114 C k_x0 k_x1 hkm hW hZ _ (lv_sub hl [1, 2, 3] rfl) hE
      · have hE := br_n hE c_5
        exact bX15_isSafe_112 C hkm hW hZ _ (lv_sub hl [] rfl) hE
set_option maxRecDepth 20000 in
theorem bX15_isSafe_79 {p : Program} {l : Launch} {e : Env} {s : State} {m : MethodId} {args : Array Value} {below : List Frame} {meth : Method} {c : Code} {X : Ec} {h0 : Hp} {o : Int32 × Hp} {F : Nat} (C : Cx X p s m args meth c RX15 cX15_isSafe 7 (some .boolean) "isSafe") {h : Hp} {x0 : Nat} {x1 : Nat} {x4 : Int32} {x5 : Int32} {H : Heap} {locs : List Loc} (k_x0 : hK h x0 = 15) (k_x1 : hK h x1 = 12) (hkm : Km h0 h) (hW : Wx X h H) (hZ : va_S (aA (eB X)) s.heap H locs) (ls : Array Slot) (hl : lv_has ls 7 [(0, .ref x0), (1, .ref x1), (4, .int x4), (5, .int x5)]) (hE : sX15_isSafe_79 F h x0 x1 x4 x5 = some o) : W p l e (rm 5 140) s m args below meth c H locs 0 0 (MQ below (QI X h0 o.1 o.2) args s 0 0 (aA (eB X))) (F0 m 79 ls []) := by
  refine lv_iconst (v := (0 : Int32)) C.1 C.2.1 dX15_isSafe_79 (by decide) ?_
  exact bX15_isSafe_80 C k_x0 k_x1 hkm hW hZ _ (lv_sub hl [0, 1, 2, 3] rfl) hE
set_option maxRecDepth 20000 in
theorem ct_X15_isSafe (l : Launch) (X : Ec) (F : Nat) {h : Hp} {x0 : Nat} {x1 : Nat} {x2 : Nat} {x3 : Int32} {o : Int32 × Hp} (k_x0 : hK h x0 = 15) (k_x1 : hK h x1 = 12) (k_x2 : hK h x2 = 13) (hE : sX15_isSafe F h x0 x1 x2 x3 = some o) : MetI l yX15_isSafe cX15_isSafe 7 (some .boolean) 5 140 X [.ref x0, .ref x1, .ref x2, .int x3] h o := by
  refine x_met (by decide) (Nat.le_of_ble_eq_true rfl) ?_
  intro p e s m below meth c ls C hl hW hZ
  have hl : lv_has ls 7 [(0, .ref x0), (1, .ref x1), (2, .ref x2), (3, .int x3)] := hl
  have hkm : Km h h := Km.rf h
  refine lv_aload_n C.1 C.2.1 dX15_isSafe_0 rfl (lv_at hl 0 rfl) ?_
  refine lv_aload_n C.1 C.2.1 dX15_isSafe_1 rfl (lv_at hl 1 rfl) ?_
  refine lv_aload_n C.1 C.2.1 dX15_isSafe_2 rfl (lv_at hl 2 rfl) ?_
  refine lv_iload_n C.1 C.2.1 dX15_isSafe_3 rfl (lv_at hl 3 rfl) ?_
  refine lv_aload_n C.1 C.2.1 dX15_isSafe_4 rfl (lv_at hl 0 rfl) ?_
  obtain ⟨r_1, er_1, hE⟩ := cl_e hE
  refine gf_X15_282 C hW k_x0 er_1 dX15_isSafe_5 (fun k_r_1 => ?_)
  obtain ⟨o_2, eo_2, hE⟩ := cl_e hE
  refine x_kV (o := o_2) (z_runV (As := [.ref x1, .ref x2, .int x3, .ref r_1]) (rest := []) C (ct_X15_make l X F k_x0 k_x1 k_x2 k_r_1 eo_2) cw_X15_627 hW hZ k_x0 (by decide) rfl rfl rfl hl.1 (Nat.le_of_ble_eq_true rfl) rfl dX15_isSafe_8 ⟨Nat.le_of_ble_eq_true rfl, Nat.le_of_ble_eq_true rfl⟩ ⟨Nat.le_refl _, Nat.le_refl _⟩) hZ (fun _ _ hW km hZ => ?_)
  replace hkm := hkm.tr km
  replace k_x0 := km.at k_x0 (by decide)
  replace k_x1 := km.at k_x1 (by decide)
  replace k_x2 := km.at k_x2 (by decide)
  refine lv_aload_n C.1 C.2.1 dX15_isSafe_11 rfl (lv_at hl 0 rfl) ?_
  refine lv_aload_n C.1 C.2.1 dX15_isSafe_12 rfl (lv_at hl 0 rfl) ?_
  obtain ⟨r_3, er_3, hE⟩ := cl_e hE
  refine gf_X15_282 C hW k_x0 er_3 dX15_isSafe_13 (fun k_r_3 => ?_)
  refine lv_iconst (v := (1 : Int32)) C.1 C.2.1 dX15_isSafe_16 (by decide) ?_
  refine lv_aload_n C.1 C.2.1 dX15_isSafe_17 rfl (lv_at hl 1 rfl) ?_
  refine gf_X15_452 C hW k_x1 dX15_isSafe_18 ?_
  refine lv_isub C.1 C.2.1 dX15_isSafe_21 ?_
  obtain ⟨o_4, eo_4, hE⟩ := cl_e hE
  refine x_kI (o := o_4) (z_runV (As := [.ref r_3, .int ((1 : Int32) - (hI o_2 x1 1))]) (rest := []) C (ct_X15_royalOf l X F k_x0 k_r_3 eo_4) cw_X15_508 hW hZ k_x0 (by decide) rfl rfl rfl hl.1 (Nat.le_of_ble_eq_true rfl) rfl dX15_isSafe_22 ⟨Nat.le_of_ble_eq_true rfl, Nat.le_of_ble_eq_true rfl⟩ ⟨Nat.le_refl _, Nat.le_refl _⟩) hZ (fun _ _ hW km hZ => ?_)
  replace hkm := hkm.tr km
  replace k_x0 := km.at k_x0 (by decide)
  replace k_x1 := km.at k_x1 (by decide)
  replace k_x2 := km.at k_x2 (by decide)
  refine lv_istore (lv' := [(4, .int o_4.1), (0, .ref x0), (1, .ref x1), (2, .ref x2), (3, .int x3)]) C.1 C.2.1 dX15_isSafe_25 hl (by decide) rfl (fun ls hl => ?_)
  refine lv_aload_n C.1 C.2.1 dX15_isSafe_27 rfl (lv_at hl 1 rfl) ?_
  refine lv_aload_n C.1 C.2.1 dX15_isSafe_28 rfl (lv_at hl 2 rfl) ?_
  refine lv_aload_n C.1 C.2.1 dX15_isSafe_29 rfl (lv_at hl 2 rfl) ?_
  refine gf_X15_452 C hW k_x1 dX15_isSafe_30 ?_
  obtain ⟨o_5, eo_5, hE⟩ := cl_e hE
  refine x_kI (o := o_5) (z_runV (As := [.ref x1, .int (hI o_4.2 x1 1)]) (rest := []) C (ct_X15_royalOf l X F k_x0 k_x1 eo_5) cw_X15_508 hW hZ k_x0 (by decide) rfl rfl rfl hl.1 (Nat.le_of_ble_eq_true rfl) rfl dX15_isSafe_33 ⟨Nat.le_of_ble_eq_true rfl, Nat.le_of_ble_eq_true rfl⟩ ⟨Nat.le_refl _, Nat.le_refl _⟩) hZ (fun _ _ hW km hZ => ?_)
  replace hkm := hkm.tr km
  replace k_x0 := km.at k_x0 (by decide)
  replace k_x1 := km.at k_x1 (by decide)
  replace k_x2 := km.at k_x2 (by decide)
  refine lv_iconst (v := (-1 : Int32)) C.1 C.2.1 dX15_isSafe_36 (by decide) ?_
  refine lv_icmp_eq (tgt := 114) C.1 C.2.1 dX15_isSafe_37 (by decide) (fun c_6 => ?_) (fun c_6 => ?_)
  · have hE := br_p hE c_6
    exact bX15_isSafe_114 C k_x0 k_x1 hkm hW hZ _ (lv_sub hl [1, 2, 0] rfl) hE
  · have hE := br_n hE c_6
    refine lv_aload_n C.1 C.2.1 dX15_isSafe_40 rfl (lv_at hl 1 rfl) ?_
    refine lv_aload_n C.1 C.2.1 dX15_isSafe_41 rfl (lv_at hl 1 rfl) ?_
    obtain ⟨r_7, er_7, hE⟩ := cl_e hE
    refine gf_X15_282 C hW k_x0 er_7 dX15_isSafe_42 (fun k_r_7 => ?_)
    refine lv_aload_n C.1 C.2.1 dX15_isSafe_45 rfl (lv_at hl 2 rfl) ?_
    refine gf_X15_452 C hW k_x1 dX15_isSafe_46 ?_
    obtain ⟨o_8, eo_8, hE⟩ := cl_e hE
    refine x_kI (o := o_8) (z_runV (As := [.ref r_7, .int (hI o_5.2 x1 1)]) (rest := []) C (ct_X15_royalOf l X F k_x0 k_r_7 eo_8) cw_X15_508 hW hZ k_x0 (by decide) rfl rfl rfl hl.1 (Nat.le_of_ble_eq_true rfl) rfl dX15_isSafe_49 ⟨Nat.le_of_ble_eq_true rfl, Nat.le_of_ble_eq_true rfl⟩ ⟨Nat.le_refl _, Nat.le_refl _⟩) hZ (fun _ _ hW km hZ => ?_)
    replace hkm := hkm.tr km
    replace k_x0 := km.at k_x0 (by decide)
    replace k_x1 := km.at k_x1 (by decide)
    replace k_x2 := km.at k_x2 (by decide)
    refine lv_istore (lv' := [(5, .int o_8.1), (4, .int o_4.1), (0, .ref x0), (1, .ref x1), (2, .ref x2), (3, .int x3)]) C.1 C.2.1 dX15_isSafe_52 hl (by decide) rfl (fun ls hl => ?_)
    refine lv_aload_n C.1 C.2.1 dX15_isSafe_54 rfl (lv_at hl 2 rfl) ?_
    refine lv_aload_n C.1 C.2.1 dX15_isSafe_55 rfl (lv_at hl 3 rfl) ?_
    refine lv_iconst (v := (1 : Int32)) C.1 C.2.1 dX15_isSafe_56 (by decide) ?_
    refine lv_aload_n C.1 C.2.1 dX15_isSafe_57 rfl (lv_at hl 3 rfl) ?_
    refine gf_X15_452 C hW k_x1 dX15_isSafe_58 ?_
    refine lv_isub C.1 C.2.1 dX15_isSafe_61 ?_
    obtain ⟨o_9, eo_9, hE⟩ := cl_e hE
    refine x_kI (o := o_9) (z_runV (As := [.ref x1, .int ((1 : Int32) - (hI o_8.2 x1 1))]) (rest := []) C (ct_X15_royalOf l X F k_x0 k_x1 eo_9) cw_X15_508 hW hZ k_x0 (by decide) rfl rfl rfl hl.1 (Nat.le_of_ble_eq_true rfl) rfl dX15_isSafe_62 ⟨Nat.le_of_ble_eq_true rfl, Nat.le_of_ble_eq_true rfl⟩ ⟨Nat.le_refl _, Nat.le_refl _⟩) hZ (fun _ _ hW km hZ => ?_)
    replace hkm := hkm.tr km
    replace k_x0 := km.at k_x0 (by decide)
    replace k_x1 := km.at k_x1 (by decide)
    replace k_x2 := km.at k_x2 (by decide)
    refine lv_iconst (v := (-1 : Int32)) C.1 C.2.1 dX15_isSafe_65 (by decide) ?_
    refine lv_icmp_eq (tgt := 79) C.1 C.2.1 dX15_isSafe_66 (by decide) (fun c_10 => ?_) (fun c_10 => ?_)
    · have hE := br_p hE c_10
      exact bX15_isSafe_79 C k_x0 k_x1 hkm hW hZ _ (lv_sub hl [2, 3, 1, 0] rfl) hE
    · have hE := br_n hE c_10
      refine lv_iload C.1 C.2.1 dX15_isSafe_69 (lv_at hl 1 rfl) ?_
      refine lv_iconst (v := (-1 : Int32)) C.1 C.2.1 dX15_isSafe_71 (by decide) ?_
      refine lv_icmp_ne (tgt := 79) C.1 C.2.1 dX15_isSafe_72 (by decide) (fun c_11 => ?_) (fun c_11 => ?_)
      · have hE := br_n hE c_11
        exact bX15_isSafe_79 C k_x0 k_x1 hkm hW hZ _ (lv_sub hl [2, 3, 1, 0] rfl) hE
      · have hE := br_p hE c_11
        refine lv_iconst (v := (1 : Int32)) C.1 C.2.1 dX15_isSafe_75 (by decide) ?_
        refine lv_goto (tgt := 80) C.1 C.2.1 dX15_isSafe_76 (by decide) ?_
        exact bX15_isSafe_80 C k_x0 k_x1 hkm hW hZ _ (lv_sub hl [2, 3, 1, 0] rfl) hE
set_option maxRecDepth 100000 in
theorem ms_179 : Cond.selects RX15 yX15_isSafe yX15_isSafe ∈ W0 := w0_in (List.mem_append_left _ (List.mem_of_getElem? (i := 179) rfl)) rfl
set_option maxRecDepth 100000 in
theorem ms_173 : Cond.selects RX15 yX15_tryAll yX15_tryAll ∈ W0 := w0_in (List.mem_append_left _ (List.mem_of_getElem? (i := 173) rfl)) rfl
set_option maxRecDepth 100000 in
theorem ms_171 : Cond.selects RX15 yX15_early yX15_early ∈ W0 := w0_in (List.mem_append_left _ (List.mem_of_getElem? (i := 171) rfl)) rfl
set_option maxRecDepth 100000 in
theorem m_2520 : Cond.methodLink RX15 631 yX15_early ∈ W0 := w0_in (List.mem_append_right _ (List.mem_of_getElem? (i := 2520) rfl)) rfl
set_option maxRecDepth 100000 in
theorem m_2522 : Cond.instanceMethod yX15_early ∈ W0 := w0_in (List.mem_append_right _ (List.mem_of_getElem? (i := 2522) rfl)) rfl
set_option maxRecDepth 100000 in
theorem m_2523 : Cond.code yX15_early cX15_early 5 (some .int) ∈ W0 := w0_in (List.mem_append_right _ (List.mem_of_getElem? (i := 2523) rfl)) rfl
set_option maxRecDepth 100000 in
theorem m_2528 : Cond.methodLink RX15 634 yX15_tryAll ∈ W0 := w0_in (List.mem_append_right _ (List.mem_of_getElem? (i := 2528) rfl)) rfl
set_option maxRecDepth 100000 in
theorem m_2530 : Cond.instanceMethod yX15_tryAll ∈ W0 := w0_in (List.mem_append_right _ (List.mem_of_getElem? (i := 2530) rfl)) rfl
set_option maxRecDepth 100000 in
theorem m_2531 : Cond.code yX15_tryAll cX15_tryAll 6 none ∈ W0 := w0_in (List.mem_append_right _ (List.mem_of_getElem? (i := 2531) rfl)) rfl
set_option maxRecDepth 100000 in
theorem m_2559 : Cond.methodLink RX15 638 yX15_isSafe ∈ W0 := w0_in (List.mem_append_right _ (List.mem_of_getElem? (i := 2559) rfl)) rfl
set_option maxRecDepth 100000 in
theorem m_2561 : Cond.instanceMethod yX15_isSafe ∈ W0 := w0_in (List.mem_append_right _ (List.mem_of_getElem? (i := 2561) rfl)) rfl
set_option maxRecDepth 100000 in
theorem m_2562 : Cond.code yX15_isSafe cX15_isSafe 7 (some .boolean) ∈ W0 := w0_in (List.mem_append_right _ (List.mem_of_getElem? (i := 2562) rfl)) rfl
set_option maxRecDepth 100000 in
theorem m_2580 : Cond.methodLink RX15 642 yX13_set ∈ W0 := w0_in (List.mem_append_right _ (List.mem_of_getElem? (i := 2580) rfl)) rfl
set_option maxRecDepth 100000 in
theorem m_2581 : Cond.instanceMethod yX13_set ∈ W0 := w0_in (List.mem_append_right _ (List.mem_of_getElem? (i := 2581) rfl)) rfl
set_option maxRecDepth 100000 in
theorem m_2582 : Cond.selects RX13 yX13_set yX13_set ∈ W0 := w0_in (List.mem_append_right _ (List.mem_of_getElem? (i := 2582) rfl)) rfl
set_option maxRecDepth 100000 in
theorem m_2583 : Cond.code yX13_set cX13_set 4 none ∈ W0 := w0_in (List.mem_append_right _ (List.mem_of_getElem? (i := 2583) rfl)) rfl
section
variable {p : Program} {l : Launch} {e : Env} {R : Room} {s : State} {m : MethodId} {args : Array Value} {below : List Frame} {meth : Method} {c : Code} {H : Heap} {locs : List Loc} {cells slots : Nat} {Q : State → Prop}
variable {cc : ByteArray} {pc : Nat} {ls : Array Slot} {rest : List Value} {X : Ec} {h h1 : Hp} {nL : Nat} {rt : Option FieldType} {mn : String}
theorem gf_X15_575 {a : Nat} (C : Cx X p s m args meth c RX15 cc nL rt mn) (hW : Wx X h H) (ha : hK h a = 13) (hdg : decode cc pc = .ok (.getfield 575, 3)) (kk : W p l e R s m args below meth c H locs cells slots Q (F0 m (pc + 3) ls (.int (hI h a 0) :: rest))) : W p l e R s m args below meth c H locs cells slots Q (F0 m pc ls (.ref a :: rest)) :=
  y_getiN C hW ha i_X13 (by decide) rfl (by decide) n_1948 rfl hdg kk
theorem gf_X15_134 {a : Nat} (C : Cx X p s m args meth c RX15 cc nL rt mn) (hW : Wx X h H) (ha : hK h a = 14) (hdg : decode cc pc = .ok (.getfield 134, 3)) (kk : W p l e R s m args below meth c H locs cells slots Q (F0 m (pc + 3) ls (.int (hI h a 16) :: rest))) : W p l e R s m args below meth c H locs cells slots Q (F0 m pc ls (.ref a :: rest)) :=
  y_getiN C hW ha i_X14 (by decide) rfl (by decide) n_1837 rfl hdg kk
end
theorem cw_X15_642 : cwd RX15 642 yX13_set cX13_set 4 none false 3 := ⟨m_2583, m_2580, m_22, ⟨m_2581, m_2582⟩, by decide, by decide, by decide +kernel⟩
theorem cw_X15_638 : cwd RX15 638 yX15_isSafe cX15_isSafe 7 (some .boolean) false 3 := ⟨m_2562, m_2559, m_19, ⟨m_2561, ms_179⟩, by decide, by decide, by decide +kernel⟩
theorem cw_X15_631 : cwd RX15 631 yX15_early cX15_early 5 (some .int) false 1 := ⟨m_2523, m_2520, m_19, ⟨m_2522, ms_171⟩, by decide, by decide, by decide +kernel⟩
theorem cw_X15_634 : cwd RX15 634 yX15_tryAll cX15_tryAll 6 none false 2 := ⟨m_2531, m_2528, m_19, ⟨m_2530, ms_173⟩, by decide, by decide, by decide +kernel⟩
theorem dX15_legal_0 : decode cX15_legal 0 = .ok (.aload_n 2, 1) := by decide +kernel
theorem dX15_legal_1 : decode cX15_legal 1 = .ok (.iconst 0, 1) := by decide +kernel
theorem dX15_legal_2 : decode cX15_legal 2 = .ok (.putfield 575, 3) := by decide +kernel
theorem dX15_legal_5 : decode cX15_legal 5 = .ok (.aload_n 0, 1) := by decide +kernel
theorem dX15_legal_6 : decode cX15_legal 6 = .ok (.aload_n 1, 1) := by decide +kernel
theorem dX15_legal_7 : decode cX15_legal 7 = .ok (.invokevirtual 631, 3) := by decide +kernel
theorem dX15_legal_10 : decode cX15_legal 10 = .ok (.ifCond .le 4, 3) := by decide +kernel
theorem dX15_legal_13 : decode cX15_legal 13 = .ok (.return_, 1) := by decide +kernel
theorem dX15_legal_14 : decode cX15_legal 14 = .ok (.aload_n 0, 1) := by decide +kernel
theorem dX15_legal_15 : decode cX15_legal 15 = .ok (.aload_n 1, 1) := by decide +kernel
theorem dX15_legal_16 : decode cX15_legal 16 = .ok (.aload_n 2, 1) := by decide +kernel
theorem dX15_legal_17 : decode cX15_legal 17 = .ok (.invokevirtual 634, 3) := by decide +kernel
theorem dX15_legal_20 : decode cX15_legal 20 = .ok (.iconst 0, 1) := by decide +kernel
theorem dX15_legal_21 : decode cX15_legal 21 = .ok (.istore_n 3, 1) := by decide +kernel
theorem dX15_legal_22 : decode cX15_legal 22 = .ok (.iconst 0, 1) := by decide +kernel
theorem dX15_legal_23 : decode cX15_legal 23 = .ok (.istore 4, 2) := by decide +kernel
theorem dX15_legal_25 : decode cX15_legal 25 = .ok (.iconst 0, 1) := by decide +kernel
theorem dX15_legal_26 : decode cX15_legal 26 = .ok (.istore 5, 2) := by decide +kernel
theorem dX15_legal_28 : decode cX15_legal 28 = .ok (.iload 5, 2) := by decide +kernel
theorem dX15_legal_30 : decode cX15_legal 30 = .ok (.aload_n 2, 1) := by decide +kernel
theorem dX15_legal_31 : decode cX15_legal 31 = .ok (.getfield 575, 3) := by decide +kernel
theorem dX15_legal_34 : decode cX15_legal 34 = .ok (.if_icmp .ge 51, 3) := by decide +kernel
theorem dX15_legal_37 : decode cX15_legal 37 = .ok (.aload_n 0, 1) := by decide +kernel
theorem dX15_legal_38 : decode cX15_legal 38 = .ok (.aload_n 1, 1) := by decide +kernel
theorem dX15_legal_39 : decode cX15_legal 39 = .ok (.aload_n 2, 1) := by decide +kernel
theorem dX15_legal_40 : decode cX15_legal 40 = .ok (.iload 5, 2) := by decide +kernel
theorem dX15_legal_42 : decode cX15_legal 42 = .ok (.invokevirtual 638, 3) := by decide +kernel
theorem dX15_legal_45 : decode cX15_legal 45 = .ok (.ifCond .eq 34, 3) := by decide +kernel
theorem dX15_legal_48 : decode cX15_legal 48 = .ok (.aload_n 2, 1) := by decide +kernel
theorem dX15_legal_49 : decode cX15_legal 49 = .ok (.iload_n 3, 1) := by decide +kernel
theorem dX15_legal_50 : decode cX15_legal 50 = .ok (.aload_n 2, 1) := by decide +kernel
theorem dX15_legal_51 : decode cX15_legal 51 = .ok (.iload 5, 2) := by decide +kernel
theorem dX15_legal_53 : decode cX15_legal 53 = .ok (.invokevirtual 642, 3) := by decide +kernel
theorem dX15_legal_56 : decode cX15_legal 56 = .ok (.iload 4, 2) := by decide +kernel
theorem dX15_legal_58 : decode cX15_legal 58 = .ok (.aload_n 2, 1) := by decide +kernel
theorem dX15_legal_59 : decode cX15_legal 59 = .ok (.getfield 605, 3) := by decide +kernel
theorem dX15_legal_62 : decode cX15_legal 62 = .ok (.iload_n 3, 1) := by decide +kernel
theorem dX15_legal_63 : decode cX15_legal 63 = .ok (.iaload, 1) := by decide +kernel
theorem dX15_legal_64 : decode cX15_legal 64 = .ok (.iconst (-1), 1) := by decide +kernel
theorem dX15_legal_65 : decode cX15_legal 65 = .ok (.if_icmp .eq 7, 3) := by decide +kernel
theorem dX15_legal_68 : decode cX15_legal 68 = .ok (.iconst 1, 1) := by decide +kernel
theorem dX15_legal_69 : decode cX15_legal 69 = .ok (.goto 4, 3) := by decide +kernel
theorem dX15_legal_72 : decode cX15_legal 72 = .ok (.iconst 0, 1) := by decide +kernel
theorem dX15_legal_73 : decode cX15_legal 73 = .ok (.ior, 1) := by decide +kernel
theorem dX15_legal_74 : decode cX15_legal 74 = .ok (.istore 4, 2) := by decide +kernel
theorem dX15_legal_76 : decode cX15_legal 76 = .ok (.iinc 3 1, 3) := by decide +kernel
theorem dX15_legal_79 : decode cX15_legal 79 = .ok (.iinc 5 1, 3) := by decide +kernel
theorem dX15_legal_82 : decode cX15_legal 82 = .ok (.goto (-54), 3) := by decide +kernel
theorem dX15_legal_85 : decode cX15_legal 85 = .ok (.aload_n 2, 1) := by decide +kernel
theorem dX15_legal_86 : decode cX15_legal 86 = .ok (.iload_n 3, 1) := by decide +kernel
theorem dX15_legal_87 : decode cX15_legal 87 = .ok (.putfield 575, 3) := by decide +kernel
theorem dX15_legal_90 : decode cX15_legal 90 = .ok (.aload_n 0, 1) := by decide +kernel
theorem dX15_legal_91 : decode cX15_legal 91 = .ok (.getfield 252, 3) := by decide +kernel
theorem dX15_legal_94 : decode cX15_legal 94 = .ok (.getfield 134, 3) := by decide +kernel
theorem dX15_legal_97 : decode cX15_legal 97 = .ok (.ifCond .eq 55, 3) := by decide +kernel
theorem dX15_legal_100 : decode cX15_legal 100 = .ok (.iload 4, 2) := by decide +kernel
theorem dX15_legal_102 : decode cX15_legal 102 = .ok (.ifCond .eq 50, 3) := by decide +kernel
theorem dX15_legal_105 : decode cX15_legal 105 = .ok (.iconst 0, 1) := by decide +kernel
theorem dX15_legal_106 : decode cX15_legal 106 = .ok (.istore_n 3, 1) := by decide +kernel
theorem dX15_legal_107 : decode cX15_legal 107 = .ok (.iconst 0, 1) := by decide +kernel
theorem dX15_legal_108 : decode cX15_legal 108 = .ok (.istore 5, 2) := by decide +kernel
theorem dX15_legal_110 : decode cX15_legal 110 = .ok (.iload 5, 2) := by decide +kernel
theorem dX15_legal_112 : decode cX15_legal 112 = .ok (.aload_n 2, 1) := by decide +kernel
theorem dX15_legal_113 : decode cX15_legal 113 = .ok (.getfield 575, 3) := by decide +kernel
theorem dX15_legal_116 : decode cX15_legal 116 = .ok (.if_icmp .ge 31, 3) := by decide +kernel
theorem dX15_legal_119 : decode cX15_legal 119 = .ok (.aload_n 2, 1) := by decide +kernel
theorem dX15_legal_120 : decode cX15_legal 120 = .ok (.getfield 605, 3) := by decide +kernel
theorem dX15_legal_123 : decode cX15_legal 123 = .ok (.iload 5, 2) := by decide +kernel
theorem dX15_legal_125 : decode cX15_legal 125 = .ok (.iaload, 1) := by decide +kernel
theorem dX15_legal_126 : decode cX15_legal 126 = .ok (.iconst (-1), 1) := by decide +kernel
theorem dX15_legal_127 : decode cX15_legal 127 = .ok (.if_icmp .eq 14, 3) := by decide +kernel
theorem dX15_legal_130 : decode cX15_legal 130 = .ok (.aload_n 2, 1) := by decide +kernel
theorem dX15_legal_131 : decode cX15_legal 131 = .ok (.iload_n 3, 1) := by decide +kernel
theorem dX15_legal_132 : decode cX15_legal 132 = .ok (.aload_n 2, 1) := by decide +kernel
theorem dX15_legal_133 : decode cX15_legal 133 = .ok (.iload 5, 2) := by decide +kernel
theorem dX15_legal_135 : decode cX15_legal 135 = .ok (.invokevirtual 642, 3) := by decide +kernel
theorem dX15_legal_138 : decode cX15_legal 138 = .ok (.iinc 3 1, 3) := by decide +kernel
theorem dX15_legal_141 : decode cX15_legal 141 = .ok (.iinc 5 1, 3) := by decide +kernel
theorem dX15_legal_144 : decode cX15_legal 144 = .ok (.goto (-34), 3) := by decide +kernel
theorem dX15_legal_147 : decode cX15_legal 147 = .ok (.aload_n 2, 1) := by decide +kernel
theorem dX15_legal_148 : decode cX15_legal 148 = .ok (.iload_n 3, 1) := by decide +kernel
theorem dX15_legal_149 : decode cX15_legal 149 = .ok (.putfield 575, 3) := by decide +kernel
theorem dX15_legal_152 : decode cX15_legal 152 = .ok (.return_, 1) := by decide +kernel
set_option maxRecDepth 20000 in
theorem moX15_legal_152 {o : Hp} {F : Nat} {h : Hp} (hE : sX15_legal_152 F h  = some o) : Le h o := by
  exact le_some1 hE
set_option maxRecDepth 20000 in
theorem moX15_legal_141 {o : Hp} {k_110 : Hp → Nat → Int32 → Int32 → Option (Hp)} {F : Nat} (mk_110 : ∀ (h : Hp) (x2 : Nat) (x3 : Int32) (x5 : Int32), k_110 h x2 x3 x5 = some o → Le h o) {h : Hp} {x2 : Nat} {x3 : Int32} {x5 : Int32} (hE : sX15_legal_141 F k_110 h x2 x3 x5 = some o) : Le h o := by
  obtain ⟨v_1, ev_1, hE⟩ := nm_e2 hE
  exact mk_110 _ _ _ _ hE
set_option maxRecDepth 20000 in
theorem moX15_legal_110 {o : Hp} {F : Nat} : ∀ (f : Nat) {h : Hp} {x2 : Nat} {x3 : Int32} {x5 : Int32}, sX15_legal_110 F f h x2 x3 x5 = some o → Le h o := by
  intro f
  induction f with
  | zero =>
    intro h x2 x3 x5 hE
    rw [sX15_legal_110] at hE
    cases hE
  | succ f ih =>
    intro h x2 x3 x5 hE
    rw [sX15_legal_110] at hE
    have mk_110 : ∀ (h : Hp) (x2 : Nat) (x3 : Int32) (x5 : Int32), sX15_legal_110 F f h x2 x3 x5 = some o → Le h o := fun h x2 x3 x5 hE => ih hE
    rcases br_e hE with ⟨_, hE⟩ | ⟨_, hE⟩
    · obtain ⟨h_2, eh_2, hE⟩ := nm_e2 hE
      refine (le_I eh_2).tr ?_
      exact moX15_legal_152 hE
    · obtain ⟨r_3, er_3, hE⟩ := cl_e hE
      obtain ⟨g_4, hE⟩ := gd_e hE
      rcases br_e hE with ⟨_, hE⟩ | ⟨_, hE⟩
      · exact moX15_legal_141 mk_110 hE
      · obtain ⟨o_6, eo_6, hE⟩ := cl_e hE
        refine (moX13_set eo_6).tr ?_
        obtain ⟨v_7, ev_7, hE⟩ := nm_e2 hE
        exact moX15_legal_141 mk_110 hE
set_option maxRecDepth 20000 in
theorem moX15_legal_79 {o : Hp} {k_28 : Hp → Nat → Nat → Nat → Int32 → Int32 → Int32 → Option (Hp)} {F : Nat} (mk_28 : ∀ (h : Hp) (x0 : Nat) (x1 : Nat) (x2 : Nat) (x3 : Int32) (x4 : Int32) (x5 : Int32), k_28 h x0 x1 x2 x3 x4 x5 = some o → Le h o) {h : Hp} {x0 : Nat} {x1 : Nat} {x2 : Nat} {x3 : Int32} {x4 : Int32} {x5 : Int32} (hE : sX15_legal_79 F k_28 h x0 x1 x2 x3 x4 x5 = some o) : Le h o := by
  obtain ⟨v_1, ev_1, hE⟩ := nm_e2 hE
  exact mk_28 _ _ _ _ _ _ _ hE
set_option maxRecDepth 20000 in
theorem moX15_legal_73 {o : Hp} {k_28 : Hp → Nat → Nat → Nat → Int32 → Int32 → Int32 → Option (Hp)} {F : Nat} (mk_28 : ∀ (h : Hp) (x0 : Nat) (x1 : Nat) (x2 : Nat) (x3 : Int32) (x4 : Int32) (x5 : Int32), k_28 h x0 x1 x2 x3 x4 x5 = some o → Le h o) {h : Hp} {x0 : Nat} {x1 : Nat} {x2 : Nat} {x3 : Int32} {x5 : Int32} {t0 : Int32} {t1 : Int32} (hE : sX15_legal_73 F k_28 h x0 x1 x2 x3 x5 t0 t1 = some o) : Le h o := by
  obtain ⟨v_1, ev_1, hE⟩ := nm_e2 hE
  obtain ⟨v_2, ev_2, hE⟩ := nm_e2 hE
  exact moX15_legal_79 mk_28 hE
set_option maxRecDepth 20000 in
theorem moX15_legal_28 {o : Hp} {F : Nat} : ∀ (f : Nat) {h : Hp} {x0 : Nat} {x1 : Nat} {x2 : Nat} {x3 : Int32} {x4 : Int32} {x5 : Int32}, sX15_legal_28 F f h x0 x1 x2 x3 x4 x5 = some o → Le h o := by
  intro f
  induction f with
  | zero =>
    intro h x0 x1 x2 x3 x4 x5 hE
    rw [sX15_legal_28] at hE
    cases hE
  | succ f ih =>
    intro h x0 x1 x2 x3 x4 x5 hE
    rw [sX15_legal_28] at hE
    have mk_28 : ∀ (h : Hp) (x0 : Nat) (x1 : Nat) (x2 : Nat) (x3 : Int32) (x4 : Int32) (x5 : Int32), sX15_legal_28 F f h x0 x1 x2 x3 x4 x5 = some o → Le h o := fun h x0 x1 x2 x3 x4 x5 hE => ih hE
    rcases br_e hE with ⟨_, hE⟩ | ⟨_, hE⟩
    · obtain ⟨h_2, eh_2, hE⟩ := nm_e2 hE
      refine (le_I eh_2).tr ?_
      obtain ⟨r_3, er_3, hE⟩ := cl_e hE
      rcases br_e hE with ⟨_, hE⟩ | ⟨_, hE⟩
      · exact moX15_legal_152 hE
      · rcases br_e hE with ⟨_, hE⟩ | ⟨_, hE⟩
        · exact moX15_legal_152 hE
        · exact moX15_legal_110 _ hE
    · obtain ⟨o_6, eo_6, hE⟩ := cl_e hE
      refine (moX15_isSafe eo_6).tr ?_
      rcases br_e hE with ⟨_, hE⟩ | ⟨_, hE⟩
      · exact moX15_legal_79 mk_28 hE
      · obtain ⟨o_8, eo_8, hE⟩ := cl_e hE
        refine (moX13_set eo_8).tr ?_
        obtain ⟨r_9, er_9, hE⟩ := cl_e hE
        obtain ⟨g_10, hE⟩ := gd_e hE
        rcases br_e hE with ⟨_, hE⟩ | ⟨_, hE⟩
        · exact moX15_legal_73 mk_28 hE
        · exact moX15_legal_73 mk_28 hE
set_option maxRecDepth 20000 in
theorem moX15_legal {o : Hp} {F : Nat} {h : Hp} {x0 : Nat} {x1 : Nat} {x2 : Nat} (hE : sX15_legal F h x0 x1 x2 = some o) : Le h o := by
  obtain ⟨h_1, eh_1, hE⟩ := nm_e2 hE
  refine (le_I eh_1).tr ?_
  obtain ⟨o_2, eo_2, hE⟩ := cl_e hE
  refine (moX15_early eo_2).tr ?_
  rcases br_e hE with ⟨_, hE⟩ | ⟨_, hE⟩
  · obtain ⟨o_4, eo_4, hE⟩ := cl_e hE
    refine (moX15_tryAll eo_4).tr ?_
    exact moX15_legal_28 _ hE
  · exact le_some1 hE
set_option maxRecDepth 20000 in
theorem bX15_legal_152 {p : Program} {l : Launch} {e : Env} {s : State} {m : MethodId} {args : Array Value} {below : List Frame} {meth : Method} {c : Code} {X : Ec} {h0 : Hp} {o : Hp} {F : Nat} (C : Cx X p s m args meth c RX15 cX15_legal 6 none "legal") {h : Hp} {H : Heap} {locs : List Loc} (hkm : Km h0 h) (hW : Wx X h H) (hZ : va_S (aA (eB X)) s.heap H locs) (ls : Array Slot) (hl : lv_has ls 6 []) (hE : sX15_legal_152 F h  = some o) : W p l e (rm 6 166) s m args below meth c H locs 0 0 (MQ below (QV X h0 o) args s 0 0 (aA (eB X))) (F0 m 152 ls []) := by
  exact x_vret C rfl hW hZ hkm hE dX15_legal_152
set_option maxRecDepth 20000 in
theorem bX15_legal_141 {p : Program} {l : Launch} {e : Env} {s : State} {m : MethodId} {args : Array Value} {below : List Frame} {meth : Method} {c : Code} {X : Ec} {h0 : Hp} {o : Hp} {k_110 : Hp → Nat → Int32 → Int32 → Option (Hp)} {F : Nat} (C : Cx X p s m args meth c RX15 cX15_legal 6 none "legal") (hk_110 : ∀ (h : Hp) (x2 : Nat) (x3 : Int32) (x5 : Int32) (H : Heap) (locs : List Loc), hK h x2 = 13 → Km h0 h → Wx X h H → va_S (aA (eB X)) s.heap H locs → ∀ (ls : Array Slot), lv_has ls 6 [(2, .ref x2), (3, .int x3), (5, .int x5)] → k_110 h x2 x3 x5 = some o → W p l e (rm 6 166) s m args below meth c H locs 0 0 (MQ below (QV X h0 o) args s 0 0 (aA (eB X))) (F0 m 110 ls [])) {h : Hp} {x2 : Nat} {x3 : Int32} {x5 : Int32} {H : Heap} {locs : List Loc} (k_x2 : hK h x2 = 13) (hkm : Km h0 h) (hW : Wx X h H) (hZ : va_S (aA (eB X)) s.heap H locs) (ls : Array Slot) (hl : lv_has ls 6 [(2, .ref x2), (3, .int x3), (5, .int x5)]) (hE : sX15_legal_141 F k_110 h x2 x3 x5 = some o) : W p l e (rm 6 166) s m args below meth c H locs 0 0 (MQ below (QV X h0 o) args s 0 0 (aA (eB X))) (F0 m 141 ls []) := by
  obtain ⟨v_1, ev_1, hE⟩ := nm_e2 hE
  refine lv_iinc (v := v_1) (lv' := [(5, .int v_1), (2, .ref x2), (3, .int x3)]) C.1 C.2.1 dX15_legal_141 hl (k := 2) rfl (by rw [ev_1]; rfl) (by decide) rfl (fun ls hl => ?_)
  refine lv_goto (tgt := 110) C.1 C.2.1 dX15_legal_144 (by decide) ?_
  exact hk_110 _ _ _ _ _ _ k_x2 hkm hW hZ _ (lv_sub hl [1, 2, 0] rfl) hE
set_option maxRecDepth 20000 in
theorem bX15_legal_110 {p : Program} {l : Launch} {e : Env} {s : State} {m : MethodId} {args : Array Value} {below : List Frame} {meth : Method} {c : Code} {X : Ec} {h0 : Hp} {o : Hp} {F : Nat} (C : Cx X p s m args meth c RX15 cX15_legal 6 none "legal") : ∀ (f : Nat) {h : Hp} {x2 : Nat} {x3 : Int32} {x5 : Int32} {H : Heap} {locs : List Loc} (k_x2 : hK h x2 = 13), Km h0 h → Wx X h H → va_S (aA (eB X)) s.heap H locs → ∀ (ls : Array Slot), lv_has ls 6 [(2, .ref x2), (3, .int x3), (5, .int x5)] → sX15_legal_110 F f h x2 x3 x5 = some o → W p l e (rm 6 166) s m args below meth c H locs 0 0 (MQ below (QV X h0 o) args s 0 0 (aA (eB X))) (F0 m 110 ls []) := by
  intro f
  induction f with
  | zero =>
    intro h x2 x3 x5 H locs k_x2 hkm hW hZ ls hl hE
    rw [sX15_legal_110] at hE
    cases hE
  | succ f ih =>
    intro h x2 x3 x5 H locs k_x2 hkm hW hZ ls hl hE
    rw [sX15_legal_110] at hE
    have hk_110 : ∀ (h : Hp) (x2 : Nat) (x3 : Int32) (x5 : Int32) (H : Heap) (locs : List Loc), hK h x2 = 13 → Km h0 h → Wx X h H → va_S (aA (eB X)) s.heap H locs → ∀ (ls : Array Slot), lv_has ls 6 [(2, .ref x2), (3, .int x3), (5, .int x5)] → sX15_legal_110 F f h x2 x3 x5 = some o → W p l e (rm 6 166) s m args below meth c H locs 0 0 (MQ below (QV X h0 o) args s 0 0 (aA (eB X))) (F0 m 110 ls []) := fun h x2 x3 x5 H locs k_x2 a b c ls hl hE => ih k_x2 a b c ls hl hE
    refine lv_iload C.1 C.2.1 dX15_legal_110 (lv_at hl 2 rfl) ?_
    refine lv_aload_n C.1 C.2.1 dX15_legal_112 rfl (lv_at hl 0 rfl) ?_
    refine gf_X15_575 C hW k_x2 dX15_legal_113 ?_
    refine lv_icmp_ge (tgt := 147) C.1 C.2.1 dX15_legal_116 (by decide) (fun c_1 => ?_) (fun c_1 => ?_)
    · have hE := br_p hE c_1
      refine lv_aload_n C.1 C.2.1 dX15_legal_147 rfl (lv_at hl 0 rfl) ?_
      refine lv_iload_n C.1 C.2.1 dX15_legal_148 rfl (lv_at hl 1 rfl) ?_
      obtain ⟨h_2, eh_2, hE⟩ := nm_e2 hE
      refine pf_X15_575 C hW hZ k_x2 eh_2 dX15_legal_149 (fun _ _ hW km hZ => ?_)
      replace hkm := hkm.tr km
      replace k_x2 := km.at k_x2 (by decide)
      exact bX15_legal_152 C hkm hW hZ _ (lv_sub hl [] rfl) hE
    · have hE := br_n hE c_1
      refine lv_aload_n C.1 C.2.1 dX15_legal_119 rfl (lv_at hl 0 rfl) ?_
      obtain ⟨r_3, er_3, hE⟩ := cl_e hE
      refine gf_X15_605 C hW k_x2 er_3 dX15_legal_120 (fun k_r_3 => ?_)
      refine lv_iload C.1 C.2.1 dX15_legal_123 (lv_at hl 2 rfl) ?_
      obtain ⟨g_4, hE⟩ := gd_e hE
      refine y_iald C hW k_r_3 g_4 dX15_legal_125 ?_
      refine lv_iconst (v := (-1 : Int32)) C.1 C.2.1 dX15_legal_126 (by decide) ?_
      refine lv_icmp_eq (tgt := 141) C.1 C.2.1 dX15_legal_127 (by decide) (fun c_5 => ?_) (fun c_5 => ?_)
      · have hE := br_p hE c_5
        exact bX15_legal_141 C hk_110 k_x2 hkm hW hZ _ (lv_sub hl [0, 1, 2] rfl) hE
      · have hE := br_n hE c_5
        refine lv_aload_n C.1 C.2.1 dX15_legal_130 rfl (lv_at hl 0 rfl) ?_
        refine lv_iload_n C.1 C.2.1 dX15_legal_131 rfl (lv_at hl 1 rfl) ?_
        refine lv_aload_n C.1 C.2.1 dX15_legal_132 rfl (lv_at hl 0 rfl) ?_
        refine lv_iload C.1 C.2.1 dX15_legal_133 (lv_at hl 2 rfl) ?_
        obtain ⟨o_6, eo_6, hE⟩ := cl_e hE
        refine x_kV (o := o_6) (z_runV (As := [.int x3, .ref x2, .int x5]) (rest := []) C (ct_X13_set l X k_x2 k_x2 eo_6) cw_X15_642 hW hZ k_x2 (by decide) rfl rfl rfl hl.1 (Nat.le_of_ble_eq_true rfl) rfl dX15_legal_135 ⟨Nat.le_of_ble_eq_true rfl, Nat.le_of_ble_eq_true rfl⟩ ⟨Nat.le_refl _, Nat.le_refl _⟩) hZ (fun _ _ hW km hZ => ?_)
        replace hkm := hkm.tr km
        replace k_x2 := km.at k_x2 (by decide)
        obtain ⟨v_7, ev_7, hE⟩ := nm_e2 hE
        refine lv_iinc (v := v_7) (lv' := [(3, .int v_7), (2, .ref x2), (5, .int x5)]) C.1 C.2.1 dX15_legal_138 hl (k := 1) rfl (by rw [ev_7]; rfl) (by decide) rfl (fun ls hl => ?_)
        exact bX15_legal_141 C hk_110 k_x2 hkm hW hZ _ (lv_sub hl [1, 0, 2] rfl) hE
set_option maxRecDepth 20000 in
theorem bX15_legal_79 {p : Program} {l : Launch} {e : Env} {s : State} {m : MethodId} {args : Array Value} {below : List Frame} {meth : Method} {c : Code} {X : Ec} {h0 : Hp} {o : Hp} {k_28 : Hp → Nat → Nat → Nat → Int32 → Int32 → Int32 → Option (Hp)} {F : Nat} (C : Cx X p s m args meth c RX15 cX15_legal 6 none "legal") (hk_28 : ∀ (h : Hp) (x0 : Nat) (x1 : Nat) (x2 : Nat) (x3 : Int32) (x4 : Int32) (x5 : Int32) (H : Heap) (locs : List Loc), hK h x0 = 15 → hK h x1 = 12 → hK h x2 = 13 → Km h0 h → Wx X h H → va_S (aA (eB X)) s.heap H locs → ∀ (ls : Array Slot), lv_has ls 6 [(0, .ref x0), (1, .ref x1), (2, .ref x2), (3, .int x3), (4, .int x4), (5, .int x5)] → k_28 h x0 x1 x2 x3 x4 x5 = some o → W p l e (rm 6 166) s m args below meth c H locs 0 0 (MQ below (QV X h0 o) args s 0 0 (aA (eB X))) (F0 m 28 ls [])) {h : Hp} {x0 : Nat} {x1 : Nat} {x2 : Nat} {x3 : Int32} {x4 : Int32} {x5 : Int32} {H : Heap} {locs : List Loc} (k_x0 : hK h x0 = 15) (k_x1 : hK h x1 = 12) (k_x2 : hK h x2 = 13) (hkm : Km h0 h) (hW : Wx X h H) (hZ : va_S (aA (eB X)) s.heap H locs) (ls : Array Slot) (hl : lv_has ls 6 [(0, .ref x0), (1, .ref x1), (2, .ref x2), (3, .int x3), (4, .int x4), (5, .int x5)]) (hE : sX15_legal_79 F k_28 h x0 x1 x2 x3 x4 x5 = some o) : W p l e (rm 6 166) s m args below meth c H locs 0 0 (MQ below (QV X h0 o) args s 0 0 (aA (eB X))) (F0 m 79 ls []) := by
  obtain ⟨v_1, ev_1, hE⟩ := nm_e2 hE
  refine lv_iinc (v := v_1) (lv' := [(5, .int v_1), (0, .ref x0), (1, .ref x1), (2, .ref x2), (3, .int x3), (4, .int x4)]) C.1 C.2.1 dX15_legal_79 hl (k := 5) rfl (by rw [ev_1]; rfl) (by decide) rfl (fun ls hl => ?_)
  refine lv_goto (tgt := 28) C.1 C.2.1 dX15_legal_82 (by decide) ?_
  exact hk_28 _ _ _ _ _ _ _ _ _ k_x0 k_x1 k_x2 hkm hW hZ _ (lv_sub hl [1, 2, 3, 4, 5, 0] rfl) hE
set_option maxRecDepth 20000 in
theorem bX15_legal_73 {p : Program} {l : Launch} {e : Env} {s : State} {m : MethodId} {args : Array Value} {below : List Frame} {meth : Method} {c : Code} {X : Ec} {h0 : Hp} {o : Hp} {k_28 : Hp → Nat → Nat → Nat → Int32 → Int32 → Int32 → Option (Hp)} {F : Nat} (C : Cx X p s m args meth c RX15 cX15_legal 6 none "legal") (hk_28 : ∀ (h : Hp) (x0 : Nat) (x1 : Nat) (x2 : Nat) (x3 : Int32) (x4 : Int32) (x5 : Int32) (H : Heap) (locs : List Loc), hK h x0 = 15 → hK h x1 = 12 → hK h x2 = 13 → Km h0 h → Wx X h H → va_S (aA (eB X)) s.heap H locs → ∀ (ls : Array Slot), lv_has ls 6 [(0, .ref x0), (1, .ref x1), (2, .ref x2), (3, .int x3), (4, .int x4), (5, .int x5)] → k_28 h x0 x1 x2 x3 x4 x5 = some o → W p l e (rm 6 166) s m args below meth c H locs 0 0 (MQ below (QV X h0 o) args s 0 0 (aA (eB X))) (F0 m 28 ls [])) {h : Hp} {x0 : Nat} {x1 : Nat} {x2 : Nat} {x3 : Int32} {x5 : Int32} {t0 : Int32} {t1 : Int32} {H : Heap} {locs : List Loc} (k_x0 : hK h x0 = 15) (k_x1 : hK h x1 = 12) (k_x2 : hK h x2 = 13) (hkm : Km h0 h) (hW : Wx X h H) (hZ : va_S (aA (eB X)) s.heap H locs) (ls : Array Slot) (hl : lv_has ls 6 [(0, .ref x0), (1, .ref x1), (2, .ref x2), (3, .int x3), (5, .int x5)]) (hE : sX15_legal_73 F k_28 h x0 x1 x2 x3 x5 t0 t1 = some o) : W p l e (rm 6 166) s m args below meth c H locs 0 0 (MQ below (QV X h0 o) args s 0 0 (aA (eB X))) (F0 m 73 ls [.int t0, .int t1]) := by
  refine lv_ior C.1 C.2.1 dX15_legal_73 ?_
  obtain ⟨v_1, ev_1, hE⟩ := nm_e2 hE
  refine x_nmI ev_1 ?_
  refine lv_istore (lv' := [(4, .int v_1), (0, .ref x0), (1, .ref x1), (2, .ref x2), (3, .int x3), (5, .int x5)]) C.1 C.2.1 dX15_legal_74 hl (by decide) rfl (fun ls hl => ?_)
  obtain ⟨v_2, ev_2, hE⟩ := nm_e2 hE
  refine lv_iinc (v := v_2) (lv' := [(3, .int v_2), (4, .int v_1), (0, .ref x0), (1, .ref x1), (2, .ref x2), (5, .int x5)]) C.1 C.2.1 dX15_legal_76 hl (k := 4) rfl (by rw [ev_2]; rfl) (by decide) rfl (fun ls hl => ?_)
  exact bX15_legal_79 C hk_28 k_x0 k_x1 k_x2 hkm hW hZ _ (lv_sub hl [2, 3, 4, 0, 1, 5] rfl) hE
set_option maxRecDepth 20000 in
theorem bX15_legal_28 {p : Program} {l : Launch} {e : Env} {s : State} {m : MethodId} {args : Array Value} {below : List Frame} {meth : Method} {c : Code} {X : Ec} {h0 : Hp} {o : Hp} {F : Nat} (C : Cx X p s m args meth c RX15 cX15_legal 6 none "legal") : ∀ (f : Nat) {h : Hp} {x0 : Nat} {x1 : Nat} {x2 : Nat} {x3 : Int32} {x4 : Int32} {x5 : Int32} {H : Heap} {locs : List Loc} (k_x0 : hK h x0 = 15) (k_x1 : hK h x1 = 12) (k_x2 : hK h x2 = 13), Km h0 h → Wx X h H → va_S (aA (eB X)) s.heap H locs → ∀ (ls : Array Slot), lv_has ls 6 [(0, .ref x0), (1, .ref x1), (2, .ref x2), (3, .int x3), (4, .int x4), (5, .int x5)] → sX15_legal_28 F f h x0 x1 x2 x3 x4 x5 = some o → W p l e (rm 6 166) s m args below meth c H locs 0 0 (MQ below (QV X h0 o) args s 0 0 (aA (eB X))) (F0 m 28 ls []) := by
  intro f
  induction f with
  | zero =>
    intro h x0 x1 x2 x3 x4 x5 H locs k_x0 k_x1 k_x2 hkm hW hZ ls hl hE
    rw [sX15_legal_28] at hE
    cases hE
  | succ f ih =>
    intro h x0 x1 x2 x3 x4 x5 H locs k_x0 k_x1 k_x2 hkm hW hZ ls hl hE
    rw [sX15_legal_28] at hE
    have hk_28 : ∀ (h : Hp) (x0 : Nat) (x1 : Nat) (x2 : Nat) (x3 : Int32) (x4 : Int32) (x5 : Int32) (H : Heap) (locs : List Loc), hK h x0 = 15 → hK h x1 = 12 → hK h x2 = 13 → Km h0 h → Wx X h H → va_S (aA (eB X)) s.heap H locs → ∀ (ls : Array Slot), lv_has ls 6 [(0, .ref x0), (1, .ref x1), (2, .ref x2), (3, .int x3), (4, .int x4), (5, .int x5)] → sX15_legal_28 F f h x0 x1 x2 x3 x4 x5 = some o → W p l e (rm 6 166) s m args below meth c H locs 0 0 (MQ below (QV X h0 o) args s 0 0 (aA (eB X))) (F0 m 28 ls []) := fun h x0 x1 x2 x3 x4 x5 H locs k_x0 k_x1 k_x2 a b c ls hl hE => ih k_x0 k_x1 k_x2 a b c ls hl hE
    refine lv_iload C.1 C.2.1 dX15_legal_28 (lv_at hl 5 rfl) ?_
    refine lv_aload_n C.1 C.2.1 dX15_legal_30 rfl (lv_at hl 2 rfl) ?_
    refine gf_X15_575 C hW k_x2 dX15_legal_31 ?_
    refine lv_icmp_ge (tgt := 85) C.1 C.2.1 dX15_legal_34 (by decide) (fun c_1 => ?_) (fun c_1 => ?_)
    · have hE := br_p hE c_1
      refine lv_aload_n C.1 C.2.1 dX15_legal_85 rfl (lv_at hl 2 rfl) ?_
      refine lv_iload_n C.1 C.2.1 dX15_legal_86 rfl (lv_at hl 3 rfl) ?_
      obtain ⟨h_2, eh_2, hE⟩ := nm_e2 hE
      refine pf_X15_575 C hW hZ k_x2 eh_2 dX15_legal_87 (fun _ _ hW km hZ => ?_)
      replace hkm := hkm.tr km
      replace k_x0 := km.at k_x0 (by decide)
      replace k_x1 := km.at k_x1 (by decide)
      replace k_x2 := km.at k_x2 (by decide)
      refine lv_aload_n C.1 C.2.1 dX15_legal_90 rfl (lv_at hl 0 rfl) ?_
      obtain ⟨r_3, er_3, hE⟩ := cl_e hE
      refine gf_X15_252 C hW k_x0 er_3 dX15_legal_91 (fun k_r_3 => ?_)
      refine gf_X15_134 C hW k_r_3 dX15_legal_94 ?_
      refine lv_if_eq (tgt := 152) C.1 C.2.1 dX15_legal_97 (by decide) (fun c_4 => ?_) (fun c_4 => ?_)
      · have hE := br_p hE c_4
        exact bX15_legal_152 C hkm hW hZ _ (lv_sub hl [] rfl) hE
      · have hE := br_n hE c_4
        refine lv_iload C.1 C.2.1 dX15_legal_100 (lv_at hl 4 rfl) ?_
        refine lv_if_eq (tgt := 152) C.1 C.2.1 dX15_legal_102 (by decide) (fun c_5 => ?_) (fun c_5 => ?_)
        · have hE := br_p hE c_5
          exact bX15_legal_152 C hkm hW hZ _ (lv_sub hl [] rfl) hE
        · have hE := br_n hE c_5
          refine lv_iconst (v := (0 : Int32)) C.1 C.2.1 dX15_legal_105 (by decide) ?_
          refine lv_istore_n (lv' := [(3, .int (0 : Int32)), (0, .ref x0), (1, .ref x1), (2, .ref x2), (4, .int x4), (5, .int x5)]) C.1 C.2.1 dX15_legal_106 rfl hl (by decide) rfl (fun ls hl => ?_)
          refine lv_iconst (v := (0 : Int32)) C.1 C.2.1 dX15_legal_107 (by decide) ?_
          refine lv_istore (lv' := [(5, .int (0 : Int32)), (3, .int (0 : Int32)), (0, .ref x0), (1, .ref x1), (2, .ref x2), (4, .int x4)]) C.1 C.2.1 dX15_legal_108 hl (by decide) rfl (fun ls hl => ?_)
          exact bX15_legal_110 C F k_x2 hkm hW hZ _ (lv_sub hl [4, 1, 0] rfl) hE
    · have hE := br_n hE c_1
      refine lv_aload_n C.1 C.2.1 dX15_legal_37 rfl (lv_at hl 0 rfl) ?_
      refine lv_aload_n C.1 C.2.1 dX15_legal_38 rfl (lv_at hl 1 rfl) ?_
      refine lv_aload_n C.1 C.2.1 dX15_legal_39 rfl (lv_at hl 2 rfl) ?_
      refine lv_iload C.1 C.2.1 dX15_legal_40 (lv_at hl 5 rfl) ?_
      obtain ⟨o_6, eo_6, hE⟩ := cl_e hE
      refine x_kI (o := o_6) (z_runV (As := [.ref x1, .ref x2, .int x5]) (rest := []) C (ct_X15_isSafe l X F k_x0 k_x1 k_x2 eo_6) cw_X15_638 hW hZ k_x0 (by decide) rfl rfl rfl hl.1 (Nat.le_of_ble_eq_true rfl) rfl dX15_legal_42 ⟨Nat.le_of_ble_eq_true rfl, Nat.le_of_ble_eq_true rfl⟩ ⟨Nat.le_refl _, Nat.le_refl _⟩) hZ (fun _ _ hW km hZ => ?_)
      replace hkm := hkm.tr km
      replace k_x0 := km.at k_x0 (by decide)
      replace k_x1 := km.at k_x1 (by decide)
      replace k_x2 := km.at k_x2 (by decide)
      refine lv_if_eq (tgt := 79) C.1 C.2.1 dX15_legal_45 (by decide) (fun c_7 => ?_) (fun c_7 => ?_)
      · have hE := br_p hE c_7
        exact bX15_legal_79 C hk_28 k_x0 k_x1 k_x2 hkm hW hZ _ (lv_sub hl [0, 1, 2, 3, 4, 5] rfl) hE
      · have hE := br_n hE c_7
        refine lv_aload_n C.1 C.2.1 dX15_legal_48 rfl (lv_at hl 2 rfl) ?_
        refine lv_iload_n C.1 C.2.1 dX15_legal_49 rfl (lv_at hl 3 rfl) ?_
        refine lv_aload_n C.1 C.2.1 dX15_legal_50 rfl (lv_at hl 2 rfl) ?_
        refine lv_iload C.1 C.2.1 dX15_legal_51 (lv_at hl 5 rfl) ?_
        obtain ⟨o_8, eo_8, hE⟩ := cl_e hE
        refine x_kV (o := o_8) (z_runV (As := [.int x3, .ref x2, .int x5]) (rest := []) C (ct_X13_set l X k_x2 k_x2 eo_8) cw_X15_642 hW hZ k_x2 (by decide) rfl rfl rfl hl.1 (Nat.le_of_ble_eq_true rfl) rfl dX15_legal_53 ⟨Nat.le_of_ble_eq_true rfl, Nat.le_of_ble_eq_true rfl⟩ ⟨Nat.le_refl _, Nat.le_refl _⟩) hZ (fun _ _ hW km hZ => ?_)
        replace hkm := hkm.tr km
        replace k_x0 := km.at k_x0 (by decide)
        replace k_x1 := km.at k_x1 (by decide)
        replace k_x2 := km.at k_x2 (by decide)
        refine lv_iload C.1 C.2.1 dX15_legal_56 (lv_at hl 4 rfl) ?_
        refine lv_aload_n C.1 C.2.1 dX15_legal_58 rfl (lv_at hl 2 rfl) ?_
        obtain ⟨r_9, er_9, hE⟩ := cl_e hE
        refine gf_X15_605 C hW k_x2 er_9 dX15_legal_59 (fun k_r_9 => ?_)
        refine lv_iload_n C.1 C.2.1 dX15_legal_62 rfl (lv_at hl 3 rfl) ?_
        obtain ⟨g_10, hE⟩ := gd_e hE
        refine y_iald C hW k_r_9 g_10 dX15_legal_63 ?_
        refine lv_iconst (v := (-1 : Int32)) C.1 C.2.1 dX15_legal_64 (by decide) ?_
        refine lv_icmp_eq (tgt := 72) C.1 C.2.1 dX15_legal_65 (by decide) (fun c_11 => ?_) (fun c_11 => ?_)
        · have hE := br_p hE c_11
          refine lv_iconst (v := (0 : Int32)) C.1 C.2.1 dX15_legal_72 (by decide) ?_
          exact bX15_legal_73 C hk_28 k_x0 k_x1 k_x2 hkm hW hZ _ (lv_sub hl [0, 1, 2, 3, 5] rfl) hE
        · have hE := br_n hE c_11
          refine lv_iconst (v := (1 : Int32)) C.1 C.2.1 dX15_legal_68 (by decide) ?_
          refine lv_goto (tgt := 73) C.1 C.2.1 dX15_legal_69 (by decide) ?_
          exact bX15_legal_73 C hk_28 k_x0 k_x1 k_x2 hkm hW hZ _ (lv_sub hl [0, 1, 2, 3, 5] rfl) hE
set_option maxRecDepth 20000 in
theorem ct_X15_legal (l : Launch) (X : Ec) (F : Nat) {h : Hp} {x0 : Nat} {x1 : Nat} {x2 : Nat} {o : Hp} (k_x0 : hK h x0 = 15) (k_x1 : hK h x1 = 12) (k_x2 : hK h x2 = 13) (hE : sX15_legal F h x0 x1 x2 = some o) : MetV l yX15_legal cX15_legal 6 none 6 166 X [.ref x0, .ref x1, .ref x2] h o := by
  refine x_met (by decide) (Nat.le_of_ble_eq_true rfl) ?_
  intro p e s m below meth c ls C hl hW hZ
  have hl : lv_has ls 6 [(0, .ref x0), (1, .ref x1), (2, .ref x2)] := hl
  have hkm : Km h h := Km.rf h
  refine lv_aload_n C.1 C.2.1 dX15_legal_0 rfl (lv_at hl 2 rfl) ?_
  refine lv_iconst (v := (0 : Int32)) C.1 C.2.1 dX15_legal_1 (by decide) ?_
  obtain ⟨h_1, eh_1, hE⟩ := nm_e2 hE
  refine pf_X15_575 C hW hZ k_x2 eh_1 dX15_legal_2 (fun _ _ hW km hZ => ?_)
  replace hkm := hkm.tr km
  replace k_x0 := km.at k_x0 (by decide)
  replace k_x1 := km.at k_x1 (by decide)
  replace k_x2 := km.at k_x2 (by decide)
  refine lv_aload_n C.1 C.2.1 dX15_legal_5 rfl (lv_at hl 0 rfl) ?_
  refine lv_aload_n C.1 C.2.1 dX15_legal_6 rfl (lv_at hl 1 rfl) ?_
  obtain ⟨o_2, eo_2, hE⟩ := cl_e hE
  refine x_kI (o := o_2) (z_runV (As := [.ref x1]) (rest := []) C (ct_X15_early l X F k_x0 k_x1 eo_2) cw_X15_631 hW hZ k_x0 (by decide) rfl rfl rfl hl.1 (Nat.le_of_ble_eq_true rfl) rfl dX15_legal_7 ⟨Nat.le_of_ble_eq_true rfl, Nat.le_of_ble_eq_true rfl⟩ ⟨Nat.le_refl _, Nat.le_refl _⟩) hZ (fun _ _ hW km hZ => ?_)
  replace hkm := hkm.tr km
  replace k_x0 := km.at k_x0 (by decide)
  replace k_x1 := km.at k_x1 (by decide)
  replace k_x2 := km.at k_x2 (by decide)
  refine lv_if_le (tgt := 14) C.1 C.2.1 dX15_legal_10 (by decide) (fun c_3 => ?_) (fun c_3 => ?_)
  · have hE := br_p hE c_3
    refine lv_aload_n C.1 C.2.1 dX15_legal_14 rfl (lv_at hl 0 rfl) ?_
    refine lv_aload_n C.1 C.2.1 dX15_legal_15 rfl (lv_at hl 1 rfl) ?_
    refine lv_aload_n C.1 C.2.1 dX15_legal_16 rfl (lv_at hl 2 rfl) ?_
    obtain ⟨o_4, eo_4, hE⟩ := cl_e hE
    refine x_kV (o := o_4) (z_runV (As := [.ref x1, .ref x2]) (rest := []) C (ct_X15_tryAll l X F k_x0 k_x1 k_x2 eo_4) cw_X15_634 hW hZ k_x0 (by decide) rfl rfl rfl hl.1 (Nat.le_of_ble_eq_true rfl) rfl dX15_legal_17 ⟨Nat.le_of_ble_eq_true rfl, Nat.le_of_ble_eq_true rfl⟩ ⟨Nat.le_refl _, Nat.le_refl _⟩) hZ (fun _ _ hW km hZ => ?_)
    replace hkm := hkm.tr km
    replace k_x0 := km.at k_x0 (by decide)
    replace k_x1 := km.at k_x1 (by decide)
    replace k_x2 := km.at k_x2 (by decide)
    refine lv_iconst (v := (0 : Int32)) C.1 C.2.1 dX15_legal_20 (by decide) ?_
    refine lv_istore_n (lv' := [(3, .int (0 : Int32)), (0, .ref x0), (1, .ref x1), (2, .ref x2)]) C.1 C.2.1 dX15_legal_21 rfl hl (by decide) rfl (fun ls hl => ?_)
    refine lv_iconst (v := (0 : Int32)) C.1 C.2.1 dX15_legal_22 (by decide) ?_
    refine lv_istore (lv' := [(4, .int (0 : Int32)), (3, .int (0 : Int32)), (0, .ref x0), (1, .ref x1), (2, .ref x2)]) C.1 C.2.1 dX15_legal_23 hl (by decide) rfl (fun ls hl => ?_)
    refine lv_iconst (v := (0 : Int32)) C.1 C.2.1 dX15_legal_25 (by decide) ?_
    refine lv_istore (lv' := [(5, .int (0 : Int32)), (4, .int (0 : Int32)), (3, .int (0 : Int32)), (0, .ref x0), (1, .ref x1), (2, .ref x2)]) C.1 C.2.1 dX15_legal_26 hl (by decide) rfl (fun ls hl => ?_)
    exact bX15_legal_28 C F k_x0 k_x1 k_x2 hkm hW hZ _ (lv_sub hl [3, 4, 5, 2, 1, 0] rfl) hE
  · have hE := br_n hE c_3
    exact x_vret C rfl hW hZ hkm hE dX15_legal_13
set_option maxRecDepth 100000 in
theorem ms_170 : Cond.selects RX15 yX15_legal yX15_legal ∈ W0 := w0_in (List.mem_append_left _ (List.mem_of_getElem? (i := 170) rfl)) rfl
set_option maxRecDepth 100000 in
theorem m_2516 : Cond.methodLink RX15 652 yX15_legal ∈ W0 := w0_in (List.mem_append_right _ (List.mem_of_getElem? (i := 2516) rfl)) rfl
set_option maxRecDepth 100000 in
theorem m_2518 : Cond.instanceMethod yX15_legal ∈ W0 := w0_in (List.mem_append_right _ (List.mem_of_getElem? (i := 2518) rfl)) rfl
set_option maxRecDepth 100000 in
theorem m_2519 : Cond.code yX15_legal cX15_legal 6 none ∈ W0 := w0_in (List.mem_append_right _ (List.mem_of_getElem? (i := 2519) rfl)) rfl
section
variable {p : Program} {l : Launch} {e : Env} {R : Room} {s : State} {m : MethodId} {args : Array Value} {below : List Frame} {meth : Method} {c : Code} {H : Heap} {locs : List Loc} {cells slots : Nat} {Q : State → Prop}
variable {cc : ByteArray} {pc : Nat} {ls : Array Slot} {rest : List Value} {X : Ec} {h h1 : Hp} {nL : Nat} {rt : Option FieldType} {mn : String}
theorem gf_X15_292 {a r : Nat} (C : Cx X p s m args meth c RX15 cc nL rt mn) (hW : Wx X h H) (ha : hK h a = 15) (hr : hR h a 31 = some r) (hdg : decode cc pc = .ok (.getfield 292, 3)) (kk : hK h r = 13 → W p l e R s m args below meth c H locs cells slots Q (F0 m (pc + 3) ls (.ref r :: rest))) : W p l e R s m args below meth c H locs cells slots Q (F0 m pc ls (.ref a :: rest)) :=
  y_getr C hW ha i_X15 (by decide) rfl (by decide) m_2142 rfl rfl hr hdg kk
end
theorem cw_X15_652 : cwd RX15 652 yX15_legal cX15_legal 6 none false 2 := ⟨m_2519, m_2516, m_19, ⟨m_2518, ms_170⟩, by decide, by decide, by decide +kernel⟩
theorem dX15_hasCatch_0 : decode cX15_hasCatch 0 = .ok (.aload_n 0, 1) := by decide +kernel
theorem dX15_hasCatch_1 : decode cX15_hasCatch 1 = .ok (.aload_n 1, 1) := by decide +kernel
theorem dX15_hasCatch_2 : decode cX15_hasCatch 2 = .ok (.aload_n 0, 1) := by decide +kernel
theorem dX15_hasCatch_3 : decode cX15_hasCatch 3 = .ok (.getfield 292, 3) := by decide +kernel
theorem dX15_hasCatch_6 : decode cX15_hasCatch 6 = .ok (.invokevirtual 652, 3) := by decide +kernel
theorem dX15_hasCatch_9 : decode cX15_hasCatch 9 = .ok (.iconst 0, 1) := by decide +kernel
theorem dX15_hasCatch_10 : decode cX15_hasCatch 10 = .ok (.istore_n 2, 1) := by decide +kernel
theorem dX15_hasCatch_11 : decode cX15_hasCatch 11 = .ok (.iload_n 2, 1) := by decide +kernel
theorem dX15_hasCatch_12 : decode cX15_hasCatch 12 = .ok (.aload_n 0, 1) := by decide +kernel
theorem dX15_hasCatch_13 : decode cX15_hasCatch 13 = .ok (.getfield 292, 3) := by decide +kernel
theorem dX15_hasCatch_16 : decode cX15_hasCatch 16 = .ok (.getfield 575, 3) := by decide +kernel
theorem dX15_hasCatch_19 : decode cX15_hasCatch 19 = .ok (.if_icmp .ge 24, 3) := by decide +kernel
theorem dX15_hasCatch_22 : decode cX15_hasCatch 22 = .ok (.aload_n 0, 1) := by decide +kernel
theorem dX15_hasCatch_23 : decode cX15_hasCatch 23 = .ok (.getfield 292, 3) := by decide +kernel
theorem dX15_hasCatch_26 : decode cX15_hasCatch 26 = .ok (.getfield 602, 3) := by decide +kernel
theorem dX15_hasCatch_29 : decode cX15_hasCatch 29 = .ok (.iload_n 2, 1) := by decide +kernel
theorem dX15_hasCatch_30 : decode cX15_hasCatch 30 = .ok (.iaload, 1) := by decide +kernel
theorem dX15_hasCatch_31 : decode cX15_hasCatch 31 = .ok (.iconst 1, 1) := by decide +kernel
theorem dX15_hasCatch_32 : decode cX15_hasCatch 32 = .ok (.if_icmp .ne 5, 3) := by decide +kernel
theorem dX15_hasCatch_35 : decode cX15_hasCatch 35 = .ok (.iconst 1, 1) := by decide +kernel
theorem dX15_hasCatch_36 : decode cX15_hasCatch 36 = .ok (.ireturn, 1) := by decide +kernel
theorem dX15_hasCatch_37 : decode cX15_hasCatch 37 = .ok (.iinc 2 1, 3) := by decide +kernel
theorem dX15_hasCatch_40 : decode cX15_hasCatch 40 = .ok (.goto (-29), 3) := by decide +kernel
theorem dX15_hasCatch_43 : decode cX15_hasCatch 43 = .ok (.iconst 0, 1) := by decide +kernel
theorem dX15_hasCatch_44 : decode cX15_hasCatch 44 = .ok (.ireturn, 1) := by decide +kernel
set_option maxRecDepth 20000 in
theorem moX15_hasCatch_11 {o : Int32 × Hp} {F : Nat} : ∀ (f : Nat) {h : Hp} {x0 : Nat} {x2 : Int32}, sX15_hasCatch_11 F f h x0 x2 = some o → Le h o.2 := by
  intro f
  induction f with
  | zero =>
    intro h x0 x2 hE
    rw [sX15_hasCatch_11] at hE
    cases hE
  | succ f ih =>
    intro h x0 x2 hE
    rw [sX15_hasCatch_11] at hE
    have mk_11 : ∀ (h : Hp) (x0 : Nat) (x2 : Int32), sX15_hasCatch_11 F f h x0 x2 = some o → Le h o.2 := fun h x0 x2 hE => ih hE
    obtain ⟨r_1, er_1, hE⟩ := cl_e hE
    rcases br_e hE with ⟨_, hE⟩ | ⟨_, hE⟩
    · exact le_some2 hE
    · obtain ⟨r_3, er_3, hE⟩ := cl_e hE
      obtain ⟨r_4, er_4, hE⟩ := cl_e hE
      obtain ⟨g_5, hE⟩ := gd_e hE
      rcases br_e hE with ⟨_, hE⟩ | ⟨_, hE⟩
      · exact le_some2 hE
      · obtain ⟨v_7, ev_7, hE⟩ := nm_e2 hE
        exact mk_11 _ _ _ hE
set_option maxRecDepth 20000 in
theorem moX15_hasCatch {o : Int32 × Hp} {F : Nat} {h : Hp} {x0 : Nat} {x1 : Nat} (hE : sX15_hasCatch F h x0 x1 = some o) : Le h o.2 := by
  obtain ⟨r_1, er_1, hE⟩ := cl_e hE
  obtain ⟨o_2, eo_2, hE⟩ := cl_e hE
  refine (moX15_legal eo_2).tr ?_
  exact moX15_hasCatch_11 _ hE
set_option maxRecDepth 20000 in
theorem bX15_hasCatch_11 {p : Program} {l : Launch} {e : Env} {s : State} {m : MethodId} {args : Array Value} {below : List Frame} {meth : Method} {c : Code} {X : Ec} {h0 : Hp} {o : Int32 × Hp} {F : Nat} (C : Cx X p s m args meth c RX15 cX15_hasCatch 3 (some .boolean) "hasCatch") : ∀ (f : Nat) {h : Hp} {x0 : Nat} {x2 : Int32} {H : Heap} {locs : List Loc} (k_x0 : hK h x0 = 15), Km h0 h → Wx X h H → va_S (aA (eB X)) s.heap H locs → ∀ (ls : Array Slot), lv_has ls 3 [(0, .ref x0), (2, .int x2)] → sX15_hasCatch_11 F f h x0 x2 = some o → W p l e (rm 7 191) s m args below meth c H locs 0 0 (MQ below (QI X h0 o.1 o.2) args s 0 0 (aA (eB X))) (F0 m 11 ls []) := by
  intro f
  induction f with
  | zero =>
    intro h x0 x2 H locs k_x0 hkm hW hZ ls hl hE
    rw [sX15_hasCatch_11] at hE
    cases hE
  | succ f ih =>
    intro h x0 x2 H locs k_x0 hkm hW hZ ls hl hE
    rw [sX15_hasCatch_11] at hE
    have hk_11 : ∀ (h : Hp) (x0 : Nat) (x2 : Int32) (H : Heap) (locs : List Loc), hK h x0 = 15 → Km h0 h → Wx X h H → va_S (aA (eB X)) s.heap H locs → ∀ (ls : Array Slot), lv_has ls 3 [(0, .ref x0), (2, .int x2)] → sX15_hasCatch_11 F f h x0 x2 = some o → W p l e (rm 7 191) s m args below meth c H locs 0 0 (MQ below (QI X h0 o.1 o.2) args s 0 0 (aA (eB X))) (F0 m 11 ls []) := fun h x0 x2 H locs k_x0 a b c ls hl hE => ih k_x0 a b c ls hl hE
    refine lv_iload_n C.1 C.2.1 dX15_hasCatch_11 rfl (lv_at hl 1 rfl) ?_
    refine lv_aload_n C.1 C.2.1 dX15_hasCatch_12 rfl (lv_at hl 0 rfl) ?_
    obtain ⟨r_1, er_1, hE⟩ := cl_e hE
    refine gf_X15_292 C hW k_x0 er_1 dX15_hasCatch_13 (fun k_r_1 => ?_)
    refine gf_X15_575 C hW k_r_1 dX15_hasCatch_16 ?_
    refine lv_icmp_ge (tgt := 43) C.1 C.2.1 dX15_hasCatch_19 (by decide) (fun c_2 => ?_) (fun c_2 => ?_)
    · have hE := br_p hE c_2
      refine lv_iconst (v := (0 : Int32)) C.1 C.2.1 dX15_hasCatch_43 (by decide) ?_
      exact x_iret C rfl (by decide) hW hZ hkm hE dX15_hasCatch_44
    · have hE := br_n hE c_2
      refine lv_aload_n C.1 C.2.1 dX15_hasCatch_22 rfl (lv_at hl 0 rfl) ?_
      obtain ⟨r_3, er_3, hE⟩ := cl_e hE
      refine gf_X15_292 C hW k_x0 er_3 dX15_hasCatch_23 (fun k_r_3 => ?_)
      obtain ⟨r_4, er_4, hE⟩ := cl_e hE
      refine gf_X15_602 C hW k_r_3 er_4 dX15_hasCatch_26 (fun k_r_4 => ?_)
      refine lv_iload_n C.1 C.2.1 dX15_hasCatch_29 rfl (lv_at hl 1 rfl) ?_
      obtain ⟨g_5, hE⟩ := gd_e hE
      refine y_iald C hW k_r_4 g_5 dX15_hasCatch_30 ?_
      refine lv_iconst (v := (1 : Int32)) C.1 C.2.1 dX15_hasCatch_31 (by decide) ?_
      refine lv_icmp_ne (tgt := 37) C.1 C.2.1 dX15_hasCatch_32 (by decide) (fun c_6 => ?_) (fun c_6 => ?_)
      · have hE := br_n hE c_6
        obtain ⟨v_7, ev_7, hE⟩ := nm_e2 hE
        refine lv_iinc (v := v_7) (lv' := [(2, .int v_7), (0, .ref x0)]) C.1 C.2.1 dX15_hasCatch_37 hl (k := 1) rfl (by rw [ev_7]; rfl) (by decide) rfl (fun ls hl => ?_)
        refine lv_goto (tgt := 11) C.1 C.2.1 dX15_hasCatch_40 (by decide) ?_
        exact hk_11 _ _ _ _ _ k_x0 hkm hW hZ _ (lv_sub hl [1, 0] rfl) hE
      · have hE := br_p hE c_6
        refine lv_iconst (v := (1 : Int32)) C.1 C.2.1 dX15_hasCatch_35 (by decide) ?_
        exact x_iret C rfl (by decide) hW hZ hkm hE dX15_hasCatch_36
set_option maxRecDepth 20000 in
theorem ct_X15_hasCatch (l : Launch) (X : Ec) (F : Nat) {h : Hp} {x0 : Nat} {x1 : Nat} {o : Int32 × Hp} (k_x0 : hK h x0 = 15) (k_x1 : hK h x1 = 12) (hE : sX15_hasCatch F h x0 x1 = some o) : MetI l yX15_hasCatch cX15_hasCatch 3 (some .boolean) 7 191 X [.ref x0, .ref x1] h o := by
  refine x_met (by decide) (Nat.le_of_ble_eq_true rfl) ?_
  intro p e s m below meth c ls C hl hW hZ
  have hl : lv_has ls 3 [(0, .ref x0), (1, .ref x1)] := hl
  have hkm : Km h h := Km.rf h
  refine lv_aload_n C.1 C.2.1 dX15_hasCatch_0 rfl (lv_at hl 0 rfl) ?_
  refine lv_aload_n C.1 C.2.1 dX15_hasCatch_1 rfl (lv_at hl 1 rfl) ?_
  refine lv_aload_n C.1 C.2.1 dX15_hasCatch_2 rfl (lv_at hl 0 rfl) ?_
  obtain ⟨r_1, er_1, hE⟩ := cl_e hE
  refine gf_X15_292 C hW k_x0 er_1 dX15_hasCatch_3 (fun k_r_1 => ?_)
  obtain ⟨o_2, eo_2, hE⟩ := cl_e hE
  refine x_kV (o := o_2) (z_runV (As := [.ref x1, .ref r_1]) (rest := []) C (ct_X15_legal l X F k_x0 k_x1 k_r_1 eo_2) cw_X15_652 hW hZ k_x0 (by decide) rfl rfl rfl hl.1 (Nat.le_of_ble_eq_true rfl) rfl dX15_hasCatch_6 ⟨Nat.le_of_ble_eq_true rfl, Nat.le_of_ble_eq_true rfl⟩ ⟨Nat.le_refl _, Nat.le_refl _⟩) hZ (fun _ _ hW km hZ => ?_)
  replace hkm := hkm.tr km
  replace k_x0 := km.at k_x0 (by decide)
  replace k_x1 := km.at k_x1 (by decide)
  refine lv_iconst (v := (0 : Int32)) C.1 C.2.1 dX15_hasCatch_9 (by decide) ?_
  refine lv_istore_n (lv' := [(2, .int (0 : Int32)), (0, .ref x0), (1, .ref x1)]) C.1 C.2.1 dX15_hasCatch_10 rfl hl (by decide) rfl (fun ls hl => ?_)
  exact bX15_hasCatch_11 C F k_x0 hkm hW hZ _ (lv_sub hl [1, 0] rfl) hE
set_option maxRecDepth 100000 in
theorem ms_169 : Cond.selects RX15 yX15_hasCatch yX15_hasCatch ∈ W0 := w0_in (List.mem_append_left _ (List.mem_of_getElem? (i := 169) rfl)) rfl
set_option maxRecDepth 100000 in
theorem m_2512 : Cond.methodLink RX15 655 yX15_hasCatch ∈ W0 := w0_in (List.mem_append_right _ (List.mem_of_getElem? (i := 2512) rfl)) rfl
set_option maxRecDepth 100000 in
theorem m_2514 : Cond.instanceMethod yX15_hasCatch ∈ W0 := w0_in (List.mem_append_right _ (List.mem_of_getElem? (i := 2514) rfl)) rfl
set_option maxRecDepth 100000 in
theorem m_2515 : Cond.code yX15_hasCatch cX15_hasCatch 3 (some .boolean) ∈ W0 := w0_in (List.mem_append_right _ (List.mem_of_getElem? (i := 2515) rfl)) rfl
theorem cw_X15_655 : cwd RX15 655 yX15_hasCatch cX15_hasCatch 3 (some .boolean) false 1 := ⟨m_2515, m_2512, m_19, ⟨m_2514, ms_169⟩, by decide, by decide, by decide +kernel⟩
theorem dX15_isSame_0 : decode cX15_isSame 0 = .ok (.aload_n 1, 1) := by decide +kernel
theorem dX15_isSame_1 : decode cX15_isSame 1 = .ok (.getfield 452, 3) := by decide +kernel
theorem dX15_isSame_4 : decode cX15_isSame 4 = .ok (.aload_n 2, 1) := by decide +kernel
theorem dX15_isSame_5 : decode cX15_isSame 5 = .ok (.getfield 452, 3) := by decide +kernel
theorem dX15_isSame_8 : decode cX15_isSame 8 = .ok (.if_icmp .ne 49, 3) := by decide +kernel
theorem dX15_isSame_11 : decode cX15_isSame 11 = .ok (.aload_n 1, 1) := by decide +kernel
theorem dX15_isSame_12 : decode cX15_isSame 12 = .ok (.getfield 436, 3) := by decide +kernel
theorem dX15_isSame_15 : decode cX15_isSame 15 = .ok (.aload_n 2, 1) := by decide +kernel
theorem dX15_isSame_16 : decode cX15_isSame 16 = .ok (.getfield 436, 3) := by decide +kernel
theorem dX15_isSame_19 : decode cX15_isSame 19 = .ok (.lcmp, 1) := by decide +kernel
theorem dX15_isSame_20 : decode cX15_isSame 20 = .ok (.ifCond .ne 37, 3) := by decide +kernel
theorem dX15_isSame_23 : decode cX15_isSame 23 = .ok (.aload_n 1, 1) := by decide +kernel
theorem dX15_isSame_24 : decode cX15_isSame 24 = .ok (.getfield 447, 3) := by decide +kernel
theorem dX15_isSame_27 : decode cX15_isSame 27 = .ok (.iconst 0, 1) := by decide +kernel
theorem dX15_isSame_28 : decode cX15_isSame 28 = .ok (.iaload, 1) := by decide +kernel
theorem dX15_isSame_29 : decode cX15_isSame 29 = .ok (.aload_n 2, 1) := by decide +kernel
theorem dX15_isSame_30 : decode cX15_isSame 30 = .ok (.getfield 447, 3) := by decide +kernel
theorem dX15_isSame_33 : decode cX15_isSame 33 = .ok (.iconst 0, 1) := by decide +kernel
theorem dX15_isSame_34 : decode cX15_isSame 34 = .ok (.iaload, 1) := by decide +kernel
theorem dX15_isSame_35 : decode cX15_isSame 35 = .ok (.if_icmp .ne 22, 3) := by decide +kernel
theorem dX15_isSame_38 : decode cX15_isSame 38 = .ok (.aload_n 1, 1) := by decide +kernel
theorem dX15_isSame_39 : decode cX15_isSame 39 = .ok (.getfield 447, 3) := by decide +kernel
theorem dX15_isSame_42 : decode cX15_isSame 42 = .ok (.iconst 1, 1) := by decide +kernel
theorem dX15_isSame_43 : decode cX15_isSame 43 = .ok (.iaload, 1) := by decide +kernel
theorem dX15_isSame_44 : decode cX15_isSame 44 = .ok (.aload_n 2, 1) := by decide +kernel
theorem dX15_isSame_45 : decode cX15_isSame 45 = .ok (.getfield 447, 3) := by decide +kernel
theorem dX15_isSame_48 : decode cX15_isSame 48 = .ok (.iconst 1, 1) := by decide +kernel
theorem dX15_isSame_49 : decode cX15_isSame 49 = .ok (.iaload, 1) := by decide +kernel
theorem dX15_isSame_50 : decode cX15_isSame 50 = .ok (.if_icmp .ne 7, 3) := by decide +kernel
theorem dX15_isSame_53 : decode cX15_isSame 53 = .ok (.iconst 1, 1) := by decide +kernel
theorem dX15_isSame_54 : decode cX15_isSame 54 = .ok (.goto 4, 3) := by decide +kernel
theorem dX15_isSame_57 : decode cX15_isSame 57 = .ok (.iconst 0, 1) := by decide +kernel
theorem dX15_isSame_58 : decode cX15_isSame 58 = .ok (.istore_n 3, 1) := by decide +kernel
theorem dX15_isSame_59 : decode cX15_isSame 59 = .ok (.iconst 0, 1) := by decide +kernel
theorem dX15_isSame_60 : decode cX15_isSame 60 = .ok (.istore 4, 2) := by decide +kernel
theorem dX15_isSame_62 : decode cX15_isSame 62 = .ok (.iload 4, 2) := by decide +kernel
theorem dX15_isSame_64 : decode cX15_isSame 64 = .ok (.aload_n 0, 1) := by decide +kernel
theorem dX15_isSame_65 : decode cX15_isSame 65 = .ok (.getfield 384, 3) := by decide +kernel
theorem dX15_isSame_68 : decode cX15_isSame 68 = .ok (.if_icmp .ge 36, 3) := by decide +kernel
theorem dX15_isSame_71 : decode cX15_isSame 71 = .ok (.iload_n 3, 1) := by decide +kernel
theorem dX15_isSame_72 : decode cX15_isSame 72 = .ok (.ifCond .eq 32, 3) := by decide +kernel
theorem dX15_isSame_75 : decode cX15_isSame 75 = .ok (.aload_n 1, 1) := by decide +kernel
theorem dX15_isSame_76 : decode cX15_isSame 76 = .ok (.getfield 396, 3) := by decide +kernel
theorem dX15_isSame_79 : decode cX15_isSame 79 = .ok (.iload 4, 2) := by decide +kernel
theorem dX15_isSame_81 : decode cX15_isSame 81 = .ok (.iaload, 1) := by decide +kernel
theorem dX15_isSame_82 : decode cX15_isSame 82 = .ok (.aload_n 2, 1) := by decide +kernel
theorem dX15_isSame_83 : decode cX15_isSame 83 = .ok (.getfield 396, 3) := by decide +kernel
theorem dX15_isSame_86 : decode cX15_isSame 86 = .ok (.iload 4, 2) := by decide +kernel
theorem dX15_isSame_88 : decode cX15_isSame 88 = .ok (.iaload, 1) := by decide +kernel
theorem dX15_isSame_89 : decode cX15_isSame 89 = .ok (.if_icmp .ne 7, 3) := by decide +kernel
theorem dX15_isSame_92 : decode cX15_isSame 92 = .ok (.iconst 1, 1) := by decide +kernel
theorem dX15_isSame_93 : decode cX15_isSame 93 = .ok (.goto 4, 3) := by decide +kernel
theorem dX15_isSame_96 : decode cX15_isSame 96 = .ok (.iconst 0, 1) := by decide +kernel
theorem dX15_isSame_97 : decode cX15_isSame 97 = .ok (.istore_n 3, 1) := by decide +kernel
theorem dX15_isSame_98 : decode cX15_isSame 98 = .ok (.iinc 4 1, 3) := by decide +kernel
theorem dX15_isSame_101 : decode cX15_isSame 101 = .ok (.goto (-39), 3) := by decide +kernel
theorem dX15_isSame_104 : decode cX15_isSame 104 = .ok (.iconst 0, 1) := by decide +kernel
theorem dX15_isSame_105 : decode cX15_isSame 105 = .ok (.istore 4, 2) := by decide +kernel
theorem dX15_isSame_107 : decode cX15_isSame 107 = .ok (.iload 4, 2) := by decide +kernel
theorem dX15_isSame_109 : decode cX15_isSame 109 = .ok (.bipush 24, 2) := by decide +kernel
theorem dX15_isSame_111 : decode cX15_isSame 111 = .ok (.if_icmp .ge 36, 3) := by decide +kernel
theorem dX15_isSame_114 : decode cX15_isSame 114 = .ok (.iload_n 3, 1) := by decide +kernel
theorem dX15_isSame_115 : decode cX15_isSame 115 = .ok (.ifCond .eq 32, 3) := by decide +kernel
theorem dX15_isSame_118 : decode cX15_isSame 118 = .ok (.aload_n 1, 1) := by decide +kernel
theorem dX15_isSame_119 : decode cX15_isSame 119 = .ok (.getfield 444, 3) := by decide +kernel
theorem dX15_isSame_122 : decode cX15_isSame 122 = .ok (.iload 4, 2) := by decide +kernel
theorem dX15_isSame_124 : decode cX15_isSame 124 = .ok (.iaload, 1) := by decide +kernel
theorem dX15_isSame_125 : decode cX15_isSame 125 = .ok (.aload_n 2, 1) := by decide +kernel
theorem dX15_isSame_126 : decode cX15_isSame 126 = .ok (.getfield 444, 3) := by decide +kernel
theorem dX15_isSame_129 : decode cX15_isSame 129 = .ok (.iload 4, 2) := by decide +kernel
theorem dX15_isSame_131 : decode cX15_isSame 131 = .ok (.iaload, 1) := by decide +kernel
theorem dX15_isSame_132 : decode cX15_isSame 132 = .ok (.if_icmp .ne 7, 3) := by decide +kernel
theorem dX15_isSame_135 : decode cX15_isSame 135 = .ok (.iconst 1, 1) := by decide +kernel
theorem dX15_isSame_136 : decode cX15_isSame 136 = .ok (.goto 4, 3) := by decide +kernel
theorem dX15_isSame_139 : decode cX15_isSame 139 = .ok (.iconst 0, 1) := by decide +kernel
theorem dX15_isSame_140 : decode cX15_isSame 140 = .ok (.istore_n 3, 1) := by decide +kernel
theorem dX15_isSame_141 : decode cX15_isSame 141 = .ok (.iinc 4 1, 3) := by decide +kernel
theorem dX15_isSame_144 : decode cX15_isSame 144 = .ok (.goto (-37), 3) := by decide +kernel
theorem dX15_isSame_147 : decode cX15_isSame 147 = .ok (.aload_n 1, 1) := by decide +kernel
theorem dX15_isSame_148 : decode cX15_isSame 148 = .ok (.getfield 441, 3) := by decide +kernel
theorem dX15_isSame_151 : decode cX15_isSame 151 = .ok (.aload_n 2, 1) := by decide +kernel
theorem dX15_isSame_152 : decode cX15_isSame 152 = .ok (.getfield 441, 3) := by decide +kernel
theorem dX15_isSame_155 : decode cX15_isSame 155 = .ok (.if_icmp .ne 7, 3) := by decide +kernel
theorem dX15_isSame_158 : decode cX15_isSame 158 = .ok (.iconst 1, 1) := by decide +kernel
theorem dX15_isSame_159 : decode cX15_isSame 159 = .ok (.goto 4, 3) := by decide +kernel
theorem dX15_isSame_162 : decode cX15_isSame 162 = .ok (.iconst 0, 1) := by decide +kernel
theorem dX15_isSame_163 : decode cX15_isSame 163 = .ok (.istore 4, 2) := by decide +kernel
theorem dX15_isSame_165 : decode cX15_isSame 165 = .ok (.iconst 0, 1) := by decide +kernel
theorem dX15_isSame_166 : decode cX15_isSame 166 = .ok (.istore 5, 2) := by decide +kernel
theorem dX15_isSame_168 : decode cX15_isSame 168 = .ok (.iload 5, 2) := by decide +kernel
theorem dX15_isSame_170 : decode cX15_isSame 170 = .ok (.aload_n 1, 1) := by decide +kernel
theorem dX15_isSame_171 : decode cX15_isSame 171 = .ok (.getfield 441, 3) := by decide +kernel
theorem dX15_isSame_174 : decode cX15_isSame 174 = .ok (.if_icmp .ge 38, 3) := by decide +kernel
theorem dX15_isSame_177 : decode cX15_isSame 177 = .ok (.iload 4, 2) := by decide +kernel
theorem dX15_isSame_179 : decode cX15_isSame 179 = .ok (.ifCond .eq 33, 3) := by decide +kernel
theorem dX15_isSame_182 : decode cX15_isSame 182 = .ok (.aload_n 1, 1) := by decide +kernel
theorem dX15_isSame_183 : decode cX15_isSame 183 = .ok (.getfield 439, 3) := by decide +kernel
theorem dX15_isSame_186 : decode cX15_isSame 186 = .ok (.iload 5, 2) := by decide +kernel
theorem dX15_isSame_188 : decode cX15_isSame 188 = .ok (.iaload, 1) := by decide +kernel
theorem dX15_isSame_189 : decode cX15_isSame 189 = .ok (.aload_n 2, 1) := by decide +kernel
theorem dX15_isSame_190 : decode cX15_isSame 190 = .ok (.getfield 439, 3) := by decide +kernel
theorem dX15_isSame_193 : decode cX15_isSame 193 = .ok (.iload 5, 2) := by decide +kernel
theorem dX15_isSame_195 : decode cX15_isSame 195 = .ok (.iaload, 1) := by decide +kernel
theorem dX15_isSame_196 : decode cX15_isSame 196 = .ok (.if_icmp .ne 7, 3) := by decide +kernel
theorem dX15_isSame_199 : decode cX15_isSame 199 = .ok (.iconst 1, 1) := by decide +kernel
theorem dX15_isSame_200 : decode cX15_isSame 200 = .ok (.goto 4, 3) := by decide +kernel
theorem dX15_isSame_203 : decode cX15_isSame 203 = .ok (.iconst 0, 1) := by decide +kernel
theorem dX15_isSame_204 : decode cX15_isSame 204 = .ok (.istore 4, 2) := by decide +kernel
theorem dX15_isSame_206 : decode cX15_isSame 206 = .ok (.iinc 5 1, 3) := by decide +kernel
theorem dX15_isSame_209 : decode cX15_isSame 209 = .ok (.goto (-41), 3) := by decide +kernel
theorem dX15_isSame_212 : decode cX15_isSame 212 = .ok (.iload_n 3, 1) := by decide +kernel
theorem dX15_isSame_213 : decode cX15_isSame 213 = .ok (.ifCond .eq 28, 3) := by decide +kernel
theorem dX15_isSame_216 : decode cX15_isSame 216 = .ok (.iload 4, 2) := by decide +kernel
theorem dX15_isSame_218 : decode cX15_isSame 218 = .ok (.ifCond .ne 19, 3) := by decide +kernel
theorem dX15_isSame_221 : decode cX15_isSame 221 = .ok (.aload_n 0, 1) := by decide +kernel
theorem dX15_isSame_222 : decode cX15_isSame 222 = .ok (.aload_n 1, 1) := by decide +kernel
theorem dX15_isSame_223 : decode cX15_isSame 223 = .ok (.invokevirtual 655, 3) := by decide +kernel
theorem dX15_isSame_226 : decode cX15_isSame 226 = .ok (.ifCond .ne 15, 3) := by decide +kernel
theorem dX15_isSame_229 : decode cX15_isSame 229 = .ok (.aload_n 0, 1) := by decide +kernel
theorem dX15_isSame_230 : decode cX15_isSame 230 = .ok (.aload_n 2, 1) := by decide +kernel
theorem dX15_isSame_231 : decode cX15_isSame 231 = .ok (.invokevirtual 655, 3) := by decide +kernel
theorem dX15_isSame_234 : decode cX15_isSame 234 = .ok (.ifCond .ne 7, 3) := by decide +kernel
theorem dX15_isSame_237 : decode cX15_isSame 237 = .ok (.iconst 1, 1) := by decide +kernel
theorem dX15_isSame_238 : decode cX15_isSame 238 = .ok (.goto 4, 3) := by decide +kernel
theorem dX15_isSame_241 : decode cX15_isSame 241 = .ok (.iconst 0, 1) := by decide +kernel
theorem dX15_isSame_242 : decode cX15_isSame 242 = .ok (.ireturn, 1) := by decide +kernel
set_option maxRecDepth 20000 in
theorem moX15_isSame_242 {o : Int32 × Hp} {F : Nat} {h : Hp} {t0 : Int32} (hE : sX15_isSame_242 F h  t0 = some o) : Le h o.2 := by
  obtain ⟨g_1, hE⟩ := gd_e hE
  exact le_some2 hE
set_option maxRecDepth 20000 in
theorem moX15_isSame_241 {o : Int32 × Hp} {F : Nat} {h : Hp} (hE : sX15_isSame_241 F h  = some o) : Le h o.2 := by
  exact moX15_isSame_242 hE
set_option maxRecDepth 20000 in
theorem moX15_isSame_237 {o : Int32 × Hp} {F : Nat} {h : Hp} (hE : sX15_isSame_237 F h  = some o) : Le h o.2 := by
  exact moX15_isSame_242 hE
set_option maxRecDepth 20000 in
theorem moX15_isSame_212 {o : Int32 × Hp} {F : Nat} {h : Hp} {x0 : Nat} {x1 : Nat} {x2 : Nat} {x3 : Int32} {x4 : Int32} (hE : sX15_isSame_212 F h x0 x1 x2 x3 x4 = some o) : Le h o.2 := by
  rcases br_e hE with ⟨_, hE⟩ | ⟨_, hE⟩
  · exact moX15_isSame_241 hE
  · rcases br_e hE with ⟨_, hE⟩ | ⟨_, hE⟩
    · obtain ⟨o_3, eo_3, hE⟩ := cl_e hE
      refine (moX15_hasCatch eo_3).tr ?_
      rcases br_e hE with ⟨_, hE⟩ | ⟨_, hE⟩
      · obtain ⟨o_5, eo_5, hE⟩ := cl_e hE
        refine (moX15_hasCatch eo_5).tr ?_
        rcases br_e hE with ⟨_, hE⟩ | ⟨_, hE⟩
        · exact moX15_isSame_237 hE
        · exact moX15_isSame_241 hE
      · exact moX15_isSame_241 hE
    · exact moX15_isSame_237 hE
set_option maxRecDepth 20000 in
theorem moX15_isSame_204 {o : Int32 × Hp} {k_168 : Hp → Nat → Nat → Nat → Int32 → Int32 → Int32 → Option (Int32 × Hp)} {F : Nat} (mk_168 : ∀ (h : Hp) (x0 : Nat) (x1 : Nat) (x2 : Nat) (x3 : Int32) (x4 : Int32) (x5 : Int32), k_168 h x0 x1 x2 x3 x4 x5 = some o → Le h o.2) {h : Hp} {x0 : Nat} {x1 : Nat} {x2 : Nat} {x3 : Int32} {x5 : Int32} {t0 : Int32} (hE : sX15_isSame_204 F k_168 h x0 x1 x2 x3 x5 t0 = some o) : Le h o.2 := by
  obtain ⟨v_1, ev_1, hE⟩ := nm_e2 hE
  exact mk_168 _ _ _ _ _ _ _ hE
set_option maxRecDepth 20000 in
theorem moX15_isSame_168 {o : Int32 × Hp} {F : Nat} : ∀ (f : Nat) {h : Hp} {x0 : Nat} {x1 : Nat} {x2 : Nat} {x3 : Int32} {x4 : Int32} {x5 : Int32}, sX15_isSame_168 F f h x0 x1 x2 x3 x4 x5 = some o → Le h o.2 := by
  intro f
  induction f with
  | zero =>
    intro h x0 x1 x2 x3 x4 x5 hE
    rw [sX15_isSame_168] at hE
    cases hE
  | succ f ih =>
    intro h x0 x1 x2 x3 x4 x5 hE
    rw [sX15_isSame_168] at hE
    have mk_168 : ∀ (h : Hp) (x0 : Nat) (x1 : Nat) (x2 : Nat) (x3 : Int32) (x4 : Int32) (x5 : Int32), sX15_isSame_168 F f h x0 x1 x2 x3 x4 x5 = some o → Le h o.2 := fun h x0 x1 x2 x3 x4 x5 hE => ih hE
    rcases br_e hE with ⟨_, hE⟩ | ⟨_, hE⟩
    · exact moX15_isSame_212 hE
    · rcases br_e hE with ⟨_, hE⟩ | ⟨_, hE⟩
      · exact moX15_isSame_212 hE
      · obtain ⟨r_3, er_3, hE⟩ := cl_e hE
        obtain ⟨g_4, hE⟩ := gd_e hE
        obtain ⟨r_5, er_5, hE⟩ := cl_e hE
        obtain ⟨g_6, hE⟩ := gd_e hE
        rcases br_e hE with ⟨_, hE⟩ | ⟨_, hE⟩
        · exact moX15_isSame_204 mk_168 hE
        · exact moX15_isSame_204 mk_168 hE
set_option maxRecDepth 20000 in
theorem moX15_isSame_163 {o : Int32 × Hp} {F : Nat} {h : Hp} {x0 : Nat} {x1 : Nat} {x2 : Nat} {x3 : Int32} {t0 : Int32} (hE : sX15_isSame_163 F h x0 x1 x2 x3 t0 = some o) : Le h o.2 := by
  exact moX15_isSame_168 _ hE
set_option maxRecDepth 20000 in
theorem moX15_isSame_147 {o : Int32 × Hp} {F : Nat} {h : Hp} {x0 : Nat} {x1 : Nat} {x2 : Nat} {x3 : Int32} (hE : sX15_isSame_147 F h x0 x1 x2 x3 = some o) : Le h o.2 := by
  rcases br_e hE with ⟨_, hE⟩ | ⟨_, hE⟩
  · exact moX15_isSame_163 hE
  · exact moX15_isSame_163 hE
set_option maxRecDepth 20000 in
theorem moX15_isSame_140 {o : Int32 × Hp} {k_107 : Hp → Nat → Nat → Nat → Int32 → Int32 → Option (Int32 × Hp)} {F : Nat} (mk_107 : ∀ (h : Hp) (x0 : Nat) (x1 : Nat) (x2 : Nat) (x3 : Int32) (x4 : Int32), k_107 h x0 x1 x2 x3 x4 = some o → Le h o.2) {h : Hp} {x0 : Nat} {x1 : Nat} {x2 : Nat} {x4 : Int32} {t0 : Int32} (hE : sX15_isSame_140 F k_107 h x0 x1 x2 x4 t0 = some o) : Le h o.2 := by
  obtain ⟨v_1, ev_1, hE⟩ := nm_e2 hE
  exact mk_107 _ _ _ _ _ _ hE
set_option maxRecDepth 20000 in
theorem moX15_isSame_107 {o : Int32 × Hp} {F : Nat} : ∀ (f : Nat) {h : Hp} {x0 : Nat} {x1 : Nat} {x2 : Nat} {x3 : Int32} {x4 : Int32}, sX15_isSame_107 F f h x0 x1 x2 x3 x4 = some o → Le h o.2 := by
  intro f
  induction f with
  | zero =>
    intro h x0 x1 x2 x3 x4 hE
    rw [sX15_isSame_107] at hE
    cases hE
  | succ f ih =>
    intro h x0 x1 x2 x3 x4 hE
    rw [sX15_isSame_107] at hE
    have mk_107 : ∀ (h : Hp) (x0 : Nat) (x1 : Nat) (x2 : Nat) (x3 : Int32) (x4 : Int32), sX15_isSame_107 F f h x0 x1 x2 x3 x4 = some o → Le h o.2 := fun h x0 x1 x2 x3 x4 hE => ih hE
    rcases br_e hE with ⟨_, hE⟩ | ⟨_, hE⟩
    · exact moX15_isSame_147 hE
    · rcases br_e hE with ⟨_, hE⟩ | ⟨_, hE⟩
      · exact moX15_isSame_147 hE
      · obtain ⟨r_3, er_3, hE⟩ := cl_e hE
        obtain ⟨g_4, hE⟩ := gd_e hE
        obtain ⟨r_5, er_5, hE⟩ := cl_e hE
        obtain ⟨g_6, hE⟩ := gd_e hE
        rcases br_e hE with ⟨_, hE⟩ | ⟨_, hE⟩
        · exact moX15_isSame_140 mk_107 hE
        · exact moX15_isSame_140 mk_107 hE
set_option maxRecDepth 20000 in
theorem moX15_isSame_104 {o : Int32 × Hp} {F : Nat} {h : Hp} {x0 : Nat} {x1 : Nat} {x2 : Nat} {x3 : Int32} (hE : sX15_isSame_104 F h x0 x1 x2 x3 = some o) : Le h o.2 := by
  exact moX15_isSame_107 _ hE
set_option maxRecDepth 20000 in
theorem moX15_isSame_97 {o : Int32 × Hp} {k_62 : Hp → Nat → Nat → Nat → Int32 → Int32 → Option (Int32 × Hp)} {F : Nat} (mk_62 : ∀ (h : Hp) (x0 : Nat) (x1 : Nat) (x2 : Nat) (x3 : Int32) (x4 : Int32), k_62 h x0 x1 x2 x3 x4 = some o → Le h o.2) {h : Hp} {x0 : Nat} {x1 : Nat} {x2 : Nat} {x4 : Int32} {t0 : Int32} (hE : sX15_isSame_97 F k_62 h x0 x1 x2 x4 t0 = some o) : Le h o.2 := by
  obtain ⟨v_1, ev_1, hE⟩ := nm_e2 hE
  exact mk_62 _ _ _ _ _ _ hE
set_option maxRecDepth 20000 in
theorem moX15_isSame_62 {o : Int32 × Hp} {F : Nat} : ∀ (f : Nat) {h : Hp} {x0 : Nat} {x1 : Nat} {x2 : Nat} {x3 : Int32} {x4 : Int32}, sX15_isSame_62 F f h x0 x1 x2 x3 x4 = some o → Le h o.2 := by
  intro f
  induction f with
  | zero =>
    intro h x0 x1 x2 x3 x4 hE
    rw [sX15_isSame_62] at hE
    cases hE
  | succ f ih =>
    intro h x0 x1 x2 x3 x4 hE
    rw [sX15_isSame_62] at hE
    have mk_62 : ∀ (h : Hp) (x0 : Nat) (x1 : Nat) (x2 : Nat) (x3 : Int32) (x4 : Int32), sX15_isSame_62 F f h x0 x1 x2 x3 x4 = some o → Le h o.2 := fun h x0 x1 x2 x3 x4 hE => ih hE
    rcases br_e hE with ⟨_, hE⟩ | ⟨_, hE⟩
    · exact moX15_isSame_104 hE
    · rcases br_e hE with ⟨_, hE⟩ | ⟨_, hE⟩
      · exact moX15_isSame_104 hE
      · obtain ⟨r_3, er_3, hE⟩ := cl_e hE
        obtain ⟨g_4, hE⟩ := gd_e hE
        obtain ⟨r_5, er_5, hE⟩ := cl_e hE
        obtain ⟨g_6, hE⟩ := gd_e hE
        rcases br_e hE with ⟨_, hE⟩ | ⟨_, hE⟩
        · exact moX15_isSame_97 mk_62 hE
        · exact moX15_isSame_97 mk_62 hE
set_option maxRecDepth 20000 in
theorem moX15_isSame_58 {o : Int32 × Hp} {F : Nat} {h : Hp} {x0 : Nat} {x1 : Nat} {x2 : Nat} {t0 : Int32} (hE : sX15_isSame_58 F h x0 x1 x2 t0 = some o) : Le h o.2 := by
  exact moX15_isSame_62 _ hE
set_option maxRecDepth 20000 in
theorem moX15_isSame_57 {o : Int32 × Hp} {F : Nat} {h : Hp} {x0 : Nat} {x1 : Nat} {x2 : Nat} (hE : sX15_isSame_57 F h x0 x1 x2 = some o) : Le h o.2 := by
  exact moX15_isSame_58 hE
set_option maxRecDepth 20000 in
theorem moX15_isSame {o : Int32 × Hp} {F : Nat} {h : Hp} {x0 : Nat} {x1 : Nat} {x2 : Nat} (hE : sX15_isSame F h x0 x1 x2 = some o) : Le h o.2 := by
  rcases br_e hE with ⟨_, hE⟩ | ⟨_, hE⟩
  · rcases br_e hE with ⟨_, hE⟩ | ⟨_, hE⟩
    · obtain ⟨r_3, er_3, hE⟩ := cl_e hE
      obtain ⟨g_4, hE⟩ := gd_e hE
      obtain ⟨r_5, er_5, hE⟩ := cl_e hE
      obtain ⟨g_6, hE⟩ := gd_e hE
      rcases br_e hE with ⟨_, hE⟩ | ⟨_, hE⟩
      · obtain ⟨r_8, er_8, hE⟩ := cl_e hE
        obtain ⟨g_9, hE⟩ := gd_e hE
        obtain ⟨r_10, er_10, hE⟩ := cl_e hE
        obtain ⟨g_11, hE⟩ := gd_e hE
        rcases br_e hE with ⟨_, hE⟩ | ⟨_, hE⟩
        · exact moX15_isSame_58 hE
        · exact moX15_isSame_57 hE
      · exact moX15_isSame_57 hE
    · exact moX15_isSame_57 hE
  · exact moX15_isSame_57 hE
set_option maxRecDepth 20000 in
theorem bX15_isSame_242 {p : Program} {l : Launch} {e : Env} {s : State} {m : MethodId} {args : Array Value} {below : List Frame} {meth : Method} {c : Code} {X : Ec} {h0 : Hp} {o : Int32 × Hp} {F : Nat} (C : Cx X p s m args meth c RX15 cX15_isSame 6 (some .boolean) "isSame") {h : Hp} {t0 : Int32} {H : Heap} {locs : List Loc} (hkm : Km h0 h) (hW : Wx X h H) (hZ : va_S (aA (eB X)) s.heap H locs) (ls : Array Slot) (hl : lv_has ls 6 []) (hE : sX15_isSame_242 F h  t0 = some o) : W p l e (rm 8 213) s m args below meth c H locs 0 0 (MQ below (QI X h0 o.1 o.2) args s 0 0 (aA (eB X))) (F0 m 242 ls [.int t0]) := by
  obtain ⟨g_1, hE⟩ := gd_e hE
  exact x_iret C rfl (narB g_1) hW hZ hkm hE dX15_isSame_242
set_option maxRecDepth 20000 in
theorem bX15_isSame_241 {p : Program} {l : Launch} {e : Env} {s : State} {m : MethodId} {args : Array Value} {below : List Frame} {meth : Method} {c : Code} {X : Ec} {h0 : Hp} {o : Int32 × Hp} {F : Nat} (C : Cx X p s m args meth c RX15 cX15_isSame 6 (some .boolean) "isSame") {h : Hp} {H : Heap} {locs : List Loc} (hkm : Km h0 h) (hW : Wx X h H) (hZ : va_S (aA (eB X)) s.heap H locs) (ls : Array Slot) (hl : lv_has ls 6 []) (hE : sX15_isSame_241 F h  = some o) : W p l e (rm 8 213) s m args below meth c H locs 0 0 (MQ below (QI X h0 o.1 o.2) args s 0 0 (aA (eB X))) (F0 m 241 ls []) := by
  refine lv_iconst (v := (0 : Int32)) C.1 C.2.1 dX15_isSame_241 (by decide) ?_
  exact bX15_isSame_242 C hkm hW hZ _ (lv_sub hl [] rfl) hE
set_option maxRecDepth 20000 in
theorem bX15_isSame_237 {p : Program} {l : Launch} {e : Env} {s : State} {m : MethodId} {args : Array Value} {below : List Frame} {meth : Method} {c : Code} {X : Ec} {h0 : Hp} {o : Int32 × Hp} {F : Nat} (C : Cx X p s m args meth c RX15 cX15_isSame 6 (some .boolean) "isSame") {h : Hp} {H : Heap} {locs : List Loc} (hkm : Km h0 h) (hW : Wx X h H) (hZ : va_S (aA (eB X)) s.heap H locs) (ls : Array Slot) (hl : lv_has ls 6 []) (hE : sX15_isSame_237 F h  = some o) : W p l e (rm 8 213) s m args below meth c H locs 0 0 (MQ below (QI X h0 o.1 o.2) args s 0 0 (aA (eB X))) (F0 m 237 ls []) := by
  refine lv_iconst (v := (1 : Int32)) C.1 C.2.1 dX15_isSame_237 (by decide) ?_
  refine lv_goto (tgt := 242) C.1 C.2.1 dX15_isSame_238 (by decide) ?_
  exact bX15_isSame_242 C hkm hW hZ _ (lv_sub hl [] rfl) hE
set_option maxRecDepth 20000 in
theorem bX15_isSame_212 {p : Program} {l : Launch} {e : Env} {s : State} {m : MethodId} {args : Array Value} {below : List Frame} {meth : Method} {c : Code} {X : Ec} {h0 : Hp} {o : Int32 × Hp} {F : Nat} (C : Cx X p s m args meth c RX15 cX15_isSame 6 (some .boolean) "isSame") {h : Hp} {x0 : Nat} {x1 : Nat} {x2 : Nat} {x3 : Int32} {x4 : Int32} {H : Heap} {locs : List Loc} (k_x0 : hK h x0 = 15) (k_x1 : hK h x1 = 12) (k_x2 : hK h x2 = 12) (hkm : Km h0 h) (hW : Wx X h H) (hZ : va_S (aA (eB X)) s.heap H locs) (ls : Array Slot) (hl : lv_has ls 6 [(0, .ref x0), (1, .ref x1), (2, .ref x2), (3, .int x3), (4, .int x4)]) (hE : sX15_isSame_212 F h x0 x1 x2 x3 x4 = some o) : W p l e (rm 8 213) s m args below meth c H locs 0 0 (MQ below (QI X h0 o.1 o.2) args s 0 0 (aA (eB X))) (F0 m 212 ls []) := by
  refine lv_iload_n C.1 C.2.1 dX15_isSame_212 rfl (lv_at hl 3 rfl) ?_
  refine lv_if_eq (tgt := 241) C.1 C.2.1 dX15_isSame_213 (by decide) (fun c_1 => ?_) (fun c_1 => ?_)
  · have hE := br_p hE c_1
    exact bX15_isSame_241 C hkm hW hZ _ (lv_sub hl [] rfl) hE
  · have hE := br_n hE c_1
    refine lv_iload C.1 C.2.1 dX15_isSame_216 (lv_at hl 4 rfl) ?_
    refine lv_if_ne (tgt := 237) C.1 C.2.1 dX15_isSame_218 (by decide) (fun c_2 => ?_) (fun c_2 => ?_)
    · have hE := br_n hE c_2
      exact bX15_isSame_237 C hkm hW hZ _ (lv_sub hl [] rfl) hE
    · have hE := br_p hE c_2
      refine lv_aload_n C.1 C.2.1 dX15_isSame_221 rfl (lv_at hl 0 rfl) ?_
      refine lv_aload_n C.1 C.2.1 dX15_isSame_222 rfl (lv_at hl 1 rfl) ?_
      obtain ⟨o_3, eo_3, hE⟩ := cl_e hE
      refine x_kI (o := o_3) (z_runV (As := [.ref x1]) (rest := []) C (ct_X15_hasCatch l X F k_x0 k_x1 eo_3) cw_X15_655 hW hZ k_x0 (by decide) rfl rfl rfl hl.1 (Nat.le_of_ble_eq_true rfl) rfl dX15_isSame_223 ⟨Nat.le_of_ble_eq_true rfl, Nat.le_of_ble_eq_true rfl⟩ ⟨Nat.le_refl _, Nat.le_refl _⟩) hZ (fun _ _ hW km hZ => ?_)
      replace hkm := hkm.tr km
      replace k_x0 := km.at k_x0 (by decide)
      replace k_x1 := km.at k_x1 (by decide)
      replace k_x2 := km.at k_x2 (by decide)
      refine lv_if_ne (tgt := 241) C.1 C.2.1 dX15_isSame_226 (by decide) (fun c_4 => ?_) (fun c_4 => ?_)
      · have hE := br_n hE c_4
        exact bX15_isSame_241 C hkm hW hZ _ (lv_sub hl [] rfl) hE
      · have hE := br_p hE c_4
        refine lv_aload_n C.1 C.2.1 dX15_isSame_229 rfl (lv_at hl 0 rfl) ?_
        refine lv_aload_n C.1 C.2.1 dX15_isSame_230 rfl (lv_at hl 2 rfl) ?_
        obtain ⟨o_5, eo_5, hE⟩ := cl_e hE
        refine x_kI (o := o_5) (z_runV (As := [.ref x2]) (rest := []) C (ct_X15_hasCatch l X F k_x0 k_x2 eo_5) cw_X15_655 hW hZ k_x0 (by decide) rfl rfl rfl hl.1 (Nat.le_of_ble_eq_true rfl) rfl dX15_isSame_231 ⟨Nat.le_of_ble_eq_true rfl, Nat.le_of_ble_eq_true rfl⟩ ⟨Nat.le_refl _, Nat.le_refl _⟩) hZ (fun _ _ hW km hZ => ?_)
        replace hkm := hkm.tr km
        replace k_x0 := km.at k_x0 (by decide)
        replace k_x1 := km.at k_x1 (by decide)
        replace k_x2 := km.at k_x2 (by decide)
        refine lv_if_ne (tgt := 241) C.1 C.2.1 dX15_isSame_234 (by decide) (fun c_6 => ?_) (fun c_6 => ?_)
        · have hE := br_n hE c_6
          exact bX15_isSame_241 C hkm hW hZ _ (lv_sub hl [] rfl) hE
        · have hE := br_p hE c_6
          exact bX15_isSame_237 C hkm hW hZ _ (lv_sub hl [] rfl) hE
set_option maxRecDepth 20000 in
theorem bX15_isSame_204 {p : Program} {l : Launch} {e : Env} {s : State} {m : MethodId} {args : Array Value} {below : List Frame} {meth : Method} {c : Code} {X : Ec} {h0 : Hp} {o : Int32 × Hp} {k_168 : Hp → Nat → Nat → Nat → Int32 → Int32 → Int32 → Option (Int32 × Hp)} {F : Nat} (C : Cx X p s m args meth c RX15 cX15_isSame 6 (some .boolean) "isSame") (hk_168 : ∀ (h : Hp) (x0 : Nat) (x1 : Nat) (x2 : Nat) (x3 : Int32) (x4 : Int32) (x5 : Int32) (H : Heap) (locs : List Loc), hK h x0 = 15 → hK h x1 = 12 → hK h x2 = 12 → Km h0 h → Wx X h H → va_S (aA (eB X)) s.heap H locs → ∀ (ls : Array Slot), lv_has ls 6 [(0, .ref x0), (1, .ref x1), (2, .ref x2), (3, .int x3), (4, .int x4), (5, .int x5)] → k_168 h x0 x1 x2 x3 x4 x5 = some o → W p l e (rm 8 213) s m args below meth c H locs 0 0 (MQ below (QI X h0 o.1 o.2) args s 0 0 (aA (eB X))) (F0 m 168 ls [])) {h : Hp} {x0 : Nat} {x1 : Nat} {x2 : Nat} {x3 : Int32} {x5 : Int32} {t0 : Int32} {H : Heap} {locs : List Loc} (k_x0 : hK h x0 = 15) (k_x1 : hK h x1 = 12) (k_x2 : hK h x2 = 12) (hkm : Km h0 h) (hW : Wx X h H) (hZ : va_S (aA (eB X)) s.heap H locs) (ls : Array Slot) (hl : lv_has ls 6 [(0, .ref x0), (1, .ref x1), (2, .ref x2), (3, .int x3), (5, .int x5)]) (hE : sX15_isSame_204 F k_168 h x0 x1 x2 x3 x5 t0 = some o) : W p l e (rm 8 213) s m args below meth c H locs 0 0 (MQ below (QI X h0 o.1 o.2) args s 0 0 (aA (eB X))) (F0 m 204 ls [.int t0]) := by
  refine lv_istore (lv' := [(4, .int t0), (0, .ref x0), (1, .ref x1), (2, .ref x2), (3, .int x3), (5, .int x5)]) C.1 C.2.1 dX15_isSame_204 hl (by decide) rfl (fun ls hl => ?_)
  obtain ⟨v_1, ev_1, hE⟩ := nm_e2 hE
  refine lv_iinc (v := v_1) (lv' := [(5, .int v_1), (4, .int t0), (0, .ref x0), (1, .ref x1), (2, .ref x2), (3, .int x3)]) C.1 C.2.1 dX15_isSame_206 hl (k := 5) rfl (by rw [ev_1]; rfl) (by decide) rfl (fun ls hl => ?_)
  refine lv_goto (tgt := 168) C.1 C.2.1 dX15_isSame_209 (by decide) ?_
  exact hk_168 _ _ _ _ _ _ _ _ _ k_x0 k_x1 k_x2 hkm hW hZ _ (lv_sub hl [2, 3, 4, 5, 1, 0] rfl) hE
set_option maxRecDepth 20000 in
theorem bX15_isSame_168 {p : Program} {l : Launch} {e : Env} {s : State} {m : MethodId} {args : Array Value} {below : List Frame} {meth : Method} {c : Code} {X : Ec} {h0 : Hp} {o : Int32 × Hp} {F : Nat} (C : Cx X p s m args meth c RX15 cX15_isSame 6 (some .boolean) "isSame") : ∀ (f : Nat) {h : Hp} {x0 : Nat} {x1 : Nat} {x2 : Nat} {x3 : Int32} {x4 : Int32} {x5 : Int32} {H : Heap} {locs : List Loc} (k_x0 : hK h x0 = 15) (k_x1 : hK h x1 = 12) (k_x2 : hK h x2 = 12), Km h0 h → Wx X h H → va_S (aA (eB X)) s.heap H locs → ∀ (ls : Array Slot), lv_has ls 6 [(0, .ref x0), (1, .ref x1), (2, .ref x2), (3, .int x3), (4, .int x4), (5, .int x5)] → sX15_isSame_168 F f h x0 x1 x2 x3 x4 x5 = some o → W p l e (rm 8 213) s m args below meth c H locs 0 0 (MQ below (QI X h0 o.1 o.2) args s 0 0 (aA (eB X))) (F0 m 168 ls []) := by
  intro f
  induction f with
  | zero =>
    intro h x0 x1 x2 x3 x4 x5 H locs k_x0 k_x1 k_x2 hkm hW hZ ls hl hE
    rw [sX15_isSame_168] at hE
    cases hE
  | succ f ih =>
    intro h x0 x1 x2 x3 x4 x5 H locs k_x0 k_x1 k_x2 hkm hW hZ ls hl hE
    rw [sX15_isSame_168] at hE
    have hk_168 : ∀ (h : Hp) (x0 : Nat) (x1 : Nat) (x2 : Nat) (x3 : Int32) (x4 : Int32) (x5 : Int32) (H : Heap) (locs : List Loc), hK h x0 = 15 → hK h x1 = 12 → hK h x2 = 12 → Km h0 h → Wx X h H → va_S (aA (eB X)) s.heap H locs → ∀ (ls : Array Slot), lv_has ls 6 [(0, .ref x0), (1, .ref x1), (2, .ref x2), (3, .int x3), (4, .int x4), (5, .int x5)] → sX15_isSame_168 F f h x0 x1 x2 x3 x4 x5 = some o → W p l e (rm 8 213) s m args below meth c H locs 0 0 (MQ below (QI X h0 o.1 o.2) args s 0 0 (aA (eB X))) (F0 m 168 ls []) := fun h x0 x1 x2 x3 x4 x5 H locs k_x0 k_x1 k_x2 a b c ls hl hE => ih k_x0 k_x1 k_x2 a b c ls hl hE
    refine lv_iload C.1 C.2.1 dX15_isSame_168 (lv_at hl 5 rfl) ?_
    refine lv_aload_n C.1 C.2.1 dX15_isSame_170 rfl (lv_at hl 1 rfl) ?_
    refine gf_X15_441 C hW k_x1 dX15_isSame_171 ?_
    refine lv_icmp_ge (tgt := 212) C.1 C.2.1 dX15_isSame_174 (by decide) (fun c_1 => ?_) (fun c_1 => ?_)
    · have hE := br_p hE c_1
      exact bX15_isSame_212 C k_x0 k_x1 k_x2 hkm hW hZ _ (lv_sub hl [0, 1, 2, 3, 4] rfl) hE
    · have hE := br_n hE c_1
      refine lv_iload C.1 C.2.1 dX15_isSame_177 (lv_at hl 4 rfl) ?_
      refine lv_if_eq (tgt := 212) C.1 C.2.1 dX15_isSame_179 (by decide) (fun c_2 => ?_) (fun c_2 => ?_)
      · have hE := br_p hE c_2
        exact bX15_isSame_212 C k_x0 k_x1 k_x2 hkm hW hZ _ (lv_sub hl [0, 1, 2, 3, 4] rfl) hE
      · have hE := br_n hE c_2
        refine lv_aload_n C.1 C.2.1 dX15_isSame_182 rfl (lv_at hl 1 rfl) ?_
        obtain ⟨r_3, er_3, hE⟩ := cl_e hE
        refine gf_X15_439 C hW k_x1 er_3 dX15_isSame_183 (fun k_r_3 => ?_)
        refine lv_iload C.1 C.2.1 dX15_isSame_186 (lv_at hl 5 rfl) ?_
        obtain ⟨g_4, hE⟩ := gd_e hE
        refine y_iald C hW k_r_3 g_4 dX15_isSame_188 ?_
        refine lv_aload_n C.1 C.2.1 dX15_isSame_189 rfl (lv_at hl 2 rfl) ?_
        obtain ⟨r_5, er_5, hE⟩ := cl_e hE
        refine gf_X15_439 C hW k_x2 er_5 dX15_isSame_190 (fun k_r_5 => ?_)
        refine lv_iload C.1 C.2.1 dX15_isSame_193 (lv_at hl 5 rfl) ?_
        obtain ⟨g_6, hE⟩ := gd_e hE
        refine y_iald C hW k_r_5 g_6 dX15_isSame_195 ?_
        refine lv_icmp_ne (tgt := 203) C.1 C.2.1 dX15_isSame_196 (by decide) (fun c_7 => ?_) (fun c_7 => ?_)
        · have hE := br_n hE c_7
          refine lv_iconst (v := (0 : Int32)) C.1 C.2.1 dX15_isSame_203 (by decide) ?_
          exact bX15_isSame_204 C hk_168 k_x0 k_x1 k_x2 hkm hW hZ _ (lv_sub hl [0, 1, 2, 3, 5] rfl) hE
        · have hE := br_p hE c_7
          refine lv_iconst (v := (1 : Int32)) C.1 C.2.1 dX15_isSame_199 (by decide) ?_
          refine lv_goto (tgt := 204) C.1 C.2.1 dX15_isSame_200 (by decide) ?_
          exact bX15_isSame_204 C hk_168 k_x0 k_x1 k_x2 hkm hW hZ _ (lv_sub hl [0, 1, 2, 3, 5] rfl) hE
set_option maxRecDepth 20000 in
theorem bX15_isSame_163 {p : Program} {l : Launch} {e : Env} {s : State} {m : MethodId} {args : Array Value} {below : List Frame} {meth : Method} {c : Code} {X : Ec} {h0 : Hp} {o : Int32 × Hp} {F : Nat} (C : Cx X p s m args meth c RX15 cX15_isSame 6 (some .boolean) "isSame") {h : Hp} {x0 : Nat} {x1 : Nat} {x2 : Nat} {x3 : Int32} {t0 : Int32} {H : Heap} {locs : List Loc} (k_x0 : hK h x0 = 15) (k_x1 : hK h x1 = 12) (k_x2 : hK h x2 = 12) (hkm : Km h0 h) (hW : Wx X h H) (hZ : va_S (aA (eB X)) s.heap H locs) (ls : Array Slot) (hl : lv_has ls 6 [(0, .ref x0), (1, .ref x1), (2, .ref x2), (3, .int x3)]) (hE : sX15_isSame_163 F h x0 x1 x2 x3 t0 = some o) : W p l e (rm 8 213) s m args below meth c H locs 0 0 (MQ below (QI X h0 o.1 o.2) args s 0 0 (aA (eB X))) (F0 m 163 ls [.int t0]) := by
  refine lv_istore (lv' := [(4, .int t0), (0, .ref x0), (1, .ref x1), (2, .ref x2), (3, .int x3)]) C.1 C.2.1 dX15_isSame_163 hl (by decide) rfl (fun ls hl => ?_)
  refine lv_iconst (v := (0 : Int32)) C.1 C.2.1 dX15_isSame_165 (by decide) ?_
  refine lv_istore (lv' := [(5, .int (0 : Int32)), (4, .int t0), (0, .ref x0), (1, .ref x1), (2, .ref x2), (3, .int x3)]) C.1 C.2.1 dX15_isSame_166 hl (by decide) rfl (fun ls hl => ?_)
  exact bX15_isSame_168 C F k_x0 k_x1 k_x2 hkm hW hZ _ (lv_sub hl [2, 3, 4, 5, 1, 0] rfl) hE
set_option maxRecDepth 20000 in
theorem bX15_isSame_147 {p : Program} {l : Launch} {e : Env} {s : State} {m : MethodId} {args : Array Value} {below : List Frame} {meth : Method} {c : Code} {X : Ec} {h0 : Hp} {o : Int32 × Hp} {F : Nat} (C : Cx X p s m args meth c RX15 cX15_isSame 6 (some .boolean) "isSame") {h : Hp} {x0 : Nat} {x1 : Nat} {x2 : Nat} {x3 : Int32} {H : Heap} {locs : List Loc} (k_x0 : hK h x0 = 15) (k_x1 : hK h x1 = 12) (k_x2 : hK h x2 = 12) (hkm : Km h0 h) (hW : Wx X h H) (hZ : va_S (aA (eB X)) s.heap H locs) (ls : Array Slot) (hl : lv_has ls 6 [(0, .ref x0), (1, .ref x1), (2, .ref x2), (3, .int x3)]) (hE : sX15_isSame_147 F h x0 x1 x2 x3 = some o) : W p l e (rm 8 213) s m args below meth c H locs 0 0 (MQ below (QI X h0 o.1 o.2) args s 0 0 (aA (eB X))) (F0 m 147 ls []) := by
  refine lv_aload_n C.1 C.2.1 dX15_isSame_147 rfl (lv_at hl 1 rfl) ?_
  refine gf_X15_441 C hW k_x1 dX15_isSame_148 ?_
  refine lv_aload_n C.1 C.2.1 dX15_isSame_151 rfl (lv_at hl 2 rfl) ?_
  refine gf_X15_441 C hW k_x2 dX15_isSame_152 ?_
  refine lv_icmp_ne (tgt := 162) C.1 C.2.1 dX15_isSame_155 (by decide) (fun c_1 => ?_) (fun c_1 => ?_)
  · have hE := br_n hE c_1
    refine lv_iconst (v := (0 : Int32)) C.1 C.2.1 dX15_isSame_162 (by decide) ?_
    exact bX15_isSame_163 C k_x0 k_x1 k_x2 hkm hW hZ _ (lv_sub hl [0, 1, 2, 3] rfl) hE
  · have hE := br_p hE c_1
    refine lv_iconst (v := (1 : Int32)) C.1 C.2.1 dX15_isSame_158 (by decide) ?_
    refine lv_goto (tgt := 163) C.1 C.2.1 dX15_isSame_159 (by decide) ?_
    exact bX15_isSame_163 C k_x0 k_x1 k_x2 hkm hW hZ _ (lv_sub hl [0, 1, 2, 3] rfl) hE
set_option maxRecDepth 20000 in
theorem bX15_isSame_140 {p : Program} {l : Launch} {e : Env} {s : State} {m : MethodId} {args : Array Value} {below : List Frame} {meth : Method} {c : Code} {X : Ec} {h0 : Hp} {o : Int32 × Hp} {k_107 : Hp → Nat → Nat → Nat → Int32 → Int32 → Option (Int32 × Hp)} {F : Nat} (C : Cx X p s m args meth c RX15 cX15_isSame 6 (some .boolean) "isSame") (hk_107 : ∀ (h : Hp) (x0 : Nat) (x1 : Nat) (x2 : Nat) (x3 : Int32) (x4 : Int32) (H : Heap) (locs : List Loc), hK h x0 = 15 → hK h x1 = 12 → hK h x2 = 12 → Km h0 h → Wx X h H → va_S (aA (eB X)) s.heap H locs → ∀ (ls : Array Slot), lv_has ls 6 [(0, .ref x0), (1, .ref x1), (2, .ref x2), (3, .int x3), (4, .int x4)] → k_107 h x0 x1 x2 x3 x4 = some o → W p l e (rm 8 213) s m args below meth c H locs 0 0 (MQ below (QI X h0 o.1 o.2) args s 0 0 (aA (eB X))) (F0 m 107 ls [])) {h : Hp} {x0 : Nat} {x1 : Nat} {x2 : Nat} {x4 : Int32} {t0 : Int32} {H : Heap} {locs : List Loc} (k_x0 : hK h x0 = 15) (k_x1 : hK h x1 = 12) (k_x2 : hK h x2 = 12) (hkm : Km h0 h) (hW : Wx X h H) (hZ : va_S (aA (eB X)) s.heap H locs) (ls : Array Slot) (hl : lv_has ls 6 [(0, .ref x0), (1, .ref x1), (2, .ref x2), (4, .int x4)]) (hE : sX15_isSame_140 F k_107 h x0 x1 x2 x4 t0 = some o) : W p l e (rm 8 213) s m args below meth c H locs 0 0 (MQ below (QI X h0 o.1 o.2) args s 0 0 (aA (eB X))) (F0 m 140 ls [.int t0]) := by
  refine lv_istore_n (lv' := [(3, .int t0), (0, .ref x0), (1, .ref x1), (2, .ref x2), (4, .int x4)]) C.1 C.2.1 dX15_isSame_140 rfl hl (by decide) rfl (fun ls hl => ?_)
  obtain ⟨v_1, ev_1, hE⟩ := nm_e2 hE
  refine lv_iinc (v := v_1) (lv' := [(4, .int v_1), (3, .int t0), (0, .ref x0), (1, .ref x1), (2, .ref x2)]) C.1 C.2.1 dX15_isSame_141 hl (k := 4) rfl (by rw [ev_1]; rfl) (by decide) rfl (fun ls hl => ?_)
  refine lv_goto (tgt := 107) C.1 C.2.1 dX15_isSame_144 (by decide) ?_
  exact hk_107 _ _ _ _ _ _ _ _ k_x0 k_x1 k_x2 hkm hW hZ _ (lv_sub hl [2, 3, 4, 1, 0] rfl) hE
set_option maxRecDepth 20000 in
theorem bX15_isSame_107 {p : Program} {l : Launch} {e : Env} {s : State} {m : MethodId} {args : Array Value} {below : List Frame} {meth : Method} {c : Code} {X : Ec} {h0 : Hp} {o : Int32 × Hp} {F : Nat} (C : Cx X p s m args meth c RX15 cX15_isSame 6 (some .boolean) "isSame") : ∀ (f : Nat) {h : Hp} {x0 : Nat} {x1 : Nat} {x2 : Nat} {x3 : Int32} {x4 : Int32} {H : Heap} {locs : List Loc} (k_x0 : hK h x0 = 15) (k_x1 : hK h x1 = 12) (k_x2 : hK h x2 = 12), Km h0 h → Wx X h H → va_S (aA (eB X)) s.heap H locs → ∀ (ls : Array Slot), lv_has ls 6 [(0, .ref x0), (1, .ref x1), (2, .ref x2), (3, .int x3), (4, .int x4)] → sX15_isSame_107 F f h x0 x1 x2 x3 x4 = some o → W p l e (rm 8 213) s m args below meth c H locs 0 0 (MQ below (QI X h0 o.1 o.2) args s 0 0 (aA (eB X))) (F0 m 107 ls []) := by
  intro f
  induction f with
  | zero =>
    intro h x0 x1 x2 x3 x4 H locs k_x0 k_x1 k_x2 hkm hW hZ ls hl hE
    rw [sX15_isSame_107] at hE
    cases hE
  | succ f ih =>
    intro h x0 x1 x2 x3 x4 H locs k_x0 k_x1 k_x2 hkm hW hZ ls hl hE
    rw [sX15_isSame_107] at hE
    have hk_107 : ∀ (h : Hp) (x0 : Nat) (x1 : Nat) (x2 : Nat) (x3 : Int32) (x4 : Int32) (H : Heap) (locs : List Loc), hK h x0 = 15 → hK h x1 = 12 → hK h x2 = 12 → Km h0 h → Wx X h H → va_S (aA (eB X)) s.heap H locs → ∀ (ls : Array Slot), lv_has ls 6 [(0, .ref x0), (1, .ref x1), (2, .ref x2), (3, .int x3), (4, .int x4)] → sX15_isSame_107 F f h x0 x1 x2 x3 x4 = some o → W p l e (rm 8 213) s m args below meth c H locs 0 0 (MQ below (QI X h0 o.1 o.2) args s 0 0 (aA (eB X))) (F0 m 107 ls []) := fun h x0 x1 x2 x3 x4 H locs k_x0 k_x1 k_x2 a b c ls hl hE => ih k_x0 k_x1 k_x2 a b c ls hl hE
    refine lv_iload C.1 C.2.1 dX15_isSame_107 (lv_at hl 4 rfl) ?_
    refine lv_bipush (v := (24 : Int32)) C.1 C.2.1 dX15_isSame_109 (by decide) ?_
    refine lv_icmp_ge (tgt := 147) C.1 C.2.1 dX15_isSame_111 (by decide) (fun c_1 => ?_) (fun c_1 => ?_)
    · have hE := br_p hE c_1
      exact bX15_isSame_147 C k_x0 k_x1 k_x2 hkm hW hZ _ (lv_sub hl [0, 1, 2, 3] rfl) hE
    · have hE := br_n hE c_1
      refine lv_iload_n C.1 C.2.1 dX15_isSame_114 rfl (lv_at hl 3 rfl) ?_
      refine lv_if_eq (tgt := 147) C.1 C.2.1 dX15_isSame_115 (by decide) (fun c_2 => ?_) (fun c_2 => ?_)
      · have hE := br_p hE c_2
        exact bX15_isSame_147 C k_x0 k_x1 k_x2 hkm hW hZ _ (lv_sub hl [0, 1, 2, 3] rfl) hE
      · have hE := br_n hE c_2
        refine lv_aload_n C.1 C.2.1 dX15_isSame_118 rfl (lv_at hl 1 rfl) ?_
        obtain ⟨r_3, er_3, hE⟩ := cl_e hE
        refine gf_X15_444 C hW k_x1 er_3 dX15_isSame_119 (fun k_r_3 => ?_)
        refine lv_iload C.1 C.2.1 dX15_isSame_122 (lv_at hl 4 rfl) ?_
        obtain ⟨g_4, hE⟩ := gd_e hE
        refine y_iald C hW k_r_3 g_4 dX15_isSame_124 ?_
        refine lv_aload_n C.1 C.2.1 dX15_isSame_125 rfl (lv_at hl 2 rfl) ?_
        obtain ⟨r_5, er_5, hE⟩ := cl_e hE
        refine gf_X15_444 C hW k_x2 er_5 dX15_isSame_126 (fun k_r_5 => ?_)
        refine lv_iload C.1 C.2.1 dX15_isSame_129 (lv_at hl 4 rfl) ?_
        obtain ⟨g_6, hE⟩ := gd_e hE
        refine y_iald C hW k_r_5 g_6 dX15_isSame_131 ?_
        refine lv_icmp_ne (tgt := 139) C.1 C.2.1 dX15_isSame_132 (by decide) (fun c_7 => ?_) (fun c_7 => ?_)
        · have hE := br_n hE c_7
          refine lv_iconst (v := (0 : Int32)) C.1 C.2.1 dX15_isSame_139 (by decide) ?_
          exact bX15_isSame_140 C hk_107 k_x0 k_x1 k_x2 hkm hW hZ _ (lv_sub hl [0, 1, 2, 4] rfl) hE
        · have hE := br_p hE c_7
          refine lv_iconst (v := (1 : Int32)) C.1 C.2.1 dX15_isSame_135 (by decide) ?_
          refine lv_goto (tgt := 140) C.1 C.2.1 dX15_isSame_136 (by decide) ?_
          exact bX15_isSame_140 C hk_107 k_x0 k_x1 k_x2 hkm hW hZ _ (lv_sub hl [0, 1, 2, 4] rfl) hE
set_option maxRecDepth 20000 in
theorem bX15_isSame_104 {p : Program} {l : Launch} {e : Env} {s : State} {m : MethodId} {args : Array Value} {below : List Frame} {meth : Method} {c : Code} {X : Ec} {h0 : Hp} {o : Int32 × Hp} {F : Nat} (C : Cx X p s m args meth c RX15 cX15_isSame 6 (some .boolean) "isSame") {h : Hp} {x0 : Nat} {x1 : Nat} {x2 : Nat} {x3 : Int32} {H : Heap} {locs : List Loc} (k_x0 : hK h x0 = 15) (k_x1 : hK h x1 = 12) (k_x2 : hK h x2 = 12) (hkm : Km h0 h) (hW : Wx X h H) (hZ : va_S (aA (eB X)) s.heap H locs) (ls : Array Slot) (hl : lv_has ls 6 [(0, .ref x0), (1, .ref x1), (2, .ref x2), (3, .int x3)]) (hE : sX15_isSame_104 F h x0 x1 x2 x3 = some o) : W p l e (rm 8 213) s m args below meth c H locs 0 0 (MQ below (QI X h0 o.1 o.2) args s 0 0 (aA (eB X))) (F0 m 104 ls []) := by
  refine lv_iconst (v := (0 : Int32)) C.1 C.2.1 dX15_isSame_104 (by decide) ?_
  refine lv_istore (lv' := [(4, .int (0 : Int32)), (0, .ref x0), (1, .ref x1), (2, .ref x2), (3, .int x3)]) C.1 C.2.1 dX15_isSame_105 hl (by decide) rfl (fun ls hl => ?_)
  exact bX15_isSame_107 C F k_x0 k_x1 k_x2 hkm hW hZ _ (lv_sub hl [1, 2, 3, 4, 0] rfl) hE
set_option maxRecDepth 20000 in
theorem bX15_isSame_97 {p : Program} {l : Launch} {e : Env} {s : State} {m : MethodId} {args : Array Value} {below : List Frame} {meth : Method} {c : Code} {X : Ec} {h0 : Hp} {o : Int32 × Hp} {k_62 : Hp → Nat → Nat → Nat → Int32 → Int32 → Option (Int32 × Hp)} {F : Nat} (C : Cx X p s m args meth c RX15 cX15_isSame 6 (some .boolean) "isSame") (hk_62 : ∀ (h : Hp) (x0 : Nat) (x1 : Nat) (x2 : Nat) (x3 : Int32) (x4 : Int32) (H : Heap) (locs : List Loc), hK h x0 = 15 → hK h x1 = 12 → hK h x2 = 12 → Km h0 h → Wx X h H → va_S (aA (eB X)) s.heap H locs → ∀ (ls : Array Slot), lv_has ls 6 [(0, .ref x0), (1, .ref x1), (2, .ref x2), (3, .int x3), (4, .int x4)] → k_62 h x0 x1 x2 x3 x4 = some o → W p l e (rm 8 213) s m args below meth c H locs 0 0 (MQ below (QI X h0 o.1 o.2) args s 0 0 (aA (eB X))) (F0 m 62 ls [])) {h : Hp} {x0 : Nat} {x1 : Nat} {x2 : Nat} {x4 : Int32} {t0 : Int32} {H : Heap} {locs : List Loc} (k_x0 : hK h x0 = 15) (k_x1 : hK h x1 = 12) (k_x2 : hK h x2 = 12) (hkm : Km h0 h) (hW : Wx X h H) (hZ : va_S (aA (eB X)) s.heap H locs) (ls : Array Slot) (hl : lv_has ls 6 [(0, .ref x0), (1, .ref x1), (2, .ref x2), (4, .int x4)]) (hE : sX15_isSame_97 F k_62 h x0 x1 x2 x4 t0 = some o) : W p l e (rm 8 213) s m args below meth c H locs 0 0 (MQ below (QI X h0 o.1 o.2) args s 0 0 (aA (eB X))) (F0 m 97 ls [.int t0]) := by
  refine lv_istore_n (lv' := [(3, .int t0), (0, .ref x0), (1, .ref x1), (2, .ref x2), (4, .int x4)]) C.1 C.2.1 dX15_isSame_97 rfl hl (by decide) rfl (fun ls hl => ?_)
  obtain ⟨v_1, ev_1, hE⟩ := nm_e2 hE
  refine lv_iinc (v := v_1) (lv' := [(4, .int v_1), (3, .int t0), (0, .ref x0), (1, .ref x1), (2, .ref x2)]) C.1 C.2.1 dX15_isSame_98 hl (k := 4) rfl (by rw [ev_1]; rfl) (by decide) rfl (fun ls hl => ?_)
  refine lv_goto (tgt := 62) C.1 C.2.1 dX15_isSame_101 (by decide) ?_
  exact hk_62 _ _ _ _ _ _ _ _ k_x0 k_x1 k_x2 hkm hW hZ _ (lv_sub hl [2, 3, 4, 1, 0] rfl) hE
set_option maxRecDepth 20000 in
theorem bX15_isSame_62 {p : Program} {l : Launch} {e : Env} {s : State} {m : MethodId} {args : Array Value} {below : List Frame} {meth : Method} {c : Code} {X : Ec} {h0 : Hp} {o : Int32 × Hp} {F : Nat} (C : Cx X p s m args meth c RX15 cX15_isSame 6 (some .boolean) "isSame") : ∀ (f : Nat) {h : Hp} {x0 : Nat} {x1 : Nat} {x2 : Nat} {x3 : Int32} {x4 : Int32} {H : Heap} {locs : List Loc} (k_x0 : hK h x0 = 15) (k_x1 : hK h x1 = 12) (k_x2 : hK h x2 = 12), Km h0 h → Wx X h H → va_S (aA (eB X)) s.heap H locs → ∀ (ls : Array Slot), lv_has ls 6 [(0, .ref x0), (1, .ref x1), (2, .ref x2), (3, .int x3), (4, .int x4)] → sX15_isSame_62 F f h x0 x1 x2 x3 x4 = some o → W p l e (rm 8 213) s m args below meth c H locs 0 0 (MQ below (QI X h0 o.1 o.2) args s 0 0 (aA (eB X))) (F0 m 62 ls []) := by
  intro f
  induction f with
  | zero =>
    intro h x0 x1 x2 x3 x4 H locs k_x0 k_x1 k_x2 hkm hW hZ ls hl hE
    rw [sX15_isSame_62] at hE
    cases hE
  | succ f ih =>
    intro h x0 x1 x2 x3 x4 H locs k_x0 k_x1 k_x2 hkm hW hZ ls hl hE
    rw [sX15_isSame_62] at hE
    have hk_62 : ∀ (h : Hp) (x0 : Nat) (x1 : Nat) (x2 : Nat) (x3 : Int32) (x4 : Int32) (H : Heap) (locs : List Loc), hK h x0 = 15 → hK h x1 = 12 → hK h x2 = 12 → Km h0 h → Wx X h H → va_S (aA (eB X)) s.heap H locs → ∀ (ls : Array Slot), lv_has ls 6 [(0, .ref x0), (1, .ref x1), (2, .ref x2), (3, .int x3), (4, .int x4)] → sX15_isSame_62 F f h x0 x1 x2 x3 x4 = some o → W p l e (rm 8 213) s m args below meth c H locs 0 0 (MQ below (QI X h0 o.1 o.2) args s 0 0 (aA (eB X))) (F0 m 62 ls []) := fun h x0 x1 x2 x3 x4 H locs k_x0 k_x1 k_x2 a b c ls hl hE => ih k_x0 k_x1 k_x2 a b c ls hl hE
    refine lv_iload C.1 C.2.1 dX15_isSame_62 (lv_at hl 4 rfl) ?_
    refine lv_aload_n C.1 C.2.1 dX15_isSame_64 rfl (lv_at hl 0 rfl) ?_
    refine gf_X15_384 C hW k_x0 dX15_isSame_65 ?_
    refine lv_icmp_ge (tgt := 104) C.1 C.2.1 dX15_isSame_68 (by decide) (fun c_1 => ?_) (fun c_1 => ?_)
    · have hE := br_p hE c_1
      exact bX15_isSame_104 C k_x0 k_x1 k_x2 hkm hW hZ _ (lv_sub hl [0, 1, 2, 3] rfl) hE
    · have hE := br_n hE c_1
      refine lv_iload_n C.1 C.2.1 dX15_isSame_71 rfl (lv_at hl 3 rfl) ?_
      refine lv_if_eq (tgt := 104) C.1 C.2.1 dX15_isSame_72 (by decide) (fun c_2 => ?_) (fun c_2 => ?_)
      · have hE := br_p hE c_2
        exact bX15_isSame_104 C k_x0 k_x1 k_x2 hkm hW hZ _ (lv_sub hl [0, 1, 2, 3] rfl) hE
      · have hE := br_n hE c_2
        refine lv_aload_n C.1 C.2.1 dX15_isSame_75 rfl (lv_at hl 1 rfl) ?_
        obtain ⟨r_3, er_3, hE⟩ := cl_e hE
        refine gf_X15_396 C hW k_x1 er_3 dX15_isSame_76 (fun k_r_3 => ?_)
        refine lv_iload C.1 C.2.1 dX15_isSame_79 (lv_at hl 4 rfl) ?_
        obtain ⟨g_4, hE⟩ := gd_e hE
        refine y_iald C hW k_r_3 g_4 dX15_isSame_81 ?_
        refine lv_aload_n C.1 C.2.1 dX15_isSame_82 rfl (lv_at hl 2 rfl) ?_
        obtain ⟨r_5, er_5, hE⟩ := cl_e hE
        refine gf_X15_396 C hW k_x2 er_5 dX15_isSame_83 (fun k_r_5 => ?_)
        refine lv_iload C.1 C.2.1 dX15_isSame_86 (lv_at hl 4 rfl) ?_
        obtain ⟨g_6, hE⟩ := gd_e hE
        refine y_iald C hW k_r_5 g_6 dX15_isSame_88 ?_
        refine lv_icmp_ne (tgt := 96) C.1 C.2.1 dX15_isSame_89 (by decide) (fun c_7 => ?_) (fun c_7 => ?_)
        · have hE := br_n hE c_7
          refine lv_iconst (v := (0 : Int32)) C.1 C.2.1 dX15_isSame_96 (by decide) ?_
          exact bX15_isSame_97 C hk_62 k_x0 k_x1 k_x2 hkm hW hZ _ (lv_sub hl [0, 1, 2, 4] rfl) hE
        · have hE := br_p hE c_7
          refine lv_iconst (v := (1 : Int32)) C.1 C.2.1 dX15_isSame_92 (by decide) ?_
          refine lv_goto (tgt := 97) C.1 C.2.1 dX15_isSame_93 (by decide) ?_
          exact bX15_isSame_97 C hk_62 k_x0 k_x1 k_x2 hkm hW hZ _ (lv_sub hl [0, 1, 2, 4] rfl) hE
set_option maxRecDepth 20000 in
theorem bX15_isSame_58 {p : Program} {l : Launch} {e : Env} {s : State} {m : MethodId} {args : Array Value} {below : List Frame} {meth : Method} {c : Code} {X : Ec} {h0 : Hp} {o : Int32 × Hp} {F : Nat} (C : Cx X p s m args meth c RX15 cX15_isSame 6 (some .boolean) "isSame") {h : Hp} {x0 : Nat} {x1 : Nat} {x2 : Nat} {t0 : Int32} {H : Heap} {locs : List Loc} (k_x0 : hK h x0 = 15) (k_x1 : hK h x1 = 12) (k_x2 : hK h x2 = 12) (hkm : Km h0 h) (hW : Wx X h H) (hZ : va_S (aA (eB X)) s.heap H locs) (ls : Array Slot) (hl : lv_has ls 6 [(0, .ref x0), (1, .ref x1), (2, .ref x2)]) (hE : sX15_isSame_58 F h x0 x1 x2 t0 = some o) : W p l e (rm 8 213) s m args below meth c H locs 0 0 (MQ below (QI X h0 o.1 o.2) args s 0 0 (aA (eB X))) (F0 m 58 ls [.int t0]) := by
  refine lv_istore_n (lv' := [(3, .int t0), (0, .ref x0), (1, .ref x1), (2, .ref x2)]) C.1 C.2.1 dX15_isSame_58 rfl hl (by decide) rfl (fun ls hl => ?_)
  refine lv_iconst (v := (0 : Int32)) C.1 C.2.1 dX15_isSame_59 (by decide) ?_
  refine lv_istore (lv' := [(4, .int (0 : Int32)), (3, .int t0), (0, .ref x0), (1, .ref x1), (2, .ref x2)]) C.1 C.2.1 dX15_isSame_60 hl (by decide) rfl (fun ls hl => ?_)
  exact bX15_isSame_62 C F k_x0 k_x1 k_x2 hkm hW hZ _ (lv_sub hl [2, 3, 4, 1, 0] rfl) hE
set_option maxRecDepth 20000 in
theorem bX15_isSame_57 {p : Program} {l : Launch} {e : Env} {s : State} {m : MethodId} {args : Array Value} {below : List Frame} {meth : Method} {c : Code} {X : Ec} {h0 : Hp} {o : Int32 × Hp} {F : Nat} (C : Cx X p s m args meth c RX15 cX15_isSame 6 (some .boolean) "isSame") {h : Hp} {x0 : Nat} {x1 : Nat} {x2 : Nat} {H : Heap} {locs : List Loc} (k_x0 : hK h x0 = 15) (k_x1 : hK h x1 = 12) (k_x2 : hK h x2 = 12) (hkm : Km h0 h) (hW : Wx X h H) (hZ : va_S (aA (eB X)) s.heap H locs) (ls : Array Slot) (hl : lv_has ls 6 [(0, .ref x0), (1, .ref x1), (2, .ref x2)]) (hE : sX15_isSame_57 F h x0 x1 x2 = some o) : W p l e (rm 8 213) s m args below meth c H locs 0 0 (MQ below (QI X h0 o.1 o.2) args s 0 0 (aA (eB X))) (F0 m 57 ls []) := by
  refine lv_iconst (v := (0 : Int32)) C.1 C.2.1 dX15_isSame_57 (by decide) ?_
  exact bX15_isSame_58 C k_x0 k_x1 k_x2 hkm hW hZ _ (lv_sub hl [0, 1, 2] rfl) hE
set_option maxRecDepth 20000 in
theorem ct_X15_isSame (l : Launch) (X : Ec) (F : Nat) {h : Hp} {x0 : Nat} {x1 : Nat} {x2 : Nat} {o : Int32 × Hp} (k_x0 : hK h x0 = 15) (k_x1 : hK h x1 = 12) (k_x2 : hK h x2 = 12) (hE : sX15_isSame F h x0 x1 x2 = some o) : MetI l yX15_isSame cX15_isSame 6 (some .boolean) 8 213 X [.ref x0, .ref x1, .ref x2] h o := by
  refine x_met (by decide) (Nat.le_of_ble_eq_true rfl) ?_
  intro p e s m below meth c ls C hl hW hZ
  have hl : lv_has ls 6 [(0, .ref x0), (1, .ref x1), (2, .ref x2)] := hl
  have hkm : Km h h := Km.rf h
  refine lv_aload_n C.1 C.2.1 dX15_isSame_0 rfl (lv_at hl 1 rfl) ?_
  refine gf_X15_452 C hW k_x1 dX15_isSame_1 ?_
  refine lv_aload_n C.1 C.2.1 dX15_isSame_4 rfl (lv_at hl 2 rfl) ?_
  refine gf_X15_452 C hW k_x2 dX15_isSame_5 ?_
  refine lv_icmp_ne (tgt := 57) C.1 C.2.1 dX15_isSame_8 (by decide) (fun c_1 => ?_) (fun c_1 => ?_)
  · have hE := br_n hE c_1
    exact bX15_isSame_57 C k_x0 k_x1 k_x2 hkm hW hZ _ (lv_sub hl [0, 1, 2] rfl) hE
  · have hE := br_p hE c_1
    refine lv_aload_n C.1 C.2.1 dX15_isSame_11 rfl (lv_at hl 1 rfl) ?_
    refine gf_X15_436 C hW k_x1 dX15_isSame_12 ?_
    refine lv_aload_n C.1 C.2.1 dX15_isSame_15 rfl (lv_at hl 2 rfl) ?_
    refine gf_X15_436 C hW k_x2 dX15_isSame_16 ?_
    refine W.lcmp C.1 C.2.1 dX15_isSame_19 ?_
    refine lv_if_ne (tgt := 57) C.1 C.2.1 dX15_isSame_20 (by decide) (fun c_2 => ?_) (fun c_2 => ?_)
    · have hE := br_n hE c_2
      exact bX15_isSame_57 C k_x0 k_x1 k_x2 hkm hW hZ _ (lv_sub hl [0, 1, 2] rfl) hE
    · have hE := br_p hE c_2
      refine lv_aload_n C.1 C.2.1 dX15_isSame_23 rfl (lv_at hl 1 rfl) ?_
      obtain ⟨r_3, er_3, hE⟩ := cl_e hE
      refine gf_X15_447 C hW k_x1 er_3 dX15_isSame_24 (fun k_r_3 => ?_)
      refine lv_iconst (v := (0 : Int32)) C.1 C.2.1 dX15_isSame_27 (by decide) ?_
      obtain ⟨g_4, hE⟩ := gd_e hE
      refine y_iald C hW k_r_3 g_4 dX15_isSame_28 ?_
      refine lv_aload_n C.1 C.2.1 dX15_isSame_29 rfl (lv_at hl 2 rfl) ?_
      obtain ⟨r_5, er_5, hE⟩ := cl_e hE
      refine gf_X15_447 C hW k_x2 er_5 dX15_isSame_30 (fun k_r_5 => ?_)
      refine lv_iconst (v := (0 : Int32)) C.1 C.2.1 dX15_isSame_33 (by decide) ?_
      obtain ⟨g_6, hE⟩ := gd_e hE
      refine y_iald C hW k_r_5 g_6 dX15_isSame_34 ?_
      refine lv_icmp_ne (tgt := 57) C.1 C.2.1 dX15_isSame_35 (by decide) (fun c_7 => ?_) (fun c_7 => ?_)
      · have hE := br_n hE c_7
        exact bX15_isSame_57 C k_x0 k_x1 k_x2 hkm hW hZ _ (lv_sub hl [0, 1, 2] rfl) hE
      · have hE := br_p hE c_7
        refine lv_aload_n C.1 C.2.1 dX15_isSame_38 rfl (lv_at hl 1 rfl) ?_
        obtain ⟨r_8, er_8, hE⟩ := cl_e hE
        refine gf_X15_447 C hW k_x1 er_8 dX15_isSame_39 (fun k_r_8 => ?_)
        refine lv_iconst (v := (1 : Int32)) C.1 C.2.1 dX15_isSame_42 (by decide) ?_
        obtain ⟨g_9, hE⟩ := gd_e hE
        refine y_iald C hW k_r_8 g_9 dX15_isSame_43 ?_
        refine lv_aload_n C.1 C.2.1 dX15_isSame_44 rfl (lv_at hl 2 rfl) ?_
        obtain ⟨r_10, er_10, hE⟩ := cl_e hE
        refine gf_X15_447 C hW k_x2 er_10 dX15_isSame_45 (fun k_r_10 => ?_)
        refine lv_iconst (v := (1 : Int32)) C.1 C.2.1 dX15_isSame_48 (by decide) ?_
        obtain ⟨g_11, hE⟩ := gd_e hE
        refine y_iald C hW k_r_10 g_11 dX15_isSame_49 ?_
        refine lv_icmp_ne (tgt := 57) C.1 C.2.1 dX15_isSame_50 (by decide) (fun c_12 => ?_) (fun c_12 => ?_)
        · have hE := br_n hE c_12
          exact bX15_isSame_57 C k_x0 k_x1 k_x2 hkm hW hZ _ (lv_sub hl [0, 1, 2] rfl) hE
        · have hE := br_p hE c_12
          refine lv_iconst (v := (1 : Int32)) C.1 C.2.1 dX15_isSame_53 (by decide) ?_
          refine lv_goto (tgt := 58) C.1 C.2.1 dX15_isSame_54 (by decide) ?_
          exact bX15_isSame_58 C k_x0 k_x1 k_x2 hkm hW hZ _ (lv_sub hl [0, 1, 2] rfl) hE
