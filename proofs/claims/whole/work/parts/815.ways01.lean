theorem dX10_cell_0 : decode cX10_cell 0 = .ok (.iload_n 0, 1) := by decide +kernel
theorem dX10_cell_1 : decode cX10_cell 1 = .ok (.bipush 64, 2) := by decide +kernel
theorem dX10_cell_3 : decode cX10_cell 3 = .ok (.imul, 1) := by decide +kernel
theorem dX10_cell_4 : decode cX10_cell 4 = .ok (.iload_n 1, 1) := by decide +kernel
theorem dX10_cell_5 : decode cX10_cell 5 = .ok (.iadd, 1) := by decide +kernel
theorem dX10_cell_6 : decode cX10_cell 6 = .ok (.bipush 64, 2) := by decide +kernel
theorem dX10_cell_8 : decode cX10_cell 8 = .ok (.imul, 1) := by decide +kernel
theorem dX10_cell_9 : decode cX10_cell 9 = .ok (.iload_n 2, 1) := by decide +kernel
theorem dX10_cell_10 : decode cX10_cell 10 = .ok (.iadd, 1) := by decide +kernel
theorem dX10_cell_11 : decode cX10_cell 11 = .ok (.ireturn, 1) := by decide +kernel
set_option maxRecDepth 20000 in
theorem moX10_cell {o : Int32 × Hp} {h : Hp} {x0 : Int32} {x1 : Int32} {x2 : Int32} (hE : sX10_cell h x0 x1 x2 = some o) : Le h o.2 := by
  exact le_some2 hE
set_option maxRecDepth 20000 in
theorem ct_X10_cell (l : Launch) (X : Ec) {h : Hp} {x0 : Int32} {x1 : Int32} {x2 : Int32} {o : Int32 × Hp} (hE : sX10_cell h x0 x1 x2 = some o) : MetI l yX10_cell cX10_cell 3 (some .int) 0 0 X [.int x0, .int x1, .int x2] h o := by
  refine x_met (by decide) (Nat.le_of_ble_eq_true rfl) ?_
  intro p e s m below meth c ls C hl hW hZ
  have hl : lv_has ls 3 [(0, .int x0), (1, .int x1), (2, .int x2)] := hl
  have hkm : Km h h := Km.rf h
  refine lv_iload_n C.1 C.2.1 dX10_cell_0 rfl (lv_at hl 0 rfl) ?_
  refine lv_bipush (v := (64 : Int32)) C.1 C.2.1 dX10_cell_1 (by decide) ?_
  refine lv_imul C.1 C.2.1 dX10_cell_3 ?_
  refine lv_iload_n C.1 C.2.1 dX10_cell_4 rfl (lv_at hl 1 rfl) ?_
  refine lv_iadd C.1 C.2.1 dX10_cell_5 ?_
  refine lv_bipush (v := (64 : Int32)) C.1 C.2.1 dX10_cell_6 (by decide) ?_
  refine lv_imul C.1 C.2.1 dX10_cell_8 ?_
  refine lv_iload_n C.1 C.2.1 dX10_cell_9 rfl (lv_at hl 2 rfl) ?_
  refine lv_iadd C.1 C.2.1 dX10_cell_10 ?_
  exact x_iret C rfl rfl hW hZ hkm hE dX10_cell_11
set_option maxRecDepth 100000 in
theorem m_238 : Cond.fieldLink RX10 40 (TX10 8).1 (TX10 8).2.1 (TX10 8).2.2.1 ∈ W0 := w0_in (List.mem_append_right _ (List.mem_of_getElem? (i := 238) rfl)) rfl
section
variable {p : Program} {l : Launch} {e : Env} {R : Room} {s : State} {m : MethodId} {args : Array Value} {below : List Frame} {meth : Method} {c : Code} {H : Heap} {locs : List Loc} {cells slots : Nat} {Q : State → Prop}
variable {cc : ByteArray} {pc : Nat} {ls : Array Slot} {rest : List Value} {X : Ec} {h h1 : Hp} {nL : Nat} {rt : Option FieldType} {mn : String}
theorem gf_X10_17 {a r : Nat} (C : Cx X p s m args meth c RX10 cc nL rt mn) (hW : Wx X h H) (ha : hK h a = 10) (hr : hR h a 1 = some r) (hdg : decode cc pc = .ok (.getfield 17, 3)) (kk : hK h r = 17 → W p l e R s m args below meth c H locs cells slots Q (F0 m (pc + 3) ls (.ref r :: rest))) : W p l e R s m args below meth c H locs cells slots Q (F0 m pc ls (.ref a :: rest)) :=
  y_getr C hW ha i_X10 (by decide) rfl (by decide) m_227 rfl rfl hr hdg kk
theorem gf_X10_40 {a : Nat} (C : Cx X p s m args meth c RX10 cc nL rt mn) (hW : Wx X h H) (ha : hK h a = 10) (hdg : decode cc pc = .ok (.getfield 40, 3)) (kk : W p l e R s m args below meth c H locs cells slots Q (F0 m (pc + 3) ls (.int (hI h a 8) :: rest))) : W p l e R s m args below meth c H locs cells slots Q (F0 m pc ls (.ref a :: rest)) :=
  y_geti C hW ha i_X10 (by decide) rfl (by decide) m_238 rfl hdg kk
theorem gf_X10_20 {a r : Nat} (C : Cx X p s m args meth c RX10 cc nL rt mn) (hW : Wx X h H) (ha : hK h a = 10) (hr : hR h a 2 = some r) (hdg : decode cc pc = .ok (.getfield 20, 3)) (kk : hK h r = 18 → W p l e R s m args below meth c H locs cells slots Q (F0 m (pc + 3) ls (.ref r :: rest))) : W p l e R s m args below meth c H locs cells slots Q (F0 m pc ls (.ref a :: rest)) :=
  y_getr C hW ha i_X10 (by decide) rfl (by decide) m_229 rfl rfl hr hdg kk
theorem pf_X10_40 {a : Nat} {v : Int32} (C : Cx X p s m args meth c RX10 cc nL rt mn) (hW : Wx X h H) (hZ : va_S (aA (eB X)) s.heap H locs) (ha : hK h a = 10) (eh : h1 = wI h a 8 v) (hdg : decode cc pc = .ok (.putfield 40, 3)) (kk : ∀ (H1 : Heap) (locs1 : List Loc), Wx X h1 H1 → Km h h1 → va_S (aA (eB X)) s.heap H1 locs1 → W p l e R s m args below meth c H1 locs1 cells slots Q (F0 m (pc + 3) ls rest)) : W p l e R s m args below meth c H locs cells slots Q (F0 m pc ls (.int v :: .ref a :: rest)) :=
  y_puti (ty := .int) C hW hZ ha i_X10 tyX10 tyX10_ok nmX10 (by decide) rfl rfl (by decide) m_238 rfl (by decide +kernel) rfl rfl rfl eh hdg kk
theorem gf_X10_24 {a r : Nat} (C : Cx X p s m args meth c RX10 cc nL rt mn) (hW : Wx X h H) (ha : hK h a = 10) (hr : hR h a 3 = some r) (hdg : decode cc pc = .ok (.getfield 24, 3)) (kk : hK h r = 18 → W p l e R s m args below meth c H locs cells slots Q (F0 m (pc + 3) ls (.ref r :: rest))) : W p l e R s m args below meth c H locs cells slots Q (F0 m pc ls (.ref a :: rest)) :=
  y_getr C hW ha i_X10 (by decide) rfl (by decide) m_231 rfl rfl hr hdg kk
theorem gf_X10_27 {a r : Nat} (C : Cx X p s m args meth c RX10 cc nL rt mn) (hW : Wx X h H) (ha : hK h a = 10) (hr : hR h a 4 = some r) (hdg : decode cc pc = .ok (.getfield 27, 3)) (kk : hK h r = 18 → W p l e R s m args below meth c H locs cells slots Q (F0 m (pc + 3) ls (.ref r :: rest))) : W p l e R s m args below meth c H locs cells slots Q (F0 m pc ls (.ref a :: rest)) :=
  y_getr C hW ha i_X10 (by decide) rfl (by decide) m_232 rfl rfl hr hdg kk
end
theorem dX10_addWay_0 : decode cX10_addWay 0 = .ok (.aload_n 0, 1) := by decide +kernel
theorem dX10_addWay_1 : decode cX10_addWay 1 = .ok (.getfield 40, 3) := by decide +kernel
theorem dX10_addWay_4 : decode cX10_addWay 4 = .ok (.ldc 16, 2) := by decide +kernel
theorem dX10_addWay_6 : decode cX10_addWay 6 = .ok (.if_icmp .lt 4, 3) := by decide +kernel
theorem dX10_addWay_9 : decode cX10_addWay 9 = .ok (.return_, 1) := by decide +kernel
theorem dX10_addWay_10 : decode cX10_addWay 10 = .ok (.lconst 0, 1) := by decide +kernel
theorem dX10_addWay_11 : decode cX10_addWay 11 = .ok (.lstore 6, 2) := by decide +kernel
theorem dX10_addWay_13 : decode cX10_addWay 13 = .ok (.iload 5, 2) := by decide +kernel
theorem dX10_addWay_15 : decode cX10_addWay 15 = .ok (.ifCond .le 12, 3) := by decide +kernel
theorem dX10_addWay_18 : decode cX10_addWay 18 = .ok (.iload_n 3, 1) := by decide +kernel
theorem dX10_addWay_19 : decode cX10_addWay 19 = .ok (.iload_n 2, 1) := by decide +kernel
theorem dX10_addWay_20 : decode cX10_addWay 20 = .ok (.isub, 1) := by decide +kernel
theorem dX10_addWay_21 : decode cX10_addWay 21 = .ok (.iload 5, 2) := by decide +kernel
theorem dX10_addWay_23 : decode cX10_addWay 23 = .ok (.idiv, 1) := by decide +kernel
theorem dX10_addWay_24 : decode cX10_addWay 24 = .ok (.goto 4, 3) := by decide +kernel
theorem dX10_addWay_27 : decode cX10_addWay 27 = .ok (.iconst 0, 1) := by decide +kernel
theorem dX10_addWay_28 : decode cX10_addWay 28 = .ok (.istore 8, 2) := by decide +kernel
theorem dX10_addWay_30 : decode cX10_addWay 30 = .ok (.iconst 1, 1) := by decide +kernel
theorem dX10_addWay_31 : decode cX10_addWay 31 = .ok (.istore 9, 2) := by decide +kernel
theorem dX10_addWay_33 : decode cX10_addWay 33 = .ok (.iload 9, 2) := by decide +kernel
theorem dX10_addWay_35 : decode cX10_addWay 35 = .ok (.iload 5, 2) := by decide +kernel
theorem dX10_addWay_37 : decode cX10_addWay 37 = .ok (.if_icmp .ge 23, 3) := by decide +kernel
theorem dX10_addWay_40 : decode cX10_addWay 40 = .ok (.lload 6, 2) := by decide +kernel
theorem dX10_addWay_42 : decode cX10_addWay 42 = .ok (.lconst 1, 1) := by decide +kernel
theorem dX10_addWay_43 : decode cX10_addWay 43 = .ok (.iload_n 2, 1) := by decide +kernel
theorem dX10_addWay_44 : decode cX10_addWay 44 = .ok (.iload 9, 2) := by decide +kernel
theorem dX10_addWay_46 : decode cX10_addWay 46 = .ok (.iload 8, 2) := by decide +kernel
theorem dX10_addWay_48 : decode cX10_addWay 48 = .ok (.imul, 1) := by decide +kernel
theorem dX10_addWay_49 : decode cX10_addWay 49 = .ok (.iadd, 1) := by decide +kernel
theorem dX10_addWay_50 : decode cX10_addWay 50 = .ok (.lshl, 1) := by decide +kernel
theorem dX10_addWay_51 : decode cX10_addWay 51 = .ok (.lor, 1) := by decide +kernel
theorem dX10_addWay_52 : decode cX10_addWay 52 = .ok (.lstore 6, 2) := by decide +kernel
theorem dX10_addWay_54 : decode cX10_addWay 54 = .ok (.iinc 9 1, 3) := by decide +kernel
theorem dX10_addWay_57 : decode cX10_addWay 57 = .ok (.goto (-24), 3) := by decide +kernel
theorem dX10_addWay_60 : decode cX10_addWay 60 = .ok (.aload_n 0, 1) := by decide +kernel
theorem dX10_addWay_61 : decode cX10_addWay 61 = .ok (.getfield 17, 3) := by decide +kernel
theorem dX10_addWay_64 : decode cX10_addWay 64 = .ok (.aload_n 0, 1) := by decide +kernel
theorem dX10_addWay_65 : decode cX10_addWay 65 = .ok (.getfield 40, 3) := by decide +kernel
theorem dX10_addWay_68 : decode cX10_addWay 68 = .ok (.iload_n 3, 1) := by decide +kernel
theorem dX10_addWay_69 : decode cX10_addWay 69 = .ok (.iload 4, 2) := by decide +kernel
theorem dX10_addWay_71 : decode cX10_addWay 71 = .ok (.bipush 6, 2) := by decide +kernel
theorem dX10_addWay_73 : decode cX10_addWay 73 = .ok (.ishl, 1) := by decide +kernel
theorem dX10_addWay_74 : decode cX10_addWay 74 = .ok (.ior, 1) := by decide +kernel
theorem dX10_addWay_75 : decode cX10_addWay 75 = .ok (.iload 5, 2) := by decide +kernel
theorem dX10_addWay_77 : decode cX10_addWay 77 = .ok (.bipush 12, 2) := by decide +kernel
theorem dX10_addWay_79 : decode cX10_addWay 79 = .ok (.ishl, 1) := by decide +kernel
theorem dX10_addWay_80 : decode cX10_addWay 80 = .ok (.ior, 1) := by decide +kernel
theorem dX10_addWay_81 : decode cX10_addWay 81 = .ok (.iastore, 1) := by decide +kernel
theorem dX10_addWay_82 : decode cX10_addWay 82 = .ok (.aload_n 0, 1) := by decide +kernel
theorem dX10_addWay_83 : decode cX10_addWay 83 = .ok (.getfield 20, 3) := by decide +kernel
theorem dX10_addWay_86 : decode cX10_addWay 86 = .ok (.aload_n 0, 1) := by decide +kernel
theorem dX10_addWay_87 : decode cX10_addWay 87 = .ok (.getfield 40, 3) := by decide +kernel
theorem dX10_addWay_90 : decode cX10_addWay 90 = .ok (.lload 6, 2) := by decide +kernel
theorem dX10_addWay_92 : decode cX10_addWay 92 = .ok (.lastore, 1) := by decide +kernel
theorem dX10_addWay_93 : decode cX10_addWay 93 = .ok (.aload_n 0, 1) := by decide +kernel
theorem dX10_addWay_94 : decode cX10_addWay 94 = .ok (.dup, 1) := by decide +kernel
theorem dX10_addWay_95 : decode cX10_addWay 95 = .ok (.getfield 40, 3) := by decide +kernel
theorem dX10_addWay_98 : decode cX10_addWay 98 = .ok (.iconst 1, 1) := by decide +kernel
theorem dX10_addWay_99 : decode cX10_addWay 99 = .ok (.iadd, 1) := by decide +kernel
theorem dX10_addWay_100 : decode cX10_addWay 100 = .ok (.putfield 40, 3) := by decide +kernel
theorem dX10_addWay_103 : decode cX10_addWay 103 = .ok (.aload_n 0, 1) := by decide +kernel
theorem dX10_addWay_104 : decode cX10_addWay 104 = .ok (.getfield 24, 3) := by decide +kernel
theorem dX10_addWay_107 : decode cX10_addWay 107 = .ok (.iload_n 1, 1) := by decide +kernel
theorem dX10_addWay_108 : decode cX10_addWay 108 = .ok (.bipush 64, 2) := by decide +kernel
theorem dX10_addWay_110 : decode cX10_addWay 110 = .ok (.imul, 1) := by decide +kernel
theorem dX10_addWay_111 : decode cX10_addWay 111 = .ok (.iload_n 3, 1) := by decide +kernel
theorem dX10_addWay_112 : decode cX10_addWay 112 = .ok (.iadd, 1) := by decide +kernel
theorem dX10_addWay_113 : decode cX10_addWay 113 = .ok (.dup2, 1) := by decide +kernel
theorem dX10_addWay_114 : decode cX10_addWay 114 = .ok (.laload, 1) := by decide +kernel
theorem dX10_addWay_115 : decode cX10_addWay 115 = .ok (.lconst 1, 1) := by decide +kernel
theorem dX10_addWay_116 : decode cX10_addWay 116 = .ok (.iload_n 2, 1) := by decide +kernel
theorem dX10_addWay_117 : decode cX10_addWay 117 = .ok (.lshl, 1) := by decide +kernel
theorem dX10_addWay_118 : decode cX10_addWay 118 = .ok (.lor, 1) := by decide +kernel
theorem dX10_addWay_119 : decode cX10_addWay 119 = .ok (.lastore, 1) := by decide +kernel
theorem dX10_addWay_120 : decode cX10_addWay 120 = .ok (.iload 4, 2) := by decide +kernel
theorem dX10_addWay_122 : decode cX10_addWay 122 = .ok (.iconst 1, 1) := by decide +kernel
theorem dX10_addWay_123 : decode cX10_addWay 123 = .ok (.iand, 1) := by decide +kernel
theorem dX10_addWay_124 : decode cX10_addWay 124 = .ok (.ifCond .ne 20, 3) := by decide +kernel
theorem dX10_addWay_127 : decode cX10_addWay 127 = .ok (.aload_n 0, 1) := by decide +kernel
theorem dX10_addWay_128 : decode cX10_addWay 128 = .ok (.getfield 27, 3) := by decide +kernel
theorem dX10_addWay_131 : decode cX10_addWay 131 = .ok (.iload_n 1, 1) := by decide +kernel
theorem dX10_addWay_132 : decode cX10_addWay 132 = .ok (.bipush 64, 2) := by decide +kernel
theorem dX10_addWay_134 : decode cX10_addWay 134 = .ok (.imul, 1) := by decide +kernel
theorem dX10_addWay_135 : decode cX10_addWay 135 = .ok (.iload_n 3, 1) := by decide +kernel
theorem dX10_addWay_136 : decode cX10_addWay 136 = .ok (.iadd, 1) := by decide +kernel
theorem dX10_addWay_137 : decode cX10_addWay 137 = .ok (.dup2, 1) := by decide +kernel
theorem dX10_addWay_138 : decode cX10_addWay 138 = .ok (.laload, 1) := by decide +kernel
theorem dX10_addWay_139 : decode cX10_addWay 139 = .ok (.lconst 1, 1) := by decide +kernel
theorem dX10_addWay_140 : decode cX10_addWay 140 = .ok (.iload_n 2, 1) := by decide +kernel
theorem dX10_addWay_141 : decode cX10_addWay 141 = .ok (.lshl, 1) := by decide +kernel
theorem dX10_addWay_142 : decode cX10_addWay 142 = .ok (.lor, 1) := by decide +kernel
theorem dX10_addWay_143 : decode cX10_addWay 143 = .ok (.lastore, 1) := by decide +kernel
theorem dX10_addWay_144 : decode cX10_addWay 144 = .ok (.return_, 1) := by decide +kernel
set_option maxRecDepth 20000 in
theorem moX10_addWay_144 {o : Hp} {F : Nat} {h : Hp} (hE : sX10_addWay_144 F h  = some o) : Le h o := by
  exact le_some1 hE
set_option maxRecDepth 20000 in
theorem moX10_addWay_33 {o : Hp} {F : Nat} : ∀ (f : Nat) {h : Hp} {x0 : Nat} {x1 : Int32} {x2 : Int32} {x3 : Int32} {x4 : Int32} {x5 : Int32} {x6 : Int64} {x8 : Int32} {x9 : Int32}, sX10_addWay_33 F f h x0 x1 x2 x3 x4 x5 x6 x8 x9 = some o → Le h o := by
  intro f
  induction f with
  | zero =>
    intro h x0 x1 x2 x3 x4 x5 x6 x8 x9 hE
    rw [sX10_addWay_33] at hE
    cases hE
  | succ f ih =>
    intro h x0 x1 x2 x3 x4 x5 x6 x8 x9 hE
    rw [sX10_addWay_33] at hE
    have mk_33 : ∀ (h : Hp) (x0 : Nat) (x1 : Int32) (x2 : Int32) (x3 : Int32) (x4 : Int32) (x5 : Int32) (x6 : Int64) (x8 : Int32) (x9 : Int32), sX10_addWay_33 F f h x0 x1 x2 x3 x4 x5 x6 x8 x9 = some o → Le h o := fun h x0 x1 x2 x3 x4 x5 x6 x8 x9 hE => ih hE
    rcases br_e hE with ⟨_, hE⟩ | ⟨_, hE⟩
    · obtain ⟨r_2, er_2, hE⟩ := cl_e hE
      obtain ⟨g_3, hE⟩ := gd_e hE
      obtain ⟨h_4, eh_4, hE⟩ := nm_e2 hE
      refine (le_I eh_4).tr ?_
      obtain ⟨r_5, er_5, hE⟩ := cl_e hE
      obtain ⟨g_6, hE⟩ := gd_e hE
      obtain ⟨h_7, eh_7, hE⟩ := nm_e2 hE
      refine (le_J eh_7).tr ?_
      obtain ⟨h_8, eh_8, hE⟩ := nm_e2 hE
      refine (le_I eh_8).tr ?_
      obtain ⟨r_9, er_9, hE⟩ := cl_e hE
      obtain ⟨g_10, hE⟩ := gd_e hE
      obtain ⟨g_11, hE⟩ := gd_e hE
      obtain ⟨h_12, eh_12, hE⟩ := nm_e2 hE
      refine (le_J eh_12).tr ?_
      rcases br_e hE with ⟨_, hE⟩ | ⟨_, hE⟩
      · obtain ⟨r_14, er_14, hE⟩ := cl_e hE
        obtain ⟨g_15, hE⟩ := gd_e hE
        obtain ⟨g_16, hE⟩ := gd_e hE
        obtain ⟨h_17, eh_17, hE⟩ := nm_e2 hE
        refine (le_J eh_17).tr ?_
        exact moX10_addWay_144 hE
      · exact moX10_addWay_144 hE
    · obtain ⟨v_18, ev_18, hE⟩ := nm_e2 hE
      obtain ⟨v_19, ev_19, hE⟩ := nm_e2 hE
      exact mk_33 _ _ _ _ _ _ _ _ _ _ hE
set_option maxRecDepth 20000 in
theorem moX10_addWay_28 {o : Hp} {F : Nat} {h : Hp} {x0 : Nat} {x1 : Int32} {x2 : Int32} {x3 : Int32} {x4 : Int32} {x5 : Int32} {x6 : Int64} {t0 : Int32} (hE : sX10_addWay_28 F h x0 x1 x2 x3 x4 x5 x6 t0 = some o) : Le h o := by
  exact moX10_addWay_33 _ hE
set_option maxRecDepth 20000 in
theorem moX10_addWay {o : Hp} {F : Nat} {h : Hp} {x0 : Nat} {x1 : Int32} {x2 : Int32} {x3 : Int32} {x4 : Int32} {x5 : Int32} (hE : sX10_addWay F h x0 x1 x2 x3 x4 x5 = some o) : Le h o := by
  rcases br_e hE with ⟨_, hE⟩ | ⟨_, hE⟩
  · rcases br_e hE with ⟨_, hE⟩ | ⟨_, hE⟩
    · exact moX10_addWay_28 hE
    · obtain ⟨g_3, hE⟩ := gd_e hE
      exact moX10_addWay_28 hE
  · exact le_some1 hE
set_option maxRecDepth 20000 in
theorem bX10_addWay_144 {p : Program} {l : Launch} {e : Env} {s : State} {m : MethodId} {args : Array Value} {below : List Frame} {meth : Method} {c : Code} {X : Ec} {h0 : Hp} {o : Hp} {F : Nat} (C : Cx X p s m args meth c RX10 cX10_addWay 10 none "addWay") {h : Hp} {H : Heap} {locs : List Loc} (hkm : Km h0 h) (hW : Wx X h H) (hZ : va_S (aA (eB X)) s.heap H locs) (ls : Array Slot) (hl : lv_has ls 10 []) (hE : sX10_addWay_144 F h  = some o) : W p l e (rm 0 0) s m args below meth c H locs 0 0 (MQ below (QV X h0 o) args s 0 0 (aA (eB X))) (F0 m 144 ls []) := by
  exact x_vret C rfl hW hZ hkm hE dX10_addWay_144
set_option maxRecDepth 20000 in
theorem bX10_addWay_33 {p : Program} {l : Launch} {e : Env} {s : State} {m : MethodId} {args : Array Value} {below : List Frame} {meth : Method} {c : Code} {X : Ec} {h0 : Hp} {o : Hp} {F : Nat} (C : Cx X p s m args meth c RX10 cX10_addWay 10 none "addWay") : ∀ (f : Nat) {h : Hp} {x0 : Nat} {x1 : Int32} {x2 : Int32} {x3 : Int32} {x4 : Int32} {x5 : Int32} {x6 : Int64} {x8 : Int32} {x9 : Int32} {H : Heap} {locs : List Loc} (k_x0 : hK h x0 = 10), Km h0 h → Wx X h H → va_S (aA (eB X)) s.heap H locs → ∀ (ls : Array Slot), lv_has ls 10 [(0, .ref x0), (1, .int x1), (2, .int x2), (3, .int x3), (4, .int x4), (5, .int x5), (6, .long x6), (8, .int x8), (9, .int x9)] → sX10_addWay_33 F f h x0 x1 x2 x3 x4 x5 x6 x8 x9 = some o → W p l e (rm 0 0) s m args below meth c H locs 0 0 (MQ below (QV X h0 o) args s 0 0 (aA (eB X))) (F0 m 33 ls []) := by
  intro f
  induction f with
  | zero =>
    intro h x0 x1 x2 x3 x4 x5 x6 x8 x9 H locs k_x0 hkm hW hZ ls hl hE
    rw [sX10_addWay_33] at hE
    cases hE
  | succ f ih =>
    intro h x0 x1 x2 x3 x4 x5 x6 x8 x9 H locs k_x0 hkm hW hZ ls hl hE
    rw [sX10_addWay_33] at hE
    have hk_33 : ∀ (h : Hp) (x0 : Nat) (x1 : Int32) (x2 : Int32) (x3 : Int32) (x4 : Int32) (x5 : Int32) (x6 : Int64) (x8 : Int32) (x9 : Int32) (H : Heap) (locs : List Loc), hK h x0 = 10 → Km h0 h → Wx X h H → va_S (aA (eB X)) s.heap H locs → ∀ (ls : Array Slot), lv_has ls 10 [(0, .ref x0), (1, .int x1), (2, .int x2), (3, .int x3), (4, .int x4), (5, .int x5), (6, .long x6), (8, .int x8), (9, .int x9)] → sX10_addWay_33 F f h x0 x1 x2 x3 x4 x5 x6 x8 x9 = some o → W p l e (rm 0 0) s m args below meth c H locs 0 0 (MQ below (QV X h0 o) args s 0 0 (aA (eB X))) (F0 m 33 ls []) := fun h x0 x1 x2 x3 x4 x5 x6 x8 x9 H locs k_x0 a b c ls hl hE => ih k_x0 a b c ls hl hE
    refine lv_iload C.1 C.2.1 dX10_addWay_33 (lv_at hl 8 rfl) ?_
    refine lv_iload C.1 C.2.1 dX10_addWay_35 (lv_at hl 5 rfl) ?_
    refine lv_icmp_ge (tgt := 60) C.1 C.2.1 dX10_addWay_37 (by decide) (fun c_1 => ?_) (fun c_1 => ?_)
    · have hE := br_p hE c_1
      refine lv_aload_n C.1 C.2.1 dX10_addWay_60 rfl (lv_at hl 0 rfl) ?_
      obtain ⟨r_2, er_2, hE⟩ := cl_e hE
      refine gf_X10_17 C hW k_x0 er_2 dX10_addWay_61 (fun k_r_2 => ?_)
      refine lv_aload_n C.1 C.2.1 dX10_addWay_64 rfl (lv_at hl 0 rfl) ?_
      refine gf_X10_40 C hW k_x0 dX10_addWay_65 ?_
      refine lv_iload_n C.1 C.2.1 dX10_addWay_68 rfl (lv_at hl 3 rfl) ?_
      refine lv_iload C.1 C.2.1 dX10_addWay_69 (lv_at hl 4 rfl) ?_
      refine lv_bipush (v := (6 : Int32)) C.1 C.2.1 dX10_addWay_71 (by decide) ?_
      refine lv_ishl C.1 C.2.1 dX10_addWay_73 ?_
      refine lv_ior C.1 C.2.1 dX10_addWay_74 ?_
      refine lv_iload C.1 C.2.1 dX10_addWay_75 (lv_at hl 5 rfl) ?_
      refine lv_bipush (v := (12 : Int32)) C.1 C.2.1 dX10_addWay_77 (by decide) ?_
      refine lv_ishl C.1 C.2.1 dX10_addWay_79 ?_
      refine lv_ior C.1 C.2.1 dX10_addWay_80 ?_
      obtain ⟨g_3, hE⟩ := gd_e hE
      obtain ⟨h_4, eh_4, hE⟩ := nm_e2 hE
      refine y_iast C hW hZ k_r_2 g_3 eh_4 dX10_addWay_81 (fun _ _ hW km hZ => ?_)
      replace hkm := hkm.tr km
      replace k_x0 := km.at k_x0 (by decide)
      refine lv_aload_n C.1 C.2.1 dX10_addWay_82 rfl (lv_at hl 0 rfl) ?_
      obtain ⟨r_5, er_5, hE⟩ := cl_e hE
      refine gf_X10_20 C hW k_x0 er_5 dX10_addWay_83 (fun k_r_5 => ?_)
      refine lv_aload_n C.1 C.2.1 dX10_addWay_86 rfl (lv_at hl 0 rfl) ?_
      refine gf_X10_40 C hW k_x0 dX10_addWay_87 ?_
      refine lv_lload C.1 C.2.1 dX10_addWay_90 (lv_at hl 6 rfl) ?_
      obtain ⟨g_6, hE⟩ := gd_e hE
      obtain ⟨h_7, eh_7, hE⟩ := nm_e2 hE
      refine y_last C hW hZ k_r_5 g_6 eh_7 dX10_addWay_92 (fun _ _ hW km hZ => ?_)
      replace hkm := hkm.tr km
      replace k_x0 := km.at k_x0 (by decide)
      refine lv_aload_n C.1 C.2.1 dX10_addWay_93 rfl (lv_at hl 0 rfl) ?_
      refine lv_dup C.1 C.2.1 dX10_addWay_94 rfl ?_
      refine gf_X10_40 C hW k_x0 dX10_addWay_95 ?_
      refine lv_iconst (v := (1 : Int32)) C.1 C.2.1 dX10_addWay_98 (by decide) ?_
      refine lv_iadd C.1 C.2.1 dX10_addWay_99 ?_
      obtain ⟨h_8, eh_8, hE⟩ := nm_e2 hE
      refine pf_X10_40 C hW hZ k_x0 eh_8 dX10_addWay_100 (fun _ _ hW km hZ => ?_)
      replace hkm := hkm.tr km
      replace k_x0 := km.at k_x0 (by decide)
      refine lv_aload_n C.1 C.2.1 dX10_addWay_103 rfl (lv_at hl 0 rfl) ?_
      obtain ⟨r_9, er_9, hE⟩ := cl_e hE
      refine gf_X10_24 C hW k_x0 er_9 dX10_addWay_104 (fun k_r_9 => ?_)
      refine lv_iload_n C.1 C.2.1 dX10_addWay_107 rfl (lv_at hl 1 rfl) ?_
      refine lv_bipush (v := (64 : Int32)) C.1 C.2.1 dX10_addWay_108 (by decide) ?_
      refine lv_imul C.1 C.2.1 dX10_addWay_110 ?_
      refine lv_iload_n C.1 C.2.1 dX10_addWay_111 rfl (lv_at hl 3 rfl) ?_
      refine lv_iadd C.1 C.2.1 dX10_addWay_112 ?_
      refine lv_dup2_11 C.1 C.2.1 dX10_addWay_113 rfl rfl ?_
      obtain ⟨g_10, hE⟩ := gd_e hE
      refine y_lald C hW k_r_9 g_10 dX10_addWay_114 ?_
      refine lv_lconst (v := (1 : Int64)) C.1 C.2.1 dX10_addWay_115 (by decide) ?_
      refine lv_iload_n C.1 C.2.1 dX10_addWay_116 rfl (lv_at hl 2 rfl) ?_
      refine lv_lshl C.1 C.2.1 dX10_addWay_117 rfl ?_
      refine lv_lor C.1 C.2.1 dX10_addWay_118 ?_
      obtain ⟨g_11, hE⟩ := gd_e hE
      obtain ⟨h_12, eh_12, hE⟩ := nm_e2 hE
      refine y_last C hW hZ k_r_9 g_11 eh_12 dX10_addWay_119 (fun _ _ hW km hZ => ?_)
      replace hkm := hkm.tr km
      replace k_x0 := km.at k_x0 (by decide)
      refine lv_iload C.1 C.2.1 dX10_addWay_120 (lv_at hl 4 rfl) ?_
      refine lv_iconst (v := (1 : Int32)) C.1 C.2.1 dX10_addWay_122 (by decide) ?_
      refine lv_iand C.1 C.2.1 dX10_addWay_123 ?_
      refine lv_if_ne (tgt := 144) C.1 C.2.1 dX10_addWay_124 (by decide) (fun c_13 => ?_) (fun c_13 => ?_)
      · have hE := br_n hE c_13
        exact bX10_addWay_144 C hkm hW hZ _ (lv_sub hl [] rfl) hE
      · have hE := br_p hE c_13
        refine lv_aload_n C.1 C.2.1 dX10_addWay_127 rfl (lv_at hl 0 rfl) ?_
        obtain ⟨r_14, er_14, hE⟩ := cl_e hE
        refine gf_X10_27 C hW k_x0 er_14 dX10_addWay_128 (fun k_r_14 => ?_)
        refine lv_iload_n C.1 C.2.1 dX10_addWay_131 rfl (lv_at hl 1 rfl) ?_
        refine lv_bipush (v := (64 : Int32)) C.1 C.2.1 dX10_addWay_132 (by decide) ?_
        refine lv_imul C.1 C.2.1 dX10_addWay_134 ?_
        refine lv_iload_n C.1 C.2.1 dX10_addWay_135 rfl (lv_at hl 3 rfl) ?_
        refine lv_iadd C.1 C.2.1 dX10_addWay_136 ?_
        refine lv_dup2_11 C.1 C.2.1 dX10_addWay_137 rfl rfl ?_
        obtain ⟨g_15, hE⟩ := gd_e hE
        refine y_lald C hW k_r_14 g_15 dX10_addWay_138 ?_
        refine lv_lconst (v := (1 : Int64)) C.1 C.2.1 dX10_addWay_139 (by decide) ?_
        refine lv_iload_n C.1 C.2.1 dX10_addWay_140 rfl (lv_at hl 2 rfl) ?_
        refine lv_lshl C.1 C.2.1 dX10_addWay_141 rfl ?_
        refine lv_lor C.1 C.2.1 dX10_addWay_142 ?_
        obtain ⟨g_16, hE⟩ := gd_e hE
        obtain ⟨h_17, eh_17, hE⟩ := nm_e2 hE
        refine y_last C hW hZ k_r_14 g_16 eh_17 dX10_addWay_143 (fun _ _ hW km hZ => ?_)
        replace hkm := hkm.tr km
        replace k_x0 := km.at k_x0 (by decide)
        exact bX10_addWay_144 C hkm hW hZ _ (lv_sub hl [] rfl) hE
    · have hE := br_n hE c_1
      refine lv_lload C.1 C.2.1 dX10_addWay_40 (lv_at hl 6 rfl) ?_
      refine lv_lconst (v := (1 : Int64)) C.1 C.2.1 dX10_addWay_42 (by decide) ?_
      refine lv_iload_n C.1 C.2.1 dX10_addWay_43 rfl (lv_at hl 2 rfl) ?_
      refine lv_iload C.1 C.2.1 dX10_addWay_44 (lv_at hl 8 rfl) ?_
      refine lv_iload C.1 C.2.1 dX10_addWay_46 (lv_at hl 7 rfl) ?_
      refine lv_imul C.1 C.2.1 dX10_addWay_48 ?_
      refine lv_iadd C.1 C.2.1 dX10_addWay_49 ?_
      refine lv_lshl C.1 C.2.1 dX10_addWay_50 rfl ?_
      refine lv_lor C.1 C.2.1 dX10_addWay_51 ?_
      obtain ⟨v_18, ev_18, hE⟩ := nm_e2 hE
      refine x_nmJ ev_18 ?_
      refine lv_lstore (lv' := [(6, .long v_18), (0, .ref x0), (1, .int x1), (2, .int x2), (3, .int x3), (4, .int x4), (5, .int x5), (8, .int x8), (9, .int x9)]) C.1 C.2.1 dX10_addWay_52 hl (by decide) rfl (fun ls hl => ?_)
      obtain ⟨v_19, ev_19, hE⟩ := nm_e2 hE
      refine lv_iinc (v := v_19) (lv' := [(9, .int v_19), (6, .long v_18), (0, .ref x0), (1, .int x1), (2, .int x2), (3, .int x3), (4, .int x4), (5, .int x5), (8, .int x8)]) C.1 C.2.1 dX10_addWay_54 hl (k := 8) rfl (by rw [ev_19]; rfl) (by decide) rfl (fun ls hl => ?_)
      refine lv_goto (tgt := 33) C.1 C.2.1 dX10_addWay_57 (by decide) ?_
      exact hk_33 _ _ _ _ _ _ _ _ _ _ _ _ k_x0 hkm hW hZ _ (lv_sub hl [2, 3, 4, 5, 6, 7, 1, 8, 0] rfl) hE
set_option maxRecDepth 20000 in
theorem bX10_addWay_28 {p : Program} {l : Launch} {e : Env} {s : State} {m : MethodId} {args : Array Value} {below : List Frame} {meth : Method} {c : Code} {X : Ec} {h0 : Hp} {o : Hp} {F : Nat} (C : Cx X p s m args meth c RX10 cX10_addWay 10 none "addWay") {h : Hp} {x0 : Nat} {x1 : Int32} {x2 : Int32} {x3 : Int32} {x4 : Int32} {x5 : Int32} {x6 : Int64} {t0 : Int32} {H : Heap} {locs : List Loc} (k_x0 : hK h x0 = 10) (hkm : Km h0 h) (hW : Wx X h H) (hZ : va_S (aA (eB X)) s.heap H locs) (ls : Array Slot) (hl : lv_has ls 10 [(0, .ref x0), (1, .int x1), (2, .int x2), (3, .int x3), (4, .int x4), (5, .int x5), (6, .long x6)]) (hE : sX10_addWay_28 F h x0 x1 x2 x3 x4 x5 x6 t0 = some o) : W p l e (rm 0 0) s m args below meth c H locs 0 0 (MQ below (QV X h0 o) args s 0 0 (aA (eB X))) (F0 m 28 ls [.int t0]) := by
  refine lv_istore (lv' := [(8, .int t0), (0, .ref x0), (1, .int x1), (2, .int x2), (3, .int x3), (4, .int x4), (5, .int x5), (6, .long x6)]) C.1 C.2.1 dX10_addWay_28 hl (by decide) rfl (fun ls hl => ?_)
  refine lv_iconst (v := (1 : Int32)) C.1 C.2.1 dX10_addWay_30 (by decide) ?_
  refine lv_istore (lv' := [(9, .int (1 : Int32)), (8, .int t0), (0, .ref x0), (1, .int x1), (2, .int x2), (3, .int x3), (4, .int x4), (5, .int x5), (6, .long x6)]) C.1 C.2.1 dX10_addWay_31 hl (by decide) rfl (fun ls hl => ?_)
  exact bX10_addWay_33 C F k_x0 hkm hW hZ _ (lv_sub hl [2, 3, 4, 5, 6, 7, 8, 1, 0] rfl) hE
set_option maxRecDepth 20000 in
theorem ct_X10_addWay (l : Launch) (X : Ec) (F : Nat) {h : Hp} {x0 : Nat} {x1 : Int32} {x2 : Int32} {x3 : Int32} {x4 : Int32} {x5 : Int32} {o : Hp} (k_x0 : hK h x0 = 10) (hE : sX10_addWay F h x0 x1 x2 x3 x4 x5 = some o) : MetV l yX10_addWay cX10_addWay 10 none 0 0 X [.ref x0, .int x1, .int x2, .int x3, .int x4, .int x5] h o := by
  refine x_met (by decide) (Nat.le_of_ble_eq_true rfl) ?_
  intro p e s m below meth c ls C hl hW hZ
  have hl : lv_has ls 10 [(0, .ref x0), (1, .int x1), (2, .int x2), (3, .int x3), (4, .int x4), (5, .int x5)] := hl
  have hkm : Km h h := Km.rf h
  refine lv_aload_n C.1 C.2.1 dX10_addWay_0 rfl (lv_at hl 0 rfl) ?_
  refine gf_X10_40 C hW k_x0 dX10_addWay_1 ?_
  refine lv_ldc (v := (172032 : Int32)) C.1 C.2.1 C.2.2.2.1 (C.2.2.2.2.1 _ m_224) dX10_addWay_4 ?_
  refine lv_icmp_lt (tgt := 10) C.1 C.2.1 dX10_addWay_6 (by decide) (fun c_1 => ?_) (fun c_1 => ?_)
  · have hE := br_p hE c_1
    refine lv_lconst (v := (0 : Int64)) C.1 C.2.1 dX10_addWay_10 (by decide) ?_
    refine lv_lstore (lv' := [(6, .long (0 : Int64)), (0, .ref x0), (1, .int x1), (2, .int x2), (3, .int x3), (4, .int x4), (5, .int x5)]) C.1 C.2.1 dX10_addWay_11 hl (by decide) rfl (fun ls hl => ?_)
    refine lv_iload C.1 C.2.1 dX10_addWay_13 (lv_at hl 6 rfl) ?_
    refine lv_if_le (tgt := 27) C.1 C.2.1 dX10_addWay_15 (by decide) (fun c_2 => ?_) (fun c_2 => ?_)
    · have hE := br_p hE c_2
      refine lv_iconst (v := (0 : Int32)) C.1 C.2.1 dX10_addWay_27 (by decide) ?_
      exact bX10_addWay_28 C k_x0 hkm hW hZ _ (lv_sub hl [1, 2, 3, 4, 5, 6, 0] rfl) hE
    · have hE := br_n hE c_2
      refine lv_iload_n C.1 C.2.1 dX10_addWay_18 rfl (lv_at hl 4 rfl) ?_
      refine lv_iload_n C.1 C.2.1 dX10_addWay_19 rfl (lv_at hl 3 rfl) ?_
      refine lv_isub C.1 C.2.1 dX10_addWay_20 ?_
      refine lv_iload C.1 C.2.1 dX10_addWay_21 (lv_at hl 6 rfl) ?_
      obtain ⟨g_3, hE⟩ := gd_e hE
      refine lv_idiv C.1 C.2.1 dX10_addWay_23 g_3 ?_
      refine lv_goto (tgt := 28) C.1 C.2.1 dX10_addWay_24 (by decide) ?_
      exact bX10_addWay_28 C k_x0 hkm hW hZ _ (lv_sub hl [1, 2, 3, 4, 5, 6, 0] rfl) hE
  · have hE := br_n hE c_1
    exact x_vret C rfl hW hZ hkm hE dX10_addWay_9
set_option maxRecDepth 100000 in
theorem ms_26 : Cond.selects RX10 yX10_addWay yX10_addWay ∈ W0 := w0_in (List.mem_append_left _ (List.mem_of_getElem? (i := 26) rfl)) rfl
set_option maxRecDepth 100000 in
theorem ms_23 : Cond.selects RX10 yX10_reach yX10_reach ∈ W0 := w0_in (List.mem_append_left _ (List.mem_of_getElem? (i := 23) rfl)) rfl
set_option maxRecDepth 100000 in
theorem m_73 : Cond.fieldLink RX10 77 (TX1 2).1 (TX1 2).2.1 (TX1 2).2.2.1 ∈ W0 := w0_in (List.mem_append_right _ (List.mem_of_getElem? (i := 73) rfl)) rfl
set_option maxRecDepth 100000 in
theorem m_802 : Cond.methodLink RX10 80 yX10_reach ∈ W0 := w0_in (List.mem_append_right _ (List.mem_of_getElem? (i := 802) rfl)) rfl
set_option maxRecDepth 100000 in
theorem m_804 : Cond.instanceMethod yX10_reach ∈ W0 := w0_in (List.mem_append_right _ (List.mem_of_getElem? (i := 804) rfl)) rfl
set_option maxRecDepth 100000 in
theorem m_805 : Cond.code yX10_reach cX10_reach 12 (some .long) ∈ W0 := w0_in (List.mem_append_right _ (List.mem_of_getElem? (i := 805) rfl)) rfl
set_option maxRecDepth 100000 in
theorem m_814 : Cond.methodLink RX10 64 yX10_cell ∈ W0 := w0_in (List.mem_append_right _ (List.mem_of_getElem? (i := 814) rfl)) rfl
set_option maxRecDepth 100000 in
theorem m_815 : Cond.static yX10_cell ∈ W0 := w0_in (List.mem_append_right _ (List.mem_of_getElem? (i := 815) rfl)) rfl
set_option maxRecDepth 100000 in
theorem m_816 : Cond.code yX10_cell cX10_cell 3 (some .int) ∈ W0 := w0_in (List.mem_append_right _ (List.mem_of_getElem? (i := 816) rfl)) rfl
set_option maxRecDepth 100000 in
theorem m_817 : Cond.methodLink RX10 90 yX10_addWay ∈ W0 := w0_in (List.mem_append_right _ (List.mem_of_getElem? (i := 817) rfl)) rfl
set_option maxRecDepth 100000 in
theorem m_819 : Cond.instanceMethod yX10_addWay ∈ W0 := w0_in (List.mem_append_right _ (List.mem_of_getElem? (i := 819) rfl)) rfl
set_option maxRecDepth 100000 in
theorem m_820 : Cond.code yX10_addWay cX10_addWay 10 none ∈ W0 := w0_in (List.mem_append_right _ (List.mem_of_getElem? (i := 820) rfl)) rfl
section
variable {p : Program} {l : Launch} {e : Env} {R : Room} {s : State} {m : MethodId} {args : Array Value} {below : List Frame} {meth : Method} {c : Code} {H : Heap} {locs : List Loc} {cells slots : Nat} {Q : State → Prop}
variable {cc : ByteArray} {pc : Nat} {ls : Array Slot} {rest : List Value} {X : Ec} {h h1 : Hp} {nL : Nat} {rt : Option FieldType} {mn : String}
theorem gf_X10_10 {a r : Nat} (C : Cx X p s m args meth c RX10 cc nL rt mn) (hW : Wx X h H) (ha : hK h a = 10) (hr : hR h a 0 = some r) (hdg : decode cc pc = .ok (.getfield 10, 3)) (kk : hK h r = 17 → W p l e R s m args below meth c H locs cells slots Q (F0 m (pc + 3) ls (.ref r :: rest))) : W p l e R s m args below meth c H locs cells slots Q (F0 m pc ls (.ref a :: rest)) :=
  y_getr C hW ha i_X10 (by decide) rfl (by decide) m_225 rfl rfl hr hdg kk
theorem gf_X10_77 {a : Nat} (C : Cx X p s m args meth c RX10 cc nL rt mn) (hW : Wx X h H) (ha : hK h a = 1) (hdg : decode cc pc = .ok (.getfield 77, 3)) (kk : W p l e R s m args below meth c H locs cells slots Q (F0 m (pc + 3) ls (.int (hI h a 2) :: rest))) : W p l e R s m args below meth c H locs cells slots Q (F0 m pc ls (.ref a :: rest)) :=
  y_geti C hW ha i_X1 (by decide) rfl (by decide) m_73 rfl hdg kk
end
theorem cw_X10_90 : cwd RX10 90 yX10_addWay cX10_addWay 10 none false 5 := ⟨m_820, m_817, m_6, ⟨m_819, ms_26⟩, by decide, by decide, by decide +kernel⟩
theorem cw_X10_64 : cwd RX10 64 yX10_cell cX10_cell 3 (some .int) true 3 := ⟨m_816, m_814, m_6, m_815, by decide, by decide, by decide +kernel⟩
theorem cw_X10_80 : cwd RX10 80 yX10_reach cX10_reach 12 (some .long) false 2 := ⟨m_805, m_802, m_6, ⟨m_804, ms_23⟩, by decide, by decide, by decide +kernel⟩
theorem dX10_layFrom_0 : decode cX10_layFrom 0 = .ok (.iload_n 2, 1) := by decide +kernel
theorem dX10_layFrom_1 : decode cX10_layFrom 1 = .ok (.aload_n 0, 1) := by decide +kernel
theorem dX10_layFrom_2 : decode cX10_layFrom 2 = .ok (.getfield 36, 3) := by decide +kernel
theorem dX10_layFrom_5 : decode cX10_layFrom 5 = .ok (.getfield 77, 3) := by decide +kernel
theorem dX10_layFrom_8 : decode cX10_layFrom 8 = .ok (.if_icmp .ge 12, 3) := by decide +kernel
theorem dX10_layFrom_11 : decode cX10_layFrom 11 = .ok (.aload_n 0, 1) := by decide +kernel
theorem dX10_layFrom_12 : decode cX10_layFrom 12 = .ok (.iload_n 1, 1) := by decide +kernel
theorem dX10_layFrom_13 : decode cX10_layFrom 13 = .ok (.iload_n 2, 1) := by decide +kernel
theorem dX10_layFrom_14 : decode cX10_layFrom 14 = .ok (.invokevirtual 80, 3) := by decide +kernel
theorem dX10_layFrom_17 : decode cX10_layFrom 17 = .ok (.goto 4, 3) := by decide +kernel
theorem dX10_layFrom_20 : decode cX10_layFrom 20 = .ok (.lconst 0, 1) := by decide +kernel
theorem dX10_layFrom_21 : decode cX10_layFrom 21 = .ok (.lstore_n 3, 1) := by decide +kernel
theorem dX10_layFrom_22 : decode cX10_layFrom 22 = .ok (.iload_n 1, 1) := by decide +kernel
theorem dX10_layFrom_23 : decode cX10_layFrom 23 = .ok (.iconst 1, 1) := by decide +kernel
theorem dX10_layFrom_24 : decode cX10_layFrom 24 = .ok (.ishr, 1) := by decide +kernel
theorem dX10_layFrom_25 : decode cX10_layFrom 25 = .ok (.istore 5, 2) := by decide +kernel
theorem dX10_layFrom_27 : decode cX10_layFrom 27 = .ok (.iconst 0, 1) := by decide +kernel
theorem dX10_layFrom_28 : decode cX10_layFrom 28 = .ok (.istore 6, 2) := by decide +kernel
theorem dX10_layFrom_30 : decode cX10_layFrom 30 = .ok (.iload 6, 2) := by decide +kernel
theorem dX10_layFrom_32 : decode cX10_layFrom 32 = .ok (.bipush 64, 2) := by decide +kernel
theorem dX10_layFrom_34 : decode cX10_layFrom 34 = .ok (.if_icmp .ge 126, 3) := by decide +kernel
theorem dX10_layFrom_37 : decode cX10_layFrom 37 = .ok (.aload_n 0, 1) := by decide +kernel
theorem dX10_layFrom_38 : decode cX10_layFrom 38 = .ok (.getfield 10, 3) := by decide +kernel
theorem dX10_layFrom_41 : decode cX10_layFrom 41 = .ok (.iload_n 1, 1) := by decide +kernel
theorem dX10_layFrom_42 : decode cX10_layFrom 42 = .ok (.iload_n 2, 1) := by decide +kernel
theorem dX10_layFrom_43 : decode cX10_layFrom 43 = .ok (.iload 6, 2) := by decide +kernel
theorem dX10_layFrom_45 : decode cX10_layFrom 45 = .ok (.invokestatic 64, 3) := by decide +kernel
theorem dX10_layFrom_48 : decode cX10_layFrom 48 = .ok (.aload_n 0, 1) := by decide +kernel
theorem dX10_layFrom_49 : decode cX10_layFrom 49 = .ok (.getfield 40, 3) := by decide +kernel
theorem dX10_layFrom_52 : decode cX10_layFrom 52 = .ok (.iastore, 1) := by decide +kernel
theorem dX10_layFrom_53 : decode cX10_layFrom 53 = .ok (.lload_n 3, 1) := by decide +kernel
theorem dX10_layFrom_54 : decode cX10_layFrom 54 = .ok (.iload 6, 2) := by decide +kernel
theorem dX10_layFrom_56 : decode cX10_layFrom 56 = .ok (.lushr, 1) := by decide +kernel
theorem dX10_layFrom_57 : decode cX10_layFrom 57 = .ok (.lconst 1, 1) := by decide +kernel
theorem dX10_layFrom_58 : decode cX10_layFrom 58 = .ok (.land, 1) := by decide +kernel
theorem dX10_layFrom_59 : decode cX10_layFrom 59 = .ok (.lconst 0, 1) := by decide +kernel
theorem dX10_layFrom_60 : decode cX10_layFrom 60 = .ok (.lcmp, 1) := by decide +kernel
theorem dX10_layFrom_61 : decode cX10_layFrom 61 = .ok (.ifCond .ne 6, 3) := by decide +kernel
theorem dX10_layFrom_64 : decode cX10_layFrom 64 = .ok (.goto 90, 3) := by decide +kernel
theorem dX10_layFrom_67 : decode cX10_layFrom 67 = .ok (.iconst 0, 1) := by decide +kernel
theorem dX10_layFrom_68 : decode cX10_layFrom 68 = .ok (.istore 7, 2) := by decide +kernel
theorem dX10_layFrom_70 : decode cX10_layFrom 70 = .ok (.iload 7, 2) := by decide +kernel
theorem dX10_layFrom_72 : decode cX10_layFrom 72 = .ok (.aload_n 0, 1) := by decide +kernel
theorem dX10_layFrom_73 : decode cX10_layFrom 73 = .ok (.getfield 36, 3) := by decide +kernel
theorem dX10_layFrom_76 : decode cX10_layFrom 76 = .ok (.getfield 84, 3) := by decide +kernel
theorem dX10_layFrom_79 : decode cX10_layFrom 79 = .ok (.iload 5, 2) := by decide +kernel
theorem dX10_layFrom_81 : decode cX10_layFrom 81 = .ok (.iaload, 1) := by decide +kernel
theorem dX10_layFrom_82 : decode cX10_layFrom 82 = .ok (.if_icmp .ge 72, 3) := by decide +kernel
theorem dX10_layFrom_85 : decode cX10_layFrom 85 = .ok (.aload_n 0, 1) := by decide +kernel
theorem dX10_layFrom_86 : decode cX10_layFrom 86 = .ok (.getfield 33, 3) := by decide +kernel
theorem dX10_layFrom_89 : decode cX10_layFrom 89 = .ok (.iload 6, 2) := by decide +kernel
theorem dX10_layFrom_91 : decode cX10_layFrom 91 = .ok (.bipush 8, 2) := by decide +kernel
theorem dX10_layFrom_93 : decode cX10_layFrom 93 = .ok (.imul, 1) := by decide +kernel
theorem dX10_layFrom_94 : decode cX10_layFrom 94 = .ok (.iload 7, 2) := by decide +kernel
theorem dX10_layFrom_96 : decode cX10_layFrom 96 = .ok (.iadd, 1) := by decide +kernel
theorem dX10_layFrom_97 : decode cX10_layFrom 97 = .ok (.iaload, 1) := by decide +kernel
theorem dX10_layFrom_98 : decode cX10_layFrom 98 = .ok (.istore 8, 2) := by decide +kernel
theorem dX10_layFrom_100 : decode cX10_layFrom 100 = .ok (.iload 8, 2) := by decide +kernel
theorem dX10_layFrom_102 : decode cX10_layFrom 102 = .ok (.ifCond .le 46, 3) := by decide +kernel
theorem dX10_layFrom_105 : decode cX10_layFrom 105 = .ok (.aload_n 0, 1) := by decide +kernel
theorem dX10_layFrom_106 : decode cX10_layFrom 106 = .ok (.iload_n 1, 1) := by decide +kernel
theorem dX10_layFrom_107 : decode cX10_layFrom 107 = .ok (.iload_n 2, 1) := by decide +kernel
theorem dX10_layFrom_108 : decode cX10_layFrom 108 = .ok (.iload 6, 2) := by decide +kernel
theorem dX10_layFrom_110 : decode cX10_layFrom 110 = .ok (.aload_n 0, 1) := by decide +kernel
theorem dX10_layFrom_111 : decode cX10_layFrom 111 = .ok (.getfield 36, 3) := by decide +kernel
theorem dX10_layFrom_114 : decode cX10_layFrom 114 = .ok (.getfield 87, 3) := by decide +kernel
theorem dX10_layFrom_117 : decode cX10_layFrom 117 = .ok (.iload 5, 2) := by decide +kernel
theorem dX10_layFrom_119 : decode cX10_layFrom 119 = .ok (.bipush 8, 2) := by decide +kernel
theorem dX10_layFrom_121 : decode cX10_layFrom 121 = .ok (.imul, 1) := by decide +kernel
theorem dX10_layFrom_122 : decode cX10_layFrom 122 = .ok (.iload 7, 2) := by decide +kernel
theorem dX10_layFrom_124 : decode cX10_layFrom 124 = .ok (.iadd, 1) := by decide +kernel
theorem dX10_layFrom_125 : decode cX10_layFrom 125 = .ok (.iaload, 1) := by decide +kernel
theorem dX10_layFrom_126 : decode cX10_layFrom 126 = .ok (.bipush 63, 2) := by decide +kernel
theorem dX10_layFrom_128 : decode cX10_layFrom 128 = .ok (.iand, 1) := by decide +kernel
theorem dX10_layFrom_129 : decode cX10_layFrom 129 = .ok (.iload 8, 2) := by decide +kernel
theorem dX10_layFrom_131 : decode cX10_layFrom 131 = .ok (.invokevirtual 90, 3) := by decide +kernel
theorem dX10_layFrom_134 : decode cX10_layFrom 134 = .ok (.aload_n 0, 1) := by decide +kernel
theorem dX10_layFrom_135 : decode cX10_layFrom 135 = .ok (.getfield 33, 3) := by decide +kernel
theorem dX10_layFrom_138 : decode cX10_layFrom 138 = .ok (.iload 6, 2) := by decide +kernel
theorem dX10_layFrom_140 : decode cX10_layFrom 140 = .ok (.bipush 8, 2) := by decide +kernel
theorem dX10_layFrom_142 : decode cX10_layFrom 142 = .ok (.imul, 1) := by decide +kernel
theorem dX10_layFrom_143 : decode cX10_layFrom 143 = .ok (.iload 7, 2) := by decide +kernel
theorem dX10_layFrom_145 : decode cX10_layFrom 145 = .ok (.iadd, 1) := by decide +kernel
theorem dX10_layFrom_146 : decode cX10_layFrom 146 = .ok (.iconst 0, 1) := by decide +kernel
theorem dX10_layFrom_147 : decode cX10_layFrom 147 = .ok (.iastore, 1) := by decide +kernel
theorem dX10_layFrom_148 : decode cX10_layFrom 148 = .ok (.iinc 7 1, 3) := by decide +kernel
theorem dX10_layFrom_151 : decode cX10_layFrom 151 = .ok (.goto (-81), 3) := by decide +kernel
theorem dX10_layFrom_154 : decode cX10_layFrom 154 = .ok (.iinc 6 1, 3) := by decide +kernel
theorem dX10_layFrom_157 : decode cX10_layFrom 157 = .ok (.goto (-127), 3) := by decide +kernel
theorem dX10_layFrom_160 : decode cX10_layFrom 160 = .ok (.return_, 1) := by decide +kernel
set_option maxRecDepth 20000 in
theorem moX10_layFrom_154 {o : Hp} {k_30 : Hp → Nat → Int32 → Int32 → Int64 → Int32 → Int32 → Option (Hp)} {F : Nat} (mk_30 : ∀ (h : Hp) (x0 : Nat) (x1 : Int32) (x2 : Int32) (x3 : Int64) (x5 : Int32) (x6 : Int32), k_30 h x0 x1 x2 x3 x5 x6 = some o → Le h o) {h : Hp} {x0 : Nat} {x1 : Int32} {x2 : Int32} {x3 : Int64} {x5 : Int32} {x6 : Int32} (hE : sX10_layFrom_154 F k_30 h x0 x1 x2 x3 x5 x6 = some o) : Le h o := by
  obtain ⟨v_1, ev_1, hE⟩ := nm_e2 hE
  exact mk_30 _ _ _ _ _ _ _ hE
set_option maxRecDepth 20000 in
theorem moX10_layFrom_148 {o : Hp} {k_30 : Hp → Nat → Int32 → Int32 → Int64 → Int32 → Int32 → Option (Hp)} {k_70 : Hp → Nat → Int32 → Int32 → Int64 → Int32 → Int32 → Int32 → Option (Hp)} {F : Nat} (mk_30 : ∀ (h : Hp) (x0 : Nat) (x1 : Int32) (x2 : Int32) (x3 : Int64) (x5 : Int32) (x6 : Int32), k_30 h x0 x1 x2 x3 x5 x6 = some o → Le h o) (mk_70 : ∀ (h : Hp) (x0 : Nat) (x1 : Int32) (x2 : Int32) (x3 : Int64) (x5 : Int32) (x6 : Int32) (x7 : Int32), k_70 h x0 x1 x2 x3 x5 x6 x7 = some o → Le h o) {h : Hp} {x0 : Nat} {x1 : Int32} {x2 : Int32} {x3 : Int64} {x5 : Int32} {x6 : Int32} {x7 : Int32} (hE : sX10_layFrom_148 F k_30 k_70 h x0 x1 x2 x3 x5 x6 x7 = some o) : Le h o := by
  obtain ⟨v_1, ev_1, hE⟩ := nm_e2 hE
  exact mk_70 _ _ _ _ _ _ _ _ hE
set_option maxRecDepth 20000 in
theorem moX10_layFrom_70 {o : Hp} {k_30 : Hp → Nat → Int32 → Int32 → Int64 → Int32 → Int32 → Option (Hp)} {F : Nat} (mk_30 : ∀ (h : Hp) (x0 : Nat) (x1 : Int32) (x2 : Int32) (x3 : Int64) (x5 : Int32) (x6 : Int32), k_30 h x0 x1 x2 x3 x5 x6 = some o → Le h o) : ∀ (f : Nat) {h : Hp} {x0 : Nat} {x1 : Int32} {x2 : Int32} {x3 : Int64} {x5 : Int32} {x6 : Int32} {x7 : Int32}, sX10_layFrom_70 F k_30 f h x0 x1 x2 x3 x5 x6 x7 = some o → Le h o := by
  intro f
  induction f with
  | zero =>
    intro h x0 x1 x2 x3 x5 x6 x7 hE
    rw [sX10_layFrom_70] at hE
    cases hE
  | succ f ih =>
    intro h x0 x1 x2 x3 x5 x6 x7 hE
    rw [sX10_layFrom_70] at hE
    have mk_70 : ∀ (h : Hp) (x0 : Nat) (x1 : Int32) (x2 : Int32) (x3 : Int64) (x5 : Int32) (x6 : Int32) (x7 : Int32), sX10_layFrom_70 F k_30 f h x0 x1 x2 x3 x5 x6 x7 = some o → Le h o := fun h x0 x1 x2 x3 x5 x6 x7 hE => ih hE
    obtain ⟨r_1, er_1, hE⟩ := cl_e hE
    obtain ⟨r_2, er_2, hE⟩ := cl_e hE
    obtain ⟨g_3, hE⟩ := gd_e hE
    rcases br_e hE with ⟨_, hE⟩ | ⟨_, hE⟩
    · exact moX10_layFrom_154 mk_30 hE
    · obtain ⟨r_5, er_5, hE⟩ := cl_e hE
      obtain ⟨g_6, hE⟩ := gd_e hE
      obtain ⟨v_7, ev_7, hE⟩ := nm_e2 hE
      rcases br_e hE with ⟨_, hE⟩ | ⟨_, hE⟩
      · exact moX10_layFrom_148 mk_30 mk_70 hE
      · obtain ⟨r_9, er_9, hE⟩ := cl_e hE
        obtain ⟨r_10, er_10, hE⟩ := cl_e hE
        obtain ⟨g_11, hE⟩ := gd_e hE
        obtain ⟨o_12, eo_12, hE⟩ := cl_e hE
        refine (moX10_addWay eo_12).tr ?_
        obtain ⟨r_13, er_13, hE⟩ := cl_e hE
        obtain ⟨g_14, hE⟩ := gd_e hE
        obtain ⟨h_15, eh_15, hE⟩ := nm_e2 hE
        refine (le_I eh_15).tr ?_
        exact moX10_layFrom_148 mk_30 mk_70 hE
set_option maxRecDepth 20000 in
theorem moX10_layFrom_30 {o : Hp} {F : Nat} : ∀ (f : Nat) {h : Hp} {x0 : Nat} {x1 : Int32} {x2 : Int32} {x3 : Int64} {x5 : Int32} {x6 : Int32}, sX10_layFrom_30 F f h x0 x1 x2 x3 x5 x6 = some o → Le h o := by
  intro f
  induction f with
  | zero =>
    intro h x0 x1 x2 x3 x5 x6 hE
    rw [sX10_layFrom_30] at hE
    cases hE
  | succ f ih =>
    intro h x0 x1 x2 x3 x5 x6 hE
    rw [sX10_layFrom_30] at hE
    have mk_30 : ∀ (h : Hp) (x0 : Nat) (x1 : Int32) (x2 : Int32) (x3 : Int64) (x5 : Int32) (x6 : Int32), sX10_layFrom_30 F f h x0 x1 x2 x3 x5 x6 = some o → Le h o := fun h x0 x1 x2 x3 x5 x6 hE => ih hE
    rcases br_e hE with ⟨_, hE⟩ | ⟨_, hE⟩
    · exact le_some1 hE
    · obtain ⟨r_2, er_2, hE⟩ := cl_e hE
      obtain ⟨o_3, eo_3, hE⟩ := cl_e hE
      refine (moX10_cell eo_3).tr ?_
      obtain ⟨g_4, hE⟩ := gd_e hE
      obtain ⟨h_5, eh_5, hE⟩ := nm_e2 hE
      refine (le_I eh_5).tr ?_
      rcases br_e hE with ⟨_, hE⟩ | ⟨_, hE⟩
      · exact moX10_layFrom_154 mk_30 hE
      · exact moX10_layFrom_70 mk_30 _ hE
set_option maxRecDepth 20000 in
theorem moX10_layFrom_21 {o : Hp} {F : Nat} {h : Hp} {x0 : Nat} {x1 : Int32} {x2 : Int32} {t0 : Int64} (hE : sX10_layFrom_21 F h x0 x1 x2 t0 = some o) : Le h o := by
  obtain ⟨v_1, ev_1, hE⟩ := nm_e2 hE
  exact moX10_layFrom_30 _ hE
set_option maxRecDepth 20000 in
theorem moX10_layFrom {o : Hp} {F : Nat} {h : Hp} {x0 : Nat} {x1 : Int32} {x2 : Int32} (hE : sX10_layFrom F h x0 x1 x2 = some o) : Le h o := by
  obtain ⟨r_1, er_1, hE⟩ := cl_e hE
  rcases br_e hE with ⟨_, hE⟩ | ⟨_, hE⟩
  · exact moX10_layFrom_21 hE
  · obtain ⟨o_3, eo_3, hE⟩ := cl_e hE
    refine (moX10_reach eo_3).tr ?_
    exact moX10_layFrom_21 hE
set_option maxRecDepth 20000 in
theorem bX10_layFrom_154 {p : Program} {l : Launch} {e : Env} {s : State} {m : MethodId} {args : Array Value} {below : List Frame} {meth : Method} {c : Code} {X : Ec} {h0 : Hp} {o : Hp} {k_30 : Hp → Nat → Int32 → Int32 → Int64 → Int32 → Int32 → Option (Hp)} {F : Nat} (C : Cx X p s m args meth c RX10 cX10_layFrom 9 none "layFrom") (hk_30 : ∀ (h : Hp) (x0 : Nat) (x1 : Int32) (x2 : Int32) (x3 : Int64) (x5 : Int32) (x6 : Int32) (H : Heap) (locs : List Loc), hK h x0 = 10 → Km h0 h → Wx X h H → va_S (aA (eB X)) s.heap H locs → ∀ (ls : Array Slot), lv_has ls 9 [(0, .ref x0), (1, .int x1), (2, .int x2), (3, .long x3), (5, .int x5), (6, .int x6)] → k_30 h x0 x1 x2 x3 x5 x6 = some o → W p l e (rm 3 89) s m args below meth c H locs 0 0 (MQ below (QV X h0 o) args s 0 0 (aA (eB X))) (F0 m 30 ls [])) {h : Hp} {x0 : Nat} {x1 : Int32} {x2 : Int32} {x3 : Int64} {x5 : Int32} {x6 : Int32} {H : Heap} {locs : List Loc} (k_x0 : hK h x0 = 10) (hkm : Km h0 h) (hW : Wx X h H) (hZ : va_S (aA (eB X)) s.heap H locs) (ls : Array Slot) (hl : lv_has ls 9 [(0, .ref x0), (1, .int x1), (2, .int x2), (3, .long x3), (5, .int x5), (6, .int x6)]) (hE : sX10_layFrom_154 F k_30 h x0 x1 x2 x3 x5 x6 = some o) : W p l e (rm 3 89) s m args below meth c H locs 0 0 (MQ below (QV X h0 o) args s 0 0 (aA (eB X))) (F0 m 154 ls []) := by
  obtain ⟨v_1, ev_1, hE⟩ := nm_e2 hE
  refine lv_iinc (v := v_1) (lv' := [(6, .int v_1), (0, .ref x0), (1, .int x1), (2, .int x2), (3, .long x3), (5, .int x5)]) C.1 C.2.1 dX10_layFrom_154 hl (k := 5) rfl (by rw [ev_1]; rfl) (by decide) rfl (fun ls hl => ?_)
  refine lv_goto (tgt := 30) C.1 C.2.1 dX10_layFrom_157 (by decide) ?_
  exact hk_30 _ _ _ _ _ _ _ _ _ k_x0 hkm hW hZ _ (lv_sub hl [1, 2, 3, 4, 5, 0] rfl) hE
set_option maxRecDepth 20000 in
theorem bX10_layFrom_148 {p : Program} {l : Launch} {e : Env} {s : State} {m : MethodId} {args : Array Value} {below : List Frame} {meth : Method} {c : Code} {X : Ec} {h0 : Hp} {o : Hp} {k_30 : Hp → Nat → Int32 → Int32 → Int64 → Int32 → Int32 → Option (Hp)} {k_70 : Hp → Nat → Int32 → Int32 → Int64 → Int32 → Int32 → Int32 → Option (Hp)} {F : Nat} (C : Cx X p s m args meth c RX10 cX10_layFrom 9 none "layFrom") (hk_30 : ∀ (h : Hp) (x0 : Nat) (x1 : Int32) (x2 : Int32) (x3 : Int64) (x5 : Int32) (x6 : Int32) (H : Heap) (locs : List Loc), hK h x0 = 10 → Km h0 h → Wx X h H → va_S (aA (eB X)) s.heap H locs → ∀ (ls : Array Slot), lv_has ls 9 [(0, .ref x0), (1, .int x1), (2, .int x2), (3, .long x3), (5, .int x5), (6, .int x6)] → k_30 h x0 x1 x2 x3 x5 x6 = some o → W p l e (rm 3 89) s m args below meth c H locs 0 0 (MQ below (QV X h0 o) args s 0 0 (aA (eB X))) (F0 m 30 ls [])) (hk_70 : ∀ (h : Hp) (x0 : Nat) (x1 : Int32) (x2 : Int32) (x3 : Int64) (x5 : Int32) (x6 : Int32) (x7 : Int32) (H : Heap) (locs : List Loc), hK h x0 = 10 → Km h0 h → Wx X h H → va_S (aA (eB X)) s.heap H locs → ∀ (ls : Array Slot), lv_has ls 9 [(0, .ref x0), (1, .int x1), (2, .int x2), (3, .long x3), (5, .int x5), (6, .int x6), (7, .int x7)] → k_70 h x0 x1 x2 x3 x5 x6 x7 = some o → W p l e (rm 3 89) s m args below meth c H locs 0 0 (MQ below (QV X h0 o) args s 0 0 (aA (eB X))) (F0 m 70 ls [])) {h : Hp} {x0 : Nat} {x1 : Int32} {x2 : Int32} {x3 : Int64} {x5 : Int32} {x6 : Int32} {x7 : Int32} {H : Heap} {locs : List Loc} (k_x0 : hK h x0 = 10) (hkm : Km h0 h) (hW : Wx X h H) (hZ : va_S (aA (eB X)) s.heap H locs) (ls : Array Slot) (hl : lv_has ls 9 [(0, .ref x0), (1, .int x1), (2, .int x2), (3, .long x3), (5, .int x5), (6, .int x6), (7, .int x7)]) (hE : sX10_layFrom_148 F k_30 k_70 h x0 x1 x2 x3 x5 x6 x7 = some o) : W p l e (rm 3 89) s m args below meth c H locs 0 0 (MQ below (QV X h0 o) args s 0 0 (aA (eB X))) (F0 m 148 ls []) := by
  obtain ⟨v_1, ev_1, hE⟩ := nm_e2 hE
  refine lv_iinc (v := v_1) (lv' := [(7, .int v_1), (0, .ref x0), (1, .int x1), (2, .int x2), (3, .long x3), (5, .int x5), (6, .int x6)]) C.1 C.2.1 dX10_layFrom_148 hl (k := 6) rfl (by rw [ev_1]; rfl) (by decide) rfl (fun ls hl => ?_)
  refine lv_goto (tgt := 70) C.1 C.2.1 dX10_layFrom_151 (by decide) ?_
  exact hk_70 _ _ _ _ _ _ _ _ _ _ k_x0 hkm hW hZ _ (lv_sub hl [1, 2, 3, 4, 5, 6, 0] rfl) hE
set_option maxRecDepth 20000 in
theorem bX10_layFrom_70 {p : Program} {l : Launch} {e : Env} {s : State} {m : MethodId} {args : Array Value} {below : List Frame} {meth : Method} {c : Code} {X : Ec} {h0 : Hp} {o : Hp} {k_30 : Hp → Nat → Int32 → Int32 → Int64 → Int32 → Int32 → Option (Hp)} {F : Nat} (C : Cx X p s m args meth c RX10 cX10_layFrom 9 none "layFrom") (hk_30 : ∀ (h : Hp) (x0 : Nat) (x1 : Int32) (x2 : Int32) (x3 : Int64) (x5 : Int32) (x6 : Int32) (H : Heap) (locs : List Loc), hK h x0 = 10 → Km h0 h → Wx X h H → va_S (aA (eB X)) s.heap H locs → ∀ (ls : Array Slot), lv_has ls 9 [(0, .ref x0), (1, .int x1), (2, .int x2), (3, .long x3), (5, .int x5), (6, .int x6)] → k_30 h x0 x1 x2 x3 x5 x6 = some o → W p l e (rm 3 89) s m args below meth c H locs 0 0 (MQ below (QV X h0 o) args s 0 0 (aA (eB X))) (F0 m 30 ls [])) : ∀ (f : Nat) {h : Hp} {x0 : Nat} {x1 : Int32} {x2 : Int32} {x3 : Int64} {x5 : Int32} {x6 : Int32} {x7 : Int32} {H : Heap} {locs : List Loc} (k_x0 : hK h x0 = 10), Km h0 h → Wx X h H → va_S (aA (eB X)) s.heap H locs → ∀ (ls : Array Slot), lv_has ls 9 [(0, .ref x0), (1, .int x1), (2, .int x2), (3, .long x3), (5, .int x5), (6, .int x6), (7, .int x7)] → sX10_layFrom_70 F k_30 f h x0 x1 x2 x3 x5 x6 x7 = some o → W p l e (rm 3 89) s m args below meth c H locs 0 0 (MQ below (QV X h0 o) args s 0 0 (aA (eB X))) (F0 m 70 ls []) := by
  intro f
  induction f with
  | zero =>
    intro h x0 x1 x2 x3 x5 x6 x7 H locs k_x0 hkm hW hZ ls hl hE
    rw [sX10_layFrom_70] at hE
    cases hE
  | succ f ih =>
    intro h x0 x1 x2 x3 x5 x6 x7 H locs k_x0 hkm hW hZ ls hl hE
    rw [sX10_layFrom_70] at hE
    have hk_70 : ∀ (h : Hp) (x0 : Nat) (x1 : Int32) (x2 : Int32) (x3 : Int64) (x5 : Int32) (x6 : Int32) (x7 : Int32) (H : Heap) (locs : List Loc), hK h x0 = 10 → Km h0 h → Wx X h H → va_S (aA (eB X)) s.heap H locs → ∀ (ls : Array Slot), lv_has ls 9 [(0, .ref x0), (1, .int x1), (2, .int x2), (3, .long x3), (5, .int x5), (6, .int x6), (7, .int x7)] → sX10_layFrom_70 F k_30 f h x0 x1 x2 x3 x5 x6 x7 = some o → W p l e (rm 3 89) s m args below meth c H locs 0 0 (MQ below (QV X h0 o) args s 0 0 (aA (eB X))) (F0 m 70 ls []) := fun h x0 x1 x2 x3 x5 x6 x7 H locs k_x0 a b c ls hl hE => ih k_x0 a b c ls hl hE
    refine lv_iload C.1 C.2.1 dX10_layFrom_70 (lv_at hl 6 rfl) ?_
    refine lv_aload_n C.1 C.2.1 dX10_layFrom_72 rfl (lv_at hl 0 rfl) ?_
    obtain ⟨r_1, er_1, hE⟩ := cl_e hE
    refine gf_X10_36 C hW k_x0 er_1 dX10_layFrom_73 (fun k_r_1 => ?_)
    obtain ⟨r_2, er_2, hE⟩ := cl_e hE
    refine gf_X10_84 C hW k_r_1 er_2 dX10_layFrom_76 (fun k_r_2 => ?_)
    refine lv_iload C.1 C.2.1 dX10_layFrom_79 (lv_at hl 4 rfl) ?_
    obtain ⟨g_3, hE⟩ := gd_e hE
    refine y_iald C hW k_r_2 g_3 dX10_layFrom_81 ?_
    refine lv_icmp_ge (tgt := 154) C.1 C.2.1 dX10_layFrom_82 (by decide) (fun c_4 => ?_) (fun c_4 => ?_)
    · have hE := br_p hE c_4
      exact bX10_layFrom_154 C hk_30 k_x0 hkm hW hZ _ (lv_sub hl [0, 1, 2, 3, 4, 5] rfl) hE
    · have hE := br_n hE c_4
      refine lv_aload_n C.1 C.2.1 dX10_layFrom_85 rfl (lv_at hl 0 rfl) ?_
      obtain ⟨r_5, er_5, hE⟩ := cl_e hE
      refine gf_X10_33 C hW k_x0 er_5 dX10_layFrom_86 (fun k_r_5 => ?_)
      refine lv_iload C.1 C.2.1 dX10_layFrom_89 (lv_at hl 5 rfl) ?_
      refine lv_bipush (v := (8 : Int32)) C.1 C.2.1 dX10_layFrom_91 (by decide) ?_
      refine lv_imul C.1 C.2.1 dX10_layFrom_93 ?_
      refine lv_iload C.1 C.2.1 dX10_layFrom_94 (lv_at hl 6 rfl) ?_
      refine lv_iadd C.1 C.2.1 dX10_layFrom_96 ?_
      obtain ⟨g_6, hE⟩ := gd_e hE
      refine y_iald C hW k_r_5 g_6 dX10_layFrom_97 ?_
      obtain ⟨v_7, ev_7, hE⟩ := nm_e2 hE
      refine x_nmI ev_7 ?_
      refine lv_istore (lv' := [(8, .int v_7), (0, .ref x0), (1, .int x1), (2, .int x2), (3, .long x3), (5, .int x5), (6, .int x6), (7, .int x7)]) C.1 C.2.1 dX10_layFrom_98 hl (by decide) rfl (fun ls hl => ?_)
      refine lv_iload C.1 C.2.1 dX10_layFrom_100 (lv_at hl 0 rfl) ?_
      refine lv_if_le (tgt := 148) C.1 C.2.1 dX10_layFrom_102 (by decide) (fun c_8 => ?_) (fun c_8 => ?_)
      · have hE := br_p hE c_8
        exact bX10_layFrom_148 C hk_30 hk_70 k_x0 hkm hW hZ _ (lv_sub hl [1, 2, 3, 4, 5, 6, 7] rfl) hE
      · have hE := br_n hE c_8
        refine lv_aload_n C.1 C.2.1 dX10_layFrom_105 rfl (lv_at hl 1 rfl) ?_
        refine lv_iload_n C.1 C.2.1 dX10_layFrom_106 rfl (lv_at hl 2 rfl) ?_
        refine lv_iload_n C.1 C.2.1 dX10_layFrom_107 rfl (lv_at hl 3 rfl) ?_
        refine lv_iload C.1 C.2.1 dX10_layFrom_108 (lv_at hl 6 rfl) ?_
        refine lv_aload_n C.1 C.2.1 dX10_layFrom_110 rfl (lv_at hl 1 rfl) ?_
        obtain ⟨r_9, er_9, hE⟩ := cl_e hE
        refine gf_X10_36 C hW k_x0 er_9 dX10_layFrom_111 (fun k_r_9 => ?_)
        obtain ⟨r_10, er_10, hE⟩ := cl_e hE
        refine gf_X10_87 C hW k_r_9 er_10 dX10_layFrom_114 (fun k_r_10 => ?_)
        refine lv_iload C.1 C.2.1 dX10_layFrom_117 (lv_at hl 5 rfl) ?_
        refine lv_bipush (v := (8 : Int32)) C.1 C.2.1 dX10_layFrom_119 (by decide) ?_
        refine lv_imul C.1 C.2.1 dX10_layFrom_121 ?_
        refine lv_iload C.1 C.2.1 dX10_layFrom_122 (lv_at hl 7 rfl) ?_
        refine lv_iadd C.1 C.2.1 dX10_layFrom_124 ?_
        obtain ⟨g_11, hE⟩ := gd_e hE
        refine y_iald C hW k_r_10 g_11 dX10_layFrom_125 ?_
        refine lv_bipush (v := (63 : Int32)) C.1 C.2.1 dX10_layFrom_126 (by decide) ?_
        refine lv_iand C.1 C.2.1 dX10_layFrom_128 ?_
        refine lv_iload C.1 C.2.1 dX10_layFrom_129 (lv_at hl 0 rfl) ?_
        obtain ⟨o_12, eo_12, hE⟩ := cl_e hE
        refine x_kV (o := o_12) (z_runV (As := [.int x1, .int x2, .int x6, .int ((hI h r_10 ((x5 * (8 : Int32)) + x7).toNatClampNeg) &&& (63 : Int32)), .int v_7]) (rest := []) C (ct_X10_addWay l X F k_x0 eo_12) cw_X10_90 hW hZ k_x0 (by decide) rfl rfl rfl hl.1 (Nat.le_of_ble_eq_true rfl) rfl dX10_layFrom_131 ⟨Nat.le_of_ble_eq_true rfl, Nat.le_of_ble_eq_true rfl⟩ ⟨Nat.le_refl _, Nat.le_refl _⟩) hZ (fun _ _ hW km hZ => ?_)
        replace hkm := hkm.tr km
        replace k_x0 := km.at k_x0 (by decide)
        refine lv_aload_n C.1 C.2.1 dX10_layFrom_134 rfl (lv_at hl 1 rfl) ?_
        obtain ⟨r_13, er_13, hE⟩ := cl_e hE
        refine gf_X10_33 C hW k_x0 er_13 dX10_layFrom_135 (fun k_r_13 => ?_)
        refine lv_iload C.1 C.2.1 dX10_layFrom_138 (lv_at hl 6 rfl) ?_
        refine lv_bipush (v := (8 : Int32)) C.1 C.2.1 dX10_layFrom_140 (by decide) ?_
        refine lv_imul C.1 C.2.1 dX10_layFrom_142 ?_
        refine lv_iload C.1 C.2.1 dX10_layFrom_143 (lv_at hl 7 rfl) ?_
        refine lv_iadd C.1 C.2.1 dX10_layFrom_145 ?_
        refine lv_iconst (v := (0 : Int32)) C.1 C.2.1 dX10_layFrom_146 (by decide) ?_
        obtain ⟨g_14, hE⟩ := gd_e hE
        obtain ⟨h_15, eh_15, hE⟩ := nm_e2 hE
        refine y_iast C hW hZ k_r_13 g_14 eh_15 dX10_layFrom_147 (fun _ _ hW km hZ => ?_)
        replace hkm := hkm.tr km
        replace k_x0 := km.at k_x0 (by decide)
        exact bX10_layFrom_148 C hk_30 hk_70 k_x0 hkm hW hZ _ (lv_sub hl [1, 2, 3, 4, 5, 6, 7] rfl) hE
set_option maxRecDepth 20000 in
theorem bX10_layFrom_30 {p : Program} {l : Launch} {e : Env} {s : State} {m : MethodId} {args : Array Value} {below : List Frame} {meth : Method} {c : Code} {X : Ec} {h0 : Hp} {o : Hp} {F : Nat} (C : Cx X p s m args meth c RX10 cX10_layFrom 9 none "layFrom") : ∀ (f : Nat) {h : Hp} {x0 : Nat} {x1 : Int32} {x2 : Int32} {x3 : Int64} {x5 : Int32} {x6 : Int32} {H : Heap} {locs : List Loc} (k_x0 : hK h x0 = 10), Km h0 h → Wx X h H → va_S (aA (eB X)) s.heap H locs → ∀ (ls : Array Slot), lv_has ls 9 [(0, .ref x0), (1, .int x1), (2, .int x2), (3, .long x3), (5, .int x5), (6, .int x6)] → sX10_layFrom_30 F f h x0 x1 x2 x3 x5 x6 = some o → W p l e (rm 3 89) s m args below meth c H locs 0 0 (MQ below (QV X h0 o) args s 0 0 (aA (eB X))) (F0 m 30 ls []) := by
  intro f
  induction f with
  | zero =>
    intro h x0 x1 x2 x3 x5 x6 H locs k_x0 hkm hW hZ ls hl hE
    rw [sX10_layFrom_30] at hE
    cases hE
  | succ f ih =>
    intro h x0 x1 x2 x3 x5 x6 H locs k_x0 hkm hW hZ ls hl hE
    rw [sX10_layFrom_30] at hE
    have hk_30 : ∀ (h : Hp) (x0 : Nat) (x1 : Int32) (x2 : Int32) (x3 : Int64) (x5 : Int32) (x6 : Int32) (H : Heap) (locs : List Loc), hK h x0 = 10 → Km h0 h → Wx X h H → va_S (aA (eB X)) s.heap H locs → ∀ (ls : Array Slot), lv_has ls 9 [(0, .ref x0), (1, .int x1), (2, .int x2), (3, .long x3), (5, .int x5), (6, .int x6)] → sX10_layFrom_30 F f h x0 x1 x2 x3 x5 x6 = some o → W p l e (rm 3 89) s m args below meth c H locs 0 0 (MQ below (QV X h0 o) args s 0 0 (aA (eB X))) (F0 m 30 ls []) := fun h x0 x1 x2 x3 x5 x6 H locs k_x0 a b c ls hl hE => ih k_x0 a b c ls hl hE
    refine lv_iload C.1 C.2.1 dX10_layFrom_30 (lv_at hl 5 rfl) ?_
    refine lv_bipush (v := (64 : Int32)) C.1 C.2.1 dX10_layFrom_32 (by decide) ?_
    refine lv_icmp_ge (tgt := 160) C.1 C.2.1 dX10_layFrom_34 (by decide) (fun c_1 => ?_) (fun c_1 => ?_)
    · have hE := br_p hE c_1
      exact x_vret C rfl hW hZ hkm hE dX10_layFrom_160
    · have hE := br_n hE c_1
      refine lv_aload_n C.1 C.2.1 dX10_layFrom_37 rfl (lv_at hl 0 rfl) ?_
      obtain ⟨r_2, er_2, hE⟩ := cl_e hE
      refine gf_X10_10 C hW k_x0 er_2 dX10_layFrom_38 (fun k_r_2 => ?_)
      refine lv_iload_n C.1 C.2.1 dX10_layFrom_41 rfl (lv_at hl 1 rfl) ?_
      refine lv_iload_n C.1 C.2.1 dX10_layFrom_42 rfl (lv_at hl 2 rfl) ?_
      refine lv_iload C.1 C.2.1 dX10_layFrom_43 (lv_at hl 5 rfl) ?_
      obtain ⟨o_3, eo_3, hE⟩ := cl_e hE
      refine x_kI (o := o_3) (z_runS (As := [.int x1, .int x2, .int x6]) (rest := [.ref r_2]) C (ct_X10_cell l X eo_3) cw_X10_64 hW hZ rfl hl.1 (Nat.le_of_ble_eq_true rfl) rfl dX10_layFrom_45 ⟨Nat.le_of_ble_eq_true rfl, Nat.le_of_ble_eq_true rfl⟩ ⟨Nat.le_refl _, Nat.le_refl _⟩) hZ (fun _ _ hW km hZ => ?_)
      replace hkm := hkm.tr km
      replace k_x0 := km.at k_x0 (by decide)
      replace k_r_2 := km.at k_r_2 (by decide)
      refine lv_aload_n C.1 C.2.1 dX10_layFrom_48 rfl (lv_at hl 0 rfl) ?_
      refine gf_X10_40 C hW k_x0 dX10_layFrom_49 ?_
      obtain ⟨g_4, hE⟩ := gd_e hE
      obtain ⟨h_5, eh_5, hE⟩ := nm_e2 hE
      refine y_iast C hW hZ k_r_2 g_4 eh_5 dX10_layFrom_52 (fun _ _ hW km hZ => ?_)
      replace hkm := hkm.tr km
      replace k_x0 := km.at k_x0 (by decide)
      refine lv_lload_n C.1 C.2.1 dX10_layFrom_53 rfl (lv_at hl 3 rfl) ?_
      refine lv_iload C.1 C.2.1 dX10_layFrom_54 (lv_at hl 5 rfl) ?_
      refine lv_lushr C.1 C.2.1 dX10_layFrom_56 rfl ?_
      refine lv_lconst (v := (1 : Int64)) C.1 C.2.1 dX10_layFrom_57 (by decide) ?_
      refine lv_land C.1 C.2.1 dX10_layFrom_58 ?_
      refine lv_lconst (v := (0 : Int64)) C.1 C.2.1 dX10_layFrom_59 (by decide) ?_
      refine W.lcmp C.1 C.2.1 dX10_layFrom_60 ?_
      refine lv_if_ne (tgt := 67) C.1 C.2.1 dX10_layFrom_61 (by decide) (fun c_6 => ?_) (fun c_6 => ?_)
      · have hE := br_n hE c_6
        refine lv_iconst (v := (0 : Int32)) C.1 C.2.1 dX10_layFrom_67 (by decide) ?_
        refine lv_istore (lv' := [(7, .int (0 : Int32)), (0, .ref x0), (1, .int x1), (2, .int x2), (3, .long x3), (5, .int x5), (6, .int x6)]) C.1 C.2.1 dX10_layFrom_68 hl (by decide) rfl (fun ls hl => ?_)
        exact bX10_layFrom_70 C hk_30 F k_x0 hkm hW hZ _ (lv_sub hl [1, 2, 3, 4, 5, 6, 0] rfl) hE
      · have hE := br_p hE c_6
        refine lv_goto (tgt := 154) C.1 C.2.1 dX10_layFrom_64 (by decide) ?_
        exact bX10_layFrom_154 C hk_30 k_x0 hkm hW hZ _ (lv_sub hl [0, 1, 2, 3, 4, 5] rfl) hE
set_option maxRecDepth 20000 in
theorem bX10_layFrom_21 {p : Program} {l : Launch} {e : Env} {s : State} {m : MethodId} {args : Array Value} {below : List Frame} {meth : Method} {c : Code} {X : Ec} {h0 : Hp} {o : Hp} {F : Nat} (C : Cx X p s m args meth c RX10 cX10_layFrom 9 none "layFrom") {h : Hp} {x0 : Nat} {x1 : Int32} {x2 : Int32} {t0 : Int64} {H : Heap} {locs : List Loc} (k_x0 : hK h x0 = 10) (hkm : Km h0 h) (hW : Wx X h H) (hZ : va_S (aA (eB X)) s.heap H locs) (ls : Array Slot) (hl : lv_has ls 9 [(0, .ref x0), (1, .int x1), (2, .int x2)]) (hE : sX10_layFrom_21 F h x0 x1 x2 t0 = some o) : W p l e (rm 3 89) s m args below meth c H locs 0 0 (MQ below (QV X h0 o) args s 0 0 (aA (eB X))) (F0 m 21 ls [.long t0]) := by
  refine lv_lstore_n (lv' := [(3, .long t0), (0, .ref x0), (1, .int x1), (2, .int x2)]) C.1 C.2.1 dX10_layFrom_21 rfl hl (by decide) rfl (fun ls hl => ?_)
  refine lv_iload_n C.1 C.2.1 dX10_layFrom_22 rfl (lv_at hl 2 rfl) ?_
  refine lv_iconst (v := (1 : Int32)) C.1 C.2.1 dX10_layFrom_23 (by decide) ?_
  refine lv_ishr C.1 C.2.1 dX10_layFrom_24 ?_
  obtain ⟨v_1, ev_1, hE⟩ := nm_e2 hE
  refine x_nmI ev_1 ?_
  refine lv_istore (lv' := [(5, .int v_1), (3, .long t0), (0, .ref x0), (1, .int x1), (2, .int x2)]) C.1 C.2.1 dX10_layFrom_25 hl (by decide) rfl (fun ls hl => ?_)
  refine lv_iconst (v := (0 : Int32)) C.1 C.2.1 dX10_layFrom_27 (by decide) ?_
  refine lv_istore (lv' := [(6, .int (0 : Int32)), (5, .int v_1), (3, .long t0), (0, .ref x0), (1, .int x1), (2, .int x2)]) C.1 C.2.1 dX10_layFrom_28 hl (by decide) rfl (fun ls hl => ?_)
  exact bX10_layFrom_30 C F k_x0 hkm hW hZ _ (lv_sub hl [3, 4, 5, 2, 1, 0] rfl) hE
set_option maxRecDepth 20000 in
theorem ct_X10_layFrom (l : Launch) (X : Ec) (F : Nat) {h : Hp} {x0 : Nat} {x1 : Int32} {x2 : Int32} {o : Hp} (k_x0 : hK h x0 = 10) (hE : sX10_layFrom F h x0 x1 x2 = some o) : MetV l yX10_layFrom cX10_layFrom 9 none 3 89 X [.ref x0, .int x1, .int x2] h o := by
  refine x_met (by decide) (Nat.le_of_ble_eq_true rfl) ?_
  intro p e s m below meth c ls C hl hW hZ
  have hl : lv_has ls 9 [(0, .ref x0), (1, .int x1), (2, .int x2)] := hl
  have hkm : Km h h := Km.rf h
  refine lv_iload_n C.1 C.2.1 dX10_layFrom_0 rfl (lv_at hl 2 rfl) ?_
  refine lv_aload_n C.1 C.2.1 dX10_layFrom_1 rfl (lv_at hl 0 rfl) ?_
  obtain ⟨r_1, er_1, hE⟩ := cl_e hE
  refine gf_X10_36 C hW k_x0 er_1 dX10_layFrom_2 (fun k_r_1 => ?_)
  refine gf_X10_77 C hW k_r_1 dX10_layFrom_5 ?_
  refine lv_icmp_ge (tgt := 20) C.1 C.2.1 dX10_layFrom_8 (by decide) (fun c_2 => ?_) (fun c_2 => ?_)
  · have hE := br_p hE c_2
    refine lv_lconst (v := (0 : Int64)) C.1 C.2.1 dX10_layFrom_20 (by decide) ?_
    exact bX10_layFrom_21 C k_x0 hkm hW hZ _ (lv_sub hl [0, 1, 2] rfl) hE
  · have hE := br_n hE c_2
    refine lv_aload_n C.1 C.2.1 dX10_layFrom_11 rfl (lv_at hl 0 rfl) ?_
    refine lv_iload_n C.1 C.2.1 dX10_layFrom_12 rfl (lv_at hl 1 rfl) ?_
    refine lv_iload_n C.1 C.2.1 dX10_layFrom_13 rfl (lv_at hl 2 rfl) ?_
    obtain ⟨o_3, eo_3, hE⟩ := cl_e hE
    refine x_kJ (o := o_3) (z_runV (As := [.int x1, .int x2]) (rest := []) C (ct_X10_reach l X F k_x0 eo_3) cw_X10_80 hW hZ k_x0 (by decide) rfl rfl rfl hl.1 (Nat.le_of_ble_eq_true rfl) rfl dX10_layFrom_14 ⟨Nat.le_of_ble_eq_true rfl, Nat.le_of_ble_eq_true rfl⟩ ⟨Nat.le_refl _, Nat.le_refl _⟩) hZ (fun _ _ hW km hZ => ?_)
    replace hkm := hkm.tr km
    replace k_x0 := km.at k_x0 (by decide)
    refine lv_goto (tgt := 21) C.1 C.2.1 dX10_layFrom_17 (by decide) ?_
    exact bX10_layFrom_21 C k_x0 hkm hW hZ _ (lv_sub hl [0, 1, 2] rfl) hE
section
variable {p : Program} {l : Launch} {e : Env} {R : Room} {s : State} {m : MethodId} {args : Array Value} {below : List Frame} {meth : Method} {c : Code} {H : Heap} {locs : List Loc} {cells slots : Nat} {Q : State → Prop}
variable {cc : ByteArray} {pc : Nat} {ls : Array Slot} {rest : List Value} {X : Ec} {h h1 : Hp} {nL : Nat} {rt : Option FieldType} {mn : String}
theorem gf_X10_30 {a r : Nat} (C : Cx X p s m args meth c RX10 cc nL rt mn) (hW : Wx X h H) (ha : hK h a = 10) (hr : hR h a 5 = some r) (hdg : decode cc pc = .ok (.getfield 30, 3)) (kk : hK h r = 18 → W p l e R s m args below meth c H locs cells slots Q (F0 m (pc + 3) ls (.ref r :: rest))) : W p l e R s m args below meth c H locs cells slots Q (F0 m pc ls (.ref a :: rest)) :=
  y_getr C hW ha i_X10 (by decide) rfl (by decide) m_234 rfl rfl hr hdg kk
end
theorem dX10_layAround_0 : decode cX10_layAround 0 = .ok (.iconst 0, 1) := by decide +kernel
theorem dX10_layAround_1 : decode cX10_layAround 1 = .ok (.istore_n 1, 1) := by decide +kernel
theorem dX10_layAround_2 : decode cX10_layAround 2 = .ok (.iload_n 1, 1) := by decide +kernel
theorem dX10_layAround_3 : decode cX10_layAround 3 = .ok (.aload_n 0, 1) := by decide +kernel
theorem dX10_layAround_4 : decode cX10_layAround 4 = .ok (.getfield 36, 3) := by decide +kernel
theorem dX10_layAround_7 : decode cX10_layAround 7 = .ok (.getfield 77, 3) := by decide +kernel
theorem dX10_layAround_10 : decode cX10_layAround 10 = .ok (.if_icmp .ge 105, 3) := by decide +kernel
theorem dX10_layAround_13 : decode cX10_layAround 13 = .ok (.lconst 0, 1) := by decide +kernel
theorem dX10_layAround_14 : decode cX10_layAround 14 = .ok (.lstore_n 2, 1) := by decide +kernel
theorem dX10_layAround_15 : decode cX10_layAround 15 = .ok (.iconst 0, 1) := by decide +kernel
theorem dX10_layAround_16 : decode cX10_layAround 16 = .ok (.istore 4, 2) := by decide +kernel
theorem dX10_layAround_18 : decode cX10_layAround 18 = .ok (.iload 4, 2) := by decide +kernel
theorem dX10_layAround_20 : decode cX10_layAround 20 = .ok (.bipush 9, 2) := by decide +kernel
theorem dX10_layAround_22 : decode cX10_layAround 22 = .ok (.if_icmp .ge 80, 3) := by decide +kernel
theorem dX10_layAround_25 : decode cX10_layAround 25 = .ok (.aload_n 0, 1) := by decide +kernel
theorem dX10_layAround_26 : decode cX10_layAround 26 = .ok (.getfield 36, 3) := by decide +kernel
theorem dX10_layAround_29 : decode cX10_layAround 29 = .ok (.getfield 104, 3) := by decide +kernel
theorem dX10_layAround_32 : decode cX10_layAround 32 = .ok (.iload_n 1, 1) := by decide +kernel
theorem dX10_layAround_33 : decode cX10_layAround 33 = .ok (.iaload, 1) := by decide +kernel
theorem dX10_layAround_34 : decode cX10_layAround 34 = .ok (.iload 4, 2) := by decide +kernel
theorem dX10_layAround_36 : decode cX10_layAround 36 = .ok (.iconst 3, 1) := by decide +kernel
theorem dX10_layAround_37 : decode cX10_layAround 37 = .ok (.irem, 1) := by decide +kernel
theorem dX10_layAround_38 : decode cX10_layAround 38 = .ok (.iadd, 1) := by decide +kernel
theorem dX10_layAround_39 : decode cX10_layAround 39 = .ok (.iconst 1, 1) := by decide +kernel
theorem dX10_layAround_40 : decode cX10_layAround 40 = .ok (.isub, 1) := by decide +kernel
theorem dX10_layAround_41 : decode cX10_layAround 41 = .ok (.istore 5, 2) := by decide +kernel
theorem dX10_layAround_43 : decode cX10_layAround 43 = .ok (.aload_n 0, 1) := by decide +kernel
theorem dX10_layAround_44 : decode cX10_layAround 44 = .ok (.getfield 36, 3) := by decide +kernel
theorem dX10_layAround_47 : decode cX10_layAround 47 = .ok (.getfield 94, 3) := by decide +kernel
theorem dX10_layAround_50 : decode cX10_layAround 50 = .ok (.iload_n 1, 1) := by decide +kernel
theorem dX10_layAround_51 : decode cX10_layAround 51 = .ok (.iaload, 1) := by decide +kernel
theorem dX10_layAround_52 : decode cX10_layAround 52 = .ok (.iload 4, 2) := by decide +kernel
theorem dX10_layAround_54 : decode cX10_layAround 54 = .ok (.iconst 3, 1) := by decide +kernel
theorem dX10_layAround_55 : decode cX10_layAround 55 = .ok (.idiv, 1) := by decide +kernel
theorem dX10_layAround_56 : decode cX10_layAround 56 = .ok (.iadd, 1) := by decide +kernel
theorem dX10_layAround_57 : decode cX10_layAround 57 = .ok (.iconst 1, 1) := by decide +kernel
theorem dX10_layAround_58 : decode cX10_layAround 58 = .ok (.isub, 1) := by decide +kernel
theorem dX10_layAround_59 : decode cX10_layAround 59 = .ok (.istore 6, 2) := by decide +kernel
theorem dX10_layAround_61 : decode cX10_layAround 61 = .ok (.iload 4, 2) := by decide +kernel
theorem dX10_layAround_63 : decode cX10_layAround 63 = .ok (.iconst 4, 1) := by decide +kernel
theorem dX10_layAround_64 : decode cX10_layAround 64 = .ok (.if_icmp .eq 32, 3) := by decide +kernel
theorem dX10_layAround_67 : decode cX10_layAround 67 = .ok (.aload_n 0, 1) := by decide +kernel
theorem dX10_layAround_68 : decode cX10_layAround 68 = .ok (.iload 5, 2) := by decide +kernel
theorem dX10_layAround_70 : decode cX10_layAround 70 = .ok (.iload 6, 2) := by decide +kernel
theorem dX10_layAround_72 : decode cX10_layAround 72 = .ok (.invokevirtual 107, 3) := by decide +kernel
theorem dX10_layAround_75 : decode cX10_layAround 75 = .ok (.ifCond .eq 21, 3) := by decide +kernel
theorem dX10_layAround_78 : decode cX10_layAround 78 = .ok (.lload_n 2, 1) := by decide +kernel
theorem dX10_layAround_79 : decode cX10_layAround 79 = .ok (.lconst 1, 1) := by decide +kernel
theorem dX10_layAround_80 : decode cX10_layAround 80 = .ok (.iload 6, 2) := by decide +kernel
theorem dX10_layAround_82 : decode cX10_layAround 82 = .ok (.aload_n 0, 1) := by decide +kernel
theorem dX10_layAround_83 : decode cX10_layAround 83 = .ok (.getfield 36, 3) := by decide +kernel
theorem dX10_layAround_86 : decode cX10_layAround 86 = .ok (.getfield 111, 3) := by decide +kernel
theorem dX10_layAround_89 : decode cX10_layAround 89 = .ok (.imul, 1) := by decide +kernel
theorem dX10_layAround_90 : decode cX10_layAround 90 = .ok (.iload 5, 2) := by decide +kernel
theorem dX10_layAround_92 : decode cX10_layAround 92 = .ok (.iadd, 1) := by decide +kernel
theorem dX10_layAround_93 : decode cX10_layAround 93 = .ok (.lshl, 1) := by decide +kernel
theorem dX10_layAround_94 : decode cX10_layAround 94 = .ok (.lor, 1) := by decide +kernel
theorem dX10_layAround_95 : decode cX10_layAround 95 = .ok (.lstore_n 2, 1) := by decide +kernel
theorem dX10_layAround_96 : decode cX10_layAround 96 = .ok (.iinc 4 1, 3) := by decide +kernel
theorem dX10_layAround_99 : decode cX10_layAround 99 = .ok (.goto (-81), 3) := by decide +kernel
theorem dX10_layAround_102 : decode cX10_layAround 102 = .ok (.aload_n 0, 1) := by decide +kernel
theorem dX10_layAround_103 : decode cX10_layAround 103 = .ok (.getfield 30, 3) := by decide +kernel
theorem dX10_layAround_106 : decode cX10_layAround 106 = .ok (.iload_n 1, 1) := by decide +kernel
theorem dX10_layAround_107 : decode cX10_layAround 107 = .ok (.lload_n 2, 1) := by decide +kernel
theorem dX10_layAround_108 : decode cX10_layAround 108 = .ok (.lastore, 1) := by decide +kernel
theorem dX10_layAround_109 : decode cX10_layAround 109 = .ok (.iinc 1 1, 3) := by decide +kernel
theorem dX10_layAround_112 : decode cX10_layAround 112 = .ok (.goto (-110), 3) := by decide +kernel
theorem dX10_layAround_115 : decode cX10_layAround 115 = .ok (.return_, 1) := by decide +kernel
set_option maxRecDepth 20000 in
theorem moX10_layAround_96 {o : Hp} {k_2 : Hp → Nat → Int32 → Option (Hp)} {k_18 : Hp → Nat → Int32 → Int64 → Int32 → Option (Hp)} {F : Nat} (mk_2 : ∀ (h : Hp) (x0 : Nat) (x1 : Int32), k_2 h x0 x1 = some o → Le h o) (mk_18 : ∀ (h : Hp) (x0 : Nat) (x1 : Int32) (x2 : Int64) (x4 : Int32), k_18 h x0 x1 x2 x4 = some o → Le h o) {h : Hp} {x0 : Nat} {x1 : Int32} {x2 : Int64} {x4 : Int32} (hE : sX10_layAround_96 F k_2 k_18 h x0 x1 x2 x4 = some o) : Le h o := by
  obtain ⟨v_1, ev_1, hE⟩ := nm_e2 hE
  exact mk_18 _ _ _ _ _ hE
set_option maxRecDepth 20000 in
theorem moX10_layAround_18 {o : Hp} {k_2 : Hp → Nat → Int32 → Option (Hp)} {F : Nat} (mk_2 : ∀ (h : Hp) (x0 : Nat) (x1 : Int32), k_2 h x0 x1 = some o → Le h o) : ∀ (f : Nat) {h : Hp} {x0 : Nat} {x1 : Int32} {x2 : Int64} {x4 : Int32}, sX10_layAround_18 F k_2 f h x0 x1 x2 x4 = some o → Le h o := by
  intro f
  induction f with
  | zero =>
    intro h x0 x1 x2 x4 hE
    rw [sX10_layAround_18] at hE
    cases hE
  | succ f ih =>
    intro h x0 x1 x2 x4 hE
    rw [sX10_layAround_18] at hE
    have mk_18 : ∀ (h : Hp) (x0 : Nat) (x1 : Int32) (x2 : Int64) (x4 : Int32), sX10_layAround_18 F k_2 f h x0 x1 x2 x4 = some o → Le h o := fun h x0 x1 x2 x4 hE => ih hE
    rcases br_e hE with ⟨_, hE⟩ | ⟨_, hE⟩
    · obtain ⟨r_2, er_2, hE⟩ := cl_e hE
      obtain ⟨g_3, hE⟩ := gd_e hE
      obtain ⟨h_4, eh_4, hE⟩ := nm_e2 hE
      refine (le_J eh_4).tr ?_
      obtain ⟨v_5, ev_5, hE⟩ := nm_e2 hE
      exact mk_2 _ _ _ hE
    · obtain ⟨r_6, er_6, hE⟩ := cl_e hE
      obtain ⟨r_7, er_7, hE⟩ := cl_e hE
      obtain ⟨g_8, hE⟩ := gd_e hE
      obtain ⟨v_9, ev_9, hE⟩ := nm_e2 hE
      obtain ⟨r_10, er_10, hE⟩ := cl_e hE
      obtain ⟨r_11, er_11, hE⟩ := cl_e hE
      obtain ⟨g_12, hE⟩ := gd_e hE
      obtain ⟨v_13, ev_13, hE⟩ := nm_e2 hE
      rcases br_e hE with ⟨_, hE⟩ | ⟨_, hE⟩
      · exact moX10_layAround_96 mk_2 mk_18 hE
      · obtain ⟨o_15, eo_15, hE⟩ := cl_e hE
        refine (moX10_isOn eo_15).tr ?_
        rcases br_e hE with ⟨_, hE⟩ | ⟨_, hE⟩
        · exact moX10_layAround_96 mk_2 mk_18 hE
        · obtain ⟨r_17, er_17, hE⟩ := cl_e hE
          obtain ⟨v_18, ev_18, hE⟩ := nm_e2 hE
          exact moX10_layAround_96 mk_2 mk_18 hE
set_option maxRecDepth 20000 in
theorem moX10_layAround_2 {o : Hp} {F : Nat} : ∀ (f : Nat) {h : Hp} {x0 : Nat} {x1 : Int32}, sX10_layAround_2 F f h x0 x1 = some o → Le h o := by
  intro f
  induction f with
  | zero =>
    intro h x0 x1 hE
    rw [sX10_layAround_2] at hE
    cases hE
  | succ f ih =>
    intro h x0 x1 hE
    rw [sX10_layAround_2] at hE
    have mk_2 : ∀ (h : Hp) (x0 : Nat) (x1 : Int32), sX10_layAround_2 F f h x0 x1 = some o → Le h o := fun h x0 x1 hE => ih hE
    obtain ⟨r_1, er_1, hE⟩ := cl_e hE
    rcases br_e hE with ⟨_, hE⟩ | ⟨_, hE⟩
    · exact le_some1 hE
    · exact moX10_layAround_18 mk_2 _ hE
set_option maxRecDepth 20000 in
theorem moX10_layAround {o : Hp} {F : Nat} {h : Hp} {x0 : Nat} (hE : sX10_layAround F h x0 = some o) : Le h o := by
  exact moX10_layAround_2 _ hE
set_option maxRecDepth 20000 in
theorem bX10_layAround_96 {p : Program} {l : Launch} {e : Env} {s : State} {m : MethodId} {args : Array Value} {below : List Frame} {meth : Method} {c : Code} {X : Ec} {h0 : Hp} {o : Hp} {k_2 : Hp → Nat → Int32 → Option (Hp)} {k_18 : Hp → Nat → Int32 → Int64 → Int32 → Option (Hp)} {F : Nat} (C : Cx X p s m args meth c RX10 cX10_layAround 7 none "layAround") (hk_2 : ∀ (h : Hp) (x0 : Nat) (x1 : Int32) (H : Heap) (locs : List Loc), hK h x0 = 10 → Km h0 h → Wx X h H → va_S (aA (eB X)) s.heap H locs → ∀ (ls : Array Slot), lv_has ls 7 [(0, .ref x0), (1, .int x1)] → k_2 h x0 x1 = some o → W p l e (rm 1 22) s m args below meth c H locs 0 0 (MQ below (QV X h0 o) args s 0 0 (aA (eB X))) (F0 m 2 ls [])) (hk_18 : ∀ (h : Hp) (x0 : Nat) (x1 : Int32) (x2 : Int64) (x4 : Int32) (H : Heap) (locs : List Loc), hK h x0 = 10 → Km h0 h → Wx X h H → va_S (aA (eB X)) s.heap H locs → ∀ (ls : Array Slot), lv_has ls 7 [(0, .ref x0), (1, .int x1), (2, .long x2), (4, .int x4)] → k_18 h x0 x1 x2 x4 = some o → W p l e (rm 1 22) s m args below meth c H locs 0 0 (MQ below (QV X h0 o) args s 0 0 (aA (eB X))) (F0 m 18 ls [])) {h : Hp} {x0 : Nat} {x1 : Int32} {x2 : Int64} {x4 : Int32} {H : Heap} {locs : List Loc} (k_x0 : hK h x0 = 10) (hkm : Km h0 h) (hW : Wx X h H) (hZ : va_S (aA (eB X)) s.heap H locs) (ls : Array Slot) (hl : lv_has ls 7 [(0, .ref x0), (1, .int x1), (2, .long x2), (4, .int x4)]) (hE : sX10_layAround_96 F k_2 k_18 h x0 x1 x2 x4 = some o) : W p l e (rm 1 22) s m args below meth c H locs 0 0 (MQ below (QV X h0 o) args s 0 0 (aA (eB X))) (F0 m 96 ls []) := by
  obtain ⟨v_1, ev_1, hE⟩ := nm_e2 hE
  refine lv_iinc (v := v_1) (lv' := [(4, .int v_1), (0, .ref x0), (1, .int x1), (2, .long x2)]) C.1 C.2.1 dX10_layAround_96 hl (k := 3) rfl (by rw [ev_1]; rfl) (by decide) rfl (fun ls hl => ?_)
  refine lv_goto (tgt := 18) C.1 C.2.1 dX10_layAround_99 (by decide) ?_
  exact hk_18 _ _ _ _ _ _ _ k_x0 hkm hW hZ _ (lv_sub hl [1, 2, 3, 0] rfl) hE
set_option maxRecDepth 20000 in
theorem bX10_layAround_18 {p : Program} {l : Launch} {e : Env} {s : State} {m : MethodId} {args : Array Value} {below : List Frame} {meth : Method} {c : Code} {X : Ec} {h0 : Hp} {o : Hp} {k_2 : Hp → Nat → Int32 → Option (Hp)} {F : Nat} (C : Cx X p s m args meth c RX10 cX10_layAround 7 none "layAround") (hk_2 : ∀ (h : Hp) (x0 : Nat) (x1 : Int32) (H : Heap) (locs : List Loc), hK h x0 = 10 → Km h0 h → Wx X h H → va_S (aA (eB X)) s.heap H locs → ∀ (ls : Array Slot), lv_has ls 7 [(0, .ref x0), (1, .int x1)] → k_2 h x0 x1 = some o → W p l e (rm 1 22) s m args below meth c H locs 0 0 (MQ below (QV X h0 o) args s 0 0 (aA (eB X))) (F0 m 2 ls [])) : ∀ (f : Nat) {h : Hp} {x0 : Nat} {x1 : Int32} {x2 : Int64} {x4 : Int32} {H : Heap} {locs : List Loc} (k_x0 : hK h x0 = 10), Km h0 h → Wx X h H → va_S (aA (eB X)) s.heap H locs → ∀ (ls : Array Slot), lv_has ls 7 [(0, .ref x0), (1, .int x1), (2, .long x2), (4, .int x4)] → sX10_layAround_18 F k_2 f h x0 x1 x2 x4 = some o → W p l e (rm 1 22) s m args below meth c H locs 0 0 (MQ below (QV X h0 o) args s 0 0 (aA (eB X))) (F0 m 18 ls []) := by
  intro f
  induction f with
  | zero =>
    intro h x0 x1 x2 x4 H locs k_x0 hkm hW hZ ls hl hE
    rw [sX10_layAround_18] at hE
    cases hE
  | succ f ih =>
    intro h x0 x1 x2 x4 H locs k_x0 hkm hW hZ ls hl hE
    rw [sX10_layAround_18] at hE
    have hk_18 : ∀ (h : Hp) (x0 : Nat) (x1 : Int32) (x2 : Int64) (x4 : Int32) (H : Heap) (locs : List Loc), hK h x0 = 10 → Km h0 h → Wx X h H → va_S (aA (eB X)) s.heap H locs → ∀ (ls : Array Slot), lv_has ls 7 [(0, .ref x0), (1, .int x1), (2, .long x2), (4, .int x4)] → sX10_layAround_18 F k_2 f h x0 x1 x2 x4 = some o → W p l e (rm 1 22) s m args below meth c H locs 0 0 (MQ below (QV X h0 o) args s 0 0 (aA (eB X))) (F0 m 18 ls []) := fun h x0 x1 x2 x4 H locs k_x0 a b c ls hl hE => ih k_x0 a b c ls hl hE
    refine lv_iload C.1 C.2.1 dX10_layAround_18 (lv_at hl 3 rfl) ?_
    refine lv_bipush (v := (9 : Int32)) C.1 C.2.1 dX10_layAround_20 (by decide) ?_
    refine lv_icmp_ge (tgt := 102) C.1 C.2.1 dX10_layAround_22 (by decide) (fun c_1 => ?_) (fun c_1 => ?_)
    · have hE := br_p hE c_1
      refine lv_aload_n C.1 C.2.1 dX10_layAround_102 rfl (lv_at hl 0 rfl) ?_
      obtain ⟨r_2, er_2, hE⟩ := cl_e hE
      refine gf_X10_30 C hW k_x0 er_2 dX10_layAround_103 (fun k_r_2 => ?_)
      refine lv_iload_n C.1 C.2.1 dX10_layAround_106 rfl (lv_at hl 1 rfl) ?_
      refine lv_lload_n C.1 C.2.1 dX10_layAround_107 rfl (lv_at hl 2 rfl) ?_
      obtain ⟨g_3, hE⟩ := gd_e hE
      obtain ⟨h_4, eh_4, hE⟩ := nm_e2 hE
      refine y_last C hW hZ k_r_2 g_3 eh_4 dX10_layAround_108 (fun _ _ hW km hZ => ?_)
      replace hkm := hkm.tr km
      replace k_x0 := km.at k_x0 (by decide)
      obtain ⟨v_5, ev_5, hE⟩ := nm_e2 hE
      refine lv_iinc (v := v_5) (lv' := [(1, .int v_5), (0, .ref x0), (2, .long x2), (4, .int x4)]) C.1 C.2.1 dX10_layAround_109 hl (k := 1) rfl (by rw [ev_5]; rfl) (by decide) rfl (fun ls hl => ?_)
      refine lv_goto (tgt := 2) C.1 C.2.1 dX10_layAround_112 (by decide) ?_
      exact hk_2 _ _ _ _ _ k_x0 hkm hW hZ _ (lv_sub hl [1, 0] rfl) hE
    · have hE := br_n hE c_1
      refine lv_aload_n C.1 C.2.1 dX10_layAround_25 rfl (lv_at hl 0 rfl) ?_
      obtain ⟨r_6, er_6, hE⟩ := cl_e hE
      refine gf_X10_36 C hW k_x0 er_6 dX10_layAround_26 (fun k_r_6 => ?_)
      obtain ⟨r_7, er_7, hE⟩ := cl_e hE
      refine gf_X10_104 C hW k_r_6 er_7 dX10_layAround_29 (fun k_r_7 => ?_)
      refine lv_iload_n C.1 C.2.1 dX10_layAround_32 rfl (lv_at hl 1 rfl) ?_
      obtain ⟨g_8, hE⟩ := gd_e hE
      refine y_iald C hW k_r_7 g_8 dX10_layAround_33 ?_
      refine lv_iload C.1 C.2.1 dX10_layAround_34 (lv_at hl 3 rfl) ?_
      refine lv_iconst (v := (3 : Int32)) C.1 C.2.1 dX10_layAround_36 (by decide) ?_
      refine lv_irem C.1 C.2.1 dX10_layAround_37 (by decide) ?_
      refine lv_iadd C.1 C.2.1 dX10_layAround_38 ?_
      refine lv_iconst (v := (1 : Int32)) C.1 C.2.1 dX10_layAround_39 (by decide) ?_
      refine lv_isub C.1 C.2.1 dX10_layAround_40 ?_
      obtain ⟨v_9, ev_9, hE⟩ := nm_e2 hE
      refine x_nmI ev_9 ?_
      refine lv_istore (lv' := [(5, .int v_9), (0, .ref x0), (1, .int x1), (2, .long x2), (4, .int x4)]) C.1 C.2.1 dX10_layAround_41 hl (by decide) rfl (fun ls hl => ?_)
      refine lv_aload_n C.1 C.2.1 dX10_layAround_43 rfl (lv_at hl 1 rfl) ?_
      obtain ⟨r_10, er_10, hE⟩ := cl_e hE
      refine gf_X10_36 C hW k_x0 er_10 dX10_layAround_44 (fun k_r_10 => ?_)
      obtain ⟨r_11, er_11, hE⟩ := cl_e hE
      refine gf_X10_94 C hW k_r_10 er_11 dX10_layAround_47 (fun k_r_11 => ?_)
      refine lv_iload_n C.1 C.2.1 dX10_layAround_50 rfl (lv_at hl 2 rfl) ?_
      obtain ⟨g_12, hE⟩ := gd_e hE
      refine y_iald C hW k_r_11 g_12 dX10_layAround_51 ?_
      refine lv_iload C.1 C.2.1 dX10_layAround_52 (lv_at hl 4 rfl) ?_
      refine lv_iconst (v := (3 : Int32)) C.1 C.2.1 dX10_layAround_54 (by decide) ?_
      refine lv_idiv C.1 C.2.1 dX10_layAround_55 (by decide) ?_
      refine lv_iadd C.1 C.2.1 dX10_layAround_56 ?_
      refine lv_iconst (v := (1 : Int32)) C.1 C.2.1 dX10_layAround_57 (by decide) ?_
      refine lv_isub C.1 C.2.1 dX10_layAround_58 ?_
      obtain ⟨v_13, ev_13, hE⟩ := nm_e2 hE
      refine x_nmI ev_13 ?_
      refine lv_istore (lv' := [(6, .int v_13), (5, .int v_9), (0, .ref x0), (1, .int x1), (2, .long x2), (4, .int x4)]) C.1 C.2.1 dX10_layAround_59 hl (by decide) rfl (fun ls hl => ?_)
      refine lv_iload C.1 C.2.1 dX10_layAround_61 (lv_at hl 5 rfl) ?_
      refine lv_iconst (v := (4 : Int32)) C.1 C.2.1 dX10_layAround_63 (by decide) ?_
      refine lv_icmp_eq (tgt := 96) C.1 C.2.1 dX10_layAround_64 (by decide) (fun c_14 => ?_) (fun c_14 => ?_)
      · have hE := br_p hE c_14
        exact bX10_layAround_96 C hk_2 hk_18 k_x0 hkm hW hZ _ (lv_sub hl [2, 3, 4, 5] rfl) hE
      · have hE := br_n hE c_14
        refine lv_aload_n C.1 C.2.1 dX10_layAround_67 rfl (lv_at hl 2 rfl) ?_
        refine lv_iload C.1 C.2.1 dX10_layAround_68 (lv_at hl 1 rfl) ?_
        refine lv_iload C.1 C.2.1 dX10_layAround_70 (lv_at hl 0 rfl) ?_
        obtain ⟨o_15, eo_15, hE⟩ := cl_e hE
        refine x_kI (o := o_15) (z_runV (As := [.int v_9, .int v_13]) (rest := []) C (ct_X10_isOn l X k_x0 eo_15) cw_X10_107 hW hZ k_x0 (by decide) rfl rfl rfl hl.1 (Nat.le_of_ble_eq_true rfl) rfl dX10_layAround_72 ⟨Nat.le_of_ble_eq_true rfl, Nat.le_of_ble_eq_true rfl⟩ ⟨Nat.le_refl _, Nat.le_refl _⟩) hZ (fun _ _ hW km hZ => ?_)
        replace hkm := hkm.tr km
        replace k_x0 := km.at k_x0 (by decide)
        refine lv_if_eq (tgt := 96) C.1 C.2.1 dX10_layAround_75 (by decide) (fun c_16 => ?_) (fun c_16 => ?_)
        · have hE := br_p hE c_16
          exact bX10_layAround_96 C hk_2 hk_18 k_x0 hkm hW hZ _ (lv_sub hl [2, 3, 4, 5] rfl) hE
        · have hE := br_n hE c_16
          refine lv_lload_n C.1 C.2.1 dX10_layAround_78 rfl (lv_at hl 4 rfl) ?_
          refine lv_lconst (v := (1 : Int64)) C.1 C.2.1 dX10_layAround_79 (by decide) ?_
          refine lv_iload C.1 C.2.1 dX10_layAround_80 (lv_at hl 0 rfl) ?_
          refine lv_aload_n C.1 C.2.1 dX10_layAround_82 rfl (lv_at hl 2 rfl) ?_
          obtain ⟨r_17, er_17, hE⟩ := cl_e hE
          refine gf_X10_36 C hW k_x0 er_17 dX10_layAround_83 (fun k_r_17 => ?_)
          refine gf_X10_111 C hW k_r_17 dX10_layAround_86 ?_
          refine lv_imul C.1 C.2.1 dX10_layAround_89 ?_
          refine lv_iload C.1 C.2.1 dX10_layAround_90 (lv_at hl 1 rfl) ?_
          refine lv_iadd C.1 C.2.1 dX10_layAround_92 ?_
          refine lv_lshl C.1 C.2.1 dX10_layAround_93 rfl ?_
          refine lv_lor C.1 C.2.1 dX10_layAround_94 ?_
          obtain ⟨v_18, ev_18, hE⟩ := nm_e2 hE
          refine x_nmJ ev_18 ?_
          refine lv_lstore_n (lv' := [(2, .long v_18), (6, .int v_13), (5, .int v_9), (0, .ref x0), (1, .int x1), (4, .int x4)]) C.1 C.2.1 dX10_layAround_95 rfl hl (by decide) rfl (fun ls hl => ?_)
          exact bX10_layAround_96 C hk_2 hk_18 k_x0 hkm hW hZ _ (lv_sub hl [3, 4, 0, 5] rfl) hE
set_option maxRecDepth 20000 in
theorem bX10_layAround_2 {p : Program} {l : Launch} {e : Env} {s : State} {m : MethodId} {args : Array Value} {below : List Frame} {meth : Method} {c : Code} {X : Ec} {h0 : Hp} {o : Hp} {F : Nat} (C : Cx X p s m args meth c RX10 cX10_layAround 7 none "layAround") : ∀ (f : Nat) {h : Hp} {x0 : Nat} {x1 : Int32} {H : Heap} {locs : List Loc} (k_x0 : hK h x0 = 10), Km h0 h → Wx X h H → va_S (aA (eB X)) s.heap H locs → ∀ (ls : Array Slot), lv_has ls 7 [(0, .ref x0), (1, .int x1)] → sX10_layAround_2 F f h x0 x1 = some o → W p l e (rm 1 22) s m args below meth c H locs 0 0 (MQ below (QV X h0 o) args s 0 0 (aA (eB X))) (F0 m 2 ls []) := by
  intro f
  induction f with
  | zero =>
    intro h x0 x1 H locs k_x0 hkm hW hZ ls hl hE
    rw [sX10_layAround_2] at hE
    cases hE
  | succ f ih =>
    intro h x0 x1 H locs k_x0 hkm hW hZ ls hl hE
    rw [sX10_layAround_2] at hE
    have hk_2 : ∀ (h : Hp) (x0 : Nat) (x1 : Int32) (H : Heap) (locs : List Loc), hK h x0 = 10 → Km h0 h → Wx X h H → va_S (aA (eB X)) s.heap H locs → ∀ (ls : Array Slot), lv_has ls 7 [(0, .ref x0), (1, .int x1)] → sX10_layAround_2 F f h x0 x1 = some o → W p l e (rm 1 22) s m args below meth c H locs 0 0 (MQ below (QV X h0 o) args s 0 0 (aA (eB X))) (F0 m 2 ls []) := fun h x0 x1 H locs k_x0 a b c ls hl hE => ih k_x0 a b c ls hl hE
    refine lv_iload_n C.1 C.2.1 dX10_layAround_2 rfl (lv_at hl 1 rfl) ?_
    refine lv_aload_n C.1 C.2.1 dX10_layAround_3 rfl (lv_at hl 0 rfl) ?_
    obtain ⟨r_1, er_1, hE⟩ := cl_e hE
    refine gf_X10_36 C hW k_x0 er_1 dX10_layAround_4 (fun k_r_1 => ?_)
    refine gf_X10_77 C hW k_r_1 dX10_layAround_7 ?_
    refine lv_icmp_ge (tgt := 115) C.1 C.2.1 dX10_layAround_10 (by decide) (fun c_2 => ?_) (fun c_2 => ?_)
    · have hE := br_p hE c_2
      exact x_vret C rfl hW hZ hkm hE dX10_layAround_115
    · have hE := br_n hE c_2
      refine lv_lconst (v := (0 : Int64)) C.1 C.2.1 dX10_layAround_13 (by decide) ?_
      refine lv_lstore_n (lv' := [(2, .long (0 : Int64)), (0, .ref x0), (1, .int x1)]) C.1 C.2.1 dX10_layAround_14 rfl hl (by decide) rfl (fun ls hl => ?_)
      refine lv_iconst (v := (0 : Int32)) C.1 C.2.1 dX10_layAround_15 (by decide) ?_
      refine lv_istore (lv' := [(4, .int (0 : Int32)), (2, .long (0 : Int64)), (0, .ref x0), (1, .int x1)]) C.1 C.2.1 dX10_layAround_16 hl (by decide) rfl (fun ls hl => ?_)
      exact bX10_layAround_18 C hk_2 F k_x0 hkm hW hZ _ (lv_sub hl [2, 3, 1, 0] rfl) hE
set_option maxRecDepth 20000 in
theorem ct_X10_layAround (l : Launch) (X : Ec) (F : Nat) {h : Hp} {x0 : Nat} {o : Hp} (k_x0 : hK h x0 = 10) (hE : sX10_layAround F h x0 = some o) : MetV l yX10_layAround cX10_layAround 7 none 1 22 X [.ref x0] h o := by
  refine x_met (by decide) (Nat.le_of_ble_eq_true rfl) ?_
  intro p e s m below meth c ls C hl hW hZ
  have hl : lv_has ls 7 [(0, .ref x0)] := hl
  have hkm : Km h h := Km.rf h
  refine lv_iconst (v := (0 : Int32)) C.1 C.2.1 dX10_layAround_0 (by decide) ?_
  refine lv_istore_n (lv' := [(1, .int (0 : Int32)), (0, .ref x0)]) C.1 C.2.1 dX10_layAround_1 rfl hl (by decide) rfl (fun ls hl => ?_)
  exact bX10_layAround_2 C F k_x0 hkm hW hZ _ (lv_sub hl [1, 0] rfl) hE
set_option maxRecDepth 100000 in
theorem ms_27 : Cond.selects RX10 yX10_layAround yX10_layAround ∈ W0 := w0_in (List.mem_append_left _ (List.mem_of_getElem? (i := 27) rfl)) rfl
set_option maxRecDepth 100000 in
theorem ms_22 : Cond.selects RX10 yX10_layFrom yX10_layFrom ∈ W0 := w0_in (List.mem_append_left _ (List.mem_of_getElem? (i := 22) rfl)) rfl
set_option maxRecDepth 100000 in
theorem m_78 : Cond.fieldLink RX10 50 (TX1 3).1 (TX1 3).2.1 (TX1 3).2.2.1 ∈ W0 := w0_in (List.mem_append_right _ (List.mem_of_getElem? (i := 78) rfl)) rfl
set_option maxRecDepth 100000 in
theorem m_795 : Cond.methodLink RX10 44 yJ7_fill_d0a16 ∈ W0 := w0_in (List.mem_append_right _ (List.mem_of_getElem? (i := 795) rfl)) rfl
set_option maxRecDepth 100000 in
theorem m_798 : Cond.methodLink RX10 55 yX10_layFrom ∈ W0 := w0_in (List.mem_append_right _ (List.mem_of_getElem? (i := 798) rfl)) rfl
set_option maxRecDepth 100000 in
theorem m_800 : Cond.instanceMethod yX10_layFrom ∈ W0 := w0_in (List.mem_append_right _ (List.mem_of_getElem? (i := 800) rfl)) rfl
set_option maxRecDepth 100000 in
theorem m_801 : Cond.code yX10_layFrom cX10_layFrom 9 none ∈ W0 := w0_in (List.mem_append_right _ (List.mem_of_getElem? (i := 801) rfl)) rfl
set_option maxRecDepth 100000 in
theorem m_821 : Cond.methodLink RX10 59 yX10_layAround ∈ W0 := w0_in (List.mem_append_right _ (List.mem_of_getElem? (i := 821) rfl)) rfl
set_option maxRecDepth 100000 in
theorem m_823 : Cond.instanceMethod yX10_layAround ∈ W0 := w0_in (List.mem_append_right _ (List.mem_of_getElem? (i := 823) rfl)) rfl
set_option maxRecDepth 100000 in
theorem m_824 : Cond.code yX10_layAround cX10_layAround 7 none ∈ W0 := w0_in (List.mem_append_right _ (List.mem_of_getElem? (i := 824) rfl)) rfl
section
variable {p : Program} {l : Launch} {e : Env} {R : Room} {s : State} {m : MethodId} {args : Array Value} {below : List Frame} {meth : Method} {c : Code} {H : Heap} {locs : List Loc} {cells slots : Nat} {Q : State → Prop}
variable {cc : ByteArray} {pc : Nat} {ls : Array Slot} {rest : List Value} {X : Ec} {h h1 : Hp} {nL : Nat} {rt : Option FieldType} {mn : String}
theorem gf_X10_50 {a : Nat} (C : Cx X p s m args meth c RX10 cc nL rt mn) (hW : Wx X h H) (ha : hK h a = 1) (hdg : decode cc pc = .ok (.getfield 50, 3)) (kk : W p l e R s m args below meth c H locs cells slots Q (F0 m (pc + 3) ls (.int (hI h a 3) :: rest))) : W p l e R s m args below meth c H locs cells slots Q (F0 m pc ls (.ref a :: rest)) :=
  y_geti C hW ha i_X1 (by decide) rfl (by decide) m_78 rfl hdg kk
theorem pf_X10_36 {a r : Nat} (C : Cx X p s m args meth c RX10 cc nL rt mn) (hW : Wx X h H) (hZ : va_S (aA (eB X)) s.heap H locs) (ha : hK h a = 10) (hr : hK h r = 1) (eh : h1 = wR h a 7 (some r)) (hdg : decode cc pc = .ok (.putfield 36, 3)) (kk : ∀ (H1 : Heap) (locs1 : List Loc), Wx X h1 H1 → Km h h1 → va_S (aA (eB X)) s.heap H1 locs1 → W p l e R s m args below meth c H1 locs1 cells slots Q (F0 m (pc + 3) ls rest)) : W p l e R s m args below meth c H locs cells slots Q (F0 m pc ls (.ref r :: .ref a :: rest)) :=
  y_putr (ty := .object "GameRules$Law") C hW hZ ha i_X10 tyX10 tyX10_ok nmX10 (by decide) rfl rfl (by decide) m_237 rfl (by decide +kernel) rfl rfl rfl hr rfl (by decide) eh hdg kk
end
theorem cw_X10_55 : cwd RX10 55 yX10_layFrom cX10_layFrom 9 none false 2 := ⟨m_801, m_798, m_6, ⟨m_800, ms_22⟩, by decide, by decide, by decide +kernel⟩
theorem cw_X10_59 : cwd RX10 59 yX10_layAround cX10_layAround 7 none false 0 := ⟨m_824, m_821, m_6, ⟨m_823, ms_27⟩, by decide, by decide, by decide +kernel⟩
theorem cw_X10_44 : cwd RX10 44 yJ7_fill_d0a16 cJ7_fill_d0a16 5 none true 2 := ⟨m_797, m_795, m_9, m_796, by decide, by decide, by decide +kernel⟩
theorem dX10_lay_0 : decode cX10_lay 0 = .ok (.aload_n 0, 1) := by decide +kernel
theorem dX10_lay_1 : decode cX10_lay 1 = .ok (.aload_n 1, 1) := by decide +kernel
theorem dX10_lay_2 : decode cX10_lay 2 = .ok (.putfield 36, 3) := by decide +kernel
theorem dX10_lay_5 : decode cX10_lay 5 = .ok (.aload_n 0, 1) := by decide +kernel
theorem dX10_lay_6 : decode cX10_lay 6 = .ok (.iconst 0, 1) := by decide +kernel
theorem dX10_lay_7 : decode cX10_lay 7 = .ok (.putfield 40, 3) := by decide +kernel
theorem dX10_lay_10 : decode cX10_lay 10 = .ok (.aload_n 0, 1) := by decide +kernel
theorem dX10_lay_11 : decode cX10_lay 11 = .ok (.getfield 24, 3) := by decide +kernel
theorem dX10_lay_14 : decode cX10_lay 14 = .ok (.lconst 0, 1) := by decide +kernel
theorem dX10_lay_15 : decode cX10_lay 15 = .ok (.invokestatic 44, 3) := by decide +kernel
theorem dX10_lay_18 : decode cX10_lay 18 = .ok (.aload_n 0, 1) := by decide +kernel
theorem dX10_lay_19 : decode cX10_lay 19 = .ok (.getfield 27, 3) := by decide +kernel
theorem dX10_lay_22 : decode cX10_lay 22 = .ok (.lconst 0, 1) := by decide +kernel
theorem dX10_lay_23 : decode cX10_lay 23 = .ok (.invokestatic 44, 3) := by decide +kernel
theorem dX10_lay_26 : decode cX10_lay 26 = .ok (.iconst 0, 1) := by decide +kernel
theorem dX10_lay_27 : decode cX10_lay 27 = .ok (.istore_n 2, 1) := by decide +kernel
theorem dX10_lay_28 : decode cX10_lay 28 = .ok (.iload_n 2, 1) := by decide +kernel
theorem dX10_lay_29 : decode cX10_lay 29 = .ok (.iconst 2, 1) := by decide +kernel
theorem dX10_lay_30 : decode cX10_lay 30 = .ok (.aload_n 0, 1) := by decide +kernel
theorem dX10_lay_31 : decode cX10_lay 31 = .ok (.getfield 36, 3) := by decide +kernel
theorem dX10_lay_34 : decode cX10_lay 34 = .ok (.getfield 50, 3) := by decide +kernel
theorem dX10_lay_37 : decode cX10_lay 37 = .ok (.imul, 1) := by decide +kernel
theorem dX10_lay_38 : decode cX10_lay 38 = .ok (.if_icmp .ge 29, 3) := by decide +kernel
theorem dX10_lay_41 : decode cX10_lay 41 = .ok (.iconst 0, 1) := by decide +kernel
theorem dX10_lay_42 : decode cX10_lay 42 = .ok (.istore_n 3, 1) := by decide +kernel
theorem dX10_lay_43 : decode cX10_lay 43 = .ok (.iload_n 3, 1) := by decide +kernel
theorem dX10_lay_44 : decode cX10_lay 44 = .ok (.bipush 64, 2) := by decide +kernel
theorem dX10_lay_46 : decode cX10_lay 46 = .ok (.if_icmp .ge 15, 3) := by decide +kernel
theorem dX10_lay_49 : decode cX10_lay 49 = .ok (.aload_n 0, 1) := by decide +kernel
theorem dX10_lay_50 : decode cX10_lay 50 = .ok (.iload_n 2, 1) := by decide +kernel
theorem dX10_lay_51 : decode cX10_lay 51 = .ok (.iload_n 3, 1) := by decide +kernel
theorem dX10_lay_52 : decode cX10_lay 52 = .ok (.invokevirtual 55, 3) := by decide +kernel
theorem dX10_lay_55 : decode cX10_lay 55 = .ok (.iinc 3 1, 3) := by decide +kernel
theorem dX10_lay_58 : decode cX10_lay 58 = .ok (.goto (-15), 3) := by decide +kernel
theorem dX10_lay_61 : decode cX10_lay 61 = .ok (.iinc 2 1, 3) := by decide +kernel
theorem dX10_lay_64 : decode cX10_lay 64 = .ok (.goto (-36), 3) := by decide +kernel
theorem dX10_lay_67 : decode cX10_lay 67 = .ok (.aload_n 0, 1) := by decide +kernel
theorem dX10_lay_68 : decode cX10_lay 68 = .ok (.getfield 10, 3) := by decide +kernel
theorem dX10_lay_71 : decode cX10_lay 71 = .ok (.iconst 2, 1) := by decide +kernel
theorem dX10_lay_72 : decode cX10_lay 72 = .ok (.aload_n 0, 1) := by decide +kernel
theorem dX10_lay_73 : decode cX10_lay 73 = .ok (.getfield 36, 3) := by decide +kernel
theorem dX10_lay_76 : decode cX10_lay 76 = .ok (.getfield 50, 3) := by decide +kernel
theorem dX10_lay_79 : decode cX10_lay 79 = .ok (.imul, 1) := by decide +kernel
theorem dX10_lay_80 : decode cX10_lay 80 = .ok (.bipush 64, 2) := by decide +kernel
theorem dX10_lay_82 : decode cX10_lay 82 = .ok (.imul, 1) := by decide +kernel
theorem dX10_lay_83 : decode cX10_lay 83 = .ok (.bipush 64, 2) := by decide +kernel
theorem dX10_lay_85 : decode cX10_lay 85 = .ok (.imul, 1) := by decide +kernel
theorem dX10_lay_86 : decode cX10_lay 86 = .ok (.aload_n 0, 1) := by decide +kernel
theorem dX10_lay_87 : decode cX10_lay 87 = .ok (.getfield 40, 3) := by decide +kernel
theorem dX10_lay_90 : decode cX10_lay 90 = .ok (.iastore, 1) := by decide +kernel
theorem dX10_lay_91 : decode cX10_lay 91 = .ok (.aload_n 0, 1) := by decide +kernel
theorem dX10_lay_92 : decode cX10_lay 92 = .ok (.invokevirtual 59, 3) := by decide +kernel
theorem dX10_lay_95 : decode cX10_lay 95 = .ok (.return_, 1) := by decide +kernel
set_option maxRecDepth 20000 in
theorem moX10_lay_43 {o : Hp} {k_28 : Hp → Nat → Int32 → Option (Hp)} {F : Nat} (mk_28 : ∀ (h : Hp) (x0 : Nat) (x2 : Int32), k_28 h x0 x2 = some o → Le h o) : ∀ (f : Nat) {h : Hp} {x0 : Nat} {x2 : Int32} {x3 : Int32}, sX10_lay_43 F k_28 f h x0 x2 x3 = some o → Le h o := by
  intro f
  induction f with
  | zero =>
    intro h x0 x2 x3 hE
    rw [sX10_lay_43] at hE
    cases hE
  | succ f ih =>
    intro h x0 x2 x3 hE
    rw [sX10_lay_43] at hE
    have mk_43 : ∀ (h : Hp) (x0 : Nat) (x2 : Int32) (x3 : Int32), sX10_lay_43 F k_28 f h x0 x2 x3 = some o → Le h o := fun h x0 x2 x3 hE => ih hE
    rcases br_e hE with ⟨_, hE⟩ | ⟨_, hE⟩
    · obtain ⟨v_2, ev_2, hE⟩ := nm_e2 hE
      exact mk_28 _ _ _ hE
    · obtain ⟨o_3, eo_3, hE⟩ := cl_e hE
      refine (moX10_layFrom eo_3).tr ?_
      obtain ⟨v_4, ev_4, hE⟩ := nm_e2 hE
      exact mk_43 _ _ _ _ hE
set_option maxRecDepth 20000 in
theorem moX10_lay_28 {o : Hp} {F : Nat} : ∀ (f : Nat) {h : Hp} {x0 : Nat} {x2 : Int32}, sX10_lay_28 F f h x0 x2 = some o → Le h o := by
  intro f
  induction f with
  | zero =>
    intro h x0 x2 hE
    rw [sX10_lay_28] at hE
    cases hE
  | succ f ih =>
    intro h x0 x2 hE
    rw [sX10_lay_28] at hE
    have mk_28 : ∀ (h : Hp) (x0 : Nat) (x2 : Int32), sX10_lay_28 F f h x0 x2 = some o → Le h o := fun h x0 x2 hE => ih hE
    obtain ⟨r_1, er_1, hE⟩ := cl_e hE
    rcases br_e hE with ⟨_, hE⟩ | ⟨_, hE⟩
    · obtain ⟨r_3, er_3, hE⟩ := cl_e hE
      obtain ⟨r_4, er_4, hE⟩ := cl_e hE
      obtain ⟨g_5, hE⟩ := gd_e hE
      obtain ⟨h_6, eh_6, hE⟩ := nm_e2 hE
      refine (le_I eh_6).tr ?_
      obtain ⟨o_7, eo_7, hE⟩ := cl_e hE
      refine (moX10_layAround eo_7).tr ?_
      exact le_some1 hE
    · exact moX10_lay_43 mk_28 _ hE
set_option maxRecDepth 20000 in
theorem moX10_lay {o : Hp} {F : Nat} {h : Hp} {x0 : Nat} {x1 : Nat} (hE : sX10_lay F h x0 x1 = some o) : Le h o := by
  obtain ⟨h_1, eh_1, hE⟩ := nm_e2 hE
  refine (le_R eh_1).tr ?_
  obtain ⟨h_2, eh_2, hE⟩ := nm_e2 hE
  refine (le_I eh_2).tr ?_
  obtain ⟨r_3, er_3, hE⟩ := cl_e hE
  obtain ⟨o_4, eo_4, hE⟩ := cl_e hE
  refine (moJ7_fill_d0a16 eo_4).tr ?_
  obtain ⟨r_5, er_5, hE⟩ := cl_e hE
  obtain ⟨o_6, eo_6, hE⟩ := cl_e hE
  refine (moJ7_fill_d0a16 eo_6).tr ?_
  exact moX10_lay_28 _ hE
set_option maxRecDepth 20000 in
theorem bX10_lay_43 {p : Program} {l : Launch} {e : Env} {s : State} {m : MethodId} {args : Array Value} {below : List Frame} {meth : Method} {c : Code} {X : Ec} {h0 : Hp} {o : Hp} {k_28 : Hp → Nat → Int32 → Option (Hp)} {F : Nat} (C : Cx X p s m args meth c RX10 cX10_lay 4 none "lay") (hk_28 : ∀ (h : Hp) (x0 : Nat) (x2 : Int32) (H : Heap) (locs : List Loc), hK h x0 = 10 → Km h0 h → Wx X h H → va_S (aA (eB X)) s.heap H locs → ∀ (ls : Array Slot), lv_has ls 4 [(0, .ref x0), (2, .int x2)] → k_28 h x0 x2 = some o → W p l e (rm 4 117) s m args below meth c H locs 0 0 (MQ below (QV X h0 o) args s 0 0 (aA (eB X))) (F0 m 28 ls [])) : ∀ (f : Nat) {h : Hp} {x0 : Nat} {x2 : Int32} {x3 : Int32} {H : Heap} {locs : List Loc} (k_x0 : hK h x0 = 10), Km h0 h → Wx X h H → va_S (aA (eB X)) s.heap H locs → ∀ (ls : Array Slot), lv_has ls 4 [(0, .ref x0), (2, .int x2), (3, .int x3)] → sX10_lay_43 F k_28 f h x0 x2 x3 = some o → W p l e (rm 4 117) s m args below meth c H locs 0 0 (MQ below (QV X h0 o) args s 0 0 (aA (eB X))) (F0 m 43 ls []) := by
  intro f
  induction f with
  | zero =>
    intro h x0 x2 x3 H locs k_x0 hkm hW hZ ls hl hE
    rw [sX10_lay_43] at hE
    cases hE
  | succ f ih =>
    intro h x0 x2 x3 H locs k_x0 hkm hW hZ ls hl hE
    rw [sX10_lay_43] at hE
    have hk_43 : ∀ (h : Hp) (x0 : Nat) (x2 : Int32) (x3 : Int32) (H : Heap) (locs : List Loc), hK h x0 = 10 → Km h0 h → Wx X h H → va_S (aA (eB X)) s.heap H locs → ∀ (ls : Array Slot), lv_has ls 4 [(0, .ref x0), (2, .int x2), (3, .int x3)] → sX10_lay_43 F k_28 f h x0 x2 x3 = some o → W p l e (rm 4 117) s m args below meth c H locs 0 0 (MQ below (QV X h0 o) args s 0 0 (aA (eB X))) (F0 m 43 ls []) := fun h x0 x2 x3 H locs k_x0 a b c ls hl hE => ih k_x0 a b c ls hl hE
    refine lv_iload_n C.1 C.2.1 dX10_lay_43 rfl (lv_at hl 2 rfl) ?_
    refine lv_bipush (v := (64 : Int32)) C.1 C.2.1 dX10_lay_44 (by decide) ?_
    refine lv_icmp_ge (tgt := 61) C.1 C.2.1 dX10_lay_46 (by decide) (fun c_1 => ?_) (fun c_1 => ?_)
    · have hE := br_p hE c_1
      obtain ⟨v_2, ev_2, hE⟩ := nm_e2 hE
      refine lv_iinc (v := v_2) (lv' := [(2, .int v_2), (0, .ref x0), (3, .int x3)]) C.1 C.2.1 dX10_lay_61 hl (k := 1) rfl (by rw [ev_2]; rfl) (by decide) rfl (fun ls hl => ?_)
      refine lv_goto (tgt := 28) C.1 C.2.1 dX10_lay_64 (by decide) ?_
      exact hk_28 _ _ _ _ _ k_x0 hkm hW hZ _ (lv_sub hl [1, 0] rfl) hE
    · have hE := br_n hE c_1
      refine lv_aload_n C.1 C.2.1 dX10_lay_49 rfl (lv_at hl 0 rfl) ?_
      refine lv_iload_n C.1 C.2.1 dX10_lay_50 rfl (lv_at hl 1 rfl) ?_
      refine lv_iload_n C.1 C.2.1 dX10_lay_51 rfl (lv_at hl 2 rfl) ?_
      obtain ⟨o_3, eo_3, hE⟩ := cl_e hE
      refine x_kV (o := o_3) (z_runV (As := [.int x2, .int x3]) (rest := []) C (ct_X10_layFrom l X F k_x0 eo_3) cw_X10_55 hW hZ k_x0 (by decide) rfl rfl rfl hl.1 (Nat.le_of_ble_eq_true rfl) rfl dX10_lay_52 ⟨Nat.le_of_ble_eq_true rfl, Nat.le_of_ble_eq_true rfl⟩ ⟨Nat.le_refl _, Nat.le_refl _⟩) hZ (fun _ _ hW km hZ => ?_)
      replace hkm := hkm.tr km
      replace k_x0 := km.at k_x0 (by decide)
      obtain ⟨v_4, ev_4, hE⟩ := nm_e2 hE
      refine lv_iinc (v := v_4) (lv' := [(3, .int v_4), (0, .ref x0), (2, .int x2)]) C.1 C.2.1 dX10_lay_55 hl (k := 2) rfl (by rw [ev_4]; rfl) (by decide) rfl (fun ls hl => ?_)
      refine lv_goto (tgt := 43) C.1 C.2.1 dX10_lay_58 (by decide) ?_
      exact hk_43 _ _ _ _ _ _ k_x0 hkm hW hZ _ (lv_sub hl [1, 2, 0] rfl) hE
set_option maxRecDepth 20000 in
theorem bX10_lay_28 {p : Program} {l : Launch} {e : Env} {s : State} {m : MethodId} {args : Array Value} {below : List Frame} {meth : Method} {c : Code} {X : Ec} {h0 : Hp} {o : Hp} {F : Nat} (C : Cx X p s m args meth c RX10 cX10_lay 4 none "lay") : ∀ (f : Nat) {h : Hp} {x0 : Nat} {x2 : Int32} {H : Heap} {locs : List Loc} (k_x0 : hK h x0 = 10), Km h0 h → Wx X h H → va_S (aA (eB X)) s.heap H locs → ∀ (ls : Array Slot), lv_has ls 4 [(0, .ref x0), (2, .int x2)] → sX10_lay_28 F f h x0 x2 = some o → W p l e (rm 4 117) s m args below meth c H locs 0 0 (MQ below (QV X h0 o) args s 0 0 (aA (eB X))) (F0 m 28 ls []) := by
  intro f
  induction f with
  | zero =>
    intro h x0 x2 H locs k_x0 hkm hW hZ ls hl hE
    rw [sX10_lay_28] at hE
    cases hE
  | succ f ih =>
    intro h x0 x2 H locs k_x0 hkm hW hZ ls hl hE
    rw [sX10_lay_28] at hE
    have hk_28 : ∀ (h : Hp) (x0 : Nat) (x2 : Int32) (H : Heap) (locs : List Loc), hK h x0 = 10 → Km h0 h → Wx X h H → va_S (aA (eB X)) s.heap H locs → ∀ (ls : Array Slot), lv_has ls 4 [(0, .ref x0), (2, .int x2)] → sX10_lay_28 F f h x0 x2 = some o → W p l e (rm 4 117) s m args below meth c H locs 0 0 (MQ below (QV X h0 o) args s 0 0 (aA (eB X))) (F0 m 28 ls []) := fun h x0 x2 H locs k_x0 a b c ls hl hE => ih k_x0 a b c ls hl hE
    refine lv_iload_n C.1 C.2.1 dX10_lay_28 rfl (lv_at hl 1 rfl) ?_
    refine lv_iconst (v := (2 : Int32)) C.1 C.2.1 dX10_lay_29 (by decide) ?_
    refine lv_aload_n C.1 C.2.1 dX10_lay_30 rfl (lv_at hl 0 rfl) ?_
    obtain ⟨r_1, er_1, hE⟩ := cl_e hE
    refine gf_X10_36 C hW k_x0 er_1 dX10_lay_31 (fun k_r_1 => ?_)
    refine gf_X10_50 C hW k_r_1 dX10_lay_34 ?_
    refine lv_imul C.1 C.2.1 dX10_lay_37 ?_
    refine lv_icmp_ge (tgt := 67) C.1 C.2.1 dX10_lay_38 (by decide) (fun c_2 => ?_) (fun c_2 => ?_)
    · have hE := br_p hE c_2
      refine lv_aload_n C.1 C.2.1 dX10_lay_67 rfl (lv_at hl 0 rfl) ?_
      obtain ⟨r_3, er_3, hE⟩ := cl_e hE
      refine gf_X10_10 C hW k_x0 er_3 dX10_lay_68 (fun k_r_3 => ?_)
      refine lv_iconst (v := (2 : Int32)) C.1 C.2.1 dX10_lay_71 (by decide) ?_
      refine lv_aload_n C.1 C.2.1 dX10_lay_72 rfl (lv_at hl 0 rfl) ?_
      obtain ⟨r_4, er_4, hE⟩ := cl_e hE
      refine gf_X10_36 C hW k_x0 er_4 dX10_lay_73 (fun k_r_4 => ?_)
      refine gf_X10_50 C hW k_r_4 dX10_lay_76 ?_
      refine lv_imul C.1 C.2.1 dX10_lay_79 ?_
      refine lv_bipush (v := (64 : Int32)) C.1 C.2.1 dX10_lay_80 (by decide) ?_
      refine lv_imul C.1 C.2.1 dX10_lay_82 ?_
      refine lv_bipush (v := (64 : Int32)) C.1 C.2.1 dX10_lay_83 (by decide) ?_
      refine lv_imul C.1 C.2.1 dX10_lay_85 ?_
      refine lv_aload_n C.1 C.2.1 dX10_lay_86 rfl (lv_at hl 0 rfl) ?_
      refine gf_X10_40 C hW k_x0 dX10_lay_87 ?_
      obtain ⟨g_5, hE⟩ := gd_e hE
      obtain ⟨h_6, eh_6, hE⟩ := nm_e2 hE
      refine y_iast C hW hZ k_r_3 g_5 eh_6 dX10_lay_90 (fun _ _ hW km hZ => ?_)
      replace hkm := hkm.tr km
      replace k_x0 := km.at k_x0 (by decide)
      refine lv_aload_n C.1 C.2.1 dX10_lay_91 rfl (lv_at hl 0 rfl) ?_
      obtain ⟨o_7, eo_7, hE⟩ := cl_e hE
      refine x_kV (o := o_7) (z_runV (As := []) (rest := []) C (ct_X10_layAround l X F k_x0 eo_7) cw_X10_59 hW hZ k_x0 (by decide) rfl rfl rfl hl.1 (Nat.le_of_ble_eq_true rfl) rfl dX10_lay_92 ⟨Nat.le_of_ble_eq_true rfl, Nat.le_of_ble_eq_true rfl⟩ ⟨Nat.le_refl _, Nat.le_refl _⟩) hZ (fun _ _ hW km hZ => ?_)
      replace hkm := hkm.tr km
      replace k_x0 := km.at k_x0 (by decide)
      exact x_vret C rfl hW hZ hkm hE dX10_lay_95
    · have hE := br_n hE c_2
      refine lv_iconst (v := (0 : Int32)) C.1 C.2.1 dX10_lay_41 (by decide) ?_
      refine lv_istore_n (lv' := [(3, .int (0 : Int32)), (0, .ref x0), (2, .int x2)]) C.1 C.2.1 dX10_lay_42 rfl hl (by decide) rfl (fun ls hl => ?_)
      exact bX10_lay_43 C hk_28 F k_x0 hkm hW hZ _ (lv_sub hl [1, 2, 0] rfl) hE
set_option maxRecDepth 20000 in
theorem ct_X10_lay (l : Launch) (X : Ec) (F : Nat) {h : Hp} {x0 : Nat} {x1 : Nat} {o : Hp} (k_x0 : hK h x0 = 10) (k_x1 : hK h x1 = 1) (hE : sX10_lay F h x0 x1 = some o) : MetV l yX10_lay cX10_lay 4 none 4 117 X [.ref x0, .ref x1] h o := by
  refine x_met (by decide) (Nat.le_of_ble_eq_true rfl) ?_
  intro p e s m below meth c ls C hl hW hZ
  have hl : lv_has ls 4 [(0, .ref x0), (1, .ref x1)] := hl
  have hkm : Km h h := Km.rf h
  refine lv_aload_n C.1 C.2.1 dX10_lay_0 rfl (lv_at hl 0 rfl) ?_
  refine lv_aload_n C.1 C.2.1 dX10_lay_1 rfl (lv_at hl 1 rfl) ?_
  obtain ⟨h_1, eh_1, hE⟩ := nm_e2 hE
  refine pf_X10_36 C hW hZ k_x0 k_x1 eh_1 dX10_lay_2 (fun _ _ hW km hZ => ?_)
  replace hkm := hkm.tr km
  replace k_x0 := km.at k_x0 (by decide)
  replace k_x1 := km.at k_x1 (by decide)
  refine lv_aload_n C.1 C.2.1 dX10_lay_5 rfl (lv_at hl 0 rfl) ?_
  refine lv_iconst (v := (0 : Int32)) C.1 C.2.1 dX10_lay_6 (by decide) ?_
  obtain ⟨h_2, eh_2, hE⟩ := nm_e2 hE
  refine pf_X10_40 C hW hZ k_x0 eh_2 dX10_lay_7 (fun _ _ hW km hZ => ?_)
  replace hkm := hkm.tr km
  replace k_x0 := km.at k_x0 (by decide)
  replace k_x1 := km.at k_x1 (by decide)
  refine lv_aload_n C.1 C.2.1 dX10_lay_10 rfl (lv_at hl 0 rfl) ?_
  obtain ⟨r_3, er_3, hE⟩ := cl_e hE
  refine gf_X10_24 C hW k_x0 er_3 dX10_lay_11 (fun k_r_3 => ?_)
  refine lv_lconst (v := (0 : Int64)) C.1 C.2.1 dX10_lay_14 (by decide) ?_
  obtain ⟨o_4, eo_4, hE⟩ := cl_e hE
  refine x_kV (o := o_4) (z_runS (As := [.ref r_3, .long (0 : Int64)]) (rest := []) C (ct_J7_fill_d0a16 l X F k_r_3 eo_4) cw_X10_44 hW hZ rfl hl.1 (Nat.le_of_ble_eq_true rfl) rfl dX10_lay_15 ⟨Nat.le_of_ble_eq_true rfl, Nat.le_of_ble_eq_true rfl⟩ ⟨Nat.le_refl _, Nat.le_refl _⟩) hZ (fun _ _ hW km hZ => ?_)
  replace hkm := hkm.tr km
  replace k_x0 := km.at k_x0 (by decide)
  replace k_x1 := km.at k_x1 (by decide)
  refine lv_aload_n C.1 C.2.1 dX10_lay_18 rfl (lv_at hl 0 rfl) ?_
  obtain ⟨r_5, er_5, hE⟩ := cl_e hE
  refine gf_X10_27 C hW k_x0 er_5 dX10_lay_19 (fun k_r_5 => ?_)
  refine lv_lconst (v := (0 : Int64)) C.1 C.2.1 dX10_lay_22 (by decide) ?_
  obtain ⟨o_6, eo_6, hE⟩ := cl_e hE
  refine x_kV (o := o_6) (z_runS (As := [.ref r_5, .long (0 : Int64)]) (rest := []) C (ct_J7_fill_d0a16 l X F k_r_5 eo_6) cw_X10_44 hW hZ rfl hl.1 (Nat.le_of_ble_eq_true rfl) rfl dX10_lay_23 ⟨Nat.le_of_ble_eq_true rfl, Nat.le_of_ble_eq_true rfl⟩ ⟨Nat.le_refl _, Nat.le_refl _⟩) hZ (fun _ _ hW km hZ => ?_)
  replace hkm := hkm.tr km
  replace k_x0 := km.at k_x0 (by decide)
  replace k_x1 := km.at k_x1 (by decide)
  refine lv_iconst (v := (0 : Int32)) C.1 C.2.1 dX10_lay_26 (by decide) ?_
  refine lv_istore_n (lv' := [(2, .int (0 : Int32)), (0, .ref x0), (1, .ref x1)]) C.1 C.2.1 dX10_lay_27 rfl hl (by decide) rfl (fun ls hl => ?_)
  exact bX10_lay_28 C F k_x0 hkm hW hZ _ (lv_sub hl [1, 0] rfl) hE
theorem dX10_isOpen_0 : decode cX10_isOpen 0 = .ok (.aload_n 0, 1) := by decide +kernel
theorem dX10_isOpen_1 : decode cX10_isOpen 1 = .ok (.getfield 20, 3) := by decide +kernel
theorem dX10_isOpen_4 : decode cX10_isOpen 4 = .ok (.iload_n 1, 1) := by decide +kernel
theorem dX10_isOpen_5 : decode cX10_isOpen 5 = .ok (.laload, 1) := by decide +kernel
theorem dX10_isOpen_6 : decode cX10_isOpen 6 = .ok (.lload_n 2, 1) := by decide +kernel
theorem dX10_isOpen_7 : decode cX10_isOpen 7 = .ok (.land, 1) := by decide +kernel
theorem dX10_isOpen_8 : decode cX10_isOpen 8 = .ok (.lstore 4, 2) := by decide +kernel
theorem dX10_isOpen_10 : decode cX10_isOpen 10 = .ok (.aload_n 0, 1) := by decide +kernel
theorem dX10_isOpen_11 : decode cX10_isOpen 11 = .ok (.getfield 17, 3) := by decide +kernel
theorem dX10_isOpen_14 : decode cX10_isOpen 14 = .ok (.iload_n 1, 1) := by decide +kernel
theorem dX10_isOpen_15 : decode cX10_isOpen 15 = .ok (.iaload, 1) := by decide +kernel
theorem dX10_isOpen_16 : decode cX10_isOpen 16 = .ok (.bipush 6, 2) := by decide +kernel
theorem dX10_isOpen_18 : decode cX10_isOpen 18 = .ok (.ishr, 1) := by decide +kernel
theorem dX10_isOpen_19 : decode cX10_isOpen 19 = .ok (.bipush 8, 2) := by decide +kernel
theorem dX10_isOpen_21 : decode cX10_isOpen 21 = .ok (.iand, 1) := by decide +kernel
theorem dX10_isOpen_22 : decode cX10_isOpen 22 = .ok (.ifCond .ne 16, 3) := by decide +kernel
theorem dX10_isOpen_25 : decode cX10_isOpen 25 = .ok (.lload 4, 2) := by decide +kernel
theorem dX10_isOpen_27 : decode cX10_isOpen 27 = .ok (.lconst 0, 1) := by decide +kernel
theorem dX10_isOpen_28 : decode cX10_isOpen 28 = .ok (.lcmp, 1) := by decide +kernel
theorem dX10_isOpen_29 : decode cX10_isOpen 29 = .ok (.ifCond .ne 7, 3) := by decide +kernel
theorem dX10_isOpen_32 : decode cX10_isOpen 32 = .ok (.iconst 1, 1) := by decide +kernel
theorem dX10_isOpen_33 : decode cX10_isOpen 33 = .ok (.goto 4, 3) := by decide +kernel
theorem dX10_isOpen_36 : decode cX10_isOpen 36 = .ok (.iconst 0, 1) := by decide +kernel
theorem dX10_isOpen_37 : decode cX10_isOpen 37 = .ok (.ireturn, 1) := by decide +kernel
theorem dX10_isOpen_38 : decode cX10_isOpen 38 = .ok (.lload 4, 2) := by decide +kernel
theorem dX10_isOpen_40 : decode cX10_isOpen 40 = .ok (.lconst 0, 1) := by decide +kernel
theorem dX10_isOpen_41 : decode cX10_isOpen 41 = .ok (.lcmp, 1) := by decide +kernel
theorem dX10_isOpen_42 : decode cX10_isOpen 42 = .ok (.ifCond .eq 19, 3) := by decide +kernel
theorem dX10_isOpen_45 : decode cX10_isOpen 45 = .ok (.lload 4, 2) := by decide +kernel
theorem dX10_isOpen_47 : decode cX10_isOpen 47 = .ok (.lload 4, 2) := by decide +kernel
theorem dX10_isOpen_49 : decode cX10_isOpen 49 = .ok (.lconst 1, 1) := by decide +kernel
theorem dX10_isOpen_50 : decode cX10_isOpen 50 = .ok (.lsub, 1) := by decide +kernel
theorem dX10_isOpen_51 : decode cX10_isOpen 51 = .ok (.land, 1) := by decide +kernel
theorem dX10_isOpen_52 : decode cX10_isOpen 52 = .ok (.lconst 0, 1) := by decide +kernel
theorem dX10_isOpen_53 : decode cX10_isOpen 53 = .ok (.lcmp, 1) := by decide +kernel
theorem dX10_isOpen_54 : decode cX10_isOpen 54 = .ok (.ifCond .ne 7, 3) := by decide +kernel
theorem dX10_isOpen_57 : decode cX10_isOpen 57 = .ok (.iconst 1, 1) := by decide +kernel
theorem dX10_isOpen_58 : decode cX10_isOpen 58 = .ok (.goto 4, 3) := by decide +kernel
theorem dX10_isOpen_61 : decode cX10_isOpen 61 = .ok (.iconst 0, 1) := by decide +kernel
theorem dX10_isOpen_62 : decode cX10_isOpen 62 = .ok (.ireturn, 1) := by decide +kernel
set_option maxRecDepth 20000 in
theorem moX10_isOpen_62 {o : Int32 × Hp} {h : Hp} {t0 : Int32} (hE : sX10_isOpen_62 h  t0 = some o) : Le h o.2 := by
  obtain ⟨g_1, hE⟩ := gd_e hE
  exact le_some2 hE
set_option maxRecDepth 20000 in
theorem moX10_isOpen_61 {o : Int32 × Hp} {h : Hp} (hE : sX10_isOpen_61 h  = some o) : Le h o.2 := by
  exact moX10_isOpen_62 hE
set_option maxRecDepth 20000 in
theorem moX10_isOpen_37 {o : Int32 × Hp} {h : Hp} {t0 : Int32} (hE : sX10_isOpen_37 h  t0 = some o) : Le h o.2 := by
  obtain ⟨g_1, hE⟩ := gd_e hE
  exact le_some2 hE
set_option maxRecDepth 20000 in
theorem moX10_isOpen {o : Int32 × Hp} {h : Hp} {x0 : Nat} {x1 : Int32} {x2 : Int64} (hE : sX10_isOpen h x0 x1 x2 = some o) : Le h o.2 := by
  obtain ⟨r_1, er_1, hE⟩ := cl_e hE
  obtain ⟨g_2, hE⟩ := gd_e hE
  obtain ⟨v_3, ev_3, hE⟩ := nm_e2 hE
  obtain ⟨r_4, er_4, hE⟩ := cl_e hE
  obtain ⟨g_5, hE⟩ := gd_e hE
  rcases br_e hE with ⟨_, hE⟩ | ⟨_, hE⟩
  · rcases br_e hE with ⟨_, hE⟩ | ⟨_, hE⟩
    · exact moX10_isOpen_37 hE
    · exact moX10_isOpen_37 hE
  · rcases br_e hE with ⟨_, hE⟩ | ⟨_, hE⟩
    · exact moX10_isOpen_61 hE
    · rcases br_e hE with ⟨_, hE⟩ | ⟨_, hE⟩
      · exact moX10_isOpen_62 hE
      · exact moX10_isOpen_61 hE
set_option maxRecDepth 20000 in
theorem bX10_isOpen_62 {p : Program} {l : Launch} {e : Env} {s : State} {m : MethodId} {args : Array Value} {below : List Frame} {meth : Method} {c : Code} {X : Ec} {h0 : Hp} {o : Int32 × Hp} (C : Cx X p s m args meth c RX10 cX10_isOpen 6 (some .boolean) "isOpen") {h : Hp} {t0 : Int32} {H : Heap} {locs : List Loc} (hkm : Km h0 h) (hW : Wx X h H) (hZ : va_S (aA (eB X)) s.heap H locs) (ls : Array Slot) (hl : lv_has ls 6 []) (hE : sX10_isOpen_62 h  t0 = some o) : W p l e (rm 0 0) s m args below meth c H locs 0 0 (MQ below (QI X h0 o.1 o.2) args s 0 0 (aA (eB X))) (F0 m 62 ls [.int t0]) := by
  obtain ⟨g_1, hE⟩ := gd_e hE
  exact x_iret C rfl (narB g_1) hW hZ hkm hE dX10_isOpen_62
set_option maxRecDepth 20000 in
theorem bX10_isOpen_61 {p : Program} {l : Launch} {e : Env} {s : State} {m : MethodId} {args : Array Value} {below : List Frame} {meth : Method} {c : Code} {X : Ec} {h0 : Hp} {o : Int32 × Hp} (C : Cx X p s m args meth c RX10 cX10_isOpen 6 (some .boolean) "isOpen") {h : Hp} {H : Heap} {locs : List Loc} (hkm : Km h0 h) (hW : Wx X h H) (hZ : va_S (aA (eB X)) s.heap H locs) (ls : Array Slot) (hl : lv_has ls 6 []) (hE : sX10_isOpen_61 h  = some o) : W p l e (rm 0 0) s m args below meth c H locs 0 0 (MQ below (QI X h0 o.1 o.2) args s 0 0 (aA (eB X))) (F0 m 61 ls []) := by
  refine lv_iconst (v := (0 : Int32)) C.1 C.2.1 dX10_isOpen_61 (by decide) ?_
  exact bX10_isOpen_62 C hkm hW hZ _ (lv_sub hl [] rfl) hE
set_option maxRecDepth 20000 in
theorem bX10_isOpen_37 {p : Program} {l : Launch} {e : Env} {s : State} {m : MethodId} {args : Array Value} {below : List Frame} {meth : Method} {c : Code} {X : Ec} {h0 : Hp} {o : Int32 × Hp} (C : Cx X p s m args meth c RX10 cX10_isOpen 6 (some .boolean) "isOpen") {h : Hp} {t0 : Int32} {H : Heap} {locs : List Loc} (hkm : Km h0 h) (hW : Wx X h H) (hZ : va_S (aA (eB X)) s.heap H locs) (ls : Array Slot) (hl : lv_has ls 6 []) (hE : sX10_isOpen_37 h  t0 = some o) : W p l e (rm 0 0) s m args below meth c H locs 0 0 (MQ below (QI X h0 o.1 o.2) args s 0 0 (aA (eB X))) (F0 m 37 ls [.int t0]) := by
  obtain ⟨g_1, hE⟩ := gd_e hE
  exact x_iret C rfl (narB g_1) hW hZ hkm hE dX10_isOpen_37
set_option maxRecDepth 20000 in
theorem ct_X10_isOpen (l : Launch) (X : Ec) {h : Hp} {x0 : Nat} {x1 : Int32} {x2 : Int64} {o : Int32 × Hp} (k_x0 : hK h x0 = 10) (hE : sX10_isOpen h x0 x1 x2 = some o) : MetI l yX10_isOpen cX10_isOpen 6 (some .boolean) 0 0 X [.ref x0, .int x1, .long x2] h o := by
  refine x_met (by decide) (Nat.le_of_ble_eq_true rfl) ?_
  intro p e s m below meth c ls C hl hW hZ
  have hl : lv_has ls 6 [(0, .ref x0), (1, .int x1), (2, .long x2)] := hl
  have hkm : Km h h := Km.rf h
  refine lv_aload_n C.1 C.2.1 dX10_isOpen_0 rfl (lv_at hl 0 rfl) ?_
  obtain ⟨r_1, er_1, hE⟩ := cl_e hE
  refine gf_X10_20 C hW k_x0 er_1 dX10_isOpen_1 (fun k_r_1 => ?_)
  refine lv_iload_n C.1 C.2.1 dX10_isOpen_4 rfl (lv_at hl 1 rfl) ?_
  obtain ⟨g_2, hE⟩ := gd_e hE
  refine y_lald C hW k_r_1 g_2 dX10_isOpen_5 ?_
  refine lv_lload_n C.1 C.2.1 dX10_isOpen_6 rfl (lv_at hl 2 rfl) ?_
  refine lv_land C.1 C.2.1 dX10_isOpen_7 ?_
  obtain ⟨v_3, ev_3, hE⟩ := nm_e2 hE
  refine x_nmJ ev_3 ?_
  refine lv_lstore (lv' := [(4, .long v_3), (0, .ref x0), (1, .int x1), (2, .long x2)]) C.1 C.2.1 dX10_isOpen_8 hl (by decide) rfl (fun ls hl => ?_)
  refine lv_aload_n C.1 C.2.1 dX10_isOpen_10 rfl (lv_at hl 1 rfl) ?_
  obtain ⟨r_4, er_4, hE⟩ := cl_e hE
  refine gf_X10_17 C hW k_x0 er_4 dX10_isOpen_11 (fun k_r_4 => ?_)
  refine lv_iload_n C.1 C.2.1 dX10_isOpen_14 rfl (lv_at hl 2 rfl) ?_
  obtain ⟨g_5, hE⟩ := gd_e hE
  refine y_iald C hW k_r_4 g_5 dX10_isOpen_15 ?_
  refine lv_bipush (v := (6 : Int32)) C.1 C.2.1 dX10_isOpen_16 (by decide) ?_
  refine lv_ishr C.1 C.2.1 dX10_isOpen_18 ?_
  refine lv_bipush (v := (8 : Int32)) C.1 C.2.1 dX10_isOpen_19 (by decide) ?_
  refine lv_iand C.1 C.2.1 dX10_isOpen_21 ?_
  refine lv_if_ne (tgt := 38) C.1 C.2.1 dX10_isOpen_22 (by decide) (fun c_6 => ?_) (fun c_6 => ?_)
  · have hE := br_n hE c_6
    refine lv_lload C.1 C.2.1 dX10_isOpen_38 (lv_at hl 0 rfl) ?_
    refine lv_lconst (v := (0 : Int64)) C.1 C.2.1 dX10_isOpen_40 (by decide) ?_
    refine W.lcmp C.1 C.2.1 dX10_isOpen_41 ?_
    refine lv_if_eq (tgt := 61) C.1 C.2.1 dX10_isOpen_42 (by decide) (fun c_7 => ?_) (fun c_7 => ?_)
    · have hE := br_p hE c_7
      exact bX10_isOpen_61 C hkm hW hZ _ (lv_sub hl [] rfl) hE
    · have hE := br_n hE c_7
      refine lv_lload C.1 C.2.1 dX10_isOpen_45 (lv_at hl 0 rfl) ?_
      refine lv_lload C.1 C.2.1 dX10_isOpen_47 (lv_at hl 0 rfl) ?_
      refine lv_lconst (v := (1 : Int64)) C.1 C.2.1 dX10_isOpen_49 (by decide) ?_
      refine lv_lsub C.1 C.2.1 dX10_isOpen_50 ?_
      refine lv_land C.1 C.2.1 dX10_isOpen_51 ?_
      refine lv_lconst (v := (0 : Int64)) C.1 C.2.1 dX10_isOpen_52 (by decide) ?_
      refine W.lcmp C.1 C.2.1 dX10_isOpen_53 ?_
      refine lv_if_ne (tgt := 61) C.1 C.2.1 dX10_isOpen_54 (by decide) (fun c_8 => ?_) (fun c_8 => ?_)
      · have hE := br_n hE c_8
        exact bX10_isOpen_61 C hkm hW hZ _ (lv_sub hl [] rfl) hE
      · have hE := br_p hE c_8
        refine lv_iconst (v := (1 : Int32)) C.1 C.2.1 dX10_isOpen_57 (by decide) ?_
        refine lv_goto (tgt := 62) C.1 C.2.1 dX10_isOpen_58 (by decide) ?_
        exact bX10_isOpen_62 C hkm hW hZ _ (lv_sub hl [] rfl) hE
  · have hE := br_p hE c_6
    refine lv_lload C.1 C.2.1 dX10_isOpen_25 (lv_at hl 0 rfl) ?_
    refine lv_lconst (v := (0 : Int64)) C.1 C.2.1 dX10_isOpen_27 (by decide) ?_
    refine W.lcmp C.1 C.2.1 dX10_isOpen_28 ?_
    refine lv_if_ne (tgt := 36) C.1 C.2.1 dX10_isOpen_29 (by decide) (fun c_9 => ?_) (fun c_9 => ?_)
    · have hE := br_n hE c_9
      refine lv_iconst (v := (0 : Int32)) C.1 C.2.1 dX10_isOpen_36 (by decide) ?_
      exact bX10_isOpen_37 C hkm hW hZ _ (lv_sub hl [] rfl) hE
    · have hE := br_p hE c_9
      refine lv_iconst (v := (1 : Int32)) C.1 C.2.1 dX10_isOpen_32 (by decide) ?_
      refine lv_goto (tgt := 37) C.1 C.2.1 dX10_isOpen_33 (by decide) ?_
      exact bX10_isOpen_37 C hkm hW hZ _ (lv_sub hl [] rfl) hE
