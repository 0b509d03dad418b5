set_option maxRecDepth 100000 in
theorem ms_119 : Cond.selects RX15 yX15_isSentence yX15_isSentence ∈ W0 := w0_in (List.mem_append_left _ (List.mem_of_getElem? (i := 119) rfl)) rfl
set_option maxRecDepth 100000 in
theorem m_1990 : Cond.methodLink RX15 67 yX14_clear ∈ W0 := w0_in (List.mem_append_right _ (List.mem_of_getElem? (i := 1990) rfl)) rfl
set_option maxRecDepth 100000 in
theorem m_1991 : Cond.instanceMethod yX14_clear ∈ W0 := w0_in (List.mem_append_right _ (List.mem_of_getElem? (i := 1991) rfl)) rfl
set_option maxRecDepth 100000 in
theorem m_1992 : Cond.selects RX14 yX14_clear yX14_clear ∈ W0 := w0_in (List.mem_append_right _ (List.mem_of_getElem? (i := 1992) rfl)) rfl
set_option maxRecDepth 100000 in
theorem m_1993 : Cond.code yX14_clear cX14_clear 2 none ∈ W0 := w0_in (List.mem_append_right _ (List.mem_of_getElem? (i := 1993) rfl)) rfl
set_option maxRecDepth 100000 in
theorem m_2021 : Cond.methodLink RX15 98 yX15_isSentence ∈ W0 := w0_in (List.mem_append_right _ (List.mem_of_getElem? (i := 2021) rfl)) rfl
set_option maxRecDepth 100000 in
theorem m_2023 : Cond.instanceMethod yX15_isSentence ∈ W0 := w0_in (List.mem_append_right _ (List.mem_of_getElem? (i := 2023) rfl)) rfl
set_option maxRecDepth 100000 in
theorem m_2024 : Cond.code yX15_isSentence cX15_isSentence 3 (some .boolean) ∈ W0 := w0_in (List.mem_append_right _ (List.mem_of_getElem? (i := 2024) rfl)) rfl
section
variable {p : Program} {l : Launch} {e : Env} {R : Room} {s : State} {m : MethodId} {args : Array Value} {below : List Frame} {meth : Method} {c : Code} {H : Heap} {locs : List Loc} {cells slots : Nat} {Q : State → Prop}
variable {cc : ByteArray} {pc : Nat} {ls : Array Slot} {rest : List Value} {X : Ec} {h h1 : Hp} {nL : Nat} {rt : Option FieldType} {mn : String}
theorem pf_X15_88 {a : Nat} {v : Int32} (C : Cx X p s m args meth c RX15 cc nL rt mn) (hW : Wx X h H) (hZ : va_S (aA (eB X)) s.heap H locs) (ha : hK h a = 14) (eh : h1 = wI h a 0 v) (hdg : decode cc pc = .ok (.putfield 88, 3)) (kk : ∀ (H1 : Heap) (locs1 : List Loc), Wx X h1 H1 → Km h h1 → va_S (aA (eB X)) s.heap H1 locs1 → W p l e R s m args below meth c H1 locs1 cells slots Q (F0 m (pc + 3) ls rest)) : W p l e R s m args below meth c H locs cells slots Q (F0 m pc ls (.int v :: .ref a :: rest)) :=
  y_putiN (ty := .int) C hW hZ ha i_X14 tyX14 tyX14_ok nmX14 (by decide) rfl rfl (by decide) n_1806 rfl (by decide +kernel) rfl rfl rfl eh hdg kk
theorem pf_X15_91 {a : Nat} {v : Int32} (C : Cx X p s m args meth c RX15 cc nL rt mn) (hW : Wx X h H) (hZ : va_S (aA (eB X)) s.heap H locs) (ha : hK h a = 14) (eh : h1 = wI h a 1 v) (hdg : decode cc pc = .ok (.putfield 91, 3)) (kk : ∀ (H1 : Heap) (locs1 : List Loc), Wx X h1 H1 → Km h h1 → va_S (aA (eB X)) s.heap H1 locs1 → W p l e R s m args below meth c H1 locs1 cells slots Q (F0 m (pc + 3) ls rest)) : W p l e R s m args below meth c H locs cells slots Q (F0 m pc ls (.int v :: .ref a :: rest)) :=
  y_putiN (ty := .int) C hW hZ ha i_X14 tyX14 tyX14_ok nmX14 (by decide) rfl rfl (by decide) n_1807 rfl (by decide +kernel) rfl rfl rfl eh hdg kk
end
theorem cw_X15_98 : cwd RX15 98 yX15_isSentence cX15_isSentence 3 (some .boolean) false 2 := ⟨m_2024, m_2021, m_19, ⟨m_2023, ms_119⟩, by decide, by decide, by decide +kernel⟩
theorem cw_X15_67 : cwd RX15 67 yX14_clear cX14_clear 2 none false 0 := ⟨m_1993, m_1990, m_20, ⟨m_1991, m_1992⟩, by decide, by decide, by decide +kernel⟩
theorem dX15_isRules_0 : decode cX15_isRules 0 = .ok (.aload_n 0, 1) := by decide +kernel
theorem dX15_isRules_1 : decode cX15_isRules 1 = .ok (.getfield 57, 3) := by decide +kernel
theorem dX15_isRules_4 : decode cX15_isRules 4 = .ok (.invokevirtual 67, 3) := by decide +kernel
theorem dX15_isRules_7 : decode cX15_isRules 7 = .ok (.aload_n 0, 1) := by decide +kernel
theorem dX15_isRules_8 : decode cX15_isRules 8 = .ok (.iconst 0, 1) := by decide +kernel
theorem dX15_isRules_9 : decode cX15_isRules 9 = .ok (.putfield 71, 3) := by decide +kernel
theorem dX15_isRules_12 : decode cX15_isRules 12 = .ok (.aload_n 0, 1) := by decide +kernel
theorem dX15_isRules_13 : decode cX15_isRules 13 = .ok (.iconst 0, 1) := by decide +kernel
theorem dX15_isRules_14 : decode cX15_isRules 14 = .ok (.putfield 24, 3) := by decide +kernel
theorem dX15_isRules_17 : decode cX15_isRules 17 = .ok (.aload_n 0, 1) := by decide +kernel
theorem dX15_isRules_18 : decode cX15_isRules 18 = .ok (.aload_n 1, 1) := by decide +kernel
theorem dX15_isRules_19 : decode cX15_isRules 19 = .ok (.iload_n 2, 1) := by decide +kernel
theorem dX15_isRules_20 : decode cX15_isRules 20 = .ok (.invokevirtual 74, 3) := by decide +kernel
theorem dX15_isRules_23 : decode cX15_isRules 23 = .ok (.aload_n 0, 1) := by decide +kernel
theorem dX15_isRules_24 : decode cX15_isRules 24 = .ok (.aload_n 1, 1) := by decide +kernel
theorem dX15_isRules_25 : decode cX15_isRules 25 = .ok (.ldc 78, 2) := by decide +kernel
theorem dX15_isRules_27 : decode cX15_isRules 27 = .ok (.invokevirtual 80, 3) := by decide +kernel
theorem dX15_isRules_30 : decode cX15_isRules 30 = .ok (.ifCond .ne 5, 3) := by decide +kernel
theorem dX15_isRules_33 : decode cX15_isRules 33 = .ok (.iconst 0, 1) := by decide +kernel
theorem dX15_isRules_34 : decode cX15_isRules 34 = .ok (.ireturn, 1) := by decide +kernel
theorem dX15_isRules_35 : decode cX15_isRules 35 = .ok (.aload_n 0, 1) := by decide +kernel
theorem dX15_isRules_36 : decode cX15_isRules 36 = .ok (.aload_n 1, 1) := by decide +kernel
theorem dX15_isRules_37 : decode cX15_isRules 37 = .ok (.iload_n 2, 1) := by decide +kernel
theorem dX15_isRules_38 : decode cX15_isRules 38 = .ok (.invokevirtual 74, 3) := by decide +kernel
theorem dX15_isRules_41 : decode cX15_isRules 41 = .ok (.aload_n 0, 1) := by decide +kernel
theorem dX15_isRules_42 : decode cX15_isRules 42 = .ok (.iconst 3, 1) := by decide +kernel
theorem dX15_isRules_43 : decode cX15_isRules 43 = .ok (.bipush 8, 2) := by decide +kernel
theorem dX15_isRules_45 : decode cX15_isRules 45 = .ok (.invokevirtual 84, 3) := by decide +kernel
theorem dX15_isRules_48 : decode cX15_isRules 48 = .ok (.ifCond .ne 5, 3) := by decide +kernel
theorem dX15_isRules_51 : decode cX15_isRules 51 = .ok (.iconst 0, 1) := by decide +kernel
theorem dX15_isRules_52 : decode cX15_isRules 52 = .ok (.ireturn, 1) := by decide +kernel
theorem dX15_isRules_53 : decode cX15_isRules 53 = .ok (.aload_n 0, 1) := by decide +kernel
theorem dX15_isRules_54 : decode cX15_isRules 54 = .ok (.getfield 57, 3) := by decide +kernel
theorem dX15_isRules_57 : decode cX15_isRules 57 = .ok (.aload_n 0, 1) := by decide +kernel
theorem dX15_isRules_58 : decode cX15_isRules 58 = .ok (.getfield 44, 3) := by decide +kernel
theorem dX15_isRules_61 : decode cX15_isRules 61 = .ok (.putfield 88, 3) := by decide +kernel
theorem dX15_isRules_64 : decode cX15_isRules 64 = .ok (.aload_n 0, 1) := by decide +kernel
theorem dX15_isRules_65 : decode cX15_isRules 65 = .ok (.aload_n 1, 1) := by decide +kernel
theorem dX15_isRules_66 : decode cX15_isRules 66 = .ok (.iload_n 2, 1) := by decide +kernel
theorem dX15_isRules_67 : decode cX15_isRules 67 = .ok (.invokevirtual 74, 3) := by decide +kernel
theorem dX15_isRules_70 : decode cX15_isRules 70 = .ok (.aload_n 0, 1) := by decide +kernel
theorem dX15_isRules_71 : decode cX15_isRules 71 = .ok (.iconst 3, 1) := by decide +kernel
theorem dX15_isRules_72 : decode cX15_isRules 72 = .ok (.bipush 8, 2) := by decide +kernel
theorem dX15_isRules_74 : decode cX15_isRules 74 = .ok (.invokevirtual 84, 3) := by decide +kernel
theorem dX15_isRules_77 : decode cX15_isRules 77 = .ok (.ifCond .ne 5, 3) := by decide +kernel
theorem dX15_isRules_80 : decode cX15_isRules 80 = .ok (.iconst 0, 1) := by decide +kernel
theorem dX15_isRules_81 : decode cX15_isRules 81 = .ok (.ireturn, 1) := by decide +kernel
theorem dX15_isRules_82 : decode cX15_isRules 82 = .ok (.aload_n 0, 1) := by decide +kernel
theorem dX15_isRules_83 : decode cX15_isRules 83 = .ok (.getfield 57, 3) := by decide +kernel
theorem dX15_isRules_86 : decode cX15_isRules 86 = .ok (.aload_n 0, 1) := by decide +kernel
theorem dX15_isRules_87 : decode cX15_isRules 87 = .ok (.getfield 44, 3) := by decide +kernel
theorem dX15_isRules_90 : decode cX15_isRules 90 = .ok (.putfield 91, 3) := by decide +kernel
theorem dX15_isRules_93 : decode cX15_isRules 93 = .ok (.aload_n 0, 1) := by decide +kernel
theorem dX15_isRules_94 : decode cX15_isRules 94 = .ok (.aload_n 1, 1) := by decide +kernel
theorem dX15_isRules_95 : decode cX15_isRules 95 = .ok (.iload_n 2, 1) := by decide +kernel
theorem dX15_isRules_96 : decode cX15_isRules 96 = .ok (.invokevirtual 74, 3) := by decide +kernel
theorem dX15_isRules_99 : decode cX15_isRules 99 = .ok (.aload_n 0, 1) := by decide +kernel
theorem dX15_isRules_100 : decode cX15_isRules 100 = .ok (.aload_n 1, 1) := by decide +kernel
theorem dX15_isRules_101 : decode cX15_isRules 101 = .ok (.bipush 59, 2) := by decide +kernel
theorem dX15_isRules_103 : decode cX15_isRules 103 = .ok (.invokevirtual 94, 3) := by decide +kernel
theorem dX15_isRules_106 : decode cX15_isRules 106 = .ok (.ifCond .ne 5, 3) := by decide +kernel
theorem dX15_isRules_109 : decode cX15_isRules 109 = .ok (.iconst 0, 1) := by decide +kernel
theorem dX15_isRules_110 : decode cX15_isRules 110 = .ok (.ireturn, 1) := by decide +kernel
theorem dX15_isRules_111 : decode cX15_isRules 111 = .ok (.aload_n 0, 1) := by decide +kernel
theorem dX15_isRules_112 : decode cX15_isRules 112 = .ok (.aload_n 1, 1) := by decide +kernel
theorem dX15_isRules_113 : decode cX15_isRules 113 = .ok (.iload_n 2, 1) := by decide +kernel
theorem dX15_isRules_114 : decode cX15_isRules 114 = .ok (.invokevirtual 74, 3) := by decide +kernel
theorem dX15_isRules_117 : decode cX15_isRules 117 = .ok (.aload_n 0, 1) := by decide +kernel
theorem dX15_isRules_118 : decode cX15_isRules 118 = .ok (.getfield 34, 3) := by decide +kernel
theorem dX15_isRules_121 : decode cX15_isRules 121 = .ok (.iconst 4, 1) := by decide +kernel
theorem dX15_isRules_122 : decode cX15_isRules 122 = .ok (.if_icmp .eq 33, 3) := by decide +kernel
theorem dX15_isRules_125 : decode cX15_isRules 125 = .ok (.aload_n 0, 1) := by decide +kernel
theorem dX15_isRules_126 : decode cX15_isRules 126 = .ok (.aload_n 1, 1) := by decide +kernel
theorem dX15_isRules_127 : decode cX15_isRules 127 = .ok (.iload_n 2, 1) := by decide +kernel
theorem dX15_isRules_128 : decode cX15_isRules 128 = .ok (.invokevirtual 98, 3) := by decide +kernel
theorem dX15_isRules_131 : decode cX15_isRules 131 = .ok (.ifCond .eq 13, 3) := by decide +kernel
theorem dX15_isRules_134 : decode cX15_isRules 134 = .ok (.aload_n 0, 1) := by decide +kernel
theorem dX15_isRules_135 : decode cX15_isRules 135 = .ok (.aload_n 1, 1) := by decide +kernel
theorem dX15_isRules_136 : decode cX15_isRules 136 = .ok (.bipush 59, 2) := by decide +kernel
theorem dX15_isRules_138 : decode cX15_isRules 138 = .ok (.invokevirtual 94, 3) := by decide +kernel
theorem dX15_isRules_141 : decode cX15_isRules 141 = .ok (.ifCond .ne 5, 3) := by decide +kernel
theorem dX15_isRules_144 : decode cX15_isRules 144 = .ok (.iconst 0, 1) := by decide +kernel
theorem dX15_isRules_145 : decode cX15_isRules 145 = .ok (.ireturn, 1) := by decide +kernel
theorem dX15_isRules_146 : decode cX15_isRules 146 = .ok (.aload_n 0, 1) := by decide +kernel
theorem dX15_isRules_147 : decode cX15_isRules 147 = .ok (.aload_n 1, 1) := by decide +kernel
theorem dX15_isRules_148 : decode cX15_isRules 148 = .ok (.iload_n 2, 1) := by decide +kernel
theorem dX15_isRules_149 : decode cX15_isRules 149 = .ok (.invokevirtual 74, 3) := by decide +kernel
theorem dX15_isRules_152 : decode cX15_isRules 152 = .ok (.goto (-35), 3) := by decide +kernel
theorem dX15_isRules_155 : decode cX15_isRules 155 = .ok (.iconst 1, 1) := by decide +kernel
theorem dX15_isRules_156 : decode cX15_isRules 156 = .ok (.ireturn, 1) := by decide +kernel
set_option maxRecDepth 20000 in
theorem moX15_isRules_144 {o : Int32 × Hp} {F : Nat} {h : Hp} (hE : sX15_isRules_144 F h  = some o) : Le h o.2 := by
  exact le_some2 hE
set_option maxRecDepth 20000 in
theorem moX15_isRules_117 {o : Int32 × Hp} {F : Nat} : ∀ (f : Nat) {h : Hp} {x0 : Nat} {x1 : Nat} {x2 : Int32}, sX15_isRules_117 F f h x0 x1 x2 = some o → Le h o.2 := by
  intro f
  induction f with
  | zero =>
    intro h x0 x1 x2 hE
    rw [sX15_isRules_117] at hE
    cases hE
  | succ f ih =>
    intro h x0 x1 x2 hE
    rw [sX15_isRules_117] at hE
    have mk_117 : ∀ (h : Hp) (x0 : Nat) (x1 : Nat) (x2 : Int32), sX15_isRules_117 F f h x0 x1 x2 = some o → Le h o.2 := fun h x0 x1 x2 hE => ih hE
    rcases br_e hE with ⟨_, hE⟩ | ⟨_, hE⟩
    · exact le_some2 hE
    · obtain ⟨o_2, eo_2, hE⟩ := cl_e hE
      refine (moX15_isSentence eo_2).tr ?_
      rcases br_e hE with ⟨_, hE⟩ | ⟨_, hE⟩
      · exact moX15_isRules_144 hE
      · obtain ⟨o_4, eo_4, hE⟩ := cl_e hE
        refine (moX15_isSign eo_4).tr ?_
        rcases br_e hE with ⟨_, hE⟩ | ⟨_, hE⟩
        · exact moX15_isRules_144 hE
        · obtain ⟨o_6, eo_6, hE⟩ := cl_e hE
          refine (moX15_nextToken eo_6).tr ?_
          exact mk_117 _ _ _ _ hE
set_option maxRecDepth 20000 in
theorem moX15_isRules {o : Int32 × Hp} {F : Nat} {h : Hp} {x0 : Nat} {x1 : Nat} {x2 : Int32} (hE : sX15_isRules F h x0 x1 x2 = some o) : Le h o.2 := by
  obtain ⟨r_1, er_1, hE⟩ := cl_e hE
  obtain ⟨o_2, eo_2, hE⟩ := cl_e hE
  refine (moX14_clear eo_2).tr ?_
  obtain ⟨h_3, eh_3, hE⟩ := nm_e2 hE
  refine (le_I eh_3).tr ?_
  obtain ⟨h_4, eh_4, hE⟩ := nm_e2 hE
  refine (le_I eh_4).tr ?_
  obtain ⟨o_5, eo_5, hE⟩ := cl_e hE
  refine (moX15_nextToken eo_5).tr ?_
  obtain ⟨o_6, eo_6, hE⟩ := cl_e hE
  refine (moX15_isWord eo_6).tr ?_
  rcases br_e hE with ⟨_, hE⟩ | ⟨_, hE⟩
  · exact le_some2 hE
  · obtain ⟨o_8, eo_8, hE⟩ := cl_e hE
    refine (moX15_nextToken eo_8).tr ?_
    obtain ⟨o_9, eo_9, hE⟩ := cl_e hE
    refine (moX15_isNumber eo_9).tr ?_
    rcases br_e hE with ⟨_, hE⟩ | ⟨_, hE⟩
    · exact le_some2 hE
    · obtain ⟨r_11, er_11, hE⟩ := cl_e hE
      obtain ⟨h_12, eh_12, hE⟩ := nm_e2 hE
      refine (le_I eh_12).tr ?_
      obtain ⟨o_13, eo_13, hE⟩ := cl_e hE
      refine (moX15_nextToken eo_13).tr ?_
      obtain ⟨o_14, eo_14, hE⟩ := cl_e hE
      refine (moX15_isNumber eo_14).tr ?_
      rcases br_e hE with ⟨_, hE⟩ | ⟨_, hE⟩
      · exact le_some2 hE
      · obtain ⟨r_16, er_16, hE⟩ := cl_e hE
        obtain ⟨h_17, eh_17, hE⟩ := nm_e2 hE
        refine (le_I eh_17).tr ?_
        obtain ⟨o_18, eo_18, hE⟩ := cl_e hE
        refine (moX15_nextToken eo_18).tr ?_
        obtain ⟨o_19, eo_19, hE⟩ := cl_e hE
        refine (moX15_isSign eo_19).tr ?_
        rcases br_e hE with ⟨_, hE⟩ | ⟨_, hE⟩
        · exact le_some2 hE
        · obtain ⟨o_21, eo_21, hE⟩ := cl_e hE
          refine (moX15_nextToken eo_21).tr ?_
          exact moX15_isRules_117 _ hE
set_option maxRecDepth 20000 in
theorem bX15_isRules_144 {p : Program} {l : Launch} {e : Env} {s : State} {m : MethodId} {args : Array Value} {below : List Frame} {meth : Method} {c : Code} {X : Ec} {h0 : Hp} {o : Int32 × Hp} {F : Nat} (C : Cx X p s m args meth c RX15 cX15_isRules 3 (some .boolean) "isRules") {h : Hp} {H : Heap} {locs : List Loc} (hkm : Km h0 h) (hW : Wx X h H) (hZ : va_S (aA (eB X)) s.heap H locs) (ls : Array Slot) (hl : lv_has ls 3 []) (hE : sX15_isRules_144 F h  = some o) : W p l e (rm 9 200) s m args below meth c H locs 0 0 (MQ below (QI X h0 o.1 o.2) args s 0 0 (aA (eB X))) (F0 m 144 ls []) := by
  refine lv_iconst (v := (0 : Int32)) C.1 C.2.1 dX15_isRules_144 (by decide) ?_
  exact x_iret C rfl (by decide) hW hZ hkm hE dX15_isRules_145
set_option maxRecDepth 20000 in
theorem bX15_isRules_117 {p : Program} {l : Launch} {e : Env} {s : State} {m : MethodId} {args : Array Value} {below : List Frame} {meth : Method} {c : Code} {X : Ec} {h0 : Hp} {o : Int32 × Hp} {F : Nat} (C : Cx X p s m args meth c RX15 cX15_isRules 3 (some .boolean) "isRules") : ∀ (f : Nat) {h : Hp} {x0 : Nat} {x1 : Nat} {x2 : Int32} {H : Heap} {locs : List Loc} (k_x0 : hK h x0 = 15) (k_x1 : hK h x1 = 16), Km h0 h → Wx X h H → va_S (aA (eB X)) s.heap H locs → ∀ (ls : Array Slot), lv_has ls 3 [(0, .ref x0), (1, .ref x1), (2, .int x2)] → sX15_isRules_117 F f h x0 x1 x2 = some o → W p l e (rm 9 200) s m args below meth c H locs 0 0 (MQ below (QI X h0 o.1 o.2) args s 0 0 (aA (eB X))) (F0 m 117 ls []) := by
  intro f
  induction f with
  | zero =>
    intro h x0 x1 x2 H locs k_x0 k_x1 hkm hW hZ ls hl hE
    rw [sX15_isRules_117] at hE
    cases hE
  | succ f ih =>
    intro h x0 x1 x2 H locs k_x0 k_x1 hkm hW hZ ls hl hE
    rw [sX15_isRules_117] at hE
    have hk_117 : ∀ (h : Hp) (x0 : Nat) (x1 : Nat) (x2 : Int32) (H : Heap) (locs : List Loc), hK h x0 = 15 → hK h x1 = 16 → Km h0 h → Wx X h H → va_S (aA (eB X)) s.heap H locs → ∀ (ls : Array Slot), lv_has ls 3 [(0, .ref x0), (1, .ref x1), (2, .int x2)] → sX15_isRules_117 F f h x0 x1 x2 = some o → W p l e (rm 9 200) s m args below meth c H locs 0 0 (MQ below (QI X h0 o.1 o.2) args s 0 0 (aA (eB X))) (F0 m 117 ls []) := fun h x0 x1 x2 H locs k_x0 k_x1 a b c ls hl hE => ih k_x0 k_x1 a b c ls hl hE
    refine lv_aload_n C.1 C.2.1 dX15_isRules_117 rfl (lv_at hl 0 rfl) ?_
    refine gf_X15_34 C hW k_x0 dX15_isRules_118 ?_
    refine lv_iconst (v := (4 : Int32)) C.1 C.2.1 dX15_isRules_121 (by decide) ?_
    refine lv_icmp_eq (tgt := 155) C.1 C.2.1 dX15_isRules_122 (by decide) (fun c_1 => ?_) (fun c_1 => ?_)
    · have hE := br_p hE c_1
      refine lv_iconst (v := (1 : Int32)) C.1 C.2.1 dX15_isRules_155 (by decide) ?_
      exact x_iret C rfl (by decide) hW hZ hkm hE dX15_isRules_156
    · have hE := br_n hE c_1
      refine lv_aload_n C.1 C.2.1 dX15_isRules_125 rfl (lv_at hl 0 rfl) ?_
      refine lv_aload_n C.1 C.2.1 dX15_isRules_126 rfl (lv_at hl 1 rfl) ?_
      refine lv_iload_n C.1 C.2.1 dX15_isRules_127 rfl (lv_at hl 2 rfl) ?_
      obtain ⟨o_2, eo_2, hE⟩ := cl_e hE
      refine x_kI (o := o_2) (z_runV (As := [.ref x1, .int x2]) (rest := []) C (ct_X15_isSentence l X F k_x0 k_x1 eo_2) cw_X15_98 hW hZ k_x0 (by decide) rfl rfl rfl hl.1 (Nat.le_of_ble_eq_true rfl) rfl dX15_isRules_128 ⟨Nat.le_of_ble_eq_true rfl, Nat.le_of_ble_eq_true rfl⟩ ⟨Nat.le_refl _, Nat.le_refl _⟩) hZ (fun _ _ hW km hZ => ?_)
      replace hkm := hkm.tr km
      replace k_x0 := km.at k_x0 (by decide)
      replace k_x1 := km.at k_x1 (by decide)
      refine lv_if_eq (tgt := 144) C.1 C.2.1 dX15_isRules_131 (by decide) (fun c_3 => ?_) (fun c_3 => ?_)
      · have hE := br_p hE c_3
        exact bX15_isRules_144 C hkm hW hZ _ (lv_sub hl [] rfl) hE
      · have hE := br_n hE c_3
        refine lv_aload_n C.1 C.2.1 dX15_isRules_134 rfl (lv_at hl 0 rfl) ?_
        refine lv_aload_n C.1 C.2.1 dX15_isRules_135 rfl (lv_at hl 1 rfl) ?_
        refine lv_bipush (v := (59 : Int32)) C.1 C.2.1 dX15_isRules_136 (by decide) ?_
        obtain ⟨o_4, eo_4, hE⟩ := cl_e hE
        refine x_kI (o := o_4) (z_runV (As := [.ref x1, .int (59 : Int32)]) (rest := []) C (ct_X15_isSign l X k_x0 k_x1 eo_4) cw_X15_94 hW hZ k_x0 (by decide) rfl rfl rfl hl.1 (Nat.le_of_ble_eq_true rfl) rfl dX15_isRules_138 ⟨Nat.le_of_ble_eq_true rfl, Nat.le_of_ble_eq_true rfl⟩ ⟨Nat.le_refl _, Nat.le_refl _⟩) hZ (fun _ _ hW km hZ => ?_)
        replace hkm := hkm.tr km
        replace k_x0 := km.at k_x0 (by decide)
        replace k_x1 := km.at k_x1 (by decide)
        refine lv_if_ne (tgt := 146) C.1 C.2.1 dX15_isRules_141 (by decide) (fun c_5 => ?_) (fun c_5 => ?_)
        · have hE := br_n hE c_5
          refine lv_aload_n C.1 C.2.1 dX15_isRules_146 rfl (lv_at hl 0 rfl) ?_
          refine lv_aload_n C.1 C.2.1 dX15_isRules_147 rfl (lv_at hl 1 rfl) ?_
          refine lv_iload_n C.1 C.2.1 dX15_isRules_148 rfl (lv_at hl 2 rfl) ?_
          obtain ⟨o_6, eo_6, hE⟩ := cl_e hE
          refine x_kV (o := o_6) (z_runV (As := [.ref x1, .int x2]) (rest := []) C (ct_X15_nextToken l X F k_x0 k_x1 eo_6) cw_X15_74 hW hZ k_x0 (by decide) rfl rfl rfl hl.1 (Nat.le_of_ble_eq_true rfl) rfl dX15_isRules_149 ⟨Nat.le_of_ble_eq_true rfl, Nat.le_of_ble_eq_true rfl⟩ ⟨Nat.le_refl _, Nat.le_refl _⟩) hZ (fun _ _ hW km hZ => ?_)
          replace hkm := hkm.tr km
          replace k_x0 := km.at k_x0 (by decide)
          replace k_x1 := km.at k_x1 (by decide)
          refine lv_goto (tgt := 117) C.1 C.2.1 dX15_isRules_152 (by decide) ?_
          exact hk_117 _ _ _ _ _ _ k_x0 k_x1 hkm hW hZ _ (lv_sub hl [0, 1, 2] rfl) hE
        · have hE := br_p hE c_5
          exact bX15_isRules_144 C hkm hW hZ _ (lv_sub hl [] rfl) hE
set_option maxRecDepth 20000 in
theorem ct_X15_isRules (l : Launch) (X : Ec) (F : Nat) {h : Hp} {x0 : Nat} {x1 : Nat} {x2 : Int32} {o : Int32 × Hp} (k_x0 : hK h x0 = 15) (k_x1 : hK h x1 = 16) (hE : sX15_isRules F h x0 x1 x2 = some o) : MetI l yX15_isRules cX15_isRules 3 (some .boolean) 9 200 X [.ref x0, .ref x1, .int x2] h o := by
  refine x_met (by decide) (Nat.le_of_ble_eq_true rfl) ?_
  intro p e s m below meth c ls C hl hW hZ
  have hl : lv_has ls 3 [(0, .ref x0), (1, .ref x1), (2, .int x2)] := hl
  have hkm : Km h h := Km.rf h
  refine lv_aload_n C.1 C.2.1 dX15_isRules_0 rfl (lv_at hl 0 rfl) ?_
  obtain ⟨r_1, er_1, hE⟩ := cl_e hE
  refine gf_X15_57 C hW k_x0 er_1 dX15_isRules_1 (fun k_r_1 => ?_)
  obtain ⟨o_2, eo_2, hE⟩ := cl_e hE
  refine x_kV (o := o_2) (z_runV (As := []) (rest := []) C (ct_X14_clear l X F k_r_1 eo_2) cw_X15_67 hW hZ k_r_1 (by decide) rfl rfl rfl hl.1 (Nat.le_of_ble_eq_true rfl) rfl dX15_isRules_4 ⟨Nat.le_of_ble_eq_true rfl, Nat.le_of_ble_eq_true rfl⟩ ⟨Nat.le_refl _, Nat.le_refl _⟩) hZ (fun _ _ hW km hZ => ?_)
  replace hkm := hkm.tr km
  replace k_x0 := km.at k_x0 (by decide)
  replace k_x1 := km.at k_x1 (by decide)
  refine lv_aload_n C.1 C.2.1 dX15_isRules_7 rfl (lv_at hl 0 rfl) ?_
  refine lv_iconst (v := (0 : Int32)) C.1 C.2.1 dX15_isRules_8 (by decide) ?_
  obtain ⟨h_3, eh_3, hE⟩ := nm_e2 hE
  refine pf_X15_71 C hW hZ k_x0 eh_3 dX15_isRules_9 (fun _ _ hW km hZ => ?_)
  replace hkm := hkm.tr km
  replace k_x0 := km.at k_x0 (by decide)
  replace k_x1 := km.at k_x1 (by decide)
  refine lv_aload_n C.1 C.2.1 dX15_isRules_12 rfl (lv_at hl 0 rfl) ?_
  refine lv_iconst (v := (0 : Int32)) C.1 C.2.1 dX15_isRules_13 (by decide) ?_
  obtain ⟨h_4, eh_4, hE⟩ := nm_e2 hE
  refine pf_X15_24 C hW hZ k_x0 eh_4 dX15_isRules_14 (fun _ _ hW km hZ => ?_)
  replace hkm := hkm.tr km
  replace k_x0 := km.at k_x0 (by decide)
  replace k_x1 := km.at k_x1 (by decide)
  refine lv_aload_n C.1 C.2.1 dX15_isRules_17 rfl (lv_at hl 0 rfl) ?_
  refine lv_aload_n C.1 C.2.1 dX15_isRules_18 rfl (lv_at hl 1 rfl) ?_
  refine lv_iload_n C.1 C.2.1 dX15_isRules_19 rfl (lv_at hl 2 rfl) ?_
  obtain ⟨o_5, eo_5, hE⟩ := cl_e hE
  refine x_kV (o := o_5) (z_runV (As := [.ref x1, .int x2]) (rest := []) C (ct_X15_nextToken l X F k_x0 k_x1 eo_5) cw_X15_74 hW hZ k_x0 (by decide) rfl rfl rfl hl.1 (Nat.le_of_ble_eq_true rfl) rfl dX15_isRules_20 ⟨Nat.le_of_ble_eq_true rfl, Nat.le_of_ble_eq_true rfl⟩ ⟨Nat.le_refl _, Nat.le_refl _⟩) hZ (fun _ _ hW km hZ => ?_)
  replace hkm := hkm.tr km
  replace k_x0 := km.at k_x0 (by decide)
  replace k_x1 := km.at k_x1 (by decide)
  refine lv_aload_n C.1 C.2.1 dX15_isRules_23 rfl (lv_at hl 0 rfl) ?_
  refine lv_aload_n C.1 C.2.1 dX15_isRules_24 rfl (lv_at hl 1 rfl) ?_
  refine va_ldcS C.1 C.2.1 C.2.2.2.1 (C.2.2.2.2.2.2.2.2.1 29 (by decide)).2 dX15_isRules_25 ?_
  obtain ⟨o_6, eo_6, hE⟩ := cl_e hE
  refine x_kI (o := o_6) (z_runV (As := [.ref x1, .ref (X.2.2.2.1 29)]) (rest := []) C (ct_X15_isWord l X F k_x0 k_x1 (by decide) eo_6) cw_X15_80 hW hZ k_x0 (by decide) rfl rfl rfl hl.1 (Nat.le_of_ble_eq_true rfl) rfl dX15_isRules_27 ⟨Nat.le_of_ble_eq_true rfl, Nat.le_of_ble_eq_true rfl⟩ ⟨Nat.le_refl _, Nat.le_refl _⟩) hZ (fun _ _ hW km hZ => ?_)
  replace hkm := hkm.tr km
  replace k_x0 := km.at k_x0 (by decide)
  replace k_x1 := km.at k_x1 (by decide)
  refine lv_if_ne (tgt := 35) C.1 C.2.1 dX15_isRules_30 (by decide) (fun c_7 => ?_) (fun c_7 => ?_)
  · have hE := br_n hE c_7
    refine lv_aload_n C.1 C.2.1 dX15_isRules_35 rfl (lv_at hl 0 rfl) ?_
    refine lv_aload_n C.1 C.2.1 dX15_isRules_36 rfl (lv_at hl 1 rfl) ?_
    refine lv_iload_n C.1 C.2.1 dX15_isRules_37 rfl (lv_at hl 2 rfl) ?_
    obtain ⟨o_8, eo_8, hE⟩ := cl_e hE
    refine x_kV (o := o_8) (z_runV (As := [.ref x1, .int x2]) (rest := []) C (ct_X15_nextToken l X F k_x0 k_x1 eo_8) cw_X15_74 hW hZ k_x0 (by decide) rfl rfl rfl hl.1 (Nat.le_of_ble_eq_true rfl) rfl dX15_isRules_38 ⟨Nat.le_of_ble_eq_true rfl, Nat.le_of_ble_eq_true rfl⟩ ⟨Nat.le_refl _, Nat.le_refl _⟩) hZ (fun _ _ hW km hZ => ?_)
    replace hkm := hkm.tr km
    replace k_x0 := km.at k_x0 (by decide)
    replace k_x1 := km.at k_x1 (by decide)
    refine lv_aload_n C.1 C.2.1 dX15_isRules_41 rfl (lv_at hl 0 rfl) ?_
    refine lv_iconst (v := (3 : Int32)) C.1 C.2.1 dX15_isRules_42 (by decide) ?_
    refine lv_bipush (v := (8 : Int32)) C.1 C.2.1 dX15_isRules_43 (by decide) ?_
    obtain ⟨o_9, eo_9, hE⟩ := cl_e hE
    refine x_kI (o := o_9) (z_runV (As := [.int (3 : Int32), .int (8 : Int32)]) (rest := []) C (ct_X15_isNumber l X k_x0 eo_9) cw_X15_84 hW hZ k_x0 (by decide) rfl rfl rfl hl.1 (Nat.le_of_ble_eq_true rfl) rfl dX15_isRules_45 ⟨Nat.le_of_ble_eq_true rfl, Nat.le_of_ble_eq_true rfl⟩ ⟨Nat.le_refl _, Nat.le_refl _⟩) hZ (fun _ _ hW km hZ => ?_)
    replace hkm := hkm.tr km
    replace k_x0 := km.at k_x0 (by decide)
    replace k_x1 := km.at k_x1 (by decide)
    refine lv_if_ne (tgt := 53) C.1 C.2.1 dX15_isRules_48 (by decide) (fun c_10 => ?_) (fun c_10 => ?_)
    · have hE := br_n hE c_10
      refine lv_aload_n C.1 C.2.1 dX15_isRules_53 rfl (lv_at hl 0 rfl) ?_
      obtain ⟨r_11, er_11, hE⟩ := cl_e hE
      refine gf_X15_57 C hW k_x0 er_11 dX15_isRules_54 (fun k_r_11 => ?_)
      refine lv_aload_n C.1 C.2.1 dX15_isRules_57 rfl (lv_at hl 0 rfl) ?_
      refine gf_X15_44 C hW k_x0 dX15_isRules_58 ?_
      obtain ⟨h_12, eh_12, hE⟩ := nm_e2 hE
      refine pf_X15_88 C hW hZ k_r_11 eh_12 dX15_isRules_61 (fun _ _ hW km hZ => ?_)
      replace hkm := hkm.tr km
      replace k_x0 := km.at k_x0 (by decide)
      replace k_x1 := km.at k_x1 (by decide)
      refine lv_aload_n C.1 C.2.1 dX15_isRules_64 rfl (lv_at hl 0 rfl) ?_
      refine lv_aload_n C.1 C.2.1 dX15_isRules_65 rfl (lv_at hl 1 rfl) ?_
      refine lv_iload_n C.1 C.2.1 dX15_isRules_66 rfl (lv_at hl 2 rfl) ?_
      obtain ⟨o_13, eo_13, hE⟩ := cl_e hE
      refine x_kV (o := o_13) (z_runV (As := [.ref x1, .int x2]) (rest := []) C (ct_X15_nextToken l X F k_x0 k_x1 eo_13) cw_X15_74 hW hZ k_x0 (by decide) rfl rfl rfl hl.1 (Nat.le_of_ble_eq_true rfl) rfl dX15_isRules_67 ⟨Nat.le_of_ble_eq_true rfl, Nat.le_of_ble_eq_true rfl⟩ ⟨Nat.le_refl _, Nat.le_refl _⟩) hZ (fun _ _ hW km hZ => ?_)
      replace hkm := hkm.tr km
      replace k_x0 := km.at k_x0 (by decide)
      replace k_x1 := km.at k_x1 (by decide)
      refine lv_aload_n C.1 C.2.1 dX15_isRules_70 rfl (lv_at hl 0 rfl) ?_
      refine lv_iconst (v := (3 : Int32)) C.1 C.2.1 dX15_isRules_71 (by decide) ?_
      refine lv_bipush (v := (8 : Int32)) C.1 C.2.1 dX15_isRules_72 (by decide) ?_
      obtain ⟨o_14, eo_14, hE⟩ := cl_e hE
      refine x_kI (o := o_14) (z_runV (As := [.int (3 : Int32), .int (8 : Int32)]) (rest := []) C (ct_X15_isNumber l X k_x0 eo_14) cw_X15_84 hW hZ k_x0 (by decide) rfl rfl rfl hl.1 (Nat.le_of_ble_eq_true rfl) rfl dX15_isRules_74 ⟨Nat.le_of_ble_eq_true rfl, Nat.le_of_ble_eq_true rfl⟩ ⟨Nat.le_refl _, Nat.le_refl _⟩) hZ (fun _ _ hW km hZ => ?_)
      replace hkm := hkm.tr km
      replace k_x0 := km.at k_x0 (by decide)
      replace k_x1 := km.at k_x1 (by decide)
      refine lv_if_ne (tgt := 82) C.1 C.2.1 dX15_isRules_77 (by decide) (fun c_15 => ?_) (fun c_15 => ?_)
      · have hE := br_n hE c_15
        refine lv_aload_n C.1 C.2.1 dX15_isRules_82 rfl (lv_at hl 0 rfl) ?_
        obtain ⟨r_16, er_16, hE⟩ := cl_e hE
        refine gf_X15_57 C hW k_x0 er_16 dX15_isRules_83 (fun k_r_16 => ?_)
        refine lv_aload_n C.1 C.2.1 dX15_isRules_86 rfl (lv_at hl 0 rfl) ?_
        refine gf_X15_44 C hW k_x0 dX15_isRules_87 ?_
        obtain ⟨h_17, eh_17, hE⟩ := nm_e2 hE
        refine pf_X15_91 C hW hZ k_r_16 eh_17 dX15_isRules_90 (fun _ _ hW km hZ => ?_)
        replace hkm := hkm.tr km
        replace k_x0 := km.at k_x0 (by decide)
        replace k_x1 := km.at k_x1 (by decide)
        refine lv_aload_n C.1 C.2.1 dX15_isRules_93 rfl (lv_at hl 0 rfl) ?_
        refine lv_aload_n C.1 C.2.1 dX15_isRules_94 rfl (lv_at hl 1 rfl) ?_
        refine lv_iload_n C.1 C.2.1 dX15_isRules_95 rfl (lv_at hl 2 rfl) ?_
        obtain ⟨o_18, eo_18, hE⟩ := cl_e hE
        refine x_kV (o := o_18) (z_runV (As := [.ref x1, .int x2]) (rest := []) C (ct_X15_nextToken l X F k_x0 k_x1 eo_18) cw_X15_74 hW hZ k_x0 (by decide) rfl rfl rfl hl.1 (Nat.le_of_ble_eq_true rfl) rfl dX15_isRules_96 ⟨Nat.le_of_ble_eq_true rfl, Nat.le_of_ble_eq_true rfl⟩ ⟨Nat.le_refl _, Nat.le_refl _⟩) hZ (fun _ _ hW km hZ => ?_)
        replace hkm := hkm.tr km
        replace k_x0 := km.at k_x0 (by decide)
        replace k_x1 := km.at k_x1 (by decide)
        refine lv_aload_n C.1 C.2.1 dX15_isRules_99 rfl (lv_at hl 0 rfl) ?_
        refine lv_aload_n C.1 C.2.1 dX15_isRules_100 rfl (lv_at hl 1 rfl) ?_
        refine lv_bipush (v := (59 : Int32)) C.1 C.2.1 dX15_isRules_101 (by decide) ?_
        obtain ⟨o_19, eo_19, hE⟩ := cl_e hE
        refine x_kI (o := o_19) (z_runV (As := [.ref x1, .int (59 : Int32)]) (rest := []) C (ct_X15_isSign l X k_x0 k_x1 eo_19) cw_X15_94 hW hZ k_x0 (by decide) rfl rfl rfl hl.1 (Nat.le_of_ble_eq_true rfl) rfl dX15_isRules_103 ⟨Nat.le_of_ble_eq_true rfl, Nat.le_of_ble_eq_true rfl⟩ ⟨Nat.le_refl _, Nat.le_refl _⟩) hZ (fun _ _ hW km hZ => ?_)
        replace hkm := hkm.tr km
        replace k_x0 := km.at k_x0 (by decide)
        replace k_x1 := km.at k_x1 (by decide)
        refine lv_if_ne (tgt := 111) C.1 C.2.1 dX15_isRules_106 (by decide) (fun c_20 => ?_) (fun c_20 => ?_)
        · have hE := br_n hE c_20
          refine lv_aload_n C.1 C.2.1 dX15_isRules_111 rfl (lv_at hl 0 rfl) ?_
          refine lv_aload_n C.1 C.2.1 dX15_isRules_112 rfl (lv_at hl 1 rfl) ?_
          refine lv_iload_n C.1 C.2.1 dX15_isRules_113 rfl (lv_at hl 2 rfl) ?_
          obtain ⟨o_21, eo_21, hE⟩ := cl_e hE
          refine x_kV (o := o_21) (z_runV (As := [.ref x1, .int x2]) (rest := []) C (ct_X15_nextToken l X F k_x0 k_x1 eo_21) cw_X15_74 hW hZ k_x0 (by decide) rfl rfl rfl hl.1 (Nat.le_of_ble_eq_true rfl) rfl dX15_isRules_114 ⟨Nat.le_of_ble_eq_true rfl, Nat.le_of_ble_eq_true rfl⟩ ⟨Nat.le_refl _, Nat.le_refl _⟩) hZ (fun _ _ hW km hZ => ?_)
          replace hkm := hkm.tr km
          replace k_x0 := km.at k_x0 (by decide)
          replace k_x1 := km.at k_x1 (by decide)
          exact bX15_isRules_117 C F k_x0 k_x1 hkm hW hZ _ (lv_sub hl [0, 1, 2] rfl) hE
        · have hE := br_p hE c_20
          refine lv_iconst (v := (0 : Int32)) C.1 C.2.1 dX15_isRules_109 (by decide) ?_
          exact x_iret C rfl (by decide) hW hZ hkm hE dX15_isRules_110
      · have hE := br_p hE c_15
        refine lv_iconst (v := (0 : Int32)) C.1 C.2.1 dX15_isRules_80 (by decide) ?_
        exact x_iret C rfl (by decide) hW hZ hkm hE dX15_isRules_81
    · have hE := br_p hE c_10
      refine lv_iconst (v := (0 : Int32)) C.1 C.2.1 dX15_isRules_51 (by decide) ?_
      exact x_iret C rfl (by decide) hW hZ hkm hE dX15_isRules_52
  · have hE := br_p hE c_7
    refine lv_iconst (v := (0 : Int32)) C.1 C.2.1 dX15_isRules_33 (by decide) ?_
    exact x_iret C rfl (by decide) hW hZ hkm hE dX15_isRules_34
set_option maxRecDepth 100000 in
theorem m_2115 : Cond.fieldLink RX15 252 (TX15 4).1 (TX15 4).2.1 (TX15 4).2.2.1 ∈ W0 := w0_in (List.mem_append_right _ (List.mem_of_getElem? (i := 2115) rfl)) rfl
set_option maxRecDepth 100000 in
theorem m_2122 : Cond.fieldLink RX15 382 (TX15 11).1 (TX15 11).2.1 (TX15 11).2.2.1 ∈ W0 := w0_in (List.mem_append_right _ (List.mem_of_getElem? (i := 2122) rfl)) rfl
set_option maxRecDepth 100000 in
theorem m_2123 : Cond.fieldLink RX15 383 (TX15 12).1 (TX15 12).2.1 (TX15 12).2.2.1 ∈ W0 := w0_in (List.mem_append_right _ (List.mem_of_getElem? (i := 2123) rfl)) rfl
set_option maxRecDepth 100000 in
theorem m_2124 : Cond.fieldLink RX15 384 (TX15 13).1 (TX15 13).2.1 (TX15 13).2.2.1 ∈ W0 := w0_in (List.mem_append_right _ (List.mem_of_getElem? (i := 2124) rfl)) rfl
section
variable {p : Program} {l : Launch} {e : Env} {R : Room} {s : State} {m : MethodId} {args : Array Value} {below : List Frame} {meth : Method} {c : Code} {H : Heap} {locs : List Loc} {cells slots : Nat} {Q : State → Prop}
variable {cc : ByteArray} {pc : Nat} {ls : Array Slot} {rest : List Value} {X : Ec} {h h1 : Hp} {nL : Nat} {rt : Option FieldType} {mn : String}
theorem gf_X15_252 {a r : Nat} (C : Cx X p s m args meth c RX15 cc nL rt mn) (hW : Wx X h H) (ha : hK h a = 15) (hr : hR h a 4 = some r) (hdg : decode cc pc = .ok (.getfield 252, 3)) (kk : hK h r = 14 → W p l e R s m args below meth c H locs cells slots Q (F0 m (pc + 3) ls (.ref r :: rest))) : W p l e R s m args below meth c H locs cells slots Q (F0 m pc ls (.ref a :: rest)) :=
  y_getr C hW ha i_X15 (by decide) rfl (by decide) m_2115 rfl rfl hr hdg kk
theorem pf_X15_252 {a r : Nat} (C : Cx X p s m args meth c RX15 cc nL rt mn) (hW : Wx X h H) (hZ : va_S (aA (eB X)) s.heap H locs) (ha : hK h a = 15) (hr : hK h r = 14) (eh : h1 = wR h a 4 (some r)) (hdg : decode cc pc = .ok (.putfield 252, 3)) (kk : ∀ (H1 : Heap) (locs1 : List Loc), Wx X h1 H1 → Km h h1 → va_S (aA (eB X)) s.heap H1 locs1 → W p l e R s m args below meth c H1 locs1 cells slots Q (F0 m (pc + 3) ls rest)) : W p l e R s m args below meth c H locs cells slots Q (F0 m pc ls (.ref r :: .ref a :: rest)) :=
  y_putr (ty := .object "GameRulesModel$Rules") C hW hZ ha i_X15 tyX15 tyX15_ok nmX15 (by decide) rfl rfl (by decide) m_2115 rfl (by decide +kernel) rfl rfl rfl hr rfl (by decide) eh hdg kk
theorem pf_X15_57 {a r : Nat} (C : Cx X p s m args meth c RX15 cc nL rt mn) (hW : Wx X h H) (hZ : va_S (aA (eB X)) s.heap H locs) (ha : hK h a = 15) (hr : hK h r = 14) (eh : h1 = wR h a 5 (some r)) (hdg : decode cc pc = .ok (.putfield 57, 3)) (kk : ∀ (H1 : Heap) (locs1 : List Loc), Wx X h1 H1 → Km h h1 → va_S (aA (eB X)) s.heap H1 locs1 → W p l e R s m args below meth c H1 locs1 cells slots Q (F0 m (pc + 3) ls rest)) : W p l e R s m args below meth c H locs cells slots Q (F0 m pc ls (.ref r :: .ref a :: rest)) :=
  y_putr (ty := .object "GameRulesModel$Rules") C hW hZ ha i_X15 tyX15 tyX15_ok nmX15 (by decide) rfl rfl (by decide) m_2116 rfl (by decide +kernel) rfl rfl rfl hr rfl (by decide) eh hdg kk
theorem pf_X15_382 {a : Nat} {v : Int32} (C : Cx X p s m args meth c RX15 cc nL rt mn) (hW : Wx X h H) (hZ : va_S (aA (eB X)) s.heap H locs) (ha : hK h a = 15) (eh : h1 = wI h a 11 v) (hdg : decode cc pc = .ok (.putfield 382, 3)) (kk : ∀ (H1 : Heap) (locs1 : List Loc), Wx X h1 H1 → Km h h1 → va_S (aA (eB X)) s.heap H1 locs1 → W p l e R s m args below meth c H1 locs1 cells slots Q (F0 m (pc + 3) ls rest)) : W p l e R s m args below meth c H locs cells slots Q (F0 m pc ls (.int v :: .ref a :: rest)) :=
  y_puti (ty := .int) C hW hZ ha i_X15 tyX15 tyX15_ok nmX15 (by decide) rfl rfl (by decide) m_2122 rfl (by decide +kernel) rfl rfl rfl eh hdg kk
theorem pf_X15_383 {a : Nat} {v : Int32} (C : Cx X p s m args meth c RX15 cc nL rt mn) (hW : Wx X h H) (hZ : va_S (aA (eB X)) s.heap H locs) (ha : hK h a = 15) (eh : h1 = wI h a 12 v) (hdg : decode cc pc = .ok (.putfield 383, 3)) (kk : ∀ (H1 : Heap) (locs1 : List Loc), Wx X h1 H1 → Km h h1 → va_S (aA (eB X)) s.heap H1 locs1 → W p l e R s m args below meth c H1 locs1 cells slots Q (F0 m (pc + 3) ls rest)) : W p l e R s m args below meth c H locs cells slots Q (F0 m pc ls (.int v :: .ref a :: rest)) :=
  y_puti (ty := .int) C hW hZ ha i_X15 tyX15 tyX15_ok nmX15 (by decide) rfl rfl (by decide) m_2123 rfl (by decide +kernel) rfl rfl rfl eh hdg kk
theorem gf_X15_382 {a : Nat} (C : Cx X p s m args meth c RX15 cc nL rt mn) (hW : Wx X h H) (ha : hK h a = 15) (hdg : decode cc pc = .ok (.getfield 382, 3)) (kk : W p l e R s m args below meth c H locs cells slots Q (F0 m (pc + 3) ls (.int (hI h a 11) :: rest))) : W p l e R s m args below meth c H locs cells slots Q (F0 m pc ls (.ref a :: rest)) :=
  y_geti C hW ha i_X15 (by decide) rfl (by decide) m_2122 rfl hdg kk
theorem gf_X15_383 {a : Nat} (C : Cx X p s m args meth c RX15 cc nL rt mn) (hW : Wx X h H) (ha : hK h a = 15) (hdg : decode cc pc = .ok (.getfield 383, 3)) (kk : W p l e R s m args below meth c H locs cells slots Q (F0 m (pc + 3) ls (.int (hI h a 12) :: rest))) : W p l e R s m args below meth c H locs cells slots Q (F0 m pc ls (.ref a :: rest)) :=
  y_geti C hW ha i_X15 (by decide) rfl (by decide) m_2123 rfl hdg kk
theorem pf_X15_384 {a : Nat} {v : Int32} (C : Cx X p s m args meth c RX15 cc nL rt mn) (hW : Wx X h H) (hZ : va_S (aA (eB X)) s.heap H locs) (ha : hK h a = 15) (eh : h1 = wI h a 13 v) (hdg : decode cc pc = .ok (.putfield 384, 3)) (kk : ∀ (H1 : Heap) (locs1 : List Loc), Wx X h1 H1 → Km h h1 → va_S (aA (eB X)) s.heap H1 locs1 → W p l e R s m args below meth c H1 locs1 cells slots Q (F0 m (pc + 3) ls rest)) : W p l e R s m args below meth c H locs cells slots Q (F0 m pc ls (.int v :: .ref a :: rest)) :=
  y_puti (ty := .int) C hW hZ ha i_X15 tyX15 tyX15_ok nmX15 (by decide) rfl rfl (by decide) m_2124 rfl (by decide +kernel) rfl rfl rfl eh hdg kk
end
theorem dX15_take_0 : decode cX15_take 0 = .ok (.aload_n 0, 1) := by decide +kernel
theorem dX15_take_1 : decode cX15_take 1 = .ok (.getfield 252, 3) := by decide +kernel
theorem dX15_take_4 : decode cX15_take 4 = .ok (.astore_n 1, 1) := by decide +kernel
theorem dX15_take_5 : decode cX15_take 5 = .ok (.aload_n 0, 1) := by decide +kernel
theorem dX15_take_6 : decode cX15_take 6 = .ok (.aload_n 0, 1) := by decide +kernel
theorem dX15_take_7 : decode cX15_take 7 = .ok (.getfield 57, 3) := by decide +kernel
theorem dX15_take_10 : decode cX15_take 10 = .ok (.putfield 252, 3) := by decide +kernel
theorem dX15_take_13 : decode cX15_take 13 = .ok (.aload_n 0, 1) := by decide +kernel
theorem dX15_take_14 : decode cX15_take 14 = .ok (.aload_n 1, 1) := by decide +kernel
theorem dX15_take_15 : decode cX15_take 15 = .ok (.putfield 57, 3) := by decide +kernel
theorem dX15_take_18 : decode cX15_take 18 = .ok (.aload_n 0, 1) := by decide +kernel
theorem dX15_take_19 : decode cX15_take 19 = .ok (.aload_n 0, 1) := by decide +kernel
theorem dX15_take_20 : decode cX15_take 20 = .ok (.getfield 252, 3) := by decide +kernel
theorem dX15_take_23 : decode cX15_take 23 = .ok (.getfield 88, 3) := by decide +kernel
theorem dX15_take_26 : decode cX15_take 26 = .ok (.putfield 382, 3) := by decide +kernel
theorem dX15_take_29 : decode cX15_take 29 = .ok (.aload_n 0, 1) := by decide +kernel
theorem dX15_take_30 : decode cX15_take 30 = .ok (.aload_n 0, 1) := by decide +kernel
theorem dX15_take_31 : decode cX15_take 31 = .ok (.getfield 252, 3) := by decide +kernel
theorem dX15_take_34 : decode cX15_take 34 = .ok (.getfield 91, 3) := by decide +kernel
theorem dX15_take_37 : decode cX15_take 37 = .ok (.putfield 383, 3) := by decide +kernel
theorem dX15_take_40 : decode cX15_take 40 = .ok (.aload_n 0, 1) := by decide +kernel
theorem dX15_take_41 : decode cX15_take 41 = .ok (.aload_n 0, 1) := by decide +kernel
theorem dX15_take_42 : decode cX15_take 42 = .ok (.getfield 382, 3) := by decide +kernel
theorem dX15_take_45 : decode cX15_take 45 = .ok (.aload_n 0, 1) := by decide +kernel
theorem dX15_take_46 : decode cX15_take 46 = .ok (.getfield 383, 3) := by decide +kernel
theorem dX15_take_49 : decode cX15_take 49 = .ok (.imul, 1) := by decide +kernel
theorem dX15_take_50 : decode cX15_take 50 = .ok (.putfield 384, 3) := by decide +kernel
theorem dX15_take_53 : decode cX15_take 53 = .ok (.return_, 1) := by decide +kernel
set_option maxRecDepth 20000 in
theorem moX15_take {o : Hp} {h : Hp} {x0 : Nat} (hE : sX15_take h x0 = some o) : Le h o := by
  obtain ⟨r_1, er_1, hE⟩ := cl_e hE
  obtain ⟨r_2, er_2, hE⟩ := cl_e hE
  obtain ⟨h_3, eh_3, hE⟩ := nm_e2 hE
  refine (le_R eh_3).tr ?_
  obtain ⟨h_4, eh_4, hE⟩ := nm_e2 hE
  refine (le_R eh_4).tr ?_
  obtain ⟨r_5, er_5, hE⟩ := cl_e hE
  obtain ⟨h_6, eh_6, hE⟩ := nm_e2 hE
  refine (le_I eh_6).tr ?_
  obtain ⟨r_7, er_7, hE⟩ := cl_e hE
  obtain ⟨h_8, eh_8, hE⟩ := nm_e2 hE
  refine (le_I eh_8).tr ?_
  obtain ⟨h_9, eh_9, hE⟩ := nm_e2 hE
  refine (le_I eh_9).tr ?_
  exact le_some1 hE
set_option maxRecDepth 20000 in
theorem ct_X15_take (l : Launch) (X : Ec) {h : Hp} {x0 : Nat} {o : Hp} (k_x0 : hK h x0 = 15) (hE : sX15_take h x0 = some o) : MetV l yX15_take cX15_take 2 none 0 0 X [.ref x0] h o := by
  refine x_met (by decide) (Nat.le_of_ble_eq_true rfl) ?_
  intro p e s m below meth c ls C hl hW hZ
  have hl : lv_has ls 2 [(0, .ref x0)] := hl
  have hkm : Km h h := Km.rf h
  refine lv_aload_n C.1 C.2.1 dX15_take_0 rfl (lv_at hl 0 rfl) ?_
  obtain ⟨r_1, er_1, hE⟩ := cl_e hE
  refine gf_X15_252 C hW k_x0 er_1 dX15_take_1 (fun k_r_1 => ?_)
  refine lv_astore_n (lv' := [(1, .ref r_1), (0, .ref x0)]) C.1 C.2.1 dX15_take_4 rfl hl (by decide) rfl (fun ls hl => ?_)
  refine lv_aload_n C.1 C.2.1 dX15_take_5 rfl (lv_at hl 1 rfl) ?_
  refine lv_aload_n C.1 C.2.1 dX15_take_6 rfl (lv_at hl 1 rfl) ?_
  obtain ⟨r_2, er_2, hE⟩ := cl_e hE
  refine gf_X15_57 C hW k_x0 er_2 dX15_take_7 (fun k_r_2 => ?_)
  obtain ⟨h_3, eh_3, hE⟩ := nm_e2 hE
  refine pf_X15_252 C hW hZ k_x0 k_r_2 eh_3 dX15_take_10 (fun _ _ hW km hZ => ?_)
  replace hkm := hkm.tr km
  replace k_r_1 := km.at k_r_1 (by decide)
  replace k_x0 := km.at k_x0 (by decide)
  refine lv_aload_n C.1 C.2.1 dX15_take_13 rfl (lv_at hl 1 rfl) ?_
  refine lv_aload_n C.1 C.2.1 dX15_take_14 rfl (lv_at hl 0 rfl) ?_
  obtain ⟨h_4, eh_4, hE⟩ := nm_e2 hE
  refine pf_X15_57 C hW hZ k_x0 k_r_1 eh_4 dX15_take_15 (fun _ _ hW km hZ => ?_)
  replace hkm := hkm.tr km
  replace k_r_1 := km.at k_r_1 (by decide)
  replace k_x0 := km.at k_x0 (by decide)
  refine lv_aload_n C.1 C.2.1 dX15_take_18 rfl (lv_at hl 1 rfl) ?_
  refine lv_aload_n C.1 C.2.1 dX15_take_19 rfl (lv_at hl 1 rfl) ?_
  obtain ⟨r_5, er_5, hE⟩ := cl_e hE
  refine gf_X15_252 C hW k_x0 er_5 dX15_take_20 (fun k_r_5 => ?_)
  refine gf_X15_88 C hW k_r_5 dX15_take_23 ?_
  obtain ⟨h_6, eh_6, hE⟩ := nm_e2 hE
  refine pf_X15_382 C hW hZ k_x0 eh_6 dX15_take_26 (fun _ _ hW km hZ => ?_)
  replace hkm := hkm.tr km
  replace k_r_1 := km.at k_r_1 (by decide)
  replace k_x0 := km.at k_x0 (by decide)
  refine lv_aload_n C.1 C.2.1 dX15_take_29 rfl (lv_at hl 1 rfl) ?_
  refine lv_aload_n C.1 C.2.1 dX15_take_30 rfl (lv_at hl 1 rfl) ?_
  obtain ⟨r_7, er_7, hE⟩ := cl_e hE
  refine gf_X15_252 C hW k_x0 er_7 dX15_take_31 (fun k_r_7 => ?_)
  refine gf_X15_91 C hW k_r_7 dX15_take_34 ?_
  obtain ⟨h_8, eh_8, hE⟩ := nm_e2 hE
  refine pf_X15_383 C hW hZ k_x0 eh_8 dX15_take_37 (fun _ _ hW km hZ => ?_)
  replace hkm := hkm.tr km
  replace k_r_1 := km.at k_r_1 (by decide)
  replace k_x0 := km.at k_x0 (by decide)
  refine lv_aload_n C.1 C.2.1 dX15_take_40 rfl (lv_at hl 1 rfl) ?_
  refine lv_aload_n C.1 C.2.1 dX15_take_41 rfl (lv_at hl 1 rfl) ?_
  refine gf_X15_382 C hW k_x0 dX15_take_42 ?_
  refine lv_aload_n C.1 C.2.1 dX15_take_45 rfl (lv_at hl 1 rfl) ?_
  refine gf_X15_383 C hW k_x0 dX15_take_46 ?_
  refine lv_imul C.1 C.2.1 dX15_take_49 ?_
  obtain ⟨h_9, eh_9, hE⟩ := nm_e2 hE
  refine pf_X15_384 C hW hZ k_x0 eh_9 dX15_take_50 (fun _ _ hW km hZ => ?_)
  replace hkm := hkm.tr km
  replace k_r_1 := km.at k_r_1 (by decide)
  replace k_x0 := km.at k_x0 (by decide)
  exact x_vret C rfl hW hZ hkm hE dX15_take_53
set_option maxRecDepth 100000 in
theorem ms_133 : Cond.selects RX15 yX15_take yX15_take ∈ W0 := w0_in (List.mem_append_left _ (List.mem_of_getElem? (i := 133) rfl)) rfl
set_option maxRecDepth 100000 in
theorem ms_113 : Cond.selects RX15 yX15_isRules yX15_isRules ∈ W0 := w0_in (List.mem_append_left _ (List.mem_of_getElem? (i := 113) rfl)) rfl
set_option maxRecDepth 100000 in
theorem m_21 : Cond.initialized RX12 ∈ W0 := w0_in (List.mem_append_right _ (List.mem_of_getElem? (i := 21) rfl)) rfl
set_option maxRecDepth 100000 in
theorem m_22 : Cond.initialized RX13 ∈ W0 := w0_in (List.mem_append_right _ (List.mem_of_getElem? (i := 22) rfl)) rfl
set_option maxRecDepth 100000 in
theorem m_884 : Cond.arrayClass .boolean ∈ W0 := w0_in (List.mem_append_right _ (List.mem_of_getElem? (i := 884) rfl)) rfl
set_option maxRecDepth 100000 in
theorem m_1799 : Cond.methodLink RX15 246 objectInit ∈ W0 := w0_in (List.mem_append_right _ (List.mem_of_getElem? (i := 1799) rfl)) rfl
set_option maxRecDepth 100000 in
theorem m_1800 : Cond.classLink RX15 62 RX14 ∈ W0 := w0_in (List.mem_append_right _ (List.mem_of_getElem? (i := 1800) rfl)) rfl
set_option maxRecDepth 100000 in
theorem m_1801 : Cond.instantiable RX14 24 ∈ W0 := w0_in (List.mem_append_right _ (List.mem_of_getElem? (i := 1801) rfl)) rfl
set_option maxRecDepth 100000 in
theorem n_1802 : Cond.methodLinkNest RX15 251 yX14_init "GameRulesModel" ∈ tables_1 := List.mem_of_getElem? (i := 1802) rfl
set_option maxRecDepth 100000 in
theorem m_1803 : Cond.instanceMethod yX14_init ∈ W0 := w0_in (List.mem_append_right _ (List.mem_of_getElem? (i := 1803) rfl)) rfl
set_option maxRecDepth 100000 in
theorem m_1804 : Cond.code yX14_init cX14_init 1 none ∈ W0 := w0_in (List.mem_append_right _ (List.mem_of_getElem? (i := 1804) rfl)) rfl
set_option maxRecDepth 100000 in
theorem m_1901 : Cond.classLink RX15 255 RX12 ∈ W0 := w0_in (List.mem_append_right _ (List.mem_of_getElem? (i := 1901) rfl)) rfl
set_option maxRecDepth 100000 in
theorem m_1903 : Cond.instantiable RX12 8 ∈ W0 := w0_in (List.mem_append_right _ (List.mem_of_getElem? (i := 1903) rfl)) rfl
set_option maxRecDepth 100000 in
theorem n_1904 : Cond.methodLinkNest RX15 264 yX12_init "GameRulesModel" ∈ tables_1 := List.mem_of_getElem? (i := 1904) rfl
set_option maxRecDepth 100000 in
theorem m_1905 : Cond.instanceMethod yX12_init ∈ W0 := w0_in (List.mem_append_right _ (List.mem_of_getElem? (i := 1905) rfl)) rfl
set_option maxRecDepth 100000 in
theorem m_1906 : Cond.code yX12_init cX12_init 1 none ∈ W0 := w0_in (List.mem_append_right _ (List.mem_of_getElem? (i := 1906) rfl)) rfl
set_option maxRecDepth 100000 in
theorem m_1941 : Cond.classLink RX15 285 RX13 ∈ W0 := w0_in (List.mem_append_right _ (List.mem_of_getElem? (i := 1941) rfl)) rfl
set_option maxRecDepth 100000 in
theorem m_1942 : Cond.instantiable RX13 8 ∈ W0 := w0_in (List.mem_append_right _ (List.mem_of_getElem? (i := 1942) rfl)) rfl
set_option maxRecDepth 100000 in
theorem n_1943 : Cond.methodLinkNest RX15 287 yX13_init "GameRulesModel" ∈ tables_1 := List.mem_of_getElem? (i := 1943) rfl
set_option maxRecDepth 100000 in
theorem m_1944 : Cond.instanceMethod yX13_init ∈ W0 := w0_in (List.mem_append_right _ (List.mem_of_getElem? (i := 1944) rfl)) rfl
set_option maxRecDepth 100000 in
theorem m_1945 : Cond.code yX13_init cX13_init 1 none ∈ W0 := w0_in (List.mem_append_right _ (List.mem_of_getElem? (i := 1945) rfl)) rfl
set_option maxRecDepth 100000 in
theorem m_1981 : Cond.constant RX15 320 (288000 : Int32) ∈ W0 := w0_in (List.mem_append_right _ (List.mem_of_getElem? (i := 1981) rfl)) rfl
set_option maxRecDepth 100000 in
theorem m_1982 : Cond.constant RX15 342 (600000 : Int32) ∈ W0 := w0_in (List.mem_append_right _ (List.mem_of_getElem? (i := 1982) rfl)) rfl
set_option maxRecDepth 100000 in
theorem m_1986 : Cond.methodLink RX15 376 yX15_isRules ∈ W0 := w0_in (List.mem_append_right _ (List.mem_of_getElem? (i := 1986) rfl)) rfl
set_option maxRecDepth 100000 in
theorem m_1988 : Cond.instanceMethod yX15_isRules ∈ W0 := w0_in (List.mem_append_right _ (List.mem_of_getElem? (i := 1988) rfl)) rfl
set_option maxRecDepth 100000 in
theorem m_1989 : Cond.code yX15_isRules cX15_isRules 3 (some .boolean) ∈ W0 := w0_in (List.mem_append_right _ (List.mem_of_getElem? (i := 1989) rfl)) rfl
set_option maxRecDepth 100000 in
theorem m_2107 : Cond.methodLink RX15 379 yX15_take ∈ W0 := w0_in (List.mem_append_right _ (List.mem_of_getElem? (i := 2107) rfl)) rfl
set_option maxRecDepth 100000 in
theorem m_2109 : Cond.instanceMethod yX15_take ∈ W0 := w0_in (List.mem_append_right _ (List.mem_of_getElem? (i := 2109) rfl)) rfl
set_option maxRecDepth 100000 in
theorem m_2110 : Cond.code yX15_take cX15_take 2 none ∈ W0 := w0_in (List.mem_append_right _ (List.mem_of_getElem? (i := 2110) rfl)) rfl
set_option maxRecDepth 100000 in
theorem m_2125 : Cond.fieldLink RX15 257 (TX15 14).1 (TX15 14).2.1 (TX15 14).2.2.1 ∈ W0 := w0_in (List.mem_append_right _ (List.mem_of_getElem? (i := 2125) rfl)) rfl
set_option maxRecDepth 100000 in
theorem m_2126 : Cond.fieldLink RX15 261 (TX15 15).1 (TX15 15).2.1 (TX15 15).2.2.1 ∈ W0 := w0_in (List.mem_append_right _ (List.mem_of_getElem? (i := 2126) rfl)) rfl
set_option maxRecDepth 100000 in
theorem m_2132 : Cond.fieldLink RX15 265 (TX15 21).1 (TX15 21).2.1 (TX15 21).2.2.1 ∈ W0 := w0_in (List.mem_append_right _ (List.mem_of_getElem? (i := 2132) rfl)) rfl
set_option maxRecDepth 100000 in
theorem m_2133 : Cond.fieldLink RX15 269 (TX15 22).1 (TX15 22).2.1 (TX15 22).2.2.1 ∈ W0 := w0_in (List.mem_append_right _ (List.mem_of_getElem? (i := 2133) rfl)) rfl
set_option maxRecDepth 100000 in
theorem m_2136 : Cond.fieldLink RX15 272 (TX15 25).1 (TX15 25).2.1 (TX15 25).2.2.1 ∈ W0 := w0_in (List.mem_append_right _ (List.mem_of_getElem? (i := 2136) rfl)) rfl
set_option maxRecDepth 100000 in
theorem m_2137 : Cond.fieldLink RX15 275 (TX15 26).1 (TX15 26).2.1 (TX15 26).2.2.1 ∈ W0 := w0_in (List.mem_append_right _ (List.mem_of_getElem? (i := 2137) rfl)) rfl
set_option maxRecDepth 100000 in
theorem m_2138 : Cond.fieldLink RX15 278 (TX15 27).1 (TX15 27).2.1 (TX15 27).2.2.1 ∈ W0 := w0_in (List.mem_append_right _ (List.mem_of_getElem? (i := 2138) rfl)) rfl
set_option maxRecDepth 100000 in
theorem m_2139 : Cond.fieldLink RX15 282 (TX15 28).1 (TX15 28).2.1 (TX15 28).2.2.1 ∈ W0 := w0_in (List.mem_append_right _ (List.mem_of_getElem? (i := 2139) rfl)) rfl
set_option maxRecDepth 100000 in
theorem m_2141 : Cond.fieldLink RX15 288 (TX15 30).1 (TX15 30).2.1 (TX15 30).2.2.1 ∈ W0 := w0_in (List.mem_append_right _ (List.mem_of_getElem? (i := 2141) rfl)) rfl
set_option maxRecDepth 100000 in
theorem m_2142 : Cond.fieldLink RX15 292 (TX15 31).1 (TX15 31).2.1 (TX15 31).2.2.1 ∈ W0 := w0_in (List.mem_append_right _ (List.mem_of_getElem? (i := 2142) rfl)) rfl
set_option maxRecDepth 100000 in
theorem m_2143 : Cond.fieldLink RX15 295 (TX15 32).1 (TX15 32).2.1 (TX15 32).2.2.1 ∈ W0 := w0_in (List.mem_append_right _ (List.mem_of_getElem? (i := 2143) rfl)) rfl
set_option maxRecDepth 100000 in
theorem m_2144 : Cond.fieldLink RX15 298 (TX15 33).1 (TX15 33).2.1 (TX15 33).2.2.1 ∈ W0 := w0_in (List.mem_append_right _ (List.mem_of_getElem? (i := 2144) rfl)) rfl
set_option maxRecDepth 100000 in
theorem m_2145 : Cond.fieldLink RX15 301 (TX15 34).1 (TX15 34).2.1 (TX15 34).2.2.1 ∈ W0 := w0_in (List.mem_append_right _ (List.mem_of_getElem? (i := 2145) rfl)) rfl
set_option maxRecDepth 100000 in
theorem m_2146 : Cond.fieldLink RX15 305 (TX15 35).1 (TX15 35).2.1 (TX15 35).2.2.1 ∈ W0 := w0_in (List.mem_append_right _ (List.mem_of_getElem? (i := 2146) rfl)) rfl
set_option maxRecDepth 100000 in
theorem m_2148 : Cond.fieldLink RX15 308 (TX15 37).1 (TX15 37).2.1 (TX15 37).2.2.1 ∈ W0 := w0_in (List.mem_append_right _ (List.mem_of_getElem? (i := 2148) rfl)) rfl
set_option maxRecDepth 100000 in
theorem m_2149 : Cond.fieldLink RX15 311 (TX15 38).1 (TX15 38).2.1 (TX15 38).2.2.1 ∈ W0 := w0_in (List.mem_append_right _ (List.mem_of_getElem? (i := 2149) rfl)) rfl
set_option maxRecDepth 100000 in
theorem m_2150 : Cond.fieldLink RX15 314 (TX15 39).1 (TX15 39).2.1 (TX15 39).2.2.1 ∈ W0 := w0_in (List.mem_append_right _ (List.mem_of_getElem? (i := 2150) rfl)) rfl
set_option maxRecDepth 100000 in
theorem m_2151 : Cond.fieldLink RX15 317 (TX15 40).1 (TX15 40).2.1 (TX15 40).2.2.1 ∈ W0 := w0_in (List.mem_append_right _ (List.mem_of_getElem? (i := 2151) rfl)) rfl
set_option maxRecDepth 100000 in
theorem m_2152 : Cond.fieldLink RX15 321 (TX15 41).1 (TX15 41).2.1 (TX15 41).2.2.1 ∈ W0 := w0_in (List.mem_append_right _ (List.mem_of_getElem? (i := 2152) rfl)) rfl
set_option maxRecDepth 100000 in
theorem m_2153 : Cond.fieldLink RX15 324 (TX15 42).1 (TX15 42).2.1 (TX15 42).2.2.1 ∈ W0 := w0_in (List.mem_append_right _ (List.mem_of_getElem? (i := 2153) rfl)) rfl
set_option maxRecDepth 100000 in
theorem m_2154 : Cond.fieldLink RX15 327 (TX15 43).1 (TX15 43).2.1 (TX15 43).2.2.1 ∈ W0 := w0_in (List.mem_append_right _ (List.mem_of_getElem? (i := 2154) rfl)) rfl
set_option maxRecDepth 100000 in
theorem m_2156 : Cond.fieldLink RX15 330 (TX15 45).1 (TX15 45).2.1 (TX15 45).2.2.1 ∈ W0 := w0_in (List.mem_append_right _ (List.mem_of_getElem? (i := 2156) rfl)) rfl
set_option maxRecDepth 100000 in
theorem m_2157 : Cond.fieldLink RX15 333 (TX15 46).1 (TX15 46).2.1 (TX15 46).2.2.1 ∈ W0 := w0_in (List.mem_append_right _ (List.mem_of_getElem? (i := 2157) rfl)) rfl
set_option maxRecDepth 100000 in
theorem m_2158 : Cond.fieldLink RX15 336 (TX15 47).1 (TX15 47).2.1 (TX15 47).2.2.1 ∈ W0 := w0_in (List.mem_append_right _ (List.mem_of_getElem? (i := 2158) rfl)) rfl
set_option maxRecDepth 100000 in
theorem m_2159 : Cond.fieldLink RX15 339 (TX15 48).1 (TX15 48).2.1 (TX15 48).2.2.1 ∈ W0 := w0_in (List.mem_append_right _ (List.mem_of_getElem? (i := 2159) rfl)) rfl
set_option maxRecDepth 100000 in
theorem m_2162 : Cond.fieldLink RX15 343 (TX15 51).1 (TX15 51).2.1 (TX15 51).2.2.1 ∈ W0 := w0_in (List.mem_append_right _ (List.mem_of_getElem? (i := 2162) rfl)) rfl
set_option maxRecDepth 100000 in
theorem m_2164 : Cond.fieldLink RX15 346 (TX15 53).1 (TX15 53).2.1 (TX15 53).2.2.1 ∈ W0 := w0_in (List.mem_append_right _ (List.mem_of_getElem? (i := 2164) rfl)) rfl
set_option maxRecDepth 100000 in
theorem m_2165 : Cond.fieldLink RX15 349 (TX15 54).1 (TX15 54).2.1 (TX15 54).2.2.1 ∈ W0 := w0_in (List.mem_append_right _ (List.mem_of_getElem? (i := 2165) rfl)) rfl
set_option maxRecDepth 100000 in
theorem m_2166 : Cond.fieldLink RX15 353 (TX15 55).1 (TX15 55).2.1 (TX15 55).2.2.1 ∈ W0 := w0_in (List.mem_append_right _ (List.mem_of_getElem? (i := 2166) rfl)) rfl
set_option maxRecDepth 100000 in
theorem m_2167 : Cond.fieldLink RX15 356 (TX15 56).1 (TX15 56).2.1 (TX15 56).2.2.1 ∈ W0 := w0_in (List.mem_append_right _ (List.mem_of_getElem? (i := 2167) rfl)) rfl
set_option maxRecDepth 100000 in
theorem m_2168 : Cond.fieldLink RX15 359 (TX15 57).1 (TX15 57).2.1 (TX15 57).2.2.1 ∈ W0 := w0_in (List.mem_append_right _ (List.mem_of_getElem? (i := 2168) rfl)) rfl
set_option maxRecDepth 100000 in
theorem m_2169 : Cond.fieldLink RX15 362 (TX15 58).1 (TX15 58).2.1 (TX15 58).2.2.1 ∈ W0 := w0_in (List.mem_append_right _ (List.mem_of_getElem? (i := 2169) rfl)) rfl
set_option maxRecDepth 100000 in
theorem m_2171 : Cond.fieldLink RX15 365 (TX15 60).1 (TX15 60).2.1 (TX15 60).2.2.1 ∈ W0 := w0_in (List.mem_append_right _ (List.mem_of_getElem? (i := 2171) rfl)) rfl
set_option maxRecDepth 100000 in
theorem m_2172 : Cond.fieldLink RX15 368 (TX15 61).1 (TX15 61).2.1 (TX15 61).2.2.1 ∈ W0 := w0_in (List.mem_append_right _ (List.mem_of_getElem? (i := 2172) rfl)) rfl
set_option maxRecDepth 100000 in
theorem m_2180 : Cond.fieldLink RX15 371 (TX15 69).1 (TX15 69).2.1 (TX15 69).2.2.1 ∈ W0 := w0_in (List.mem_append_right _ (List.mem_of_getElem? (i := 2180) rfl)) rfl
theorem dv_X12 : ∀ j, j < 8 → defaultValue (tyX12 j) = dV ((tl 12).getD j 2) := by decide +kernel
theorem dv_X13 : ∀ j, j < 8 → defaultValue (tyX13 j) = dV ((tl 13).getD j 2) := by decide +kernel
theorem dv_X14 : ∀ j, j < 24 → defaultValue (tyX14 j) = dV ((tl 14).getD j 2) := by decide +kernel
section
variable {p : Program} {l : Launch} {e : Env} {R : Room} {s : State} {m : MethodId} {args : Array Value} {below : List Frame} {meth : Method} {c : Code} {H : Heap} {locs : List Loc} {cells slots : Nat} {Q : State → Prop}
variable {cc : ByteArray} {pc : Nat} {ls : Array Slot} {rest : List Value} {X : Ec} {h h1 : Hp} {nL : Nat} {rt : Option FieldType} {mn : String}
theorem gf_X15_261 {a r : Nat} (C : Cx X p s m args meth c RX15 cc nL rt mn) (hW : Wx X h H) (ha : hK h a = 15) (hr : hR h a 15 = some r) (hdg : decode cc pc = .ok (.getfield 261, 3)) (kk : hK h r = 17 → W p l e R s m args below meth c H locs cells slots Q (F0 m (pc + 3) ls (.ref r :: rest))) : W p l e R s m args below meth c H locs cells slots Q (F0 m pc ls (.ref a :: rest)) :=
  y_getr C hW ha i_X15 (by decide) rfl (by decide) m_2126 rfl rfl hr hdg kk
theorem pf_X15_371 {a r : Nat} (C : Cx X p s m args meth c RX15 cc nL rt mn) (hW : Wx X h H) (hZ : va_S (aA (eB X)) s.heap H locs) (hmn : mn = "<init>") (ha : hK h a = 15) (hr : hK h r = 17) (eh : h1 = wR h a 69 (some r)) (hdg : decode cc pc = .ok (.putfield 371, 3)) (kk : ∀ (H1 : Heap) (locs1 : List Loc), Wx X h1 H1 → Km h h1 → va_S (aA (eB X)) s.heap H1 locs1 → W p l e R s m args below meth c H1 locs1 cells slots Q (F0 m (pc + 3) ls rest)) : W p l e R s m args below meth c H locs cells slots Q (F0 m pc ls (.ref r :: .ref a :: rest)) :=
  y_putrF (ty := .array .int) C hW hZ ha i_X15 tyX15 tyX15_ok nmX15 (by decide) rfl rfl (by decide) m_2180 rfl hmn rfl (by decide +kernel) rfl rfl rfl hr rfl (by decide) eh hdg kk
theorem pf_X15_368 {a r : Nat} (C : Cx X p s m args meth c RX15 cc nL rt mn) (hW : Wx X h H) (hZ : va_S (aA (eB X)) s.heap H locs) (hmn : mn = "<init>") (ha : hK h a = 15) (hr : hK h r = 17) (eh : h1 = wR h a 61 (some r)) (hdg : decode cc pc = .ok (.putfield 368, 3)) (kk : ∀ (H1 : Heap) (locs1 : List Loc), Wx X h1 H1 → Km h h1 → va_S (aA (eB X)) s.heap H1 locs1 → W p l e R s m args below meth c H1 locs1 cells slots Q (F0 m (pc + 3) ls rest)) : W p l e R s m args below meth c H locs cells slots Q (F0 m pc ls (.ref r :: .ref a :: rest)) :=
  y_putrF (ty := .array .int) C hW hZ ha i_X15 tyX15 tyX15_ok nmX15 (by decide) rfl rfl (by decide) m_2172 rfl hmn rfl (by decide +kernel) rfl rfl rfl hr rfl (by decide) eh hdg kk
theorem pf_X15_365 {a r : Nat} (C : Cx X p s m args meth c RX15 cc nL rt mn) (hW : Wx X h H) (hZ : va_S (aA (eB X)) s.heap H locs) (hmn : mn = "<init>") (ha : hK h a = 15) (hr : hK h r = 12) (eh : h1 = wR h a 60 (some r)) (hdg : decode cc pc = .ok (.putfield 365, 3)) (kk : ∀ (H1 : Heap) (locs1 : List Loc), Wx X h1 H1 → Km h h1 → va_S (aA (eB X)) s.heap H1 locs1 → W p l e R s m args below meth c H1 locs1 cells slots Q (F0 m (pc + 3) ls rest)) : W p l e R s m args below meth c H locs cells slots Q (F0 m pc ls (.ref r :: .ref a :: rest)) :=
  y_putrF (ty := .object "GameRulesModel$Board") C hW hZ ha i_X15 tyX15 tyX15_ok nmX15 (by decide) rfl rfl (by decide) m_2171 rfl hmn rfl (by decide +kernel) rfl rfl rfl hr rfl (by decide) eh hdg kk
theorem pf_X15_362 {a r : Nat} (C : Cx X p s m args meth c RX15 cc nL rt mn) (hW : Wx X h H) (hZ : va_S (aA (eB X)) s.heap H locs) (hmn : mn = "<init>") (ha : hK h a = 15) (hr : hK h r = 17) (eh : h1 = wR h a 58 (some r)) (hdg : decode cc pc = .ok (.putfield 362, 3)) (kk : ∀ (H1 : Heap) (locs1 : List Loc), Wx X h1 H1 → Km h h1 → va_S (aA (eB X)) s.heap H1 locs1 → W p l e R s m args below meth c H1 locs1 cells slots Q (F0 m (pc + 3) ls rest)) : W p l e R s m args below meth c H locs cells slots Q (F0 m pc ls (.ref r :: .ref a :: rest)) :=
  y_putrF (ty := .array .int) C hW hZ ha i_X15 tyX15 tyX15_ok nmX15 (by decide) rfl rfl (by decide) m_2169 rfl hmn rfl (by decide +kernel) rfl rfl rfl hr rfl (by decide) eh hdg kk
theorem pf_X15_359 {a r : Nat} (C : Cx X p s m args meth c RX15 cc nL rt mn) (hW : Wx X h H) (hZ : va_S (aA (eB X)) s.heap H locs) (hmn : mn = "<init>") (ha : hK h a = 15) (hr : hK h r = 17) (eh : h1 = wR h a 57 (some r)) (hdg : decode cc pc = .ok (.putfield 359, 3)) (kk : ∀ (H1 : Heap) (locs1 : List Loc), Wx X h1 H1 → Km h h1 → va_S (aA (eB X)) s.heap H1 locs1 → W p l e R s m args below meth c H1 locs1 cells slots Q (F0 m (pc + 3) ls rest)) : W p l e R s m args below meth c H locs cells slots Q (F0 m pc ls (.ref r :: .ref a :: rest)) :=
  y_putrF (ty := .array .int) C hW hZ ha i_X15 tyX15 tyX15_ok nmX15 (by decide) rfl rfl (by decide) m_2168 rfl hmn rfl (by decide +kernel) rfl rfl rfl hr rfl (by decide) eh hdg kk
theorem pf_X15_356 {a r : Nat} (C : Cx X p s m args meth c RX15 cc nL rt mn) (hW : Wx X h H) (hZ : va_S (aA (eB X)) s.heap H locs) (hmn : mn = "<init>") (ha : hK h a = 15) (hr : hK h r = 17) (eh : h1 = wR h a 56 (some r)) (hdg : decode cc pc = .ok (.putfield 356, 3)) (kk : ∀ (H1 : Heap) (locs1 : List Loc), Wx X h1 H1 → Km h h1 → va_S (aA (eB X)) s.heap H1 locs1 → W p l e R s m args below meth c H1 locs1 cells slots Q (F0 m (pc + 3) ls rest)) : W p l e R s m args below meth c H locs cells slots Q (F0 m pc ls (.ref r :: .ref a :: rest)) :=
  y_putrF (ty := .array .int) C hW hZ ha i_X15 tyX15 tyX15_ok nmX15 (by decide) rfl rfl (by decide) m_2167 rfl hmn rfl (by decide +kernel) rfl rfl rfl hr rfl (by decide) eh hdg kk
theorem pf_X15_353 {a r : Nat} (C : Cx X p s m args meth c RX15 cc nL rt mn) (hW : Wx X h H) (hZ : va_S (aA (eB X)) s.heap H locs) (hmn : mn = "<init>") (ha : hK h a = 15) (hr : hK h r = 17) (eh : h1 = wR h a 55 (some r)) (hdg : decode cc pc = .ok (.putfield 353, 3)) (kk : ∀ (H1 : Heap) (locs1 : List Loc), Wx X h1 H1 → Km h h1 → va_S (aA (eB X)) s.heap H1 locs1 → W p l e R s m args below meth c H1 locs1 cells slots Q (F0 m (pc + 3) ls rest)) : W p l e R s m args below meth c H locs cells slots Q (F0 m pc ls (.ref r :: .ref a :: rest)) :=
  y_putrF (ty := .array .int) C hW hZ ha i_X15 tyX15 tyX15_ok nmX15 (by decide) rfl rfl (by decide) m_2166 rfl hmn rfl (by decide +kernel) rfl rfl rfl hr rfl (by decide) eh hdg kk
theorem pf_X15_349 {a r : Nat} (C : Cx X p s m args meth c RX15 cc nL rt mn) (hW : Wx X h H) (hZ : va_S (aA (eB X)) s.heap H locs) (hmn : mn = "<init>") (ha : hK h a = 15) (hr : hK h r = 18) (eh : h1 = wR h a 54 (some r)) (hdg : decode cc pc = .ok (.putfield 349, 3)) (kk : ∀ (H1 : Heap) (locs1 : List Loc), Wx X h1 H1 → Km h h1 → va_S (aA (eB X)) s.heap H1 locs1 → W p l e R s m args below meth c H1 locs1 cells slots Q (F0 m (pc + 3) ls rest)) : W p l e R s m args below meth c H locs cells slots Q (F0 m pc ls (.ref r :: .ref a :: rest)) :=
  y_putrF (ty := .array .long) C hW hZ ha i_X15 tyX15 tyX15_ok nmX15 (by decide) rfl rfl (by decide) m_2165 rfl hmn rfl (by decide +kernel) rfl rfl rfl hr rfl (by decide) eh hdg kk
theorem pf_X15_346 {a r : Nat} (C : Cx X p s m args meth c RX15 cc nL rt mn) (hW : Wx X h H) (hZ : va_S (aA (eB X)) s.heap H locs) (hmn : mn = "<init>") (ha : hK h a = 15) (hr : hK h r = 17) (eh : h1 = wR h a 53 (some r)) (hdg : decode cc pc = .ok (.putfield 346, 3)) (kk : ∀ (H1 : Heap) (locs1 : List Loc), Wx X h1 H1 → Km h h1 → va_S (aA (eB X)) s.heap H1 locs1 → W p l e R s m args below meth c H1 locs1 cells slots Q (F0 m (pc + 3) ls rest)) : W p l e R s m args below meth c H locs cells slots Q (F0 m pc ls (.ref r :: .ref a :: rest)) :=
  y_putrF (ty := .array .int) C hW hZ ha i_X15 tyX15 tyX15_ok nmX15 (by decide) rfl rfl (by decide) m_2164 rfl hmn rfl (by decide +kernel) rfl rfl rfl hr rfl (by decide) eh hdg kk
theorem pf_X15_343 {a r : Nat} (C : Cx X p s m args meth c RX15 cc nL rt mn) (hW : Wx X h H) (hZ : va_S (aA (eB X)) s.heap H locs) (hmn : mn = "<init>") (ha : hK h a = 15) (hr : hK h r = 17) (eh : h1 = wR h a 51 (some r)) (hdg : decode cc pc = .ok (.putfield 343, 3)) (kk : ∀ (H1 : Heap) (locs1 : List Loc), Wx X h1 H1 → Km h h1 → va_S (aA (eB X)) s.heap H1 locs1 → W p l e R s m args below meth c H1 locs1 cells slots Q (F0 m (pc + 3) ls rest)) : W p l e R s m args below meth c H locs cells slots Q (F0 m pc ls (.ref r :: .ref a :: rest)) :=
  y_putrF (ty := .array .int) C hW hZ ha i_X15 tyX15 tyX15_ok nmX15 (by decide) rfl rfl (by decide) m_2162 rfl hmn rfl (by decide +kernel) rfl rfl rfl hr rfl (by decide) eh hdg kk
theorem pf_X15_339 {a r : Nat} (C : Cx X p s m args meth c RX15 cc nL rt mn) (hW : Wx X h H) (hZ : va_S (aA (eB X)) s.heap H locs) (hmn : mn = "<init>") (ha : hK h a = 15) (hr : hK h r = 17) (eh : h1 = wR h a 48 (some r)) (hdg : decode cc pc = .ok (.putfield 339, 3)) (kk : ∀ (H1 : Heap) (locs1 : List Loc), Wx X h1 H1 → Km h h1 → va_S (aA (eB X)) s.heap H1 locs1 → W p l e R s m args below meth c H1 locs1 cells slots Q (F0 m (pc + 3) ls rest)) : W p l e R s m args below meth c H locs cells slots Q (F0 m pc ls (.ref r :: .ref a :: rest)) :=
  y_putrF (ty := .array .int) C hW hZ ha i_X15 tyX15 tyX15_ok nmX15 (by decide) rfl rfl (by decide) m_2159 rfl hmn rfl (by decide +kernel) rfl rfl rfl hr rfl (by decide) eh hdg kk
theorem pf_X15_336 {a r : Nat} (C : Cx X p s m args meth c RX15 cc nL rt mn) (hW : Wx X h H) (hZ : va_S (aA (eB X)) s.heap H locs) (hmn : mn = "<init>") (ha : hK h a = 15) (hr : hK h r = 17) (eh : h1 = wR h a 47 (some r)) (hdg : decode cc pc = .ok (.putfield 336, 3)) (kk : ∀ (H1 : Heap) (locs1 : List Loc), Wx X h1 H1 → Km h h1 → va_S (aA (eB X)) s.heap H1 locs1 → W p l e R s m args below meth c H1 locs1 cells slots Q (F0 m (pc + 3) ls rest)) : W p l e R s m args below meth c H locs cells slots Q (F0 m pc ls (.ref r :: .ref a :: rest)) :=
  y_putrF (ty := .array .int) C hW hZ ha i_X15 tyX15 tyX15_ok nmX15 (by decide) rfl rfl (by decide) m_2158 rfl hmn rfl (by decide +kernel) rfl rfl rfl hr rfl (by decide) eh hdg kk
theorem pf_X15_333 {a r : Nat} (C : Cx X p s m args meth c RX15 cc nL rt mn) (hW : Wx X h H) (hZ : va_S (aA (eB X)) s.heap H locs) (hmn : mn = "<init>") (ha : hK h a = 15) (hr : hK h r = 17) (eh : h1 = wR h a 46 (some r)) (hdg : decode cc pc = .ok (.putfield 333, 3)) (kk : ∀ (H1 : Heap) (locs1 : List Loc), Wx X h1 H1 → Km h h1 → va_S (aA (eB X)) s.heap H1 locs1 → W p l e R s m args below meth c H1 locs1 cells slots Q (F0 m (pc + 3) ls rest)) : W p l e R s m args below meth c H locs cells slots Q (F0 m pc ls (.ref r :: .ref a :: rest)) :=
  y_putrF (ty := .array .int) C hW hZ ha i_X15 tyX15 tyX15_ok nmX15 (by decide) rfl rfl (by decide) m_2157 rfl hmn rfl (by decide +kernel) rfl rfl rfl hr rfl (by decide) eh hdg kk
theorem pf_X15_330 {a r : Nat} (C : Cx X p s m args meth c RX15 cc nL rt mn) (hW : Wx X h H) (hZ : va_S (aA (eB X)) s.heap H locs) (hmn : mn = "<init>") (ha : hK h a = 15) (hr : hK h r = 12) (eh : h1 = wR h a 45 (some r)) (hdg : decode cc pc = .ok (.putfield 330, 3)) (kk : ∀ (H1 : Heap) (locs1 : List Loc), Wx X h1 H1 → Km h h1 → va_S (aA (eB X)) s.heap H1 locs1 → W p l e R s m args below meth c H1 locs1 cells slots Q (F0 m (pc + 3) ls rest)) : W p l e R s m args below meth c H locs cells slots Q (F0 m pc ls (.ref r :: .ref a :: rest)) :=
  y_putrF (ty := .object "GameRulesModel$Board") C hW hZ ha i_X15 tyX15 tyX15_ok nmX15 (by decide) rfl rfl (by decide) m_2156 rfl hmn rfl (by decide +kernel) rfl rfl rfl hr rfl (by decide) eh hdg kk
theorem pf_X15_327 {a r : Nat} (C : Cx X p s m args meth c RX15 cc nL rt mn) (hW : Wx X h H) (hZ : va_S (aA (eB X)) s.heap H locs) (hmn : mn = "<init>") (ha : hK h a = 15) (hr : hK h r = 16) (eh : h1 = wR h a 43 (some r)) (hdg : decode cc pc = .ok (.putfield 327, 3)) (kk : ∀ (H1 : Heap) (locs1 : List Loc), Wx X h1 H1 → Km h h1 → va_S (aA (eB X)) s.heap H1 locs1 → W p l e R s m args below meth c H1 locs1 cells slots Q (F0 m (pc + 3) ls rest)) : W p l e R s m args below meth c H locs cells slots Q (F0 m pc ls (.ref r :: .ref a :: rest)) :=
  y_putrF (ty := .array .byte) C hW hZ ha i_X15 tyX15 tyX15_ok nmX15 (by decide) rfl rfl (by decide) m_2154 rfl hmn rfl (by decide +kernel) rfl rfl rfl hr rfl (by decide) eh hdg kk
theorem pf_X15_324 {a r : Nat} (C : Cx X p s m args meth c RX15 cc nL rt mn) (hW : Wx X h H) (hZ : va_S (aA (eB X)) s.heap H locs) (hmn : mn = "<init>") (ha : hK h a = 15) (hr : hK h r = 17) (eh : h1 = wR h a 42 (some r)) (hdg : decode cc pc = .ok (.putfield 324, 3)) (kk : ∀ (H1 : Heap) (locs1 : List Loc), Wx X h1 H1 → Km h h1 → va_S (aA (eB X)) s.heap H1 locs1 → W p l e R s m args below meth c H1 locs1 cells slots Q (F0 m (pc + 3) ls rest)) : W p l e R s m args below meth c H locs cells slots Q (F0 m pc ls (.ref r :: .ref a :: rest)) :=
  y_putrF (ty := .array .int) C hW hZ ha i_X15 tyX15 tyX15_ok nmX15 (by decide) rfl rfl (by decide) m_2153 rfl hmn rfl (by decide +kernel) rfl rfl rfl hr rfl (by decide) eh hdg kk
theorem pf_X15_321 {a r : Nat} (C : Cx X p s m args meth c RX15 cc nL rt mn) (hW : Wx X h H) (hZ : va_S (aA (eB X)) s.heap H locs) (hmn : mn = "<init>") (ha : hK h a = 15) (hr : hK h r = 16) (eh : h1 = wR h a 41 (some r)) (hdg : decode cc pc = .ok (.putfield 321, 3)) (kk : ∀ (H1 : Heap) (locs1 : List Loc), Wx X h1 H1 → Km h h1 → va_S (aA (eB X)) s.heap H1 locs1 → W p l e R s m args below meth c H1 locs1 cells slots Q (F0 m (pc + 3) ls rest)) : W p l e R s m args below meth c H locs cells slots Q (F0 m pc ls (.ref r :: .ref a :: rest)) :=
  y_putrF (ty := .array .byte) C hW hZ ha i_X15 tyX15 tyX15_ok nmX15 (by decide) rfl rfl (by decide) m_2152 rfl hmn rfl (by decide +kernel) rfl rfl rfl hr rfl (by decide) eh hdg kk
theorem pf_X15_317 {a r : Nat} (C : Cx X p s m args meth c RX15 cc nL rt mn) (hW : Wx X h H) (hZ : va_S (aA (eB X)) s.heap H locs) (hmn : mn = "<init>") (ha : hK h a = 15) (hr : hK h r = 21) (eh : h1 = wR h a 40 (some r)) (hdg : decode cc pc = .ok (.putfield 317, 3)) (kk : ∀ (H1 : Heap) (locs1 : List Loc), Wx X h1 H1 → Km h h1 → va_S (aA (eB X)) s.heap H1 locs1 → W p l e R s m args below meth c H1 locs1 cells slots Q (F0 m (pc + 3) ls rest)) : W p l e R s m args below meth c H locs cells slots Q (F0 m pc ls (.ref r :: .ref a :: rest)) :=
  y_putrF (ty := .array (.object "GameRulesModel$Board")) C hW hZ ha i_X15 tyX15 tyX15_ok nmX15 (by decide) rfl rfl (by decide) m_2151 rfl hmn rfl (by decide +kernel) rfl rfl rfl hr rfl (by decide) eh hdg kk
theorem pf_X15_314 {a r : Nat} (C : Cx X p s m args meth c RX15 cc nL rt mn) (hW : Wx X h H) (hZ : va_S (aA (eB X)) s.heap H locs) (hmn : mn = "<init>") (ha : hK h a = 15) (hr : hK h r = 17) (eh : h1 = wR h a 39 (some r)) (hdg : decode cc pc = .ok (.putfield 314, 3)) (kk : ∀ (H1 : Heap) (locs1 : List Loc), Wx X h1 H1 → Km h h1 → va_S (aA (eB X)) s.heap H1 locs1 → W p l e R s m args below meth c H1 locs1 cells slots Q (F0 m (pc + 3) ls rest)) : W p l e R s m args below meth c H locs cells slots Q (F0 m pc ls (.ref r :: .ref a :: rest)) :=
  y_putrF (ty := .array .int) C hW hZ ha i_X15 tyX15 tyX15_ok nmX15 (by decide) rfl rfl (by decide) m_2150 rfl hmn rfl (by decide +kernel) rfl rfl rfl hr rfl (by decide) eh hdg kk
theorem pf_X15_311 {a r : Nat} (C : Cx X p s m args meth c RX15 cc nL rt mn) (hW : Wx X h H) (hZ : va_S (aA (eB X)) s.heap H locs) (hmn : mn = "<init>") (ha : hK h a = 15) (hr : hK h r = 17) (eh : h1 = wR h a 38 (some r)) (hdg : decode cc pc = .ok (.putfield 311, 3)) (kk : ∀ (H1 : Heap) (locs1 : List Loc), Wx X h1 H1 → Km h h1 → va_S (aA (eB X)) s.heap H1 locs1 → W p l e R s m args below meth c H1 locs1 cells slots Q (F0 m (pc + 3) ls rest)) : W p l e R s m args below meth c H locs cells slots Q (F0 m pc ls (.ref r :: .ref a :: rest)) :=
  y_putrF (ty := .array .int) C hW hZ ha i_X15 tyX15 tyX15_ok nmX15 (by decide) rfl rfl (by decide) m_2149 rfl hmn rfl (by decide +kernel) rfl rfl rfl hr rfl (by decide) eh hdg kk
theorem pf_X15_308 {a r : Nat} (C : Cx X p s m args meth c RX15 cc nL rt mn) (hW : Wx X h H) (hZ : va_S (aA (eB X)) s.heap H locs) (hmn : mn = "<init>") (ha : hK h a = 15) (hr : hK h r = 21) (eh : h1 = wR h a 37 (some r)) (hdg : decode cc pc = .ok (.putfield 308, 3)) (kk : ∀ (H1 : Heap) (locs1 : List Loc), Wx X h1 H1 → Km h h1 → va_S (aA (eB X)) s.heap H1 locs1 → W p l e R s m args below meth c H1 locs1 cells slots Q (F0 m (pc + 3) ls rest)) : W p l e R s m args below meth c H locs cells slots Q (F0 m pc ls (.ref r :: .ref a :: rest)) :=
  y_putrF (ty := .array (.object "GameRulesModel$Board")) C hW hZ ha i_X15 tyX15 tyX15_ok nmX15 (by decide) rfl rfl (by decide) m_2148 rfl hmn rfl (by decide +kernel) rfl rfl rfl hr rfl (by decide) eh hdg kk
theorem pf_X15_305 {a r : Nat} (C : Cx X p s m args meth c RX15 cc nL rt mn) (hW : Wx X h H) (hZ : va_S (aA (eB X)) s.heap H locs) (hmn : mn = "<init>") (ha : hK h a = 15) (hr : hK h r = 12) (eh : h1 = wR h a 35 (some r)) (hdg : decode cc pc = .ok (.putfield 305, 3)) (kk : ∀ (H1 : Heap) (locs1 : List Loc), Wx X h1 H1 → Km h h1 → va_S (aA (eB X)) s.heap H1 locs1 → W p l e R s m args below meth c H1 locs1 cells slots Q (F0 m (pc + 3) ls rest)) : W p l e R s m args below meth c H locs cells slots Q (F0 m pc ls (.ref r :: .ref a :: rest)) :=
  y_putrF (ty := .object "GameRulesModel$Board") C hW hZ ha i_X15 tyX15 tyX15_ok nmX15 (by decide) rfl rfl (by decide) m_2146 rfl hmn rfl (by decide +kernel) rfl rfl rfl hr rfl (by decide) eh hdg kk
theorem pf_X15_301 {a r : Nat} (C : Cx X p s m args meth c RX15 cc nL rt mn) (hW : Wx X h H) (hZ : va_S (aA (eB X)) s.heap H locs) (hmn : mn = "<init>") (ha : hK h a = 15) (hr : hK h r = 22) (eh : h1 = wR h a 34 (some r)) (hdg : decode cc pc = .ok (.putfield 301, 3)) (kk : ∀ (H1 : Heap) (locs1 : List Loc), Wx X h1 H1 → Km h h1 → va_S (aA (eB X)) s.heap H1 locs1 → W p l e R s m args below meth c H1 locs1 cells slots Q (F0 m (pc + 3) ls rest)) : W p l e R s m args below meth c H locs cells slots Q (F0 m pc ls (.ref r :: .ref a :: rest)) :=
  y_putrF (ty := .array (.object "GameRulesModel$Moves")) C hW hZ ha i_X15 tyX15 tyX15_ok nmX15 (by decide) rfl rfl (by decide) m_2145 rfl hmn rfl (by decide +kernel) rfl rfl rfl hr rfl (by decide) eh hdg kk
theorem pf_X15_298 {a r : Nat} (C : Cx X p s m args meth c RX15 cc nL rt mn) (hW : Wx X h H) (hZ : va_S (aA (eB X)) s.heap H locs) (hmn : mn = "<init>") (ha : hK h a = 15) (hr : hK h r = 21) (eh : h1 = wR h a 33 (some r)) (hdg : decode cc pc = .ok (.putfield 298, 3)) (kk : ∀ (H1 : Heap) (locs1 : List Loc), Wx X h1 H1 → Km h h1 → va_S (aA (eB X)) s.heap H1 locs1 → W p l e R s m args below meth c H1 locs1 cells slots Q (F0 m (pc + 3) ls rest)) : W p l e R s m args below meth c H locs cells slots Q (F0 m pc ls (.ref r :: .ref a :: rest)) :=
  y_putrF (ty := .array (.object "GameRulesModel$Board")) C hW hZ ha i_X15 tyX15 tyX15_ok nmX15 (by decide) rfl rfl (by decide) m_2144 rfl hmn rfl (by decide +kernel) rfl rfl rfl hr rfl (by decide) eh hdg kk
theorem pf_X15_295 {a r : Nat} (C : Cx X p s m args meth c RX15 cc nL rt mn) (hW : Wx X h H) (hZ : va_S (aA (eB X)) s.heap H locs) (hmn : mn = "<init>") (ha : hK h a = 15) (hr : hK h r = 12) (eh : h1 = wR h a 32 (some r)) (hdg : decode cc pc = .ok (.putfield 295, 3)) (kk : ∀ (H1 : Heap) (locs1 : List Loc), Wx X h1 H1 → Km h h1 → va_S (aA (eB X)) s.heap H1 locs1 → W p l e R s m args below meth c H1 locs1 cells slots Q (F0 m (pc + 3) ls rest)) : W p l e R s m args below meth c H locs cells slots Q (F0 m pc ls (.ref r :: .ref a :: rest)) :=
  y_putrF (ty := .object "GameRulesModel$Board") C hW hZ ha i_X15 tyX15 tyX15_ok nmX15 (by decide) rfl rfl (by decide) m_2143 rfl hmn rfl (by decide +kernel) rfl rfl rfl hr rfl (by decide) eh hdg kk
theorem pf_X15_292 {a r : Nat} (C : Cx X p s m args meth c RX15 cc nL rt mn) (hW : Wx X h H) (hZ : va_S (aA (eB X)) s.heap H locs) (hmn : mn = "<init>") (ha : hK h a = 15) (hr : hK h r = 13) (eh : h1 = wR h a 31 (some r)) (hdg : decode cc pc = .ok (.putfield 292, 3)) (kk : ∀ (H1 : Heap) (locs1 : List Loc), Wx X h1 H1 → Km h h1 → va_S (aA (eB X)) s.heap H1 locs1 → W p l e R s m args below meth c H1 locs1 cells slots Q (F0 m (pc + 3) ls rest)) : W p l e R s m args below meth c H locs cells slots Q (F0 m pc ls (.ref r :: .ref a :: rest)) :=
  y_putrF (ty := .object "GameRulesModel$Moves") C hW hZ ha i_X15 tyX15 tyX15_ok nmX15 (by decide) rfl rfl (by decide) m_2142 rfl hmn rfl (by decide +kernel) rfl rfl rfl hr rfl (by decide) eh hdg kk
theorem pf_X15_288 {a r : Nat} (C : Cx X p s m args meth c RX15 cc nL rt mn) (hW : Wx X h H) (hZ : va_S (aA (eB X)) s.heap H locs) (hmn : mn = "<init>") (ha : hK h a = 15) (hr : hK h r = 13) (eh : h1 = wR h a 30 (some r)) (hdg : decode cc pc = .ok (.putfield 288, 3)) (kk : ∀ (H1 : Heap) (locs1 : List Loc), Wx X h1 H1 → Km h h1 → va_S (aA (eB X)) s.heap H1 locs1 → W p l e R s m args below meth c H1 locs1 cells slots Q (F0 m (pc + 3) ls rest)) : W p l e R s m args below meth c H locs cells slots Q (F0 m pc ls (.ref r :: .ref a :: rest)) :=
  y_putrF (ty := .object "GameRulesModel$Moves") C hW hZ ha i_X15 tyX15 tyX15_ok nmX15 (by decide) rfl rfl (by decide) m_2141 rfl hmn rfl (by decide +kernel) rfl rfl rfl hr rfl (by decide) eh hdg kk
theorem pf_X15_282 {a r : Nat} (C : Cx X p s m args meth c RX15 cc nL rt mn) (hW : Wx X h H) (hZ : va_S (aA (eB X)) s.heap H locs) (hmn : mn = "<init>") (ha : hK h a = 15) (hr : hK h r = 12) (eh : h1 = wR h a 28 (some r)) (hdg : decode cc pc = .ok (.putfield 282, 3)) (kk : ∀ (H1 : Heap) (locs1 : List Loc), Wx X h1 H1 → Km h h1 → va_S (aA (eB X)) s.heap H1 locs1 → W p l e R s m args below meth c H1 locs1 cells slots Q (F0 m (pc + 3) ls rest)) : W p l e R s m args below meth c H locs cells slots Q (F0 m pc ls (.ref r :: .ref a :: rest)) :=
  y_putrF (ty := .object "GameRulesModel$Board") C hW hZ ha i_X15 tyX15 tyX15_ok nmX15 (by decide) rfl rfl (by decide) m_2139 rfl hmn rfl (by decide +kernel) rfl rfl rfl hr rfl (by decide) eh hdg kk
theorem pf_X15_278 {a r : Nat} (C : Cx X p s m args meth c RX15 cc nL rt mn) (hW : Wx X h H) (hZ : va_S (aA (eB X)) s.heap H locs) (hmn : mn = "<init>") (ha : hK h a = 15) (hr : hK h r = 19) (eh : h1 = wR h a 27 (some r)) (hdg : decode cc pc = .ok (.putfield 278, 3)) (kk : ∀ (H1 : Heap) (locs1 : List Loc), Wx X h1 H1 → Km h h1 → va_S (aA (eB X)) s.heap H1 locs1 → W p l e R s m args below meth c H1 locs1 cells slots Q (F0 m (pc + 3) ls rest)) : W p l e R s m args below meth c H locs cells slots Q (F0 m pc ls (.ref r :: .ref a :: rest)) :=
  y_putrF (ty := .array .boolean) C hW hZ ha i_X15 tyX15 tyX15_ok nmX15 (by decide) rfl rfl (by decide) m_2138 rfl hmn rfl (by decide +kernel) rfl rfl rfl hr rfl (by decide) eh hdg kk
theorem pf_X15_275 {a r : Nat} (C : Cx X p s m args meth c RX15 cc nL rt mn) (hW : Wx X h H) (hZ : va_S (aA (eB X)) s.heap H locs) (hmn : mn = "<init>") (ha : hK h a = 15) (hr : hK h r = 17) (eh : h1 = wR h a 26 (some r)) (hdg : decode cc pc = .ok (.putfield 275, 3)) (kk : ∀ (H1 : Heap) (locs1 : List Loc), Wx X h1 H1 → Km h h1 → va_S (aA (eB X)) s.heap H1 locs1 → W p l e R s m args below meth c H1 locs1 cells slots Q (F0 m (pc + 3) ls rest)) : W p l e R s m args below meth c H locs cells slots Q (F0 m pc ls (.ref r :: .ref a :: rest)) :=
  y_putrF (ty := .array .int) C hW hZ ha i_X15 tyX15 tyX15_ok nmX15 (by decide) rfl rfl (by decide) m_2137 rfl hmn rfl (by decide +kernel) rfl rfl rfl hr rfl (by decide) eh hdg kk
theorem pf_X15_272 {a r : Nat} (C : Cx X p s m args meth c RX15 cc nL rt mn) (hW : Wx X h H) (hZ : va_S (aA (eB X)) s.heap H locs) (hmn : mn = "<init>") (ha : hK h a = 15) (hr : hK h r = 17) (eh : h1 = wR h a 25 (some r)) (hdg : decode cc pc = .ok (.putfield 272, 3)) (kk : ∀ (H1 : Heap) (locs1 : List Loc), Wx X h1 H1 → Km h h1 → va_S (aA (eB X)) s.heap H1 locs1 → W p l e R s m args below meth c H1 locs1 cells slots Q (F0 m (pc + 3) ls rest)) : W p l e R s m args below meth c H locs cells slots Q (F0 m pc ls (.ref r :: .ref a :: rest)) :=
  y_putrF (ty := .array .int) C hW hZ ha i_X15 tyX15 tyX15_ok nmX15 (by decide) rfl rfl (by decide) m_2136 rfl hmn rfl (by decide +kernel) rfl rfl rfl hr rfl (by decide) eh hdg kk
theorem pf_X15_269 {a r : Nat} (C : Cx X p s m args meth c RX15 cc nL rt mn) (hW : Wx X h H) (hZ : va_S (aA (eB X)) s.heap H locs) (hmn : mn = "<init>") (ha : hK h a = 15) (hr : hK h r = 17) (eh : h1 = wR h a 22 (some r)) (hdg : decode cc pc = .ok (.putfield 269, 3)) (kk : ∀ (H1 : Heap) (locs1 : List Loc), Wx X h1 H1 → Km h h1 → va_S (aA (eB X)) s.heap H1 locs1 → W p l e R s m args below meth c H1 locs1 cells slots Q (F0 m (pc + 3) ls rest)) : W p l e R s m args below meth c H locs cells slots Q (F0 m pc ls (.ref r :: .ref a :: rest)) :=
  y_putrF (ty := .array .int) C hW hZ ha i_X15 tyX15 tyX15_ok nmX15 (by decide) rfl rfl (by decide) m_2133 rfl hmn rfl (by decide +kernel) rfl rfl rfl hr rfl (by decide) eh hdg kk
theorem pf_X15_265 {a r : Nat} (C : Cx X p s m args meth c RX15 cc nL rt mn) (hW : Wx X h H) (hZ : va_S (aA (eB X)) s.heap H locs) (hmn : mn = "<init>") (ha : hK h a = 15) (hr : hK h r = 12) (eh : h1 = wR h a 21 (some r)) (hdg : decode cc pc = .ok (.putfield 265, 3)) (kk : ∀ (H1 : Heap) (locs1 : List Loc), Wx X h1 H1 → Km h h1 → va_S (aA (eB X)) s.heap H1 locs1 → W p l e R s m args below meth c H1 locs1 cells slots Q (F0 m (pc + 3) ls rest)) : W p l e R s m args below meth c H locs cells slots Q (F0 m pc ls (.ref r :: .ref a :: rest)) :=
  y_putrF (ty := .object "GameRulesModel$Board") C hW hZ ha i_X15 tyX15 tyX15_ok nmX15 (by decide) rfl rfl (by decide) m_2132 rfl hmn rfl (by decide +kernel) rfl rfl rfl hr rfl (by decide) eh hdg kk
theorem pf_X15_261 {a r : Nat} (C : Cx X p s m args meth c RX15 cc nL rt mn) (hW : Wx X h H) (hZ : va_S (aA (eB X)) s.heap H locs) (hmn : mn = "<init>") (ha : hK h a = 15) (hr : hK h r = 17) (eh : h1 = wR h a 15 (some r)) (hdg : decode cc pc = .ok (.putfield 261, 3)) (kk : ∀ (H1 : Heap) (locs1 : List Loc), Wx X h1 H1 → Km h h1 → va_S (aA (eB X)) s.heap H1 locs1 → W p l e R s m args below meth c H1 locs1 cells slots Q (F0 m (pc + 3) ls rest)) : W p l e R s m args below meth c H locs cells slots Q (F0 m pc ls (.ref r :: .ref a :: rest)) :=
  y_putrF (ty := .array .int) C hW hZ ha i_X15 tyX15 tyX15_ok nmX15 (by decide) rfl rfl (by decide) m_2126 rfl hmn rfl (by decide +kernel) rfl rfl rfl hr rfl (by decide) eh hdg kk
theorem pf_X15_257 {a r : Nat} (C : Cx X p s m args meth c RX15 cc nL rt mn) (hW : Wx X h H) (hZ : va_S (aA (eB X)) s.heap H locs) (hmn : mn = "<init>") (ha : hK h a = 15) (hr : hK h r = 21) (eh : h1 = wR h a 14 (some r)) (hdg : decode cc pc = .ok (.putfield 257, 3)) (kk : ∀ (H1 : Heap) (locs1 : List Loc), Wx X h1 H1 → Km h h1 → va_S (aA (eB X)) s.heap H1 locs1 → W p l e R s m args below meth c H1 locs1 cells slots Q (F0 m (pc + 3) ls rest)) : W p l e R s m args below meth c H locs cells slots Q (F0 m pc ls (.ref r :: .ref a :: rest)) :=
  y_putrF (ty := .array (.object "GameRulesModel$Board")) C hW hZ ha i_X15 tyX15 tyX15_ok nmX15 (by decide) rfl rfl (by decide) m_2125 rfl hmn rfl (by decide +kernel) rfl rfl rfl hr rfl (by decide) eh hdg kk
theorem pf_X15_14 {a r : Nat} (C : Cx X p s m args meth c RX15 cc nL rt mn) (hW : Wx X h H) (hZ : va_S (aA (eB X)) s.heap H locs) (hmn : mn = "<init>") (ha : hK h a = 15) (hr : hK h r = 16) (eh : h1 = wR h a 2 (some r)) (hdg : decode cc pc = .ok (.putfield 14, 3)) (kk : ∀ (H1 : Heap) (locs1 : List Loc), Wx X h1 H1 → Km h h1 → va_S (aA (eB X)) s.heap H1 locs1 → W p l e R s m args below meth c H1 locs1 cells slots Q (F0 m (pc + 3) ls rest)) : W p l e R s m args below meth c H locs cells slots Q (F0 m pc ls (.ref r :: .ref a :: rest)) :=
  y_putrF (ty := .array .byte) C hW hZ ha i_X15 tyX15 tyX15_ok nmX15 (by decide) rfl rfl (by decide) m_2113 rfl hmn rfl (by decide +kernel) rfl rfl rfl hr rfl (by decide) eh hdg kk
theorem pf_X15_7 {a r : Nat} (C : Cx X p s m args meth c RX15 cc nL rt mn) (hW : Wx X h H) (hZ : va_S (aA (eB X)) s.heap H locs) (hmn : mn = "<init>") (ha : hK h a = 15) (hr : hK h r = 16) (eh : h1 = wR h a 0 (some r)) (hdg : decode cc pc = .ok (.putfield 7, 3)) (kk : ∀ (H1 : Heap) (locs1 : List Loc), Wx X h1 H1 → Km h h1 → va_S (aA (eB X)) s.heap H1 locs1 → W p l e R s m args below meth c H1 locs1 cells slots Q (F0 m (pc + 3) ls rest)) : W p l e R s m args below meth c H locs cells slots Q (F0 m pc ls (.ref r :: .ref a :: rest)) :=
  y_putrF (ty := .array .byte) C hW hZ ha i_X15 tyX15 tyX15_ok nmX15 (by decide) rfl rfl (by decide) m_2111 rfl hmn rfl (by decide +kernel) rfl rfl rfl hr rfl (by decide) eh hdg kk
end
theorem cw_X15_379 : cwd RX15 379 yX15_take cX15_take 2 none false 0 := ⟨m_2110, m_2107, m_19, ⟨m_2109, ms_133⟩, by decide, by decide, by decide +kernel⟩
theorem cw_X15_376 : cwd RX15 376 yX15_isRules cX15_isRules 3 (some .boolean) false 2 := ⟨m_1989, m_1986, m_19, ⟨m_1988, ms_113⟩, by decide, by decide, by decide +kernel⟩
theorem cj_X15_264 : cwin RX15 264 "GameRulesModel" yX12_init cX12_init 1 0 := ⟨m_1906, n_1904, m_21, m_1905, rfl, by decide, by decide, by decide +kernel⟩
theorem cj_X15_287 : cwin RX15 287 "GameRulesModel" yX13_init cX13_init 1 0 := ⟨m_1945, n_1943, m_22, m_1944, rfl, by decide, by decide, by decide +kernel⟩
theorem cj_X15_251 : cwin RX15 251 "GameRulesModel" yX14_init cX14_init 1 0 := ⟨m_1804, n_1802, m_20, m_1803, rfl, by decide, by decide, by decide +kernel⟩
theorem dX15_init_0 : decode cX15_init 0 = .ok (.aload_n 0, 1) := by decide +kernel
theorem dX15_init_1 : decode cX15_init 1 = .ok (.invokespecial 246, 3) := by decide +kernel
theorem dX15_init_4 : decode cX15_init 4 = .ok (.aload_n 0, 1) := by decide +kernel
theorem dX15_init_5 : decode cX15_init 5 = .ok (.sipush 1220, 3) := by decide +kernel
theorem dX15_init_8 : decode cX15_init 8 = .ok (.newarray .byte, 2) := by decide +kernel
theorem dX15_init_10 : decode cX15_init 10 = .ok (.putfield 7, 3) := by decide +kernel
theorem dX15_init_13 : decode cX15_init 13 = .ok (.aload_n 0, 1) := by decide +kernel
theorem dX15_init_14 : decode cX15_init 14 = .ok (.sipush 256, 3) := by decide +kernel
theorem dX15_init_17 : decode cX15_init 17 = .ok (.newarray .byte, 2) := by decide +kernel
theorem dX15_init_19 : decode cX15_init 19 = .ok (.putfield 14, 3) := by decide +kernel
theorem dX15_init_22 : decode cX15_init 22 = .ok (.aload_n 0, 1) := by decide +kernel
theorem dX15_init_23 : decode cX15_init 23 = .ok (.new 62, 3) := by decide +kernel
theorem dX15_init_26 : decode cX15_init 26 = .ok (.dup, 1) := by decide +kernel
theorem dX15_init_27 : decode cX15_init 27 = .ok (.invokespecial 251, 3) := by decide +kernel
theorem dX15_init_30 : decode cX15_init 30 = .ok (.putfield 252, 3) := by decide +kernel
theorem dX15_init_33 : decode cX15_init 33 = .ok (.aload_n 0, 1) := by decide +kernel
theorem dX15_init_34 : decode cX15_init 34 = .ok (.new 62, 3) := by decide +kernel
theorem dX15_init_37 : decode cX15_init 37 = .ok (.dup, 1) := by decide +kernel
theorem dX15_init_38 : decode cX15_init 38 = .ok (.invokespecial 251, 3) := by decide +kernel
theorem dX15_init_41 : decode cX15_init 41 = .ok (.putfield 57, 3) := by decide +kernel
theorem dX15_init_44 : decode cX15_init 44 = .ok (.aload_n 0, 1) := by decide +kernel
theorem dX15_init_45 : decode cX15_init 45 = .ok (.bipush 60, 2) := by decide +kernel
theorem dX15_init_47 : decode cX15_init 47 = .ok (.anewarray 255, 3) := by decide +kernel
theorem dX15_init_50 : decode cX15_init 50 = .ok (.putfield 257, 3) := by decide +kernel
theorem dX15_init_53 : decode cX15_init 53 = .ok (.aload_n 0, 1) := by decide +kernel
theorem dX15_init_54 : decode cX15_init 54 = .ok (.bipush 60, 2) := by decide +kernel
theorem dX15_init_56 : decode cX15_init 56 = .ok (.newarray .int, 2) := by decide +kernel
theorem dX15_init_58 : decode cX15_init 58 = .ok (.putfield 261, 3) := by decide +kernel
theorem dX15_init_61 : decode cX15_init 61 = .ok (.aload_n 0, 1) := by decide +kernel
theorem dX15_init_62 : decode cX15_init 62 = .ok (.new 255, 3) := by decide +kernel
theorem dX15_init_65 : decode cX15_init 65 = .ok (.dup, 1) := by decide +kernel
theorem dX15_init_66 : decode cX15_init 66 = .ok (.invokespecial 264, 3) := by decide +kernel
theorem dX15_init_69 : decode cX15_init 69 = .ok (.putfield 265, 3) := by decide +kernel
theorem dX15_init_72 : decode cX15_init 72 = .ok (.aload_n 0, 1) := by decide +kernel
theorem dX15_init_73 : decode cX15_init 73 = .ok (.iconst 2, 1) := by decide +kernel
theorem dX15_init_74 : decode cX15_init 74 = .ok (.newarray .int, 2) := by decide +kernel
theorem dX15_init_76 : decode cX15_init 76 = .ok (.putfield 269, 3) := by decide +kernel
theorem dX15_init_79 : decode cX15_init 79 = .ok (.aload_n 0, 1) := by decide +kernel
theorem dX15_init_80 : decode cX15_init 80 = .ok (.bipush 64, 2) := by decide +kernel
theorem dX15_init_82 : decode cX15_init 82 = .ok (.newarray .int, 2) := by decide +kernel
theorem dX15_init_84 : decode cX15_init 84 = .ok (.putfield 272, 3) := by decide +kernel
theorem dX15_init_87 : decode cX15_init 87 = .ok (.aload_n 0, 1) := by decide +kernel
theorem dX15_init_88 : decode cX15_init 88 = .ok (.bipush 64, 2) := by decide +kernel
theorem dX15_init_90 : decode cX15_init 90 = .ok (.newarray .int, 2) := by decide +kernel
theorem dX15_init_92 : decode cX15_init 92 = .ok (.putfield 275, 3) := by decide +kernel
theorem dX15_init_95 : decode cX15_init 95 = .ok (.aload_n 0, 1) := by decide +kernel
theorem dX15_init_96 : decode cX15_init 96 = .ok (.bipush 64, 2) := by decide +kernel
theorem dX15_init_98 : decode cX15_init 98 = .ok (.newarray .boolean, 2) := by decide +kernel
theorem dX15_init_100 : decode cX15_init 100 = .ok (.putfield 278, 3) := by decide +kernel
theorem dX15_init_103 : decode cX15_init 103 = .ok (.aload_n 0, 1) := by decide +kernel
theorem dX15_init_104 : decode cX15_init 104 = .ok (.new 255, 3) := by decide +kernel
theorem dX15_init_107 : decode cX15_init 107 = .ok (.dup, 1) := by decide +kernel
theorem dX15_init_108 : decode cX15_init 108 = .ok (.invokespecial 264, 3) := by decide +kernel
theorem dX15_init_111 : decode cX15_init 111 = .ok (.putfield 282, 3) := by decide +kernel
theorem dX15_init_114 : decode cX15_init 114 = .ok (.aload_n 0, 1) := by decide +kernel
theorem dX15_init_115 : decode cX15_init 115 = .ok (.new 285, 3) := by decide +kernel
theorem dX15_init_118 : decode cX15_init 118 = .ok (.dup, 1) := by decide +kernel
theorem dX15_init_119 : decode cX15_init 119 = .ok (.invokespecial 287, 3) := by decide +kernel
theorem dX15_init_122 : decode cX15_init 122 = .ok (.putfield 288, 3) := by decide +kernel
theorem dX15_init_125 : decode cX15_init 125 = .ok (.aload_n 0, 1) := by decide +kernel
theorem dX15_init_126 : decode cX15_init 126 = .ok (.new 285, 3) := by decide +kernel
theorem dX15_init_129 : decode cX15_init 129 = .ok (.dup, 1) := by decide +kernel
theorem dX15_init_130 : decode cX15_init 130 = .ok (.invokespecial 287, 3) := by decide +kernel
theorem dX15_init_133 : decode cX15_init 133 = .ok (.putfield 292, 3) := by decide +kernel
theorem dX15_init_136 : decode cX15_init 136 = .ok (.aload_n 0, 1) := by decide +kernel
theorem dX15_init_137 : decode cX15_init 137 = .ok (.new 255, 3) := by decide +kernel
theorem dX15_init_140 : decode cX15_init 140 = .ok (.dup, 1) := by decide +kernel
theorem dX15_init_141 : decode cX15_init 141 = .ok (.invokespecial 264, 3) := by decide +kernel
theorem dX15_init_144 : decode cX15_init 144 = .ok (.putfield 295, 3) := by decide +kernel
theorem dX15_init_147 : decode cX15_init 147 = .ok (.aload_n 0, 1) := by decide +kernel
theorem dX15_init_148 : decode cX15_init 148 = .ok (.bipush 10, 2) := by decide +kernel
theorem dX15_init_150 : decode cX15_init 150 = .ok (.anewarray 255, 3) := by decide +kernel
theorem dX15_init_153 : decode cX15_init 153 = .ok (.putfield 298, 3) := by decide +kernel
theorem dX15_init_156 : decode cX15_init 156 = .ok (.aload_n 0, 1) := by decide +kernel
theorem dX15_init_157 : decode cX15_init 157 = .ok (.bipush 10, 2) := by decide +kernel
theorem dX15_init_159 : decode cX15_init 159 = .ok (.anewarray 285, 3) := by decide +kernel
theorem dX15_init_162 : decode cX15_init 162 = .ok (.putfield 301, 3) := by decide +kernel
theorem dX15_init_165 : decode cX15_init 165 = .ok (.aload_n 0, 1) := by decide +kernel
theorem dX15_init_166 : decode cX15_init 166 = .ok (.new 255, 3) := by decide +kernel
theorem dX15_init_169 : decode cX15_init 169 = .ok (.dup, 1) := by decide +kernel
theorem dX15_init_170 : decode cX15_init 170 = .ok (.invokespecial 264, 3) := by decide +kernel
theorem dX15_init_173 : decode cX15_init 173 = .ok (.putfield 305, 3) := by decide +kernel
theorem dX15_init_176 : decode cX15_init 176 = .ok (.aload_n 0, 1) := by decide +kernel
theorem dX15_init_177 : decode cX15_init 177 = .ok (.sipush 2408, 3) := by decide +kernel
theorem dX15_init_180 : decode cX15_init 180 = .ok (.anewarray 255, 3) := by decide +kernel
theorem dX15_init_183 : decode cX15_init 183 = .ok (.putfield 308, 3) := by decide +kernel
theorem dX15_init_186 : decode cX15_init 186 = .ok (.aload_n 0, 1) := by decide +kernel
theorem dX15_init_187 : decode cX15_init 187 = .ok (.sipush 2408, 3) := by decide +kernel
theorem dX15_init_190 : decode cX15_init 190 = .ok (.newarray .int, 2) := by decide +kernel
theorem dX15_init_192 : decode cX15_init 192 = .ok (.putfield 311, 3) := by decide +kernel
theorem dX15_init_195 : decode cX15_init 195 = .ok (.aload_n 0, 1) := by decide +kernel
theorem dX15_init_196 : decode cX15_init 196 = .ok (.bipush 8, 2) := by decide +kernel
theorem dX15_init_198 : decode cX15_init 198 = .ok (.newarray .int, 2) := by decide +kernel
theorem dX15_init_200 : decode cX15_init 200 = .ok (.dup, 1) := by decide +kernel
theorem dX15_init_201 : decode cX15_init 201 = .ok (.iconst 0, 1) := by decide +kernel
theorem dX15_init_202 : decode cX15_init 202 = .ok (.iconst (-1), 1) := by decide +kernel
theorem dX15_init_203 : decode cX15_init 203 = .ok (.iastore, 1) := by decide +kernel
theorem dX15_init_204 : decode cX15_init 204 = .ok (.dup, 1) := by decide +kernel
theorem dX15_init_205 : decode cX15_init 205 = .ok (.iconst 1, 1) := by decide +kernel
theorem dX15_init_206 : decode cX15_init 206 = .ok (.iconst (-1), 1) := by decide +kernel
theorem dX15_init_207 : decode cX15_init 207 = .ok (.iastore, 1) := by decide +kernel
theorem dX15_init_208 : decode cX15_init 208 = .ok (.dup, 1) := by decide +kernel
theorem dX15_init_209 : decode cX15_init 209 = .ok (.iconst 2, 1) := by decide +kernel
theorem dX15_init_210 : decode cX15_init 210 = .ok (.iconst (-1), 1) := by decide +kernel
theorem dX15_init_211 : decode cX15_init 211 = .ok (.iastore, 1) := by decide +kernel
theorem dX15_init_212 : decode cX15_init 212 = .ok (.dup, 1) := by decide +kernel
theorem dX15_init_213 : decode cX15_init 213 = .ok (.iconst 3, 1) := by decide +kernel
theorem dX15_init_214 : decode cX15_init 214 = .ok (.iconst (-1), 1) := by decide +kernel
theorem dX15_init_215 : decode cX15_init 215 = .ok (.iastore, 1) := by decide +kernel
theorem dX15_init_216 : decode cX15_init 216 = .ok (.dup, 1) := by decide +kernel
theorem dX15_init_217 : decode cX15_init 217 = .ok (.iconst 4, 1) := by decide +kernel
theorem dX15_init_218 : decode cX15_init 218 = .ok (.iconst (-1), 1) := by decide +kernel
theorem dX15_init_219 : decode cX15_init 219 = .ok (.iastore, 1) := by decide +kernel
theorem dX15_init_220 : decode cX15_init 220 = .ok (.dup, 1) := by decide +kernel
theorem dX15_init_221 : decode cX15_init 221 = .ok (.iconst 5, 1) := by decide +kernel
theorem dX15_init_222 : decode cX15_init 222 = .ok (.iconst (-1), 1) := by decide +kernel
theorem dX15_init_223 : decode cX15_init 223 = .ok (.iastore, 1) := by decide +kernel
theorem dX15_init_224 : decode cX15_init 224 = .ok (.dup, 1) := by decide +kernel
theorem dX15_init_225 : decode cX15_init 225 = .ok (.bipush 6, 2) := by decide +kernel
theorem dX15_init_227 : decode cX15_init 227 = .ok (.iconst (-1), 1) := by decide +kernel
theorem dX15_init_228 : decode cX15_init 228 = .ok (.iastore, 1) := by decide +kernel
theorem dX15_init_229 : decode cX15_init 229 = .ok (.dup, 1) := by decide +kernel
theorem dX15_init_230 : decode cX15_init 230 = .ok (.bipush 7, 2) := by decide +kernel
theorem dX15_init_232 : decode cX15_init 232 = .ok (.iconst (-1), 1) := by decide +kernel
theorem dX15_init_233 : decode cX15_init 233 = .ok (.iastore, 1) := by decide +kernel
theorem dX15_init_234 : decode cX15_init 234 = .ok (.putfield 314, 3) := by decide +kernel
theorem dX15_init_237 : decode cX15_init 237 = .ok (.aload_n 0, 1) := by decide +kernel
theorem dX15_init_238 : decode cX15_init 238 = .ok (.sipush 3000, 3) := by decide +kernel
theorem dX15_init_241 : decode cX15_init 241 = .ok (.anewarray 255, 3) := by decide +kernel
theorem dX15_init_244 : decode cX15_init 244 = .ok (.putfield 317, 3) := by decide +kernel
theorem dX15_init_247 : decode cX15_init 247 = .ok (.aload_n 0, 1) := by decide +kernel
theorem dX15_init_248 : decode cX15_init 248 = .ok (.ldc_w 320, 3) := by decide +kernel
theorem dX15_init_251 : decode cX15_init 251 = .ok (.newarray .byte, 2) := by decide +kernel
theorem dX15_init_253 : decode cX15_init 253 = .ok (.putfield 321, 3) := by decide +kernel
theorem dX15_init_256 : decode cX15_init 256 = .ok (.aload_n 0, 1) := by decide +kernel
theorem dX15_init_257 : decode cX15_init 257 = .ok (.sipush 3000, 3) := by decide +kernel
theorem dX15_init_260 : decode cX15_init 260 = .ok (.newarray .int, 2) := by decide +kernel
theorem dX15_init_262 : decode cX15_init 262 = .ok (.putfield 324, 3) := by decide +kernel
theorem dX15_init_265 : decode cX15_init 265 = .ok (.aload_n 0, 1) := by decide +kernel
theorem dX15_init_266 : decode cX15_init 266 = .ok (.sipush 256, 3) := by decide +kernel
theorem dX15_init_269 : decode cX15_init 269 = .ok (.newarray .byte, 2) := by decide +kernel
theorem dX15_init_271 : decode cX15_init 271 = .ok (.putfield 327, 3) := by decide +kernel
theorem dX15_init_274 : decode cX15_init 274 = .ok (.aload_n 0, 1) := by decide +kernel
theorem dX15_init_275 : decode cX15_init 275 = .ok (.new 255, 3) := by decide +kernel
theorem dX15_init_278 : decode cX15_init 278 = .ok (.dup, 1) := by decide +kernel
theorem dX15_init_279 : decode cX15_init 279 = .ok (.invokespecial 264, 3) := by decide +kernel
theorem dX15_init_282 : decode cX15_init 282 = .ok (.putfield 330, 3) := by decide +kernel
theorem dX15_init_285 : decode cX15_init 285 = .ok (.aload_n 0, 1) := by decide +kernel
theorem dX15_init_286 : decode cX15_init 286 = .ok (.sipush 4096, 3) := by decide +kernel
theorem dX15_init_289 : decode cX15_init 289 = .ok (.newarray .int, 2) := by decide +kernel
theorem dX15_init_291 : decode cX15_init 291 = .ok (.putfield 333, 3) := by decide +kernel
theorem dX15_init_294 : decode cX15_init 294 = .ok (.aload_n 0, 1) := by decide +kernel
theorem dX15_init_295 : decode cX15_init 295 = .ok (.sipush 20480, 3) := by decide +kernel
theorem dX15_init_298 : decode cX15_init 298 = .ok (.newarray .int, 2) := by decide +kernel
theorem dX15_init_300 : decode cX15_init 300 = .ok (.putfield 336, 3) := by decide +kernel
theorem dX15_init_303 : decode cX15_init 303 = .ok (.aload_n 0, 1) := by decide +kernel
theorem dX15_init_304 : decode cX15_init 304 = .ok (.sipush 4096, 3) := by decide +kernel
theorem dX15_init_307 : decode cX15_init 307 = .ok (.newarray .int, 2) := by decide +kernel
theorem dX15_init_309 : decode cX15_init 309 = .ok (.putfield 339, 3) := by decide +kernel
theorem dX15_init_312 : decode cX15_init 312 = .ok (.aload_n 0, 1) := by decide +kernel
theorem dX15_init_313 : decode cX15_init 313 = .ok (.ldc_w 342, 3) := by decide +kernel
theorem dX15_init_316 : decode cX15_init 316 = .ok (.newarray .int, 2) := by decide +kernel
theorem dX15_init_318 : decode cX15_init 318 = .ok (.putfield 343, 3) := by decide +kernel
theorem dX15_init_321 : decode cX15_init 321 = .ok (.aload_n 0, 1) := by decide +kernel
theorem dX15_init_322 : decode cX15_init 322 = .ok (.sipush 4096, 3) := by decide +kernel
theorem dX15_init_325 : decode cX15_init 325 = .ok (.newarray .int, 2) := by decide +kernel
theorem dX15_init_327 : decode cX15_init 327 = .ok (.putfield 346, 3) := by decide +kernel
theorem dX15_init_330 : decode cX15_init 330 = .ok (.aload_n 0, 1) := by decide +kernel
theorem dX15_init_331 : decode cX15_init 331 = .ok (.sipush 9376, 3) := by decide +kernel
theorem dX15_init_334 : decode cX15_init 334 = .ok (.newarray .long, 2) := by decide +kernel
theorem dX15_init_336 : decode cX15_init 336 = .ok (.putfield 349, 3) := by decide +kernel
theorem dX15_init_339 : decode cX15_init 339 = .ok (.aload_n 0, 1) := by decide +kernel
theorem dX15_init_340 : decode cX15_init 340 = .ok (.sipush 16384, 3) := by decide +kernel
theorem dX15_init_343 : decode cX15_init 343 = .ok (.newarray .int, 2) := by decide +kernel
theorem dX15_init_345 : decode cX15_init 345 = .ok (.putfield 353, 3) := by decide +kernel
theorem dX15_init_348 : decode cX15_init 348 = .ok (.aload_n 0, 1) := by decide +kernel
theorem dX15_init_349 : decode cX15_init 349 = .ok (.sipush 16384, 3) := by decide +kernel
theorem dX15_init_352 : decode cX15_init 352 = .ok (.newarray .int, 2) := by decide +kernel
theorem dX15_init_354 : decode cX15_init 354 = .ok (.putfield 356, 3) := by decide +kernel
theorem dX15_init_357 : decode cX15_init 357 = .ok (.aload_n 0, 1) := by decide +kernel
theorem dX15_init_358 : decode cX15_init 358 = .ok (.bipush 6, 2) := by decide +kernel
theorem dX15_init_360 : decode cX15_init 360 = .ok (.newarray .int, 2) := by decide +kernel
theorem dX15_init_362 : decode cX15_init 362 = .ok (.putfield 359, 3) := by decide +kernel
theorem dX15_init_365 : decode cX15_init 365 = .ok (.aload_n 0, 1) := by decide +kernel
theorem dX15_init_366 : decode cX15_init 366 = .ok (.bipush 6, 2) := by decide +kernel
theorem dX15_init_368 : decode cX15_init 368 = .ok (.newarray .int, 2) := by decide +kernel
theorem dX15_init_370 : decode cX15_init 370 = .ok (.putfield 362, 3) := by decide +kernel
theorem dX15_init_373 : decode cX15_init 373 = .ok (.aload_n 0, 1) := by decide +kernel
theorem dX15_init_374 : decode cX15_init 374 = .ok (.new 255, 3) := by decide +kernel
theorem dX15_init_377 : decode cX15_init 377 = .ok (.dup, 1) := by decide +kernel
theorem dX15_init_378 : decode cX15_init 378 = .ok (.invokespecial 264, 3) := by decide +kernel
theorem dX15_init_381 : decode cX15_init 381 = .ok (.putfield 365, 3) := by decide +kernel
theorem dX15_init_384 : decode cX15_init 384 = .ok (.aload_n 0, 1) := by decide +kernel
theorem dX15_init_385 : decode cX15_init 385 = .ok (.iconst 5, 1) := by decide +kernel
theorem dX15_init_386 : decode cX15_init 386 = .ok (.newarray .int, 2) := by decide +kernel
theorem dX15_init_388 : decode cX15_init 388 = .ok (.putfield 368, 3) := by decide +kernel
theorem dX15_init_391 : decode cX15_init 391 = .ok (.aload_n 0, 1) := by decide +kernel
theorem dX15_init_392 : decode cX15_init 392 = .ok (.sipush 3000, 3) := by decide +kernel
theorem dX15_init_395 : decode cX15_init 395 = .ok (.newarray .int, 2) := by decide +kernel
theorem dX15_init_397 : decode cX15_init 397 = .ok (.putfield 371, 3) := by decide +kernel
theorem dX15_init_400 : decode cX15_init 400 = .ok (.ldc_w 374, 3) := by decide +kernel
theorem dX15_init_403 : decode cX15_init 403 = .ok (.invokevirtual 47, 3) := by decide +kernel
theorem dX15_init_406 : decode cX15_init 406 = .ok (.newarray .byte, 2) := by decide +kernel
theorem dX15_init_408 : decode cX15_init 408 = .ok (.astore_n 1, 1) := by decide +kernel
theorem dX15_init_409 : decode cX15_init 409 = .ok (.iconst 0, 1) := by decide +kernel
theorem dX15_init_410 : decode cX15_init 410 = .ok (.istore_n 2, 1) := by decide +kernel
theorem dX15_init_411 : decode cX15_init 411 = .ok (.iload_n 2, 1) := by decide +kernel
theorem dX15_init_412 : decode cX15_init 412 = .ok (.aload_n 1, 1) := by decide +kernel
theorem dX15_init_413 : decode cX15_init 413 = .ok (.arraylength, 1) := by decide +kernel
theorem dX15_init_414 : decode cX15_init 414 = .ok (.if_icmp .ge 20, 3) := by decide +kernel
theorem dX15_init_417 : decode cX15_init 417 = .ok (.aload_n 1, 1) := by decide +kernel
theorem dX15_init_418 : decode cX15_init 418 = .ok (.iload_n 2, 1) := by decide +kernel
theorem dX15_init_419 : decode cX15_init 419 = .ok (.ldc_w 374, 3) := by decide +kernel
theorem dX15_init_422 : decode cX15_init 422 = .ok (.iload_n 2, 1) := by decide +kernel
theorem dX15_init_423 : decode cX15_init 423 = .ok (.invokevirtual 53, 3) := by decide +kernel
theorem dX15_init_426 : decode cX15_init 426 = .ok (.i2b, 1) := by decide +kernel
theorem dX15_init_427 : decode cX15_init 427 = .ok (.bastore, 1) := by decide +kernel
theorem dX15_init_428 : decode cX15_init 428 = .ok (.iinc 2 1, 3) := by decide +kernel
theorem dX15_init_431 : decode cX15_init 431 = .ok (.goto (-20), 3) := by decide +kernel
theorem dX15_init_434 : decode cX15_init 434 = .ok (.aload_n 0, 1) := by decide +kernel
theorem dX15_init_435 : decode cX15_init 435 = .ok (.aload_n 1, 1) := by decide +kernel
theorem dX15_init_436 : decode cX15_init 436 = .ok (.aload_n 1, 1) := by decide +kernel
theorem dX15_init_437 : decode cX15_init 437 = .ok (.arraylength, 1) := by decide +kernel
theorem dX15_init_438 : decode cX15_init 438 = .ok (.invokevirtual 376, 3) := by decide +kernel
theorem dX15_init_441 : decode cX15_init 441 = .ok (.istore_n 2, 1) := by decide +kernel
theorem dX15_init_442 : decode cX15_init 442 = .ok (.aload_n 0, 1) := by decide +kernel
theorem dX15_init_443 : decode cX15_init 443 = .ok (.invokevirtual 379, 3) := by decide +kernel
theorem dX15_init_446 : decode cX15_init 446 = .ok (.iconst 0, 1) := by decide +kernel
theorem dX15_init_447 : decode cX15_init 447 = .ok (.istore_n 3, 1) := by decide +kernel
theorem dX15_init_448 : decode cX15_init 448 = .ok (.iload_n 3, 1) := by decide +kernel
theorem dX15_init_449 : decode cX15_init 449 = .ok (.bipush 60, 2) := by decide +kernel
theorem dX15_init_451 : decode cX15_init 451 = .ok (.if_icmp .ge 16, 3) := by decide +kernel
theorem dX15_init_454 : decode cX15_init 454 = .ok (.aload_n 0, 1) := by decide +kernel
theorem dX15_init_455 : decode cX15_init 455 = .ok (.getfield 261, 3) := by decide +kernel
theorem dX15_init_458 : decode cX15_init 458 = .ok (.iload_n 3, 1) := by decide +kernel
theorem dX15_init_459 : decode cX15_init 459 = .ok (.iconst 0, 1) := by decide +kernel
theorem dX15_init_460 : decode cX15_init 460 = .ok (.iastore, 1) := by decide +kernel
theorem dX15_init_461 : decode cX15_init 461 = .ok (.iinc 3 1, 3) := by decide +kernel
theorem dX15_init_464 : decode cX15_init 464 = .ok (.goto (-16), 3) := by decide +kernel
theorem dX15_init_467 : decode cX15_init 467 = .ok (.return_, 1) := by decide +kernel
set_option maxRecDepth 20000 in
theorem moX15_init_448 {o : Hp} {F : Nat} : ∀ (f : Nat) {h : Hp} {x0 : Nat} {x3 : Int32}, sX15_init_448 F f h x0 x3 = some o → Le h o := by
  intro f
  induction f with
  | zero =>
    intro h x0 x3 hE
    rw [sX15_init_448] at hE
    cases hE
  | succ f ih =>
    intro h x0 x3 hE
    rw [sX15_init_448] at hE
    have mk_448 : ∀ (h : Hp) (x0 : Nat) (x3 : Int32), sX15_init_448 F f h x0 x3 = some o → Le h o := fun h x0 x3 hE => ih hE
    rcases br_e hE with ⟨_, hE⟩ | ⟨_, hE⟩
    · exact le_some1 hE
    · obtain ⟨r_2, er_2, hE⟩ := cl_e hE
      obtain ⟨g_3, hE⟩ := gd_e hE
      obtain ⟨h_4, eh_4, hE⟩ := nm_e2 hE
      refine (le_I eh_4).tr ?_
      obtain ⟨v_5, ev_5, hE⟩ := nm_e2 hE
      exact mk_448 _ _ _ hE
set_option maxRecDepth 20000 in
theorem moX15_init_446 {o : Hp} {F : Nat} {h : Hp} {x0 : Nat} (hE : sX15_init_446 F h x0 = some o) : Le h o := by
  exact moX15_init_448 _ hE
set_option maxRecDepth 20000 in
theorem moX15_init_441 {o : Hp} {F : Nat} {h : Hp} {x0 : Nat} {t0 : Int32} (hE : sX15_init_441 F h x0 t0 = some o) : Le h o := by
  obtain ⟨o_1, eo_1, hE⟩ := cl_e hE
  refine (moX15_take eo_1).tr ?_
  exact moX15_init_446 hE
set_option maxRecDepth 20000 in
theorem moX15_init_426 {o : Hp} {k_411 : Hp → Nat → Nat → Int32 → Option (Hp)} {F : Nat} (mk_411 : ∀ (h : Hp) (x0 : Nat) (x1 : Nat) (x2 : Int32), k_411 h x0 x1 x2 = some o → Le h o) {h : Hp} {x0 : Nat} {x1 : Nat} {x2 : Int32} {t0 : Int32} {t1 : Int32} {t2 : Nat} (hE : sX15_init_426 F k_411 h x0 x1 x2 t0 t1 t2 = some o) : Le h o := by
  obtain ⟨g_1, hE⟩ := gd_e hE
  obtain ⟨h_2, eh_2, hE⟩ := nm_e2 hE
  refine (le_I eh_2).tr ?_
  obtain ⟨v_3, ev_3, hE⟩ := nm_e2 hE
  exact mk_411 _ _ _ _ hE
set_option maxRecDepth 20000 in
theorem moX15_init_411 {o : Hp} {F : Nat} : ∀ (f : Nat) {h : Hp} {x0 : Nat} {x1 : Nat} {x2 : Int32}, sX15_init_411 F f h x0 x1 x2 = some o → Le h o := by
  intro f
  induction f with
  | zero =>
    intro h x0 x1 x2 hE
    rw [sX15_init_411] at hE
    cases hE
  | succ f ih =>
    intro h x0 x1 x2 hE
    rw [sX15_init_411] at hE
    have mk_411 : ∀ (h : Hp) (x0 : Nat) (x1 : Nat) (x2 : Int32), sX15_init_411 F f h x0 x1 x2 = some o → Le h o := fun h x0 x1 x2 hE => ih hE
    rcases br_e hE with ⟨_, hE⟩ | ⟨_, hE⟩
    · obtain ⟨o_2, eo_2, hE⟩ := cl_e hE
      refine (moX15_isRules eo_2).tr ?_
      exact moX15_init_441 hE
    · obtain ⟨g_3, hE⟩ := gd_e hE
      exact moX15_init_426 mk_411 hE
set_option maxRecDepth 20000 in
theorem moX15_init_408 {o : Hp} {F : Nat} {h : Hp} {x0 : Nat} {t0 : Nat} (hE : sX15_init_408 F h x0 t0 = some o) : Le h o := by
  exact moX15_init_411 _ hE
set_option maxRecDepth 20000 in
theorem moX15_init_406 {o : Hp} {F : Nat} {h : Hp} {x0 : Nat} {t0 : Int32} (hE : sX15_init_406 F h x0 t0 = some o) : Le h o := by
  obtain ⟨g_3, hE⟩ := gd_e hE
  obtain ⟨g_4, hE⟩ := gd_e hE
  obtain ⟨a_1, ea_1, hE⟩ := nm_e2 hE
  obtain ⟨h_2, eh_2, hE⟩ := nm_e2 hE
  refine (le_C eh_2).tr ?_
  exact moX15_init_408 hE
set_option maxRecDepth 20000 in
theorem moX15_init_397 {o : Hp} {F : Nat} {h : Hp} {x0 : Nat} {t0 : Nat} {t1 : Nat} (hE : sX15_init_397 F h x0 t0 t1 = some o) : Le h o := by
  obtain ⟨h_1, eh_1, hE⟩ := nm_e2 hE
  refine (le_R eh_1).tr ?_
  exact moX15_init_406 hE
set_option maxRecDepth 20000 in
theorem moX15_init_388 {o : Hp} {F : Nat} {h : Hp} {x0 : Nat} {t0 : Nat} {t1 : Nat} (hE : sX15_init_388 F h x0 t0 t1 = some o) : Le h o := by
  obtain ⟨h_1, eh_1, hE⟩ := nm_e2 hE
  refine (le_R eh_1).tr ?_
  obtain ⟨a_2, ea_2, hE⟩ := nm_e2 hE
  obtain ⟨h_3, eh_3, hE⟩ := nm_e2 hE
  refine (le_C eh_3).tr ?_
  exact moX15_init_397 hE
set_option maxRecDepth 20000 in
theorem moX15_init_381 {o : Hp} {F : Nat} {h : Hp} {x0 : Nat} {t0 : Nat} {t1 : Nat} (hE : sX15_init_381 F h x0 t0 t1 = some o) : Le h o := by
  obtain ⟨h_1, eh_1, hE⟩ := nm_e2 hE
  refine (le_R eh_1).tr ?_
  obtain ⟨a_2, ea_2, hE⟩ := nm_e2 hE
  obtain ⟨h_3, eh_3, hE⟩ := nm_e2 hE
  refine (le_C eh_3).tr ?_
  exact moX15_init_388 hE
set_option maxRecDepth 20000 in
theorem moX15_init_377 {o : Hp} {F : Nat} {h : Hp} {x0 : Nat} {t0 : Nat} {t1 : Nat} (hE : sX15_init_377 F h x0 t0 t1 = some o) : Le h o := by
  obtain ⟨o_1, eo_1, hE⟩ := cl_e hE
  refine (moX12_init eo_1).tr ?_
  exact moX15_init_381 hE
set_option maxRecDepth 20000 in
theorem moX15_init_370 {o : Hp} {F : Nat} {h : Hp} {x0 : Nat} {t0 : Nat} {t1 : Nat} (hE : sX15_init_370 F h x0 t0 t1 = some o) : Le h o := by
  obtain ⟨h_1, eh_1, hE⟩ := nm_e2 hE
  refine (le_R eh_1).tr ?_
  obtain ⟨a_2, ea_2, hE⟩ := nm_e2 hE
  obtain ⟨h_3, eh_3, hE⟩ := nm_e2 hE
  refine (le_C eh_3).tr ?_
  exact moX15_init_377 hE
set_option maxRecDepth 20000 in
theorem moX15_init_362 {o : Hp} {F : Nat} {h : Hp} {x0 : Nat} {t0 : Nat} {t1 : Nat} (hE : sX15_init_362 F h x0 t0 t1 = some o) : Le h o := by
  obtain ⟨h_1, eh_1, hE⟩ := nm_e2 hE
  refine (le_R eh_1).tr ?_
  obtain ⟨a_2, ea_2, hE⟩ := nm_e2 hE
  obtain ⟨h_3, eh_3, hE⟩ := nm_e2 hE
  refine (le_C eh_3).tr ?_
  exact moX15_init_370 hE
set_option maxRecDepth 20000 in
theorem moX15_init_354 {o : Hp} {F : Nat} {h : Hp} {x0 : Nat} {t0 : Nat} {t1 : Nat} (hE : sX15_init_354 F h x0 t0 t1 = some o) : Le h o := by
  obtain ⟨h_1, eh_1, hE⟩ := nm_e2 hE
  refine (le_R eh_1).tr ?_
  obtain ⟨a_2, ea_2, hE⟩ := nm_e2 hE
  obtain ⟨h_3, eh_3, hE⟩ := nm_e2 hE
  refine (le_C eh_3).tr ?_
  exact moX15_init_362 hE
set_option maxRecDepth 20000 in
theorem moX15_init_345 {o : Hp} {F : Nat} {h : Hp} {x0 : Nat} {t0 : Nat} {t1 : Nat} (hE : sX15_init_345 F h x0 t0 t1 = some o) : Le h o := by
  obtain ⟨h_1, eh_1, hE⟩ := nm_e2 hE
  refine (le_R eh_1).tr ?_
  obtain ⟨a_2, ea_2, hE⟩ := nm_e2 hE
  obtain ⟨h_3, eh_3, hE⟩ := nm_e2 hE
  refine (le_C eh_3).tr ?_
  exact moX15_init_354 hE
set_option maxRecDepth 20000 in
theorem moX15_init_336 {o : Hp} {F : Nat} {h : Hp} {x0 : Nat} {t0 : Nat} {t1 : Nat} (hE : sX15_init_336 F h x0 t0 t1 = some o) : Le h o := by
  obtain ⟨h_1, eh_1, hE⟩ := nm_e2 hE
  refine (le_R eh_1).tr ?_
  obtain ⟨a_2, ea_2, hE⟩ := nm_e2 hE
  obtain ⟨h_3, eh_3, hE⟩ := nm_e2 hE
  refine (le_C eh_3).tr ?_
  exact moX15_init_345 hE
set_option maxRecDepth 20000 in
theorem moX15_init_327 {o : Hp} {F : Nat} {h : Hp} {x0 : Nat} {t0 : Nat} {t1 : Nat} (hE : sX15_init_327 F h x0 t0 t1 = some o) : Le h o := by
  obtain ⟨h_1, eh_1, hE⟩ := nm_e2 hE
  refine (le_R eh_1).tr ?_
  obtain ⟨a_2, ea_2, hE⟩ := nm_e2 hE
  obtain ⟨h_3, eh_3, hE⟩ := nm_e2 hE
  refine (le_C eh_3).tr ?_
  exact moX15_init_336 hE
set_option maxRecDepth 20000 in
theorem moX15_init_318 {o : Hp} {F : Nat} {h : Hp} {x0 : Nat} {t0 : Nat} {t1 : Nat} (hE : sX15_init_318 F h x0 t0 t1 = some o) : Le h o := by
  obtain ⟨h_1, eh_1, hE⟩ := nm_e2 hE
  refine (le_R eh_1).tr ?_
  obtain ⟨a_2, ea_2, hE⟩ := nm_e2 hE
  obtain ⟨h_3, eh_3, hE⟩ := nm_e2 hE
  refine (le_C eh_3).tr ?_
  exact moX15_init_327 hE
set_option maxRecDepth 20000 in
theorem moX15_init_309 {o : Hp} {F : Nat} {h : Hp} {x0 : Nat} {t0 : Nat} {t1 : Nat} (hE : sX15_init_309 F h x0 t0 t1 = some o) : Le h o := by
  obtain ⟨h_1, eh_1, hE⟩ := nm_e2 hE
  refine (le_R eh_1).tr ?_
  obtain ⟨a_2, ea_2, hE⟩ := nm_e2 hE
  obtain ⟨h_3, eh_3, hE⟩ := nm_e2 hE
  refine (le_C eh_3).tr ?_
  exact moX15_init_318 hE
set_option maxRecDepth 20000 in
theorem moX15_init_300 {o : Hp} {F : Nat} {h : Hp} {x0 : Nat} {t0 : Nat} {t1 : Nat} (hE : sX15_init_300 F h x0 t0 t1 = some o) : Le h o := by
  obtain ⟨h_1, eh_1, hE⟩ := nm_e2 hE
  refine (le_R eh_1).tr ?_
  obtain ⟨a_2, ea_2, hE⟩ := nm_e2 hE
  obtain ⟨h_3, eh_3, hE⟩ := nm_e2 hE
  refine (le_C eh_3).tr ?_
  exact moX15_init_309 hE
set_option maxRecDepth 20000 in
theorem moX15_init_291 {o : Hp} {F : Nat} {h : Hp} {x0 : Nat} {t0 : Nat} {t1 : Nat} (hE : sX15_init_291 F h x0 t0 t1 = some o) : Le h o := by
  obtain ⟨h_1, eh_1, hE⟩ := nm_e2 hE
  refine (le_R eh_1).tr ?_
  obtain ⟨a_2, ea_2, hE⟩ := nm_e2 hE
  obtain ⟨h_3, eh_3, hE⟩ := nm_e2 hE
  refine (le_C eh_3).tr ?_
  exact moX15_init_300 hE
set_option maxRecDepth 20000 in
theorem moX15_init_282 {o : Hp} {F : Nat} {h : Hp} {x0 : Nat} {t0 : Nat} {t1 : Nat} (hE : sX15_init_282 F h x0 t0 t1 = some o) : Le h o := by
  obtain ⟨h_1, eh_1, hE⟩ := nm_e2 hE
  refine (le_R eh_1).tr ?_
  obtain ⟨a_2, ea_2, hE⟩ := nm_e2 hE
  obtain ⟨h_3, eh_3, hE⟩ := nm_e2 hE
  refine (le_C eh_3).tr ?_
  exact moX15_init_291 hE
set_option maxRecDepth 20000 in
theorem moX15_init_278 {o : Hp} {F : Nat} {h : Hp} {x0 : Nat} {t0 : Nat} {t1 : Nat} (hE : sX15_init_278 F h x0 t0 t1 = some o) : Le h o := by
  obtain ⟨o_1, eo_1, hE⟩ := cl_e hE
  refine (moX12_init eo_1).tr ?_
  exact moX15_init_282 hE
set_option maxRecDepth 20000 in
theorem moX15_init_271 {o : Hp} {F : Nat} {h : Hp} {x0 : Nat} {t0 : Nat} {t1 : Nat} (hE : sX15_init_271 F h x0 t0 t1 = some o) : Le h o := by
  obtain ⟨h_1, eh_1, hE⟩ := nm_e2 hE
  refine (le_R eh_1).tr ?_
  obtain ⟨a_2, ea_2, hE⟩ := nm_e2 hE
  obtain ⟨h_3, eh_3, hE⟩ := nm_e2 hE
  refine (le_C eh_3).tr ?_
  exact moX15_init_278 hE
set_option maxRecDepth 20000 in
theorem moX15_init_262 {o : Hp} {F : Nat} {h : Hp} {x0 : Nat} {t0 : Nat} {t1 : Nat} (hE : sX15_init_262 F h x0 t0 t1 = some o) : Le h o := by
  obtain ⟨h_1, eh_1, hE⟩ := nm_e2 hE
  refine (le_R eh_1).tr ?_
  obtain ⟨a_2, ea_2, hE⟩ := nm_e2 hE
  obtain ⟨h_3, eh_3, hE⟩ := nm_e2 hE
  refine (le_C eh_3).tr ?_
  exact moX15_init_271 hE
set_option maxRecDepth 20000 in
theorem moX15_init_253 {o : Hp} {F : Nat} {h : Hp} {x0 : Nat} {t0 : Nat} {t1 : Nat} (hE : sX15_init_253 F h x0 t0 t1 = some o) : Le h o := by
  obtain ⟨h_1, eh_1, hE⟩ := nm_e2 hE
  refine (le_R eh_1).tr ?_
  obtain ⟨a_2, ea_2, hE⟩ := nm_e2 hE
  obtain ⟨h_3, eh_3, hE⟩ := nm_e2 hE
  refine (le_C eh_3).tr ?_
  exact moX15_init_262 hE
set_option maxRecDepth 20000 in
theorem moX15_init_244 {o : Hp} {F : Nat} {h : Hp} {x0 : Nat} {t0 : Nat} {t1 : Nat} (hE : sX15_init_244 F h x0 t0 t1 = some o) : Le h o := by
  obtain ⟨h_1, eh_1, hE⟩ := nm_e2 hE
  refine (le_R eh_1).tr ?_
  obtain ⟨a_2, ea_2, hE⟩ := nm_e2 hE
  obtain ⟨h_3, eh_3, hE⟩ := nm_e2 hE
  refine (le_C eh_3).tr ?_
  exact moX15_init_253 hE
set_option maxRecDepth 20000 in
theorem moX15_init_200 {o : Hp} {F : Nat} {h : Hp} {x0 : Nat} {t0 : Nat} {t1 : Nat} (hE : sX15_init_200 F h x0 t0 t1 = some o) : Le h o := by
  obtain ⟨g_1, hE⟩ := gd_e hE
  obtain ⟨h_2, eh_2, hE⟩ := nm_e2 hE
  refine (le_I eh_2).tr ?_
  obtain ⟨g_3, hE⟩ := gd_e hE
  obtain ⟨h_4, eh_4, hE⟩ := nm_e2 hE
  refine (le_I eh_4).tr ?_
  obtain ⟨g_5, hE⟩ := gd_e hE
  obtain ⟨h_6, eh_6, hE⟩ := nm_e2 hE
  refine (le_I eh_6).tr ?_
  obtain ⟨g_7, hE⟩ := gd_e hE
  obtain ⟨h_8, eh_8, hE⟩ := nm_e2 hE
  refine (le_I eh_8).tr ?_
  obtain ⟨g_9, hE⟩ := gd_e hE
  obtain ⟨h_10, eh_10, hE⟩ := nm_e2 hE
  refine (le_I eh_10).tr ?_
  obtain ⟨g_11, hE⟩ := gd_e hE
  obtain ⟨h_12, eh_12, hE⟩ := nm_e2 hE
  refine (le_I eh_12).tr ?_
  obtain ⟨g_13, hE⟩ := gd_e hE
  obtain ⟨h_14, eh_14, hE⟩ := nm_e2 hE
  refine (le_I eh_14).tr ?_
  obtain ⟨g_15, hE⟩ := gd_e hE
  obtain ⟨h_16, eh_16, hE⟩ := nm_e2 hE
  refine (le_I eh_16).tr ?_
  obtain ⟨h_17, eh_17, hE⟩ := nm_e2 hE
  refine (le_R eh_17).tr ?_
  obtain ⟨a_18, ea_18, hE⟩ := nm_e2 hE
  obtain ⟨h_19, eh_19, hE⟩ := nm_e2 hE
  refine (le_C eh_19).tr ?_
  exact moX15_init_244 hE
set_option maxRecDepth 20000 in
theorem moX15_init_192 {o : Hp} {F : Nat} {h : Hp} {x0 : Nat} {t0 : Nat} {t1 : Nat} (hE : sX15_init_192 F h x0 t0 t1 = some o) : Le h o := by
  obtain ⟨h_1, eh_1, hE⟩ := nm_e2 hE
  refine (le_R eh_1).tr ?_
  obtain ⟨a_2, ea_2, hE⟩ := nm_e2 hE
  obtain ⟨h_3, eh_3, hE⟩ := nm_e2 hE
  refine (le_C eh_3).tr ?_
  exact moX15_init_200 hE
set_option maxRecDepth 20000 in
theorem moX15_init_183 {o : Hp} {F : Nat} {h : Hp} {x0 : Nat} {t0 : Nat} {t1 : Nat} (hE : sX15_init_183 F h x0 t0 t1 = some o) : Le h o := by
  obtain ⟨h_1, eh_1, hE⟩ := nm_e2 hE
  refine (le_R eh_1).tr ?_
  obtain ⟨a_2, ea_2, hE⟩ := nm_e2 hE
  obtain ⟨h_3, eh_3, hE⟩ := nm_e2 hE
  refine (le_C eh_3).tr ?_
  exact moX15_init_192 hE
set_option maxRecDepth 20000 in
theorem moX15_init_173 {o : Hp} {F : Nat} {h : Hp} {x0 : Nat} {t0 : Nat} {t1 : Nat} (hE : sX15_init_173 F h x0 t0 t1 = some o) : Le h o := by
  obtain ⟨h_1, eh_1, hE⟩ := nm_e2 hE
  refine (le_R eh_1).tr ?_
  obtain ⟨a_2, ea_2, hE⟩ := nm_e2 hE
  obtain ⟨h_3, eh_3, hE⟩ := nm_e2 hE
  refine (le_C eh_3).tr ?_
  exact moX15_init_183 hE
set_option maxRecDepth 20000 in
theorem moX15_init_169 {o : Hp} {F : Nat} {h : Hp} {x0 : Nat} {t0 : Nat} {t1 : Nat} (hE : sX15_init_169 F h x0 t0 t1 = some o) : Le h o := by
  obtain ⟨o_1, eo_1, hE⟩ := cl_e hE
  refine (moX12_init eo_1).tr ?_
  exact moX15_init_173 hE
set_option maxRecDepth 20000 in
theorem moX15_init_162 {o : Hp} {F : Nat} {h : Hp} {x0 : Nat} {t0 : Nat} {t1 : Nat} (hE : sX15_init_162 F h x0 t0 t1 = some o) : Le h o := by
  obtain ⟨h_1, eh_1, hE⟩ := nm_e2 hE
  refine (le_R eh_1).tr ?_
  obtain ⟨a_2, ea_2, hE⟩ := nm_e2 hE
  obtain ⟨h_3, eh_3, hE⟩ := nm_e2 hE
  refine (le_C eh_3).tr ?_
  exact moX15_init_169 hE
set_option maxRecDepth 20000 in
theorem moX15_init_153 {o : Hp} {F : Nat} {h : Hp} {x0 : Nat} {t0 : Nat} {t1 : Nat} (hE : sX15_init_153 F h x0 t0 t1 = some o) : Le h o := by
  obtain ⟨h_1, eh_1, hE⟩ := nm_e2 hE
  refine (le_R eh_1).tr ?_
  obtain ⟨a_2, ea_2, hE⟩ := nm_e2 hE
  obtain ⟨h_3, eh_3, hE⟩ := nm_e2 hE
  refine (le_C eh_3).tr ?_
  exact moX15_init_162 hE
set_option maxRecDepth 20000 in
theorem moX15_init_144 {o : Hp} {F : Nat} {h : Hp} {x0 : Nat} {t0 : Nat} {t1 : Nat} (hE : sX15_init_144 F h x0 t0 t1 = some o) : Le h o := by
  obtain ⟨h_1, eh_1, hE⟩ := nm_e2 hE
  refine (le_R eh_1).tr ?_
  obtain ⟨a_2, ea_2, hE⟩ := nm_e2 hE
  obtain ⟨h_3, eh_3, hE⟩ := nm_e2 hE
  refine (le_C eh_3).tr ?_
  exact moX15_init_153 hE
set_option maxRecDepth 20000 in
theorem moX15_init_140 {o : Hp} {F : Nat} {h : Hp} {x0 : Nat} {t0 : Nat} {t1 : Nat} (hE : sX15_init_140 F h x0 t0 t1 = some o) : Le h o := by
  obtain ⟨o_1, eo_1, hE⟩ := cl_e hE
  refine (moX12_init eo_1).tr ?_
  exact moX15_init_144 hE
set_option maxRecDepth 20000 in
theorem moX15_init_133 {o : Hp} {F : Nat} {h : Hp} {x0 : Nat} {t0 : Nat} {t1 : Nat} (hE : sX15_init_133 F h x0 t0 t1 = some o) : Le h o := by
  obtain ⟨h_1, eh_1, hE⟩ := nm_e2 hE
  refine (le_R eh_1).tr ?_
  obtain ⟨a_2, ea_2, hE⟩ := nm_e2 hE
  obtain ⟨h_3, eh_3, hE⟩ := nm_e2 hE
  refine (le_C eh_3).tr ?_
  exact moX15_init_140 hE
set_option maxRecDepth 20000 in
theorem moX15_init_129 {o : Hp} {F : Nat} {h : Hp} {x0 : Nat} {t0 : Nat} {t1 : Nat} (hE : sX15_init_129 F h x0 t0 t1 = some o) : Le h o := by
  obtain ⟨o_1, eo_1, hE⟩ := cl_e hE
  refine (moX13_init eo_1).tr ?_
  exact moX15_init_133 hE
set_option maxRecDepth 20000 in
theorem moX15_init_122 {o : Hp} {F : Nat} {h : Hp} {x0 : Nat} {t0 : Nat} {t1 : Nat} (hE : sX15_init_122 F h x0 t0 t1 = some o) : Le h o := by
  obtain ⟨h_1, eh_1, hE⟩ := nm_e2 hE
  refine (le_R eh_1).tr ?_
  obtain ⟨a_2, ea_2, hE⟩ := nm_e2 hE
  obtain ⟨h_3, eh_3, hE⟩ := nm_e2 hE
  refine (le_C eh_3).tr ?_
  exact moX15_init_129 hE
set_option maxRecDepth 20000 in
theorem moX15_init_118 {o : Hp} {F : Nat} {h : Hp} {x0 : Nat} {t0 : Nat} {t1 : Nat} (hE : sX15_init_118 F h x0 t0 t1 = some o) : Le h o := by
  obtain ⟨o_1, eo_1, hE⟩ := cl_e hE
  refine (moX13_init eo_1).tr ?_
  exact moX15_init_122 hE
set_option maxRecDepth 20000 in
theorem moX15_init_111 {o : Hp} {F : Nat} {h : Hp} {x0 : Nat} {t0 : Nat} {t1 : Nat} (hE : sX15_init_111 F h x0 t0 t1 = some o) : Le h o := by
  obtain ⟨h_1, eh_1, hE⟩ := nm_e2 hE
  refine (le_R eh_1).tr ?_
  obtain ⟨a_2, ea_2, hE⟩ := nm_e2 hE
  obtain ⟨h_3, eh_3, hE⟩ := nm_e2 hE
  refine (le_C eh_3).tr ?_
  exact moX15_init_118 hE
set_option maxRecDepth 20000 in
theorem moX15_init_107 {o : Hp} {F : Nat} {h : Hp} {x0 : Nat} {t0 : Nat} {t1 : Nat} (hE : sX15_init_107 F h x0 t0 t1 = some o) : Le h o := by
  obtain ⟨o_1, eo_1, hE⟩ := cl_e hE
  refine (moX12_init eo_1).tr ?_
  exact moX15_init_111 hE
set_option maxRecDepth 20000 in
theorem moX15_init_100 {o : Hp} {F : Nat} {h : Hp} {x0 : Nat} {t0 : Nat} {t1 : Nat} (hE : sX15_init_100 F h x0 t0 t1 = some o) : Le h o := by
  obtain ⟨h_1, eh_1, hE⟩ := nm_e2 hE
  refine (le_R eh_1).tr ?_
  obtain ⟨a_2, ea_2, hE⟩ := nm_e2 hE
  obtain ⟨h_3, eh_3, hE⟩ := nm_e2 hE
  refine (le_C eh_3).tr ?_
  exact moX15_init_107 hE
set_option maxRecDepth 20000 in
theorem moX15_init_92 {o : Hp} {F : Nat} {h : Hp} {x0 : Nat} {t0 : Nat} {t1 : Nat} (hE : sX15_init_92 F h x0 t0 t1 = some o) : Le h o := by
  obtain ⟨h_1, eh_1, hE⟩ := nm_e2 hE
  refine (le_R eh_1).tr ?_
  obtain ⟨a_2, ea_2, hE⟩ := nm_e2 hE
  obtain ⟨h_3, eh_3, hE⟩ := nm_e2 hE
  refine (le_C eh_3).tr ?_
  exact moX15_init_100 hE
set_option maxRecDepth 20000 in
theorem moX15_init_84 {o : Hp} {F : Nat} {h : Hp} {x0 : Nat} {t0 : Nat} {t1 : Nat} (hE : sX15_init_84 F h x0 t0 t1 = some o) : Le h o := by
  obtain ⟨h_1, eh_1, hE⟩ := nm_e2 hE
  refine (le_R eh_1).tr ?_
  obtain ⟨a_2, ea_2, hE⟩ := nm_e2 hE
  obtain ⟨h_3, eh_3, hE⟩ := nm_e2 hE
  refine (le_C eh_3).tr ?_
  exact moX15_init_92 hE
set_option maxRecDepth 20000 in
theorem moX15_init_76 {o : Hp} {F : Nat} {h : Hp} {x0 : Nat} {t0 : Nat} {t1 : Nat} (hE : sX15_init_76 F h x0 t0 t1 = some o) : Le h o := by
  obtain ⟨h_1, eh_1, hE⟩ := nm_e2 hE
  refine (le_R eh_1).tr ?_
  obtain ⟨a_2, ea_2, hE⟩ := nm_e2 hE
  obtain ⟨h_3, eh_3, hE⟩ := nm_e2 hE
  refine (le_C eh_3).tr ?_
  exact moX15_init_84 hE
set_option maxRecDepth 20000 in
theorem moX15_init_69 {o : Hp} {F : Nat} {h : Hp} {x0 : Nat} {t0 : Nat} {t1 : Nat} (hE : sX15_init_69 F h x0 t0 t1 = some o) : Le h o := by
  obtain ⟨h_1, eh_1, hE⟩ := nm_e2 hE
  refine (le_R eh_1).tr ?_
  obtain ⟨a_2, ea_2, hE⟩ := nm_e2 hE
  obtain ⟨h_3, eh_3, hE⟩ := nm_e2 hE
  refine (le_C eh_3).tr ?_
  exact moX15_init_76 hE
set_option maxRecDepth 20000 in
theorem moX15_init_65 {o : Hp} {F : Nat} {h : Hp} {x0 : Nat} {t0 : Nat} {t1 : Nat} (hE : sX15_init_65 F h x0 t0 t1 = some o) : Le h o := by
  obtain ⟨o_1, eo_1, hE⟩ := cl_e hE
  refine (moX12_init eo_1).tr ?_
  exact moX15_init_69 hE
set_option maxRecDepth 20000 in
theorem moX15_init_58 {o : Hp} {F : Nat} {h : Hp} {x0 : Nat} {t0 : Nat} {t1 : Nat} (hE : sX15_init_58 F h x0 t0 t1 = some o) : Le h o := by
  obtain ⟨h_1, eh_1, hE⟩ := nm_e2 hE
  refine (le_R eh_1).tr ?_
  obtain ⟨a_2, ea_2, hE⟩ := nm_e2 hE
  obtain ⟨h_3, eh_3, hE⟩ := nm_e2 hE
  refine (le_C eh_3).tr ?_
  exact moX15_init_65 hE
set_option maxRecDepth 20000 in
theorem moX15_init_50 {o : Hp} {F : Nat} {h : Hp} {x0 : Nat} {t0 : Nat} {t1 : Nat} (hE : sX15_init_50 F h x0 t0 t1 = some o) : Le h o := by
  obtain ⟨h_1, eh_1, hE⟩ := nm_e2 hE
  refine (le_R eh_1).tr ?_
  obtain ⟨a_2, ea_2, hE⟩ := nm_e2 hE
  obtain ⟨h_3, eh_3, hE⟩ := nm_e2 hE
  refine (le_C eh_3).tr ?_
  exact moX15_init_58 hE
set_option maxRecDepth 20000 in
theorem moX15_init_41 {o : Hp} {F : Nat} {h : Hp} {x0 : Nat} {t0 : Nat} {t1 : Nat} (hE : sX15_init_41 F h x0 t0 t1 = some o) : Le h o := by
  obtain ⟨h_1, eh_1, hE⟩ := nm_e2 hE
  refine (le_R eh_1).tr ?_
  obtain ⟨a_2, ea_2, hE⟩ := nm_e2 hE
  obtain ⟨h_3, eh_3, hE⟩ := nm_e2 hE
  refine (le_C eh_3).tr ?_
  exact moX15_init_50 hE
set_option maxRecDepth 20000 in
theorem moX15_init_37 {o : Hp} {F : Nat} {h : Hp} {x0 : Nat} {t0 : Nat} {t1 : Nat} (hE : sX15_init_37 F h x0 t0 t1 = some o) : Le h o := by
  obtain ⟨o_1, eo_1, hE⟩ := cl_e hE
  refine (moX14_init eo_1).tr ?_
  exact moX15_init_41 hE
set_option maxRecDepth 20000 in
theorem moX15_init_30 {o : Hp} {F : Nat} {h : Hp} {x0 : Nat} {t0 : Nat} {t1 : Nat} (hE : sX15_init_30 F h x0 t0 t1 = some o) : Le h o := by
  obtain ⟨h_1, eh_1, hE⟩ := nm_e2 hE
  refine (le_R eh_1).tr ?_
  obtain ⟨a_2, ea_2, hE⟩ := nm_e2 hE
  obtain ⟨h_3, eh_3, hE⟩ := nm_e2 hE
  refine (le_C eh_3).tr ?_
  exact moX15_init_37 hE
set_option maxRecDepth 20000 in
theorem moX15_init_26 {o : Hp} {F : Nat} {h : Hp} {x0 : Nat} {t0 : Nat} {t1 : Nat} (hE : sX15_init_26 F h x0 t0 t1 = some o) : Le h o := by
  obtain ⟨o_1, eo_1, hE⟩ := cl_e hE
  refine (moX14_init eo_1).tr ?_
  exact moX15_init_30 hE
set_option maxRecDepth 20000 in
theorem moX15_init_19 {o : Hp} {F : Nat} {h : Hp} {x0 : Nat} {t0 : Nat} {t1 : Nat} (hE : sX15_init_19 F h x0 t0 t1 = some o) : Le h o := by
  obtain ⟨h_1, eh_1, hE⟩ := nm_e2 hE
  refine (le_R eh_1).tr ?_
  obtain ⟨a_2, ea_2, hE⟩ := nm_e2 hE
  obtain ⟨h_3, eh_3, hE⟩ := nm_e2 hE
  refine (le_C eh_3).tr ?_
  exact moX15_init_26 hE
set_option maxRecDepth 20000 in
theorem moX15_init_10 {o : Hp} {F : Nat} {h : Hp} {x0 : Nat} {t0 : Nat} {t1 : Nat} (hE : sX15_init_10 F h x0 t0 t1 = some o) : Le h o := by
  obtain ⟨h_1, eh_1, hE⟩ := nm_e2 hE
  refine (le_R eh_1).tr ?_
  obtain ⟨a_2, ea_2, hE⟩ := nm_e2 hE
  obtain ⟨h_3, eh_3, hE⟩ := nm_e2 hE
  refine (le_C eh_3).tr ?_
  exact moX15_init_19 hE
set_option maxRecDepth 20000 in
theorem moX15_init {o : Hp} {F : Nat} {h : Hp} {x0 : Nat} (hE : sX15_init F h x0 = some o) : Le h o := by
  obtain ⟨a_1, ea_1, hE⟩ := nm_e2 hE
  obtain ⟨h_2, eh_2, hE⟩ := nm_e2 hE
  refine (le_C eh_2).tr ?_
  exact moX15_init_10 hE
set_option maxRecDepth 20000 in
theorem bX15_init_448 {p : Program} {l : Launch} {e : Env} {s : State} {m : MethodId} {args : Array Value} {below : List Frame} {meth : Method} {c : Code} {X : Ec} {h0 : Hp} {o : Hp} {F : Nat} (C : Cx X p s m args meth c RX15 cX15_init 4 none "<init>") : ∀ (f : Nat) {h : Hp} {x0 : Nat} {x3 : Int32} {H : Heap} {locs : List Loc} (k_x0 : hK h x0 = 15), Kl h0 h → Wx X h H → va_S (aA (eB X)) s.heap H locs → ∀ (ls : Array Slot), lv_has ls 4 [(0, .ref x0), (3, .int x3)] → sX15_init_448 F f h x0 x3 = some o → W p l e (rmA 10 222 h0 o) s m args below meth c H locs (hS h - hS h0) (hL h - hL h0) (MQ below (QVA X h0 o) args s (hS o - hS h0) (hL o - hL h0) (aA (eB X))) (F0 m 448 ls []) := by
  intro f
  induction f with
  | zero =>
    intro h x0 x3 H locs k_x0 hkl hW hZ ls hl hE
    rw [sX15_init_448] at hE
    cases hE
  | succ f ih =>
    intro h x0 x3 H locs k_x0 hkl hW hZ ls hl hE
    rw [sX15_init_448] at hE
    have mk_448 : ∀ (h : Hp) (x0 : Nat) (x3 : Int32), sX15_init_448 F f h x0 x3 = some o → Le h o := fun h x0 x3 hE => moX15_init_448 _ hE
    have hk_448 : ∀ (h : Hp) (x0 : Nat) (x3 : Int32) (H : Heap) (locs : List Loc), hK h x0 = 15 → Kl h0 h → Wx X h H → va_S (aA (eB X)) s.heap H locs → ∀ (ls : Array Slot), lv_has ls 4 [(0, .ref x0), (3, .int x3)] → sX15_init_448 F f h x0 x3 = some o → W p l e (rmA 10 222 h0 o) s m args below meth c H locs (hS h - hS h0) (hL h - hL h0) (MQ below (QVA X h0 o) args s (hS o - hS h0) (hL o - hL h0) (aA (eB X))) (F0 m 448 ls []) := fun h x0 x3 H locs k_x0 a b c ls hl hE => ih k_x0 a b c ls hl hE
    refine lv_iload_n C.1 C.2.1 dX15_init_448 rfl (lv_at hl 1 rfl) ?_
    refine lv_bipush (v := (60 : Int32)) C.1 C.2.1 dX15_init_449 (by decide) ?_
    refine lv_icmp_ge (tgt := 467) C.1 C.2.1 dX15_init_451 (by decide) (fun c_1 => ?_) (fun c_1 => ?_)
    · have hE := br_p hE c_1
      exact x_vretA C rfl hW hZ hkl hE dX15_init_467
    · have hE := br_n hE c_1
      refine lv_aload_n C.1 C.2.1 dX15_init_454 rfl (lv_at hl 0 rfl) ?_
      obtain ⟨r_2, er_2, hE⟩ := cl_e hE
      refine gf_X15_261 C hW k_x0 er_2 dX15_init_455 (fun k_r_2 => ?_)
      refine lv_iload_n C.1 C.2.1 dX15_init_458 rfl (lv_at hl 1 rfl) ?_
      refine lv_iconst (v := (0 : Int32)) C.1 C.2.1 dX15_init_459 (by decide) ?_
      obtain ⟨g_3, hE⟩ := gd_e hE
      obtain ⟨h_4, eh_4, hE⟩ := nm_e2 hE
      refine y_iast C hW hZ k_r_2 g_3 eh_4 dX15_init_460 (fun _ _ hW km hZ => ?_)
      replace hkl := hkl.tr km.l
      refine x_wc km ?_
      replace k_x0 := km.at k_x0 (by decide)
      obtain ⟨v_5, ev_5, hE⟩ := nm_e2 hE
      refine lv_iinc (v := v_5) (lv' := [(3, .int v_5), (0, .ref x0)]) C.1 C.2.1 dX15_init_461 hl (k := 1) rfl (by rw [ev_5]; rfl) (by decide) rfl (fun ls hl => ?_)
      refine lv_goto (tgt := 448) C.1 C.2.1 dX15_init_464 (by decide) ?_
      exact hk_448 _ _ _ _ _ k_x0 hkl hW hZ _ (lv_sub hl [1, 0] rfl) hE
set_option maxRecDepth 20000 in
theorem bX15_init_446 {p : Program} {l : Launch} {e : Env} {s : State} {m : MethodId} {args : Array Value} {below : List Frame} {meth : Method} {c : Code} {X : Ec} {h0 : Hp} {o : Hp} {F : Nat} (C : Cx X p s m args meth c RX15 cX15_init 4 none "<init>") {h : Hp} {x0 : Nat} {H : Heap} {locs : List Loc} (k_x0 : hK h x0 = 15) (hkl : Kl h0 h) (hW : Wx X h H) (hZ : va_S (aA (eB X)) s.heap H locs) (ls : Array Slot) (hl : lv_has ls 4 [(0, .ref x0)]) (hE : sX15_init_446 F h x0 = some o) : W p l e (rmA 10 222 h0 o) s m args below meth c H locs (hS h - hS h0) (hL h - hL h0) (MQ below (QVA X h0 o) args s (hS o - hS h0) (hL o - hL h0) (aA (eB X))) (F0 m 446 ls []) := by
  refine lv_iconst (v := (0 : Int32)) C.1 C.2.1 dX15_init_446 (by decide) ?_
  refine lv_istore_n (lv' := [(3, .int (0 : Int32)), (0, .ref x0)]) C.1 C.2.1 dX15_init_447 rfl hl (by decide) rfl (fun ls hl => ?_)
  exact bX15_init_448 C F k_x0 hkl hW hZ _ (lv_sub hl [1, 0] rfl) hE
set_option maxRecDepth 20000 in
theorem bX15_init_441 {p : Program} {l : Launch} {e : Env} {s : State} {m : MethodId} {args : Array Value} {below : List Frame} {meth : Method} {c : Code} {X : Ec} {h0 : Hp} {o : Hp} {F : Nat} (C : Cx X p s m args meth c RX15 cX15_init 4 none "<init>") {h : Hp} {x0 : Nat} {t0 : Int32} {H : Heap} {locs : List Loc} (k_x0 : hK h x0 = 15) (hkl : Kl h0 h) (hW : Wx X h H) (hZ : va_S (aA (eB X)) s.heap H locs) (ls : Array Slot) (hl : lv_has ls 4 [(0, .ref x0)]) (hE : sX15_init_441 F h x0 t0 = some o) : W p l e (rmA 10 222 h0 o) s m args below meth c H locs (hS h - hS h0) (hL h - hL h0) (MQ below (QVA X h0 o) args s (hS o - hS h0) (hL o - hL h0) (aA (eB X))) (F0 m 441 ls [.int t0]) := by
  refine lv_istore_n (lv' := [(2, .int t0), (0, .ref x0)]) C.1 C.2.1 dX15_init_441 rfl hl (by decide) rfl (fun ls hl => ?_)
  refine lv_aload_n C.1 C.2.1 dX15_init_442 rfl (lv_at hl 1 rfl) ?_
  obtain ⟨o_1, eo_1, hE⟩ := cl_e hE
  have m1 := moX15_take eo_1
  have m2 := moX15_init_446 hE
  refine x_kV (o := o_1) (z_runV (As := []) (rest := []) C (ct_X15_take l X k_x0 eo_1) cw_X15_379 hW hZ k_x0 (by decide) rfl rfl rfl hl.1 (Nat.le_of_ble_eq_true rfl) rfl dX15_init_443 ⟨Nat.le_of_ble_eq_true rfl, Nat.le_of_ble_eq_true rfl⟩ (rm_ok0 hkl m1 m2)) hZ (fun _ _ hW km hZ => ?_)
  replace hkl := hkl.tr km.l
  refine x_wc km ?_
  replace k_x0 := km.at k_x0 (by decide)
  exact bX15_init_446 C k_x0 hkl hW hZ _ (lv_sub hl [1] rfl) hE
set_option maxRecDepth 20000 in
theorem bX15_init_426 {p : Program} {l : Launch} {e : Env} {s : State} {m : MethodId} {args : Array Value} {below : List Frame} {meth : Method} {c : Code} {X : Ec} {h0 : Hp} {o : Hp} {k_411 : Hp → Nat → Nat → Int32 → Option (Hp)} {F : Nat} (C : Cx X p s m args meth c RX15 cX15_init 4 none "<init>") (hk_411 : ∀ (h : Hp) (x0 : Nat) (x1 : Nat) (x2 : Int32) (H : Heap) (locs : List Loc), hK h x0 = 15 → hK h x1 = 16 → Kl h0 h → Wx X h H → va_S (aA (eB X)) s.heap H locs → ∀ (ls : Array Slot), lv_has ls 4 [(0, .ref x0), (1, .ref x1), (2, .int x2)] → k_411 h x0 x1 x2 = some o → W p l e (rmA 10 222 h0 o) s m args below meth c H locs (hS h - hS h0) (hL h - hL h0) (MQ below (QVA X h0 o) args s (hS o - hS h0) (hL o - hL h0) (aA (eB X))) (F0 m 411 ls [])) (mk_411 : ∀ (h : Hp) (x0 : Nat) (x1 : Nat) (x2 : Int32), k_411 h x0 x1 x2 = some o → Le h o) {h : Hp} {x0 : Nat} {x1 : Nat} {x2 : Int32} {t0 : Int32} {t1 : Int32} {t2 : Nat} {H : Heap} {locs : List Loc} (k_x0 : hK h x0 = 15) (k_x1 : hK h x1 = 16) (k_t2 : hK h t2 = 16) (hkl : Kl h0 h) (hW : Wx X h H) (hZ : va_S (aA (eB X)) s.heap H locs) (ls : Array Slot) (hl : lv_has ls 4 [(0, .ref x0), (1, .ref x1), (2, .int x2)]) (hE : sX15_init_426 F k_411 h x0 x1 x2 t0 t1 t2 = some o) : W p l e (rmA 10 222 h0 o) s m args below meth c H locs (hS h - hS h0) (hL h - hL h0) (MQ below (QVA X h0 o) args s (hS o - hS h0) (hL o - hL h0) (aA (eB X))) (F0 m 426 ls [.int t0, .int t1, .ref t2]) := by
  refine lv_i2b C.1 C.2.1 dX15_init_426 rfl ?_
  obtain ⟨g_1, hE⟩ := gd_e hE
  obtain ⟨h_2, eh_2, hE⟩ := nm_e2 hE
  refine y_bast C hW hZ k_t2 g_1 eh_2 dX15_init_427 (fun _ _ hW km hZ => ?_)
  replace hkl := hkl.tr km.l
  refine x_wc km ?_
  replace k_x0 := km.at k_x0 (by decide)
  replace k_x1 := km.at k_x1 (by decide)
  obtain ⟨v_3, ev_3, hE⟩ := nm_e2 hE
  refine lv_iinc (v := v_3) (lv' := [(2, .int v_3), (0, .ref x0), (1, .ref x1)]) C.1 C.2.1 dX15_init_428 hl (k := 2) rfl (by rw [ev_3]; rfl) (by decide) rfl (fun ls hl => ?_)
  refine lv_goto (tgt := 411) C.1 C.2.1 dX15_init_431 (by decide) ?_
  exact hk_411 _ _ _ _ _ _ k_x0 k_x1 hkl hW hZ _ (lv_sub hl [1, 2, 0] rfl) hE
set_option maxRecDepth 20000 in
theorem bX15_init_411 {p : Program} {l : Launch} {e : Env} {s : State} {m : MethodId} {args : Array Value} {below : List Frame} {meth : Method} {c : Code} {X : Ec} {h0 : Hp} {o : Hp} {F : Nat} (C : Cx X p s m args meth c RX15 cX15_init 4 none "<init>") : ∀ (f : Nat) {h : Hp} {x0 : Nat} {x1 : Nat} {x2 : Int32} {H : Heap} {locs : List Loc} (k_x0 : hK h x0 = 15) (k_x1 : hK h x1 = 16), Kl h0 h → Wx X h H → va_S (aA (eB X)) s.heap H locs → ∀ (ls : Array Slot), lv_has ls 4 [(0, .ref x0), (1, .ref x1), (2, .int x2)] → sX15_init_411 F f h x0 x1 x2 = some o → W p l e (rmA 10 222 h0 o) s m args below meth c H locs (hS h - hS h0) (hL h - hL h0) (MQ below (QVA X h0 o) args s (hS o - hS h0) (hL o - hL h0) (aA (eB X))) (F0 m 411 ls []) := by
  intro f
  induction f with
  | zero =>
    intro h x0 x1 x2 H locs k_x0 k_x1 hkl hW hZ ls hl hE
    rw [sX15_init_411] at hE
    cases hE
  | succ f ih =>
    intro h x0 x1 x2 H locs k_x0 k_x1 hkl hW hZ ls hl hE
    rw [sX15_init_411] at hE
    have mk_411 : ∀ (h : Hp) (x0 : Nat) (x1 : Nat) (x2 : Int32), sX15_init_411 F f h x0 x1 x2 = some o → Le h o := fun h x0 x1 x2 hE => moX15_init_411 _ hE
    have hk_411 : ∀ (h : Hp) (x0 : Nat) (x1 : Nat) (x2 : Int32) (H : Heap) (locs : List Loc), hK h x0 = 15 → hK h x1 = 16 → Kl h0 h → Wx X h H → va_S (aA (eB X)) s.heap H locs → ∀ (ls : Array Slot), lv_has ls 4 [(0, .ref x0), (1, .ref x1), (2, .int x2)] → sX15_init_411 F f h x0 x1 x2 = some o → W p l e (rmA 10 222 h0 o) s m args below meth c H locs (hS h - hS h0) (hL h - hL h0) (MQ below (QVA X h0 o) args s (hS o - hS h0) (hL o - hL h0) (aA (eB X))) (F0 m 411 ls []) := fun h x0 x1 x2 H locs k_x0 k_x1 a b c ls hl hE => ih k_x0 k_x1 a b c ls hl hE
    refine lv_iload_n C.1 C.2.1 dX15_init_411 rfl (lv_at hl 2 rfl) ?_
    refine lv_aload_n C.1 C.2.1 dX15_init_412 rfl (lv_at hl 1 rfl) ?_
    refine y_alen C hW k_x1 (by decide) dX15_init_413 ?_
    refine lv_icmp_ge (tgt := 434) C.1 C.2.1 dX15_init_414 (by decide) (fun c_1 => ?_) (fun c_1 => ?_)
    · have hE := br_p hE c_1
      refine lv_aload_n C.1 C.2.1 dX15_init_434 rfl (lv_at hl 0 rfl) ?_
      refine lv_aload_n C.1 C.2.1 dX15_init_435 rfl (lv_at hl 1 rfl) ?_
      refine lv_aload_n C.1 C.2.1 dX15_init_436 rfl (lv_at hl 1 rfl) ?_
      refine y_alen C hW k_x1 (by decide) dX15_init_437 ?_
      obtain ⟨o_2, eo_2, hE⟩ := cl_e hE
      have m1 := moX15_isRules eo_2
      have m2 := moX15_init_441 hE
      refine x_kI (o := o_2) (z_runV (As := [.ref x1, .int (nI (hN h x1))]) (rest := []) C (ct_X15_isRules l X F k_x0 k_x1 eo_2) cw_X15_376 hW hZ k_x0 (by decide) rfl rfl rfl hl.1 (Nat.le_of_ble_eq_true rfl) rfl dX15_init_438 ⟨Nat.le_of_ble_eq_true rfl, Nat.le_of_ble_eq_true rfl⟩ (rm_ok0 hkl m1 m2)) hZ (fun _ _ hW km hZ => ?_)
      replace hkl := hkl.tr km.l
      refine x_wc km ?_
      replace k_x0 := km.at k_x0 (by decide)
      replace k_x1 := km.at k_x1 (by decide)
      exact bX15_init_441 C k_x0 hkl hW hZ _ (lv_sub hl [0] rfl) hE
    · have hE := br_n hE c_1
      refine lv_aload_n C.1 C.2.1 dX15_init_417 rfl (lv_at hl 1 rfl) ?_
      refine lv_iload_n C.1 C.2.1 dX15_init_418 rfl (lv_at hl 2 rfl) ?_
      refine y_ldcwS C (C.2.2.2.2.2.2.2.2.1 28 (by decide)).2 dX15_init_419 ?_
      refine lv_iload_n C.1 C.2.1 dX15_init_422 rfl (lv_at hl 2 rfl) ?_
      obtain ⟨g_3, hE⟩ := gd_e hE
      refine x_kI (o := (schr 28 x2, h)) (x_runVS (As := [.int x2]) (rest := [.int x2, .ref x1]) C (ct_J0_charAt_5068e l X (by decide) g_3) cw_X15_53 hW hZ (by decide) rfl rfl hl.1 (Nat.le_of_ble_eq_true rfl) rfl dX15_init_423 ⟨Nat.le_of_ble_eq_true rfl, Nat.le_of_ble_eq_true rfl⟩ (rm_ok0 hkl (Le.rf _) (moX15_init_426 mk_411 hE))) hZ (fun _ _ hW km hZ => ?_)
      exact bX15_init_426 C hk_411 mk_411 k_x0 k_x1 k_x1 hkl hW hZ _ (lv_sub hl [0, 1, 2] rfl) hE
set_option maxRecDepth 20000 in
theorem bX15_init_408 {p : Program} {l : Launch} {e : Env} {s : State} {m : MethodId} {args : Array Value} {below : List Frame} {meth : Method} {c : Code} {X : Ec} {h0 : Hp} {o : Hp} {F : Nat} (C : Cx X p s m args meth c RX15 cX15_init 4 none "<init>") {h : Hp} {x0 : Nat} {t0 : Nat} {H : Heap} {locs : List Loc} (k_x0 : hK h x0 = 15) (k_t0 : hK h t0 = 16) (hkl : Kl h0 h) (hW : Wx X h H) (hZ : va_S (aA (eB X)) s.heap H locs) (ls : Array Slot) (hl : lv_has ls 4 [(0, .ref x0)]) (hE : sX15_init_408 F h x0 t0 = some o) : W p l e (rmA 10 222 h0 o) s m args below meth c H locs (hS h - hS h0) (hL h - hL h0) (MQ below (QVA X h0 o) args s (hS o - hS h0) (hL o - hL h0) (aA (eB X))) (F0 m 408 ls [.ref t0]) := by
  refine lv_astore_n (lv' := [(1, .ref t0), (0, .ref x0)]) C.1 C.2.1 dX15_init_408 rfl hl (by decide) rfl (fun ls hl => ?_)
  refine lv_iconst (v := (0 : Int32)) C.1 C.2.1 dX15_init_409 (by decide) ?_
  refine lv_istore_n (lv' := [(2, .int (0 : Int32)), (1, .ref t0), (0, .ref x0)]) C.1 C.2.1 dX15_init_410 rfl hl (by decide) rfl (fun ls hl => ?_)
  exact bX15_init_411 C F k_x0 k_t0 hkl hW hZ _ (lv_sub hl [2, 1, 0] rfl) hE
set_option maxRecDepth 20000 in
theorem bX15_init_406 {p : Program} {l : Launch} {e : Env} {s : State} {m : MethodId} {args : Array Value} {below : List Frame} {meth : Method} {c : Code} {X : Ec} {h0 : Hp} {o : Hp} {F : Nat} (C : Cx X p s m args meth c RX15 cX15_init 4 none "<init>") {h : Hp} {x0 : Nat} {t0 : Int32} {H : Heap} {locs : List Loc} (k_x0 : hK h x0 = 15) (hkl : Kl h0 h) (hW : Wx X h H) (hZ : va_S (aA (eB X)) s.heap H locs) (ls : Array Slot) (hl : lv_has ls 4 [(0, .ref x0)]) (hE : sX15_init_406 F h x0 t0 = some o) : W p l e (rmA 10 222 h0 o) s m args below meth c H locs (hS h - hS h0) (hL h - hL h0) (MQ below (QVA X h0 o) args s (hS o - hS h0) (hL o - hL h0) (aA (eB X))) (F0 m 406 ls [.int t0]) := by
  obtain ⟨g_3, hE⟩ := gd_e hE
  obtain ⟨g_4, hE⟩ := gd_e hE
  obtain ⟨a_1, ea_1, hE⟩ := nm_e2 hE
  obtain ⟨h_2, eh_2, hE⟩ := nm_e2 hE
  refine y_newa (k := 16) (ty := .byte) (t0 := 0) C hW hZ hkl (moX15_init_408 hE) ⟨rfl, rfl⟩ (by decide) (by decide) rfl rfl (by intro C hC; cases hC) hdef_16 m_343 g_3 (Nat.le_trans (Nat.mul_le_mul_right _ g_4) (by decide)) eh_2 dX15_init_406 (fun _ hW km k_a_1 hZ => ?_)
  replace hkl := hkl.tr km
  refine x_nmA ea_1 ?_
  rw [← ea_1] at k_a_1
  replace k_x0 := km.at k_x0 (by decide)
  exact bX15_init_408 C k_x0 k_a_1 hkl hW hZ _ (lv_sub hl [0] rfl) hE
set_option maxRecDepth 20000 in
theorem bX15_init_397 {p : Program} {l : Launch} {e : Env} {s : State} {m : MethodId} {args : Array Value} {below : List Frame} {meth : Method} {c : Code} {X : Ec} {h0 : Hp} {o : Hp} {F : Nat} (C : Cx X p s m args meth c RX15 cX15_init 4 none "<init>") {h : Hp} {x0 : Nat} {t0 : Nat} {t1 : Nat} {H : Heap} {locs : List Loc} (k_x0 : hK h x0 = 15) (k_t0 : hK h t0 = 17) (k_t1 : hK h t1 = 15) (hkl : Kl h0 h) (hW : Wx X h H) (hZ : va_S (aA (eB X)) s.heap H locs) (ls : Array Slot) (hl : lv_has ls 4 [(0, .ref x0)]) (hE : sX15_init_397 F h x0 t0 t1 = some o) : W p l e (rmA 10 222 h0 o) s m args below meth c H locs (hS h - hS h0) (hL h - hL h0) (MQ below (QVA X h0 o) args s (hS o - hS h0) (hL o - hL h0) (aA (eB X))) (F0 m 397 ls [.ref t0, .ref t1]) := by
  obtain ⟨h_1, eh_1, hE⟩ := nm_e2 hE
  refine pf_X15_371 C hW hZ rfl k_t1 k_t0 eh_1 dX15_init_397 (fun _ _ hW km hZ => ?_)
  replace hkl := hkl.tr km.l
  refine x_wc km ?_
  replace k_x0 := km.at k_x0 (by decide)
  refine y_ldcwS C (C.2.2.2.2.2.2.2.2.1 28 (by decide)).2 dX15_init_400 ?_
  refine x_kI (o := (nI (lB 28).length, h_1)) (x_runVS (As := []) (rest := []) C (ct_J0_length_8abf5 l X (by decide)) cw_X15_47 hW hZ (by decide) rfl rfl hl.1 (Nat.le_of_ble_eq_true rfl) rfl dX15_init_403 ⟨Nat.le_of_ble_eq_true rfl, Nat.le_of_ble_eq_true rfl⟩ (rm_ok0 hkl (Le.rf _) (moX15_init_406 hE))) hZ (fun _ _ hW km hZ => ?_)
  exact bX15_init_406 C k_x0 hkl hW hZ _ (lv_sub hl [0] rfl) hE
set_option maxRecDepth 20000 in
theorem bX15_init_388 {p : Program} {l : Launch} {e : Env} {s : State} {m : MethodId} {args : Array Value} {below : List Frame} {meth : Method} {c : Code} {X : Ec} {h0 : Hp} {o : Hp} {F : Nat} (C : Cx X p s m args meth c RX15 cX15_init 4 none "<init>") {h : Hp} {x0 : Nat} {t0 : Nat} {t1 : Nat} {H : Heap} {locs : List Loc} (k_x0 : hK h x0 = 15) (k_t0 : hK h t0 = 17) (k_t1 : hK h t1 = 15) (hkl : Kl h0 h) (hW : Wx X h H) (hZ : va_S (aA (eB X)) s.heap H locs) (ls : Array Slot) (hl : lv_has ls 4 [(0, .ref x0)]) (hE : sX15_init_388 F h x0 t0 t1 = some o) : W p l e (rmA 10 222 h0 o) s m args below meth c H locs (hS h - hS h0) (hL h - hL h0) (MQ below (QVA X h0 o) args s (hS o - hS h0) (hL o - hL h0) (aA (eB X))) (F0 m 388 ls [.ref t0, .ref t1]) := by
  obtain ⟨h_1, eh_1, hE⟩ := nm_e2 hE
  refine pf_X15_368 C hW hZ rfl k_t1 k_t0 eh_1 dX15_init_388 (fun _ _ hW km hZ => ?_)
  replace hkl := hkl.tr km.l
  refine x_wc km ?_
  replace k_x0 := km.at k_x0 (by decide)
  refine lv_aload_n C.1 C.2.1 dX15_init_391 rfl (lv_at hl 0 rfl) ?_
  refine lv_sipush (v := (3000 : Int32)) C.1 C.2.1 dX15_init_392 (by decide) ?_
  obtain ⟨a_2, ea_2, hE⟩ := nm_e2 hE
  obtain ⟨h_3, eh_3, hE⟩ := nm_e2 hE
  refine y_newa (k := 17) (ty := .int) (t0 := 1) C hW hZ hkl (moX15_init_397 hE) ⟨rfl, rfl⟩ (by decide) (by decide) rfl rfl (by intro C hC; cases hC) hdef_17 m_54 (by decide) (by decide) eh_3 dX15_init_395 (fun _ hW km k_a_2 hZ => ?_)
  replace hkl := hkl.tr km
  refine x_nmA ea_2 ?_
  rw [← ea_2] at k_a_2
  replace k_x0 := km.at k_x0 (by decide)
  exact bX15_init_397 C k_x0 k_a_2 k_x0 hkl hW hZ _ (lv_sub hl [0] rfl) hE
set_option maxRecDepth 20000 in
theorem bX15_init_381 {p : Program} {l : Launch} {e : Env} {s : State} {m : MethodId} {args : Array Value} {below : List Frame} {meth : Method} {c : Code} {X : Ec} {h0 : Hp} {o : Hp} {F : Nat} (C : Cx X p s m args meth c RX15 cX15_init 4 none "<init>") {h : Hp} {x0 : Nat} {t0 : Nat} {t1 : Nat} {H : Heap} {locs : List Loc} (k_x0 : hK h x0 = 15) (k_t0 : hK h t0 = 12) (k_t1 : hK h t1 = 15) (hkl : Kl h0 h) (hW : Wx X h H) (hZ : va_S (aA (eB X)) s.heap H locs) (ls : Array Slot) (hl : lv_has ls 4 [(0, .ref x0)]) (hE : sX15_init_381 F h x0 t0 t1 = some o) : W p l e (rmA 10 222 h0 o) s m args below meth c H locs (hS h - hS h0) (hL h - hL h0) (MQ below (QVA X h0 o) args s (hS o - hS h0) (hL o - hL h0) (aA (eB X))) (F0 m 381 ls [.ref t0, .ref t1]) := by
  obtain ⟨h_1, eh_1, hE⟩ := nm_e2 hE
  refine pf_X15_365 C hW hZ rfl k_t1 k_t0 eh_1 dX15_init_381 (fun _ _ hW km hZ => ?_)
  replace hkl := hkl.tr km.l
  refine x_wc km ?_
  replace k_x0 := km.at k_x0 (by decide)
  refine lv_aload_n C.1 C.2.1 dX15_init_384 rfl (lv_at hl 0 rfl) ?_
  refine lv_iconst (v := (5 : Int32)) C.1 C.2.1 dX15_init_385 (by decide) ?_
  obtain ⟨a_2, ea_2, hE⟩ := nm_e2 hE
  obtain ⟨h_3, eh_3, hE⟩ := nm_e2 hE
  refine y_newa (k := 17) (ty := .int) (t0 := 1) C hW hZ hkl (moX15_init_388 hE) ⟨rfl, rfl⟩ (by decide) (by decide) rfl rfl (by intro C hC; cases hC) hdef_17 m_54 (by decide) (by decide) eh_3 dX15_init_386 (fun _ hW km k_a_2 hZ => ?_)
  replace hkl := hkl.tr km
  refine x_nmA ea_2 ?_
  rw [← ea_2] at k_a_2
  replace k_x0 := km.at k_x0 (by decide)
  exact bX15_init_388 C k_x0 k_a_2 k_x0 hkl hW hZ _ (lv_sub hl [0] rfl) hE
set_option maxRecDepth 20000 in
theorem bX15_init_377 {p : Program} {l : Launch} {e : Env} {s : State} {m : MethodId} {args : Array Value} {below : List Frame} {meth : Method} {c : Code} {X : Ec} {h0 : Hp} {o : Hp} {F : Nat} (C : Cx X p s m args meth c RX15 cX15_init 4 none "<init>") {h : Hp} {x0 : Nat} {t0 : Nat} {t1 : Nat} {H : Heap} {locs : List Loc} (k_x0 : hK h x0 = 15) (k_t0 : hK h t0 = 12) (k_t1 : hK h t1 = 15) (hkl : Kl h0 h) (hW : Wx X h H) (hZ : va_S (aA (eB X)) s.heap H locs) (ls : Array Slot) (hl : lv_has ls 4 [(0, .ref x0)]) (hE : sX15_init_377 F h x0 t0 t1 = some o) : W p l e (rmA 10 222 h0 o) s m args below meth c H locs (hS h - hS h0) (hL h - hL h0) (MQ below (QVA X h0 o) args s (hS o - hS h0) (hL o - hL h0) (aA (eB X))) (F0 m 377 ls [.ref t0, .ref t1]) := by
  refine lv_dup C.1 C.2.1 dX15_init_377 rfl ?_
  obtain ⟨o_1, eo_1, hE⟩ := cl_e hE
  have m1 := moX12_init eo_1
  have m2 := moX15_init_381 hE
  refine x_kVA (o := o_1) hkl (z_runIN (As := []) (rest := [.ref t0, .ref t1]) C (ct_X12_init l X k_t0 eo_1) cj_X15_264 hW hZ rfl hl.1 (Nat.le_of_ble_eq_true rfl) rfl dX15_init_378 ⟨Nat.le_of_ble_eq_true rfl, Nat.le_of_ble_eq_true rfl⟩ (rm_ok hkl m1 m2)) hZ (fun _ _ hW km hZ => ?_)
  replace hkl := hkl.tr km
  replace k_x0 := km.at k_x0 (by decide)
  replace k_t0 := km.at k_t0 (by decide)
  replace k_t1 := km.at k_t1 (by decide)
  exact bX15_init_381 C k_x0 k_t0 k_t1 hkl hW hZ _ (lv_sub hl [0] rfl) hE
set_option maxRecDepth 20000 in
theorem bX15_init_370 {p : Program} {l : Launch} {e : Env} {s : State} {m : MethodId} {args : Array Value} {below : List Frame} {meth : Method} {c : Code} {X : Ec} {h0 : Hp} {o : Hp} {F : Nat} (C : Cx X p s m args meth c RX15 cX15_init 4 none "<init>") {h : Hp} {x0 : Nat} {t0 : Nat} {t1 : Nat} {H : Heap} {locs : List Loc} (k_x0 : hK h x0 = 15) (k_t0 : hK h t0 = 17) (k_t1 : hK h t1 = 15) (hkl : Kl h0 h) (hW : Wx X h H) (hZ : va_S (aA (eB X)) s.heap H locs) (ls : Array Slot) (hl : lv_has ls 4 [(0, .ref x0)]) (hE : sX15_init_370 F h x0 t0 t1 = some o) : W p l e (rmA 10 222 h0 o) s m args below meth c H locs (hS h - hS h0) (hL h - hL h0) (MQ below (QVA X h0 o) args s (hS o - hS h0) (hL o - hL h0) (aA (eB X))) (F0 m 370 ls [.ref t0, .ref t1]) := by
  obtain ⟨h_1, eh_1, hE⟩ := nm_e2 hE
  refine pf_X15_362 C hW hZ rfl k_t1 k_t0 eh_1 dX15_init_370 (fun _ _ hW km hZ => ?_)
  replace hkl := hkl.tr km.l
  refine x_wc km ?_
  replace k_x0 := km.at k_x0 (by decide)
  refine lv_aload_n C.1 C.2.1 dX15_init_373 rfl (lv_at hl 0 rfl) ?_
  obtain ⟨a_2, ea_2, hE⟩ := nm_e2 hE
  obtain ⟨h_3, eh_3, hE⟩ := nm_e2 hE
  refine y_new C hW hZ hkl (moX15_init_377 hE) ⟨rfl, rfl⟩ i_X12 tyX12 tyX12_ok (by decide) rfl rfl dv_X12 m_1901 m_1903 m_21 eh_3 dX15_init_374 (fun _ hW km k_a_2 hZ => ?_)
  replace hkl := hkl.tr km
  refine x_nmA ea_2 ?_
  rw [← ea_2] at k_a_2
  replace k_x0 := km.at k_x0 (by decide)
  exact bX15_init_377 C k_x0 k_a_2 k_x0 hkl hW hZ _ (lv_sub hl [0] rfl) hE
set_option maxRecDepth 20000 in
theorem bX15_init_362 {p : Program} {l : Launch} {e : Env} {s : State} {m : MethodId} {args : Array Value} {below : List Frame} {meth : Method} {c : Code} {X : Ec} {h0 : Hp} {o : Hp} {F : Nat} (C : Cx X p s m args meth c RX15 cX15_init 4 none "<init>") {h : Hp} {x0 : Nat} {t0 : Nat} {t1 : Nat} {H : Heap} {locs : List Loc} (k_x0 : hK h x0 = 15) (k_t0 : hK h t0 = 17) (k_t1 : hK h t1 = 15) (hkl : Kl h0 h) (hW : Wx X h H) (hZ : va_S (aA (eB X)) s.heap H locs) (ls : Array Slot) (hl : lv_has ls 4 [(0, .ref x0)]) (hE : sX15_init_362 F h x0 t0 t1 = some o) : W p l e (rmA 10 222 h0 o) s m args below meth c H locs (hS h - hS h0) (hL h - hL h0) (MQ below (QVA X h0 o) args s (hS o - hS h0) (hL o - hL h0) (aA (eB X))) (F0 m 362 ls [.ref t0, .ref t1]) := by
  obtain ⟨h_1, eh_1, hE⟩ := nm_e2 hE
  refine pf_X15_359 C hW hZ rfl k_t1 k_t0 eh_1 dX15_init_362 (fun _ _ hW km hZ => ?_)
  replace hkl := hkl.tr km.l
  refine x_wc km ?_
  replace k_x0 := km.at k_x0 (by decide)
  refine lv_aload_n C.1 C.2.1 dX15_init_365 rfl (lv_at hl 0 rfl) ?_
  refine lv_bipush (v := (6 : Int32)) C.1 C.2.1 dX15_init_366 (by decide) ?_
  obtain ⟨a_2, ea_2, hE⟩ := nm_e2 hE
  obtain ⟨h_3, eh_3, hE⟩ := nm_e2 hE
  refine y_newa (k := 17) (ty := .int) (t0 := 1) C hW hZ hkl (moX15_init_370 hE) ⟨rfl, rfl⟩ (by decide) (by decide) rfl rfl (by intro C hC; cases hC) hdef_17 m_54 (by decide) (by decide) eh_3 dX15_init_368 (fun _ hW km k_a_2 hZ => ?_)
  replace hkl := hkl.tr km
  refine x_nmA ea_2 ?_
  rw [← ea_2] at k_a_2
  replace k_x0 := km.at k_x0 (by decide)
  exact bX15_init_370 C k_x0 k_a_2 k_x0 hkl hW hZ _ (lv_sub hl [0] rfl) hE
set_option maxRecDepth 20000 in
theorem bX15_init_354 {p : Program} {l : Launch} {e : Env} {s : State} {m : MethodId} {args : Array Value} {below : List Frame} {meth : Method} {c : Code} {X : Ec} {h0 : Hp} {o : Hp} {F : Nat} (C : Cx X p s m args meth c RX15 cX15_init 4 none "<init>") {h : Hp} {x0 : Nat} {t0 : Nat} {t1 : Nat} {H : Heap} {locs : List Loc} (k_x0 : hK h x0 = 15) (k_t0 : hK h t0 = 17) (k_t1 : hK h t1 = 15) (hkl : Kl h0 h) (hW : Wx X h H) (hZ : va_S (aA (eB X)) s.heap H locs) (ls : Array Slot) (hl : lv_has ls 4 [(0, .ref x0)]) (hE : sX15_init_354 F h x0 t0 t1 = some o) : W p l e (rmA 10 222 h0 o) s m args below meth c H locs (hS h - hS h0) (hL h - hL h0) (MQ below (QVA X h0 o) args s (hS o - hS h0) (hL o - hL h0) (aA (eB X))) (F0 m 354 ls [.ref t0, .ref t1]) := by
  obtain ⟨h_1, eh_1, hE⟩ := nm_e2 hE
  refine pf_X15_356 C hW hZ rfl k_t1 k_t0 eh_1 dX15_init_354 (fun _ _ hW km hZ => ?_)
  replace hkl := hkl.tr km.l
  refine x_wc km ?_
  replace k_x0 := km.at k_x0 (by decide)
  refine lv_aload_n C.1 C.2.1 dX15_init_357 rfl (lv_at hl 0 rfl) ?_
  refine lv_bipush (v := (6 : Int32)) C.1 C.2.1 dX15_init_358 (by decide) ?_
  obtain ⟨a_2, ea_2, hE⟩ := nm_e2 hE
  obtain ⟨h_3, eh_3, hE⟩ := nm_e2 hE
  refine y_newa (k := 17) (ty := .int) (t0 := 1) C hW hZ hkl (moX15_init_362 hE) ⟨rfl, rfl⟩ (by decide) (by decide) rfl rfl (by intro C hC; cases hC) hdef_17 m_54 (by decide) (by decide) eh_3 dX15_init_360 (fun _ hW km k_a_2 hZ => ?_)
  replace hkl := hkl.tr km
  refine x_nmA ea_2 ?_
  rw [← ea_2] at k_a_2
  replace k_x0 := km.at k_x0 (by decide)
  exact bX15_init_362 C k_x0 k_a_2 k_x0 hkl hW hZ _ (lv_sub hl [0] rfl) hE
set_option maxRecDepth 20000 in
theorem bX15_init_345 {p : Program} {l : Launch} {e : Env} {s : State} {m : MethodId} {args : Array Value} {below : List Frame} {meth : Method} {c : Code} {X : Ec} {h0 : Hp} {o : Hp} {F : Nat} (C : Cx X p s m args meth c RX15 cX15_init 4 none "<init>") {h : Hp} {x0 : Nat} {t0 : Nat} {t1 : Nat} {H : Heap} {locs : List Loc} (k_x0 : hK h x0 = 15) (k_t0 : hK h t0 = 17) (k_t1 : hK h t1 = 15) (hkl : Kl h0 h) (hW : Wx X h H) (hZ : va_S (aA (eB X)) s.heap H locs) (ls : Array Slot) (hl : lv_has ls 4 [(0, .ref x0)]) (hE : sX15_init_345 F h x0 t0 t1 = some o) : W p l e (rmA 10 222 h0 o) s m args below meth c H locs (hS h - hS h0) (hL h - hL h0) (MQ below (QVA X h0 o) args s (hS o - hS h0) (hL o - hL h0) (aA (eB X))) (F0 m 345 ls [.ref t0, .ref t1]) := by
  obtain ⟨h_1, eh_1, hE⟩ := nm_e2 hE
  refine pf_X15_353 C hW hZ rfl k_t1 k_t0 eh_1 dX15_init_345 (fun _ _ hW km hZ => ?_)
  replace hkl := hkl.tr km.l
  refine x_wc km ?_
  replace k_x0 := km.at k_x0 (by decide)
  refine lv_aload_n C.1 C.2.1 dX15_init_348 rfl (lv_at hl 0 rfl) ?_
  refine lv_sipush (v := (16384 : Int32)) C.1 C.2.1 dX15_init_349 (by decide) ?_
  obtain ⟨a_2, ea_2, hE⟩ := nm_e2 hE
  obtain ⟨h_3, eh_3, hE⟩ := nm_e2 hE
  refine y_newa (k := 17) (ty := .int) (t0 := 1) C hW hZ hkl (moX15_init_354 hE) ⟨rfl, rfl⟩ (by decide) (by decide) rfl rfl (by intro C hC; cases hC) hdef_17 m_54 (by decide) (by decide) eh_3 dX15_init_352 (fun _ hW km k_a_2 hZ => ?_)
  replace hkl := hkl.tr km
  refine x_nmA ea_2 ?_
  rw [← ea_2] at k_a_2
  replace k_x0 := km.at k_x0 (by decide)
  exact bX15_init_354 C k_x0 k_a_2 k_x0 hkl hW hZ _ (lv_sub hl [0] rfl) hE
set_option maxRecDepth 20000 in
theorem bX15_init_336 {p : Program} {l : Launch} {e : Env} {s : State} {m : MethodId} {args : Array Value} {below : List Frame} {meth : Method} {c : Code} {X : Ec} {h0 : Hp} {o : Hp} {F : Nat} (C : Cx X p s m args meth c RX15 cX15_init 4 none "<init>") {h : Hp} {x0 : Nat} {t0 : Nat} {t1 : Nat} {H : Heap} {locs : List Loc} (k_x0 : hK h x0 = 15) (k_t0 : hK h t0 = 18) (k_t1 : hK h t1 = 15) (hkl : Kl h0 h) (hW : Wx X h H) (hZ : va_S (aA (eB X)) s.heap H locs) (ls : Array Slot) (hl : lv_has ls 4 [(0, .ref x0)]) (hE : sX15_init_336 F h x0 t0 t1 = some o) : W p l e (rmA 10 222 h0 o) s m args below meth c H locs (hS h - hS h0) (hL h - hL h0) (MQ below (QVA X h0 o) args s (hS o - hS h0) (hL o - hL h0) (aA (eB X))) (F0 m 336 ls [.ref t0, .ref t1]) := by
  obtain ⟨h_1, eh_1, hE⟩ := nm_e2 hE
  refine pf_X15_349 C hW hZ rfl k_t1 k_t0 eh_1 dX15_init_336 (fun _ _ hW km hZ => ?_)
  replace hkl := hkl.tr km.l
  refine x_wc km ?_
  replace k_x0 := km.at k_x0 (by decide)
  refine lv_aload_n C.1 C.2.1 dX15_init_339 rfl (lv_at hl 0 rfl) ?_
  refine lv_sipush (v := (16384 : Int32)) C.1 C.2.1 dX15_init_340 (by decide) ?_
  obtain ⟨a_2, ea_2, hE⟩ := nm_e2 hE
  obtain ⟨h_3, eh_3, hE⟩ := nm_e2 hE
  refine y_newa (k := 17) (ty := .int) (t0 := 1) C hW hZ hkl (moX15_init_345 hE) ⟨rfl, rfl⟩ (by decide) (by decide) rfl rfl (by intro C hC; cases hC) hdef_17 m_54 (by decide) (by decide) eh_3 dX15_init_343 (fun _ hW km k_a_2 hZ => ?_)
  replace hkl := hkl.tr km
  refine x_nmA ea_2 ?_
  rw [← ea_2] at k_a_2
  replace k_x0 := km.at k_x0 (by decide)
  exact bX15_init_345 C k_x0 k_a_2 k_x0 hkl hW hZ _ (lv_sub hl [0] rfl) hE
set_option maxRecDepth 20000 in
theorem bX15_init_327 {p : Program} {l : Launch} {e : Env} {s : State} {m : MethodId} {args : Array Value} {below : List Frame} {meth : Method} {c : Code} {X : Ec} {h0 : Hp} {o : Hp} {F : Nat} (C : Cx X p s m args meth c RX15 cX15_init 4 none "<init>") {h : Hp} {x0 : Nat} {t0 : Nat} {t1 : Nat} {H : Heap} {locs : List Loc} (k_x0 : hK h x0 = 15) (k_t0 : hK h t0 = 17) (k_t1 : hK h t1 = 15) (hkl : Kl h0 h) (hW : Wx X h H) (hZ : va_S (aA (eB X)) s.heap H locs) (ls : Array Slot) (hl : lv_has ls 4 [(0, .ref x0)]) (hE : sX15_init_327 F h x0 t0 t1 = some o) : W p l e (rmA 10 222 h0 o) s m args below meth c H locs (hS h - hS h0) (hL h - hL h0) (MQ below (QVA X h0 o) args s (hS o - hS h0) (hL o - hL h0) (aA (eB X))) (F0 m 327 ls [.ref t0, .ref t1]) := by
  obtain ⟨h_1, eh_1, hE⟩ := nm_e2 hE
  refine pf_X15_346 C hW hZ rfl k_t1 k_t0 eh_1 dX15_init_327 (fun _ _ hW km hZ => ?_)
  replace hkl := hkl.tr km.l
  refine x_wc km ?_
  replace k_x0 := km.at k_x0 (by decide)
  refine lv_aload_n C.1 C.2.1 dX15_init_330 rfl (lv_at hl 0 rfl) ?_
  refine lv_sipush (v := (9376 : Int32)) C.1 C.2.1 dX15_init_331 (by decide) ?_
  obtain ⟨a_2, ea_2, hE⟩ := nm_e2 hE
  obtain ⟨h_3, eh_3, hE⟩ := nm_e2 hE
  refine y_newa (k := 18) (ty := .long) (t0 := 2) C hW hZ hkl (moX15_init_336 hE) ⟨rfl, rfl⟩ (by decide) (by decide) rfl rfl (by intro C hC; cases hC) hdef_18 m_258 (by decide) (by decide) eh_3 dX15_init_334 (fun _ hW km k_a_2 hZ => ?_)
  replace hkl := hkl.tr km
  refine x_nmA ea_2 ?_
  rw [← ea_2] at k_a_2
  replace k_x0 := km.at k_x0 (by decide)
  exact bX15_init_336 C k_x0 k_a_2 k_x0 hkl hW hZ _ (lv_sub hl [0] rfl) hE
set_option maxRecDepth 20000 in
theorem bX15_init_318 {p : Program} {l : Launch} {e : Env} {s : State} {m : MethodId} {args : Array Value} {below : List Frame} {meth : Method} {c : Code} {X : Ec} {h0 : Hp} {o : Hp} {F : Nat} (C : Cx X p s m args meth c RX15 cX15_init 4 none "<init>") {h : Hp} {x0 : Nat} {t0 : Nat} {t1 : Nat} {H : Heap} {locs : List Loc} (k_x0 : hK h x0 = 15) (k_t0 : hK h t0 = 17) (k_t1 : hK h t1 = 15) (hkl : Kl h0 h) (hW : Wx X h H) (hZ : va_S (aA (eB X)) s.heap H locs) (ls : Array Slot) (hl : lv_has ls 4 [(0, .ref x0)]) (hE : sX15_init_318 F h x0 t0 t1 = some o) : W p l e (rmA 10 222 h0 o) s m args below meth c H locs (hS h - hS h0) (hL h - hL h0) (MQ below (QVA X h0 o) args s (hS o - hS h0) (hL o - hL h0) (aA (eB X))) (F0 m 318 ls [.ref t0, .ref t1]) := by
  obtain ⟨h_1, eh_1, hE⟩ := nm_e2 hE
  refine pf_X15_343 C hW hZ rfl k_t1 k_t0 eh_1 dX15_init_318 (fun _ _ hW km hZ => ?_)
  replace hkl := hkl.tr km.l
  refine x_wc km ?_
  replace k_x0 := km.at k_x0 (by decide)
  refine lv_aload_n C.1 C.2.1 dX15_init_321 rfl (lv_at hl 0 rfl) ?_
  refine lv_sipush (v := (4096 : Int32)) C.1 C.2.1 dX15_init_322 (by decide) ?_
  obtain ⟨a_2, ea_2, hE⟩ := nm_e2 hE
  obtain ⟨h_3, eh_3, hE⟩ := nm_e2 hE
  refine y_newa (k := 17) (ty := .int) (t0 := 1) C hW hZ hkl (moX15_init_327 hE) ⟨rfl, rfl⟩ (by decide) (by decide) rfl rfl (by intro C hC; cases hC) hdef_17 m_54 (by decide) (by decide) eh_3 dX15_init_325 (fun _ hW km k_a_2 hZ => ?_)
  replace hkl := hkl.tr km
  refine x_nmA ea_2 ?_
  rw [← ea_2] at k_a_2
  replace k_x0 := km.at k_x0 (by decide)
  exact bX15_init_327 C k_x0 k_a_2 k_x0 hkl hW hZ _ (lv_sub hl [0] rfl) hE
set_option maxRecDepth 20000 in
theorem bX15_init_309 {p : Program} {l : Launch} {e : Env} {s : State} {m : MethodId} {args : Array Value} {below : List Frame} {meth : Method} {c : Code} {X : Ec} {h0 : Hp} {o : Hp} {F : Nat} (C : Cx X p s m args meth c RX15 cX15_init 4 none "<init>") {h : Hp} {x0 : Nat} {t0 : Nat} {t1 : Nat} {H : Heap} {locs : List Loc} (k_x0 : hK h x0 = 15) (k_t0 : hK h t0 = 17) (k_t1 : hK h t1 = 15) (hkl : Kl h0 h) (hW : Wx X h H) (hZ : va_S (aA (eB X)) s.heap H locs) (ls : Array Slot) (hl : lv_has ls 4 [(0, .ref x0)]) (hE : sX15_init_309 F h x0 t0 t1 = some o) : W p l e (rmA 10 222 h0 o) s m args below meth c H locs (hS h - hS h0) (hL h - hL h0) (MQ below (QVA X h0 o) args s (hS o - hS h0) (hL o - hL h0) (aA (eB X))) (F0 m 309 ls [.ref t0, .ref t1]) := by
  obtain ⟨h_1, eh_1, hE⟩ := nm_e2 hE
  refine pf_X15_339 C hW hZ rfl k_t1 k_t0 eh_1 dX15_init_309 (fun _ _ hW km hZ => ?_)
  replace hkl := hkl.tr km.l
  refine x_wc km ?_
  replace k_x0 := km.at k_x0 (by decide)
  refine lv_aload_n C.1 C.2.1 dX15_init_312 rfl (lv_at hl 0 rfl) ?_
  refine lv_ldcw (v := (600000 : Int32)) C.1 C.2.1 C.2.2.2.1 (C.2.2.2.2.1 _ m_1982) dX15_init_313 ?_
  obtain ⟨a_2, ea_2, hE⟩ := nm_e2 hE
  obtain ⟨h_3, eh_3, hE⟩ := nm_e2 hE
  refine y_newa (k := 17) (ty := .int) (t0 := 1) C hW hZ hkl (moX15_init_318 hE) ⟨rfl, rfl⟩ (by decide) (by decide) rfl rfl (by intro C hC; cases hC) hdef_17 m_54 (by decide) (by decide) eh_3 dX15_init_316 (fun _ hW km k_a_2 hZ => ?_)
  replace hkl := hkl.tr km
  refine x_nmA ea_2 ?_
  rw [← ea_2] at k_a_2
  replace k_x0 := km.at k_x0 (by decide)
  exact bX15_init_318 C k_x0 k_a_2 k_x0 hkl hW hZ _ (lv_sub hl [0] rfl) hE
set_option maxRecDepth 20000 in
theorem bX15_init_300 {p : Program} {l : Launch} {e : Env} {s : State} {m : MethodId} {args : Array Value} {below : List Frame} {meth : Method} {c : Code} {X : Ec} {h0 : Hp} {o : Hp} {F : Nat} (C : Cx X p s m args meth c RX15 cX15_init 4 none "<init>") {h : Hp} {x0 : Nat} {t0 : Nat} {t1 : Nat} {H : Heap} {locs : List Loc} (k_x0 : hK h x0 = 15) (k_t0 : hK h t0 = 17) (k_t1 : hK h t1 = 15) (hkl : Kl h0 h) (hW : Wx X h H) (hZ : va_S (aA (eB X)) s.heap H locs) (ls : Array Slot) (hl : lv_has ls 4 [(0, .ref x0)]) (hE : sX15_init_300 F h x0 t0 t1 = some o) : W p l e (rmA 10 222 h0 o) s m args below meth c H locs (hS h - hS h0) (hL h - hL h0) (MQ below (QVA X h0 o) args s (hS o - hS h0) (hL o - hL h0) (aA (eB X))) (F0 m 300 ls [.ref t0, .ref t1]) := by
  obtain ⟨h_1, eh_1, hE⟩ := nm_e2 hE
  refine pf_X15_336 C hW hZ rfl k_t1 k_t0 eh_1 dX15_init_300 (fun _ _ hW km hZ => ?_)
  replace hkl := hkl.tr km.l
  refine x_wc km ?_
  replace k_x0 := km.at k_x0 (by decide)
  refine lv_aload_n C.1 C.2.1 dX15_init_303 rfl (lv_at hl 0 rfl) ?_
  refine lv_sipush (v := (4096 : Int32)) C.1 C.2.1 dX15_init_304 (by decide) ?_
  obtain ⟨a_2, ea_2, hE⟩ := nm_e2 hE
  obtain ⟨h_3, eh_3, hE⟩ := nm_e2 hE
  refine y_newa (k := 17) (ty := .int) (t0 := 1) C hW hZ hkl (moX15_init_309 hE) ⟨rfl, rfl⟩ (by decide) (by decide) rfl rfl (by intro C hC; cases hC) hdef_17 m_54 (by decide) (by decide) eh_3 dX15_init_307 (fun _ hW km k_a_2 hZ => ?_)
  replace hkl := hkl.tr km
  refine x_nmA ea_2 ?_
  rw [← ea_2] at k_a_2
  replace k_x0 := km.at k_x0 (by decide)
  exact bX15_init_309 C k_x0 k_a_2 k_x0 hkl hW hZ _ (lv_sub hl [0] rfl) hE
set_option maxRecDepth 20000 in
theorem bX15_init_291 {p : Program} {l : Launch} {e : Env} {s : State} {m : MethodId} {args : Array Value} {below : List Frame} {meth : Method} {c : Code} {X : Ec} {h0 : Hp} {o : Hp} {F : Nat} (C : Cx X p s m args meth c RX15 cX15_init 4 none "<init>") {h : Hp} {x0 : Nat} {t0 : Nat} {t1 : Nat} {H : Heap} {locs : List Loc} (k_x0 : hK h x0 = 15) (k_t0 : hK h t0 = 17) (k_t1 : hK h t1 = 15) (hkl : Kl h0 h) (hW : Wx X h H) (hZ : va_S (aA (eB X)) s.heap H locs) (ls : Array Slot) (hl : lv_has ls 4 [(0, .ref x0)]) (hE : sX15_init_291 F h x0 t0 t1 = some o) : W p l e (rmA 10 222 h0 o) s m args below meth c H locs (hS h - hS h0) (hL h - hL h0) (MQ below (QVA X h0 o) args s (hS o - hS h0) (hL o - hL h0) (aA (eB X))) (F0 m 291 ls [.ref t0, .ref t1]) := by
  obtain ⟨h_1, eh_1, hE⟩ := nm_e2 hE
  refine pf_X15_333 C hW hZ rfl k_t1 k_t0 eh_1 dX15_init_291 (fun _ _ hW km hZ => ?_)
  replace hkl := hkl.tr km.l
  refine x_wc km ?_
  replace k_x0 := km.at k_x0 (by decide)
  refine lv_aload_n C.1 C.2.1 dX15_init_294 rfl (lv_at hl 0 rfl) ?_
  refine lv_sipush (v := (20480 : Int32)) C.1 C.2.1 dX15_init_295 (by decide) ?_
  obtain ⟨a_2, ea_2, hE⟩ := nm_e2 hE
  obtain ⟨h_3, eh_3, hE⟩ := nm_e2 hE
  refine y_newa (k := 17) (ty := .int) (t0 := 1) C hW hZ hkl (moX15_init_300 hE) ⟨rfl, rfl⟩ (by decide) (by decide) rfl rfl (by intro C hC; cases hC) hdef_17 m_54 (by decide) (by decide) eh_3 dX15_init_298 (fun _ hW km k_a_2 hZ => ?_)
  replace hkl := hkl.tr km
  refine x_nmA ea_2 ?_
  rw [← ea_2] at k_a_2
  replace k_x0 := km.at k_x0 (by decide)
  exact bX15_init_300 C k_x0 k_a_2 k_x0 hkl hW hZ _ (lv_sub hl [0] rfl) hE
set_option maxRecDepth 20000 in
theorem bX15_init_282 {p : Program} {l : Launch} {e : Env} {s : State} {m : MethodId} {args : Array Value} {below : List Frame} {meth : Method} {c : Code} {X : Ec} {h0 : Hp} {o : Hp} {F : Nat} (C : Cx X p s m args meth c RX15 cX15_init 4 none "<init>") {h : Hp} {x0 : Nat} {t0 : Nat} {t1 : Nat} {H : Heap} {locs : List Loc} (k_x0 : hK h x0 = 15) (k_t0 : hK h t0 = 12) (k_t1 : hK h t1 = 15) (hkl : Kl h0 h) (hW : Wx X h H) (hZ : va_S (aA (eB X)) s.heap H locs) (ls : Array Slot) (hl : lv_has ls 4 [(0, .ref x0)]) (hE : sX15_init_282 F h x0 t0 t1 = some o) : W p l e (rmA 10 222 h0 o) s m args below meth c H locs (hS h - hS h0) (hL h - hL h0) (MQ below (QVA X h0 o) args s (hS o - hS h0) (hL o - hL h0) (aA (eB X))) (F0 m 282 ls [.ref t0, .ref t1]) := by
  obtain ⟨h_1, eh_1, hE⟩ := nm_e2 hE
  refine pf_X15_330 C hW hZ rfl k_t1 k_t0 eh_1 dX15_init_282 (fun _ _ hW km hZ => ?_)
  replace hkl := hkl.tr km.l
  refine x_wc km ?_
  replace k_x0 := km.at k_x0 (by decide)
  refine lv_aload_n C.1 C.2.1 dX15_init_285 rfl (lv_at hl 0 rfl) ?_
  refine lv_sipush (v := (4096 : Int32)) C.1 C.2.1 dX15_init_286 (by decide) ?_
  obtain ⟨a_2, ea_2, hE⟩ := nm_e2 hE
  obtain ⟨h_3, eh_3, hE⟩ := nm_e2 hE
  refine y_newa (k := 17) (ty := .int) (t0 := 1) C hW hZ hkl (moX15_init_291 hE) ⟨rfl, rfl⟩ (by decide) (by decide) rfl rfl (by intro C hC; cases hC) hdef_17 m_54 (by decide) (by decide) eh_3 dX15_init_289 (fun _ hW km k_a_2 hZ => ?_)
  replace hkl := hkl.tr km
  refine x_nmA ea_2 ?_
  rw [← ea_2] at k_a_2
  replace k_x0 := km.at k_x0 (by decide)
  exact bX15_init_291 C k_x0 k_a_2 k_x0 hkl hW hZ _ (lv_sub hl [0] rfl) hE
set_option maxRecDepth 20000 in
theorem bX15_init_278 {p : Program} {l : Launch} {e : Env} {s : State} {m : MethodId} {args : Array Value} {below : List Frame} {meth : Method} {c : Code} {X : Ec} {h0 : Hp} {o : Hp} {F : Nat} (C : Cx X p s m args meth c RX15 cX15_init 4 none "<init>") {h : Hp} {x0 : Nat} {t0 : Nat} {t1 : Nat} {H : Heap} {locs : List Loc} (k_x0 : hK h x0 = 15) (k_t0 : hK h t0 = 12) (k_t1 : hK h t1 = 15) (hkl : Kl h0 h) (hW : Wx X h H) (hZ : va_S (aA (eB X)) s.heap H locs) (ls : Array Slot) (hl : lv_has ls 4 [(0, .ref x0)]) (hE : sX15_init_278 F h x0 t0 t1 = some o) : W p l e (rmA 10 222 h0 o) s m args below meth c H locs (hS h - hS h0) (hL h - hL h0) (MQ below (QVA X h0 o) args s (hS o - hS h0) (hL o - hL h0) (aA (eB X))) (F0 m 278 ls [.ref t0, .ref t1]) := by
  refine lv_dup C.1 C.2.1 dX15_init_278 rfl ?_
  obtain ⟨o_1, eo_1, hE⟩ := cl_e hE
  have m1 := moX12_init eo_1
  have m2 := moX15_init_282 hE
  refine x_kVA (o := o_1) hkl (z_runIN (As := []) (rest := [.ref t0, .ref t1]) C (ct_X12_init l X k_t0 eo_1) cj_X15_264 hW hZ rfl hl.1 (Nat.le_of_ble_eq_true rfl) rfl dX15_init_279 ⟨Nat.le_of_ble_eq_true rfl, Nat.le_of_ble_eq_true rfl⟩ (rm_ok hkl m1 m2)) hZ (fun _ _ hW km hZ => ?_)
  replace hkl := hkl.tr km
  replace k_x0 := km.at k_x0 (by decide)
  replace k_t0 := km.at k_t0 (by decide)
  replace k_t1 := km.at k_t1 (by decide)
  exact bX15_init_282 C k_x0 k_t0 k_t1 hkl hW hZ _ (lv_sub hl [0] rfl) hE
set_option maxRecDepth 20000 in
theorem bX15_init_271 {p : Program} {l : Launch} {e : Env} {s : State} {m : MethodId} {args : Array Value} {below : List Frame} {meth : Method} {c : Code} {X : Ec} {h0 : Hp} {o : Hp} {F : Nat} (C : Cx X p s m args meth c RX15 cX15_init 4 none "<init>") {h : Hp} {x0 : Nat} {t0 : Nat} {t1 : Nat} {H : Heap} {locs : List Loc} (k_x0 : hK h x0 = 15) (k_t0 : hK h t0 = 16) (k_t1 : hK h t1 = 15) (hkl : Kl h0 h) (hW : Wx X h H) (hZ : va_S (aA (eB X)) s.heap H locs) (ls : Array Slot) (hl : lv_has ls 4 [(0, .ref x0)]) (hE : sX15_init_271 F h x0 t0 t1 = some o) : W p l e (rmA 10 222 h0 o) s m args below meth c H locs (hS h - hS h0) (hL h - hL h0) (MQ below (QVA X h0 o) args s (hS o - hS h0) (hL o - hL h0) (aA (eB X))) (F0 m 271 ls [.ref t0, .ref t1]) := by
  obtain ⟨h_1, eh_1, hE⟩ := nm_e2 hE
  refine pf_X15_327 C hW hZ rfl k_t1 k_t0 eh_1 dX15_init_271 (fun _ _ hW km hZ => ?_)
  replace hkl := hkl.tr km.l
  refine x_wc km ?_
  replace k_x0 := km.at k_x0 (by decide)
  refine lv_aload_n C.1 C.2.1 dX15_init_274 rfl (lv_at hl 0 rfl) ?_
  obtain ⟨a_2, ea_2, hE⟩ := nm_e2 hE
  obtain ⟨h_3, eh_3, hE⟩ := nm_e2 hE
  refine y_new C hW hZ hkl (moX15_init_278 hE) ⟨rfl, rfl⟩ i_X12 tyX12 tyX12_ok (by decide) rfl rfl dv_X12 m_1901 m_1903 m_21 eh_3 dX15_init_275 (fun _ hW km k_a_2 hZ => ?_)
  replace hkl := hkl.tr km
  refine x_nmA ea_2 ?_
  rw [← ea_2] at k_a_2
  replace k_x0 := km.at k_x0 (by decide)
  exact bX15_init_278 C k_x0 k_a_2 k_x0 hkl hW hZ _ (lv_sub hl [0] rfl) hE
set_option maxRecDepth 20000 in
theorem bX15_init_262 {p : Program} {l : Launch} {e : Env} {s : State} {m : MethodId} {args : Array Value} {below : List Frame} {meth : Method} {c : Code} {X : Ec} {h0 : Hp} {o : Hp} {F : Nat} (C : Cx X p s m args meth c RX15 cX15_init 4 none "<init>") {h : Hp} {x0 : Nat} {t0 : Nat} {t1 : Nat} {H : Heap} {locs : List Loc} (k_x0 : hK h x0 = 15) (k_t0 : hK h t0 = 17) (k_t1 : hK h t1 = 15) (hkl : Kl h0 h) (hW : Wx X h H) (hZ : va_S (aA (eB X)) s.heap H locs) (ls : Array Slot) (hl : lv_has ls 4 [(0, .ref x0)]) (hE : sX15_init_262 F h x0 t0 t1 = some o) : W p l e (rmA 10 222 h0 o) s m args below meth c H locs (hS h - hS h0) (hL h - hL h0) (MQ below (QVA X h0 o) args s (hS o - hS h0) (hL o - hL h0) (aA (eB X))) (F0 m 262 ls [.ref t0, .ref t1]) := by
  obtain ⟨h_1, eh_1, hE⟩ := nm_e2 hE
  refine pf_X15_324 C hW hZ rfl k_t1 k_t0 eh_1 dX15_init_262 (fun _ _ hW km hZ => ?_)
  replace hkl := hkl.tr km.l
  refine x_wc km ?_
  replace k_x0 := km.at k_x0 (by decide)
  refine lv_aload_n C.1 C.2.1 dX15_init_265 rfl (lv_at hl 0 rfl) ?_
  refine lv_sipush (v := (256 : Int32)) C.1 C.2.1 dX15_init_266 (by decide) ?_
  obtain ⟨a_2, ea_2, hE⟩ := nm_e2 hE
  obtain ⟨h_3, eh_3, hE⟩ := nm_e2 hE
  refine y_newa (k := 16) (ty := .byte) (t0 := 0) C hW hZ hkl (moX15_init_271 hE) ⟨rfl, rfl⟩ (by decide) (by decide) rfl rfl (by intro C hC; cases hC) hdef_16 m_343 (by decide) (by decide) eh_3 dX15_init_269 (fun _ hW km k_a_2 hZ => ?_)
  replace hkl := hkl.tr km
  refine x_nmA ea_2 ?_
  rw [← ea_2] at k_a_2
  replace k_x0 := km.at k_x0 (by decide)
  exact bX15_init_271 C k_x0 k_a_2 k_x0 hkl hW hZ _ (lv_sub hl [0] rfl) hE
set_option maxRecDepth 20000 in
theorem bX15_init_253 {p : Program} {l : Launch} {e : Env} {s : State} {m : MethodId} {args : Array Value} {below : List Frame} {meth : Method} {c : Code} {X : Ec} {h0 : Hp} {o : Hp} {F : Nat} (C : Cx X p s m args meth c RX15 cX15_init 4 none "<init>") {h : Hp} {x0 : Nat} {t0 : Nat} {t1 : Nat} {H : Heap} {locs : List Loc} (k_x0 : hK h x0 = 15) (k_t0 : hK h t0 = 16) (k_t1 : hK h t1 = 15) (hkl : Kl h0 h) (hW : Wx X h H) (hZ : va_S (aA (eB X)) s.heap H locs) (ls : Array Slot) (hl : lv_has ls 4 [(0, .ref x0)]) (hE : sX15_init_253 F h x0 t0 t1 = some o) : W p l e (rmA 10 222 h0 o) s m args below meth c H locs (hS h - hS h0) (hL h - hL h0) (MQ below (QVA X h0 o) args s (hS o - hS h0) (hL o - hL h0) (aA (eB X))) (F0 m 253 ls [.ref t0, .ref t1]) := by
  obtain ⟨h_1, eh_1, hE⟩ := nm_e2 hE
  refine pf_X15_321 C hW hZ rfl k_t1 k_t0 eh_1 dX15_init_253 (fun _ _ hW km hZ => ?_)
  replace hkl := hkl.tr km.l
  refine x_wc km ?_
  replace k_x0 := km.at k_x0 (by decide)
  refine lv_aload_n C.1 C.2.1 dX15_init_256 rfl (lv_at hl 0 rfl) ?_
  refine lv_sipush (v := (3000 : Int32)) C.1 C.2.1 dX15_init_257 (by decide) ?_
  obtain ⟨a_2, ea_2, hE⟩ := nm_e2 hE
  obtain ⟨h_3, eh_3, hE⟩ := nm_e2 hE
  refine y_newa (k := 17) (ty := .int) (t0 := 1) C hW hZ hkl (moX15_init_262 hE) ⟨rfl, rfl⟩ (by decide) (by decide) rfl rfl (by intro C hC; cases hC) hdef_17 m_54 (by decide) (by decide) eh_3 dX15_init_260 (fun _ hW km k_a_2 hZ => ?_)
  replace hkl := hkl.tr km
  refine x_nmA ea_2 ?_
  rw [← ea_2] at k_a_2
  replace k_x0 := km.at k_x0 (by decide)
  exact bX15_init_262 C k_x0 k_a_2 k_x0 hkl hW hZ _ (lv_sub hl [0] rfl) hE
set_option maxRecDepth 20000 in
theorem bX15_init_244 {p : Program} {l : Launch} {e : Env} {s : State} {m : MethodId} {args : Array Value} {below : List Frame} {meth : Method} {c : Code} {X : Ec} {h0 : Hp} {o : Hp} {F : Nat} (C : Cx X p s m args meth c RX15 cX15_init 4 none "<init>") {h : Hp} {x0 : Nat} {t0 : Nat} {t1 : Nat} {H : Heap} {locs : List Loc} (k_x0 : hK h x0 = 15) (k_t0 : hK h t0 = 21) (k_t1 : hK h t1 = 15) (hkl : Kl h0 h) (hW : Wx X h H) (hZ : va_S (aA (eB X)) s.heap H locs) (ls : Array Slot) (hl : lv_has ls 4 [(0, .ref x0)]) (hE : sX15_init_244 F h x0 t0 t1 = some o) : W p l e (rmA 10 222 h0 o) s m args below meth c H locs (hS h - hS h0) (hL h - hL h0) (MQ below (QVA X h0 o) args s (hS o - hS h0) (hL o - hL h0) (aA (eB X))) (F0 m 244 ls [.ref t0, .ref t1]) := by
  obtain ⟨h_1, eh_1, hE⟩ := nm_e2 hE
  refine pf_X15_317 C hW hZ rfl k_t1 k_t0 eh_1 dX15_init_244 (fun _ _ hW km hZ => ?_)
  replace hkl := hkl.tr km.l
  refine x_wc km ?_
  replace k_x0 := km.at k_x0 (by decide)
  refine lv_aload_n C.1 C.2.1 dX15_init_247 rfl (lv_at hl 0 rfl) ?_
  refine lv_ldcw (v := (288000 : Int32)) C.1 C.2.1 C.2.2.2.1 (C.2.2.2.2.1 _ m_1981) dX15_init_248 ?_
  obtain ⟨a_2, ea_2, hE⟩ := nm_e2 hE
  obtain ⟨h_3, eh_3, hE⟩ := nm_e2 hE
  refine y_newa (k := 16) (ty := .byte) (t0 := 0) C hW hZ hkl (moX15_init_253 hE) ⟨rfl, rfl⟩ (by decide) (by decide) rfl rfl (by intro C hC; cases hC) hdef_16 m_343 (by decide) (by decide) eh_3 dX15_init_251 (fun _ hW km k_a_2 hZ => ?_)
  replace hkl := hkl.tr km
  refine x_nmA ea_2 ?_
  rw [← ea_2] at k_a_2
  replace k_x0 := km.at k_x0 (by decide)
  exact bX15_init_253 C k_x0 k_a_2 k_x0 hkl hW hZ _ (lv_sub hl [0] rfl) hE
set_option maxRecDepth 20000 in
theorem bX15_init_200 {p : Program} {l : Launch} {e : Env} {s : State} {m : MethodId} {args : Array Value} {below : List Frame} {meth : Method} {c : Code} {X : Ec} {h0 : Hp} {o : Hp} {F : Nat} (C : Cx X p s m args meth c RX15 cX15_init 4 none "<init>") {h : Hp} {x0 : Nat} {t0 : Nat} {t1 : Nat} {H : Heap} {locs : List Loc} (k_x0 : hK h x0 = 15) (k_t0 : hK h t0 = 17) (k_t1 : hK h t1 = 15) (hkl : Kl h0 h) (hW : Wx X h H) (hZ : va_S (aA (eB X)) s.heap H locs) (ls : Array Slot) (hl : lv_has ls 4 [(0, .ref x0)]) (hE : sX15_init_200 F h x0 t0 t1 = some o) : W p l e (rmA 10 222 h0 o) s m args below meth c H locs (hS h - hS h0) (hL h - hL h0) (MQ below (QVA X h0 o) args s (hS o - hS h0) (hL o - hL h0) (aA (eB X))) (F0 m 200 ls [.ref t0, .ref t1]) := by
  refine lv_dup C.1 C.2.1 dX15_init_200 rfl ?_
  refine lv_iconst (v := (0 : Int32)) C.1 C.2.1 dX15_init_201 (by decide) ?_
  refine lv_iconst (v := (-1 : Int32)) C.1 C.2.1 dX15_init_202 (by decide) ?_
  obtain ⟨g_1, hE⟩ := gd_e hE
  obtain ⟨h_2, eh_2, hE⟩ := nm_e2 hE
  refine y_iast C hW hZ k_t0 g_1 eh_2 dX15_init_203 (fun _ _ hW km hZ => ?_)
  replace hkl := hkl.tr km.l
  refine x_wc km ?_
  replace k_x0 := km.at k_x0 (by decide)
  replace k_t0 := km.at k_t0 (by decide)
  replace k_t1 := km.at k_t1 (by decide)
  refine lv_dup C.1 C.2.1 dX15_init_204 rfl ?_
  refine lv_iconst (v := (1 : Int32)) C.1 C.2.1 dX15_init_205 (by decide) ?_
  refine lv_iconst (v := (-1 : Int32)) C.1 C.2.1 dX15_init_206 (by decide) ?_
  obtain ⟨g_3, hE⟩ := gd_e hE
  obtain ⟨h_4, eh_4, hE⟩ := nm_e2 hE
  refine y_iast C hW hZ k_t0 g_3 eh_4 dX15_init_207 (fun _ _ hW km hZ => ?_)
  replace hkl := hkl.tr km.l
  refine x_wc km ?_
  replace k_x0 := km.at k_x0 (by decide)
  replace k_t0 := km.at k_t0 (by decide)
  replace k_t1 := km.at k_t1 (by decide)
  refine lv_dup C.1 C.2.1 dX15_init_208 rfl ?_
  refine lv_iconst (v := (2 : Int32)) C.1 C.2.1 dX15_init_209 (by decide) ?_
  refine lv_iconst (v := (-1 : Int32)) C.1 C.2.1 dX15_init_210 (by decide) ?_
  obtain ⟨g_5, hE⟩ := gd_e hE
  obtain ⟨h_6, eh_6, hE⟩ := nm_e2 hE
  refine y_iast C hW hZ k_t0 g_5 eh_6 dX15_init_211 (fun _ _ hW km hZ => ?_)
  replace hkl := hkl.tr km.l
  refine x_wc km ?_
  replace k_x0 := km.at k_x0 (by decide)
  replace k_t0 := km.at k_t0 (by decide)
  replace k_t1 := km.at k_t1 (by decide)
  refine lv_dup C.1 C.2.1 dX15_init_212 rfl ?_
  refine lv_iconst (v := (3 : Int32)) C.1 C.2.1 dX15_init_213 (by decide) ?_
  refine lv_iconst (v := (-1 : Int32)) C.1 C.2.1 dX15_init_214 (by decide) ?_
  obtain ⟨g_7, hE⟩ := gd_e hE
  obtain ⟨h_8, eh_8, hE⟩ := nm_e2 hE
  refine y_iast C hW hZ k_t0 g_7 eh_8 dX15_init_215 (fun _ _ hW km hZ => ?_)
  replace hkl := hkl.tr km.l
  refine x_wc km ?_
  replace k_x0 := km.at k_x0 (by decide)
  replace k_t0 := km.at k_t0 (by decide)
  replace k_t1 := km.at k_t1 (by decide)
  refine lv_dup C.1 C.2.1 dX15_init_216 rfl ?_
  refine lv_iconst (v := (4 : Int32)) C.1 C.2.1 dX15_init_217 (by decide) ?_
  refine lv_iconst (v := (-1 : Int32)) C.1 C.2.1 dX15_init_218 (by decide) ?_
  obtain ⟨g_9, hE⟩ := gd_e hE
  obtain ⟨h_10, eh_10, hE⟩ := nm_e2 hE
  refine y_iast C hW hZ k_t0 g_9 eh_10 dX15_init_219 (fun _ _ hW km hZ => ?_)
  replace hkl := hkl.tr km.l
  refine x_wc km ?_
  replace k_x0 := km.at k_x0 (by decide)
  replace k_t0 := km.at k_t0 (by decide)
  replace k_t1 := km.at k_t1 (by decide)
  refine lv_dup C.1 C.2.1 dX15_init_220 rfl ?_
  refine lv_iconst (v := (5 : Int32)) C.1 C.2.1 dX15_init_221 (by decide) ?_
  refine lv_iconst (v := (-1 : Int32)) C.1 C.2.1 dX15_init_222 (by decide) ?_
  obtain ⟨g_11, hE⟩ := gd_e hE
  obtain ⟨h_12, eh_12, hE⟩ := nm_e2 hE
  refine y_iast C hW hZ k_t0 g_11 eh_12 dX15_init_223 (fun _ _ hW km hZ => ?_)
  replace hkl := hkl.tr km.l
  refine x_wc km ?_
  replace k_x0 := km.at k_x0 (by decide)
  replace k_t0 := km.at k_t0 (by decide)
  replace k_t1 := km.at k_t1 (by decide)
  refine lv_dup C.1 C.2.1 dX15_init_224 rfl ?_
  refine lv_bipush (v := (6 : Int32)) C.1 C.2.1 dX15_init_225 (by decide) ?_
  refine lv_iconst (v := (-1 : Int32)) C.1 C.2.1 dX15_init_227 (by decide) ?_
  obtain ⟨g_13, hE⟩ := gd_e hE
  obtain ⟨h_14, eh_14, hE⟩ := nm_e2 hE
  refine y_iast C hW hZ k_t0 g_13 eh_14 dX15_init_228 (fun _ _ hW km hZ => ?_)
  replace hkl := hkl.tr km.l
  refine x_wc km ?_
  replace k_x0 := km.at k_x0 (by decide)
  replace k_t0 := km.at k_t0 (by decide)
  replace k_t1 := km.at k_t1 (by decide)
  refine lv_dup C.1 C.2.1 dX15_init_229 rfl ?_
  refine lv_bipush (v := (7 : Int32)) C.1 C.2.1 dX15_init_230 (by decide) ?_
  refine lv_iconst (v := (-1 : Int32)) C.1 C.2.1 dX15_init_232 (by decide) ?_
  obtain ⟨g_15, hE⟩ := gd_e hE
  obtain ⟨h_16, eh_16, hE⟩ := nm_e2 hE
  refine y_iast C hW hZ k_t0 g_15 eh_16 dX15_init_233 (fun _ _ hW km hZ => ?_)
  replace hkl := hkl.tr km.l
  refine x_wc km ?_
  replace k_x0 := km.at k_x0 (by decide)
  replace k_t0 := km.at k_t0 (by decide)
  replace k_t1 := km.at k_t1 (by decide)
  obtain ⟨h_17, eh_17, hE⟩ := nm_e2 hE
  refine pf_X15_314 C hW hZ rfl k_t1 k_t0 eh_17 dX15_init_234 (fun _ _ hW km hZ => ?_)
  replace hkl := hkl.tr km.l
  refine x_wc km ?_
  replace k_x0 := km.at k_x0 (by decide)
  refine lv_aload_n C.1 C.2.1 dX15_init_237 rfl (lv_at hl 0 rfl) ?_
  refine lv_sipush (v := (3000 : Int32)) C.1 C.2.1 dX15_init_238 (by decide) ?_
  obtain ⟨a_18, ea_18, hE⟩ := nm_e2 hE
  obtain ⟨h_19, eh_19, hE⟩ := nm_e2 hE
  refine y_newq (k := 21) (t0 := 5) C hW hZ hkl (moX15_init_244 hE) ⟨rfl, rfl⟩ (by decide) (by decide) rfl m_1901 C.2.2.2.2.2.2.2.2.2.2.2.2.2.2.1 (by decide) (by decide) eh_19 dX15_init_241 (fun _ hW km k_a_18 hZ => ?_)
  replace hkl := hkl.tr km
  refine x_nmA ea_18 ?_
  rw [← ea_18] at k_a_18
  replace k_x0 := km.at k_x0 (by decide)
  exact bX15_init_244 C k_x0 k_a_18 k_x0 hkl hW hZ _ (lv_sub hl [0] rfl) hE
set_option maxRecDepth 20000 in
theorem bX15_init_192 {p : Program} {l : Launch} {e : Env} {s : State} {m : MethodId} {args : Array Value} {below : List Frame} {meth : Method} {c : Code} {X : Ec} {h0 : Hp} {o : Hp} {F : Nat} (C : Cx X p s m args meth c RX15 cX15_init 4 none "<init>") {h : Hp} {x0 : Nat} {t0 : Nat} {t1 : Nat} {H : Heap} {locs : List Loc} (k_x0 : hK h x0 = 15) (k_t0 : hK h t0 = 17) (k_t1 : hK h t1 = 15) (hkl : Kl h0 h) (hW : Wx X h H) (hZ : va_S (aA (eB X)) s.heap H locs) (ls : Array Slot) (hl : lv_has ls 4 [(0, .ref x0)]) (hE : sX15_init_192 F h x0 t0 t1 = some o) : W p l e (rmA 10 222 h0 o) s m args below meth c H locs (hS h - hS h0) (hL h - hL h0) (MQ below (QVA X h0 o) args s (hS o - hS h0) (hL o - hL h0) (aA (eB X))) (F0 m 192 ls [.ref t0, .ref t1]) := by
  obtain ⟨h_1, eh_1, hE⟩ := nm_e2 hE
  refine pf_X15_311 C hW hZ rfl k_t1 k_t0 eh_1 dX15_init_192 (fun _ _ hW km hZ => ?_)
  replace hkl := hkl.tr km.l
  refine x_wc km ?_
  replace k_x0 := km.at k_x0 (by decide)
  refine lv_aload_n C.1 C.2.1 dX15_init_195 rfl (lv_at hl 0 rfl) ?_
  refine lv_bipush (v := (8 : Int32)) C.1 C.2.1 dX15_init_196 (by decide) ?_
  obtain ⟨a_2, ea_2, hE⟩ := nm_e2 hE
  obtain ⟨h_3, eh_3, hE⟩ := nm_e2 hE
  refine y_newa (k := 17) (ty := .int) (t0 := 1) C hW hZ hkl (moX15_init_200 hE) ⟨rfl, rfl⟩ (by decide) (by decide) rfl rfl (by intro C hC; cases hC) hdef_17 m_54 (by decide) (by decide) eh_3 dX15_init_198 (fun _ hW km k_a_2 hZ => ?_)
  replace hkl := hkl.tr km
  refine x_nmA ea_2 ?_
  rw [← ea_2] at k_a_2
  replace k_x0 := km.at k_x0 (by decide)
  exact bX15_init_200 C k_x0 k_a_2 k_x0 hkl hW hZ _ (lv_sub hl [0] rfl) hE
set_option maxRecDepth 20000 in
theorem bX15_init_183 {p : Program} {l : Launch} {e : Env} {s : State} {m : MethodId} {args : Array Value} {below : List Frame} {meth : Method} {c : Code} {X : Ec} {h0 : Hp} {o : Hp} {F : Nat} (C : Cx X p s m args meth c RX15 cX15_init 4 none "<init>") {h : Hp} {x0 : Nat} {t0 : Nat} {t1 : Nat} {H : Heap} {locs : List Loc} (k_x0 : hK h x0 = 15) (k_t0 : hK h t0 = 21) (k_t1 : hK h t1 = 15) (hkl : Kl h0 h) (hW : Wx X h H) (hZ : va_S (aA (eB X)) s.heap H locs) (ls : Array Slot) (hl : lv_has ls 4 [(0, .ref x0)]) (hE : sX15_init_183 F h x0 t0 t1 = some o) : W p l e (rmA 10 222 h0 o) s m args below meth c H locs (hS h - hS h0) (hL h - hL h0) (MQ below (QVA X h0 o) args s (hS o - hS h0) (hL o - hL h0) (aA (eB X))) (F0 m 183 ls [.ref t0, .ref t1]) := by
  obtain ⟨h_1, eh_1, hE⟩ := nm_e2 hE
  refine pf_X15_308 C hW hZ rfl k_t1 k_t0 eh_1 dX15_init_183 (fun _ _ hW km hZ => ?_)
  replace hkl := hkl.tr km.l
  refine x_wc km ?_
  replace k_x0 := km.at k_x0 (by decide)
  refine lv_aload_n C.1 C.2.1 dX15_init_186 rfl (lv_at hl 0 rfl) ?_
  refine lv_sipush (v := (2408 : Int32)) C.1 C.2.1 dX15_init_187 (by decide) ?_
  obtain ⟨a_2, ea_2, hE⟩ := nm_e2 hE
  obtain ⟨h_3, eh_3, hE⟩ := nm_e2 hE
  refine y_newa (k := 17) (ty := .int) (t0 := 1) C hW hZ hkl (moX15_init_192 hE) ⟨rfl, rfl⟩ (by decide) (by decide) rfl rfl (by intro C hC; cases hC) hdef_17 m_54 (by decide) (by decide) eh_3 dX15_init_190 (fun _ hW km k_a_2 hZ => ?_)
  replace hkl := hkl.tr km
  refine x_nmA ea_2 ?_
  rw [← ea_2] at k_a_2
  replace k_x0 := km.at k_x0 (by decide)
  exact bX15_init_192 C k_x0 k_a_2 k_x0 hkl hW hZ _ (lv_sub hl [0] rfl) hE
set_option maxRecDepth 20000 in
theorem bX15_init_173 {p : Program} {l : Launch} {e : Env} {s : State} {m : MethodId} {args : Array Value} {below : List Frame} {meth : Method} {c : Code} {X : Ec} {h0 : Hp} {o : Hp} {F : Nat} (C : Cx X p s m args meth c RX15 cX15_init 4 none "<init>") {h : Hp} {x0 : Nat} {t0 : Nat} {t1 : Nat} {H : Heap} {locs : List Loc} (k_x0 : hK h x0 = 15) (k_t0 : hK h t0 = 12) (k_t1 : hK h t1 = 15) (hkl : Kl h0 h) (hW : Wx X h H) (hZ : va_S (aA (eB X)) s.heap H locs) (ls : Array Slot) (hl : lv_has ls 4 [(0, .ref x0)]) (hE : sX15_init_173 F h x0 t0 t1 = some o) : W p l e (rmA 10 222 h0 o) s m args below meth c H locs (hS h - hS h0) (hL h - hL h0) (MQ below (QVA X h0 o) args s (hS o - hS h0) (hL o - hL h0) (aA (eB X))) (F0 m 173 ls [.ref t0, .ref t1]) := by
  obtain ⟨h_1, eh_1, hE⟩ := nm_e2 hE
  refine pf_X15_305 C hW hZ rfl k_t1 k_t0 eh_1 dX15_init_173 (fun _ _ hW km hZ => ?_)
  replace hkl := hkl.tr km.l
  refine x_wc km ?_
  replace k_x0 := km.at k_x0 (by decide)
  refine lv_aload_n C.1 C.2.1 dX15_init_176 rfl (lv_at hl 0 rfl) ?_
  refine lv_sipush (v := (2408 : Int32)) C.1 C.2.1 dX15_init_177 (by decide) ?_
  obtain ⟨a_2, ea_2, hE⟩ := nm_e2 hE
  obtain ⟨h_3, eh_3, hE⟩ := nm_e2 hE
  refine y_newq (k := 21) (t0 := 5) C hW hZ hkl (moX15_init_183 hE) ⟨rfl, rfl⟩ (by decide) (by decide) rfl m_1901 C.2.2.2.2.2.2.2.2.2.2.2.2.2.2.1 (by decide) (by decide) eh_3 dX15_init_180 (fun _ hW km k_a_2 hZ => ?_)
  replace hkl := hkl.tr km
  refine x_nmA ea_2 ?_
  rw [← ea_2] at k_a_2
  replace k_x0 := km.at k_x0 (by decide)
  exact bX15_init_183 C k_x0 k_a_2 k_x0 hkl hW hZ _ (lv_sub hl [0] rfl) hE
set_option maxRecDepth 20000 in
theorem bX15_init_169 {p : Program} {l : Launch} {e : Env} {s : State} {m : MethodId} {args : Array Value} {below : List Frame} {meth : Method} {c : Code} {X : Ec} {h0 : Hp} {o : Hp} {F : Nat} (C : Cx X p s m args meth c RX15 cX15_init 4 none "<init>") {h : Hp} {x0 : Nat} {t0 : Nat} {t1 : Nat} {H : Heap} {locs : List Loc} (k_x0 : hK h x0 = 15) (k_t0 : hK h t0 = 12) (k_t1 : hK h t1 = 15) (hkl : Kl h0 h) (hW : Wx X h H) (hZ : va_S (aA (eB X)) s.heap H locs) (ls : Array Slot) (hl : lv_has ls 4 [(0, .ref x0)]) (hE : sX15_init_169 F h x0 t0 t1 = some o) : W p l e (rmA 10 222 h0 o) s m args below meth c H locs (hS h - hS h0) (hL h - hL h0) (MQ below (QVA X h0 o) args s (hS o - hS h0) (hL o - hL h0) (aA (eB X))) (F0 m 169 ls [.ref t0, .ref t1]) := by
  refine lv_dup C.1 C.2.1 dX15_init_169 rfl ?_
  obtain ⟨o_1, eo_1, hE⟩ := cl_e hE
  have m1 := moX12_init eo_1
  have m2 := moX15_init_173 hE
  refine x_kVA (o := o_1) hkl (z_runIN (As := []) (rest := [.ref t0, .ref t1]) C (ct_X12_init l X k_t0 eo_1) cj_X15_264 hW hZ rfl hl.1 (Nat.le_of_ble_eq_true rfl) rfl dX15_init_170 ⟨Nat.le_of_ble_eq_true rfl, Nat.le_of_ble_eq_true rfl⟩ (rm_ok hkl m1 m2)) hZ (fun _ _ hW km hZ => ?_)
  replace hkl := hkl.tr km
  replace k_x0 := km.at k_x0 (by decide)
  replace k_t0 := km.at k_t0 (by decide)
  replace k_t1 := km.at k_t1 (by decide)
  exact bX15_init_173 C k_x0 k_t0 k_t1 hkl hW hZ _ (lv_sub hl [0] rfl) hE
set_option maxRecDepth 20000 in
theorem bX15_init_162 {p : Program} {l : Launch} {e : Env} {s : State} {m : MethodId} {args : Array Value} {below : List Frame} {meth : Method} {c : Code} {X : Ec} {h0 : Hp} {o : Hp} {F : Nat} (C : Cx X p s m args meth c RX15 cX15_init 4 none "<init>") {h : Hp} {x0 : Nat} {t0 : Nat} {t1 : Nat} {H : Heap} {locs : List Loc} (k_x0 : hK h x0 = 15) (k_t0 : hK h t0 = 22) (k_t1 : hK h t1 = 15) (hkl : Kl h0 h) (hW : Wx X h H) (hZ : va_S (aA (eB X)) s.heap H locs) (ls : Array Slot) (hl : lv_has ls 4 [(0, .ref x0)]) (hE : sX15_init_162 F h x0 t0 t1 = some o) : W p l e (rmA 10 222 h0 o) s m args below meth c H locs (hS h - hS h0) (hL h - hL h0) (MQ below (QVA X h0 o) args s (hS o - hS h0) (hL o - hL h0) (aA (eB X))) (F0 m 162 ls [.ref t0, .ref t1]) := by
  obtain ⟨h_1, eh_1, hE⟩ := nm_e2 hE
  refine pf_X15_301 C hW hZ rfl k_t1 k_t0 eh_1 dX15_init_162 (fun _ _ hW km hZ => ?_)
  replace hkl := hkl.tr km.l
  refine x_wc km ?_
  replace k_x0 := km.at k_x0 (by decide)
  refine lv_aload_n C.1 C.2.1 dX15_init_165 rfl (lv_at hl 0 rfl) ?_
  obtain ⟨a_2, ea_2, hE⟩ := nm_e2 hE
  obtain ⟨h_3, eh_3, hE⟩ := nm_e2 hE
  refine y_new C hW hZ hkl (moX15_init_169 hE) ⟨rfl, rfl⟩ i_X12 tyX12 tyX12_ok (by decide) rfl rfl dv_X12 m_1901 m_1903 m_21 eh_3 dX15_init_166 (fun _ hW km k_a_2 hZ => ?_)
  replace hkl := hkl.tr km
  refine x_nmA ea_2 ?_
  rw [← ea_2] at k_a_2
  replace k_x0 := km.at k_x0 (by decide)
  exact bX15_init_169 C k_x0 k_a_2 k_x0 hkl hW hZ _ (lv_sub hl [0] rfl) hE
set_option maxRecDepth 20000 in
theorem bX15_init_153 {p : Program} {l : Launch} {e : Env} {s : State} {m : MethodId} {args : Array Value} {below : List Frame} {meth : Method} {c : Code} {X : Ec} {h0 : Hp} {o : Hp} {F : Nat} (C : Cx X p s m args meth c RX15 cX15_init 4 none "<init>") {h : Hp} {x0 : Nat} {t0 : Nat} {t1 : Nat} {H : Heap} {locs : List Loc} (k_x0 : hK h x0 = 15) (k_t0 : hK h t0 = 21) (k_t1 : hK h t1 = 15) (hkl : Kl h0 h) (hW : Wx X h H) (hZ : va_S (aA (eB X)) s.heap H locs) (ls : Array Slot) (hl : lv_has ls 4 [(0, .ref x0)]) (hE : sX15_init_153 F h x0 t0 t1 = some o) : W p l e (rmA 10 222 h0 o) s m args below meth c H locs (hS h - hS h0) (hL h - hL h0) (MQ below (QVA X h0 o) args s (hS o - hS h0) (hL o - hL h0) (aA (eB X))) (F0 m 153 ls [.ref t0, .ref t1]) := by
  obtain ⟨h_1, eh_1, hE⟩ := nm_e2 hE
  refine pf_X15_298 C hW hZ rfl k_t1 k_t0 eh_1 dX15_init_153 (fun _ _ hW km hZ => ?_)
  replace hkl := hkl.tr km.l
  refine x_wc km ?_
  replace k_x0 := km.at k_x0 (by decide)
  refine lv_aload_n C.1 C.2.1 dX15_init_156 rfl (lv_at hl 0 rfl) ?_
  refine lv_bipush (v := (10 : Int32)) C.1 C.2.1 dX15_init_157 (by decide) ?_
  obtain ⟨a_2, ea_2, hE⟩ := nm_e2 hE
  obtain ⟨h_3, eh_3, hE⟩ := nm_e2 hE
  refine y_newq (k := 22) (t0 := 6) C hW hZ hkl (moX15_init_162 hE) ⟨rfl, rfl⟩ (by decide) (by decide) rfl m_1941 C.2.2.2.2.2.2.2.2.2.2.2.2.2.2.2.1.1 (by decide) (by decide) eh_3 dX15_init_159 (fun _ hW km k_a_2 hZ => ?_)
  replace hkl := hkl.tr km
  refine x_nmA ea_2 ?_
  rw [← ea_2] at k_a_2
  replace k_x0 := km.at k_x0 (by decide)
  exact bX15_init_162 C k_x0 k_a_2 k_x0 hkl hW hZ _ (lv_sub hl [0] rfl) hE
set_option maxRecDepth 20000 in
theorem bX15_init_144 {p : Program} {l : Launch} {e : Env} {s : State} {m : MethodId} {args : Array Value} {below : List Frame} {meth : Method} {c : Code} {X : Ec} {h0 : Hp} {o : Hp} {F : Nat} (C : Cx X p s m args meth c RX15 cX15_init 4 none "<init>") {h : Hp} {x0 : Nat} {t0 : Nat} {t1 : Nat} {H : Heap} {locs : List Loc} (k_x0 : hK h x0 = 15) (k_t0 : hK h t0 = 12) (k_t1 : hK h t1 = 15) (hkl : Kl h0 h) (hW : Wx X h H) (hZ : va_S (aA (eB X)) s.heap H locs) (ls : Array Slot) (hl : lv_has ls 4 [(0, .ref x0)]) (hE : sX15_init_144 F h x0 t0 t1 = some o) : W p l e (rmA 10 222 h0 o) s m args below meth c H locs (hS h - hS h0) (hL h - hL h0) (MQ below (QVA X h0 o) args s (hS o - hS h0) (hL o - hL h0) (aA (eB X))) (F0 m 144 ls [.ref t0, .ref t1]) := by
  obtain ⟨h_1, eh_1, hE⟩ := nm_e2 hE
  refine pf_X15_295 C hW hZ rfl k_t1 k_t0 eh_1 dX15_init_144 (fun _ _ hW km hZ => ?_)
  replace hkl := hkl.tr km.l
  refine x_wc km ?_
  replace k_x0 := km.at k_x0 (by decide)
  refine lv_aload_n C.1 C.2.1 dX15_init_147 rfl (lv_at hl 0 rfl) ?_
  refine lv_bipush (v := (10 : Int32)) C.1 C.2.1 dX15_init_148 (by decide) ?_
  obtain ⟨a_2, ea_2, hE⟩ := nm_e2 hE
  obtain ⟨h_3, eh_3, hE⟩ := nm_e2 hE
  refine y_newq (k := 21) (t0 := 5) C hW hZ hkl (moX15_init_153 hE) ⟨rfl, rfl⟩ (by decide) (by decide) rfl m_1901 C.2.2.2.2.2.2.2.2.2.2.2.2.2.2.1 (by decide) (by decide) eh_3 dX15_init_150 (fun _ hW km k_a_2 hZ => ?_)
  replace hkl := hkl.tr km
  refine x_nmA ea_2 ?_
  rw [← ea_2] at k_a_2
  replace k_x0 := km.at k_x0 (by decide)
  exact bX15_init_153 C k_x0 k_a_2 k_x0 hkl hW hZ _ (lv_sub hl [0] rfl) hE
set_option maxRecDepth 20000 in
theorem bX15_init_140 {p : Program} {l : Launch} {e : Env} {s : State} {m : MethodId} {args : Array Value} {below : List Frame} {meth : Method} {c : Code} {X : Ec} {h0 : Hp} {o : Hp} {F : Nat} (C : Cx X p s m args meth c RX15 cX15_init 4 none "<init>") {h : Hp} {x0 : Nat} {t0 : Nat} {t1 : Nat} {H : Heap} {locs : List Loc} (k_x0 : hK h x0 = 15) (k_t0 : hK h t0 = 12) (k_t1 : hK h t1 = 15) (hkl : Kl h0 h) (hW : Wx X h H) (hZ : va_S (aA (eB X)) s.heap H locs) (ls : Array Slot) (hl : lv_has ls 4 [(0, .ref x0)]) (hE : sX15_init_140 F h x0 t0 t1 = some o) : W p l e (rmA 10 222 h0 o) s m args below meth c H locs (hS h - hS h0) (hL h - hL h0) (MQ below (QVA X h0 o) args s (hS o - hS h0) (hL o - hL h0) (aA (eB X))) (F0 m 140 ls [.ref t0, .ref t1]) := by
  refine lv_dup C.1 C.2.1 dX15_init_140 rfl ?_
  obtain ⟨o_1, eo_1, hE⟩ := cl_e hE
  have m1 := moX12_init eo_1
  have m2 := moX15_init_144 hE
  refine x_kVA (o := o_1) hkl (z_runIN (As := []) (rest := [.ref t0, .ref t1]) C (ct_X12_init l X k_t0 eo_1) cj_X15_264 hW hZ rfl hl.1 (Nat.le_of_ble_eq_true rfl) rfl dX15_init_141 ⟨Nat.le_of_ble_eq_true rfl, Nat.le_of_ble_eq_true rfl⟩ (rm_ok hkl m1 m2)) hZ (fun _ _ hW km hZ => ?_)
  replace hkl := hkl.tr km
  replace k_x0 := km.at k_x0 (by decide)
  replace k_t0 := km.at k_t0 (by decide)
  replace k_t1 := km.at k_t1 (by decide)
  exact bX15_init_144 C k_x0 k_t0 k_t1 hkl hW hZ _ (lv_sub hl [0] rfl) hE
set_option maxRecDepth 20000 in
theorem bX15_init_133 {p : Program} {l : Launch} {e : Env} {s : State} {m : MethodId} {args : Array Value} {below : List Frame} {meth : Method} {c : Code} {X : Ec} {h0 : Hp} {o : Hp} {F : Nat} (C : Cx X p s m args meth c RX15 cX15_init 4 none "<init>") {h : Hp} {x0 : Nat} {t0 : Nat} {t1 : Nat} {H : Heap} {locs : List Loc} (k_x0 : hK h x0 = 15) (k_t0 : hK h t0 = 13) (k_t1 : hK h t1 = 15) (hkl : Kl h0 h) (hW : Wx X h H) (hZ : va_S (aA (eB X)) s.heap H locs) (ls : Array Slot) (hl : lv_has ls 4 [(0, .ref x0)]) (hE : sX15_init_133 F h x0 t0 t1 = some o) : W p l e (rmA 10 222 h0 o) s m args below meth c H locs (hS h - hS h0) (hL h - hL h0) (MQ below (QVA X h0 o) args s (hS o - hS h0) (hL o - hL h0) (aA (eB X))) (F0 m 133 ls [.ref t0, .ref t1]) := by
  obtain ⟨h_1, eh_1, hE⟩ := nm_e2 hE
  refine pf_X15_292 C hW hZ rfl k_t1 k_t0 eh_1 dX15_init_133 (fun _ _ hW km hZ => ?_)
  replace hkl := hkl.tr km.l
  refine x_wc km ?_
  replace k_x0 := km.at k_x0 (by decide)
  refine lv_aload_n C.1 C.2.1 dX15_init_136 rfl (lv_at hl 0 rfl) ?_
  obtain ⟨a_2, ea_2, hE⟩ := nm_e2 hE
  obtain ⟨h_3, eh_3, hE⟩ := nm_e2 hE
  refine y_new C hW hZ hkl (moX15_init_140 hE) ⟨rfl, rfl⟩ i_X12 tyX12 tyX12_ok (by decide) rfl rfl dv_X12 m_1901 m_1903 m_21 eh_3 dX15_init_137 (fun _ hW km k_a_2 hZ => ?_)
  replace hkl := hkl.tr km
  refine x_nmA ea_2 ?_
  rw [← ea_2] at k_a_2
  replace k_x0 := km.at k_x0 (by decide)
  exact bX15_init_140 C k_x0 k_a_2 k_x0 hkl hW hZ _ (lv_sub hl [0] rfl) hE
set_option maxRecDepth 20000 in
theorem bX15_init_129 {p : Program} {l : Launch} {e : Env} {s : State} {m : MethodId} {args : Array Value} {below : List Frame} {meth : Method} {c : Code} {X : Ec} {h0 : Hp} {o : Hp} {F : Nat} (C : Cx X p s m args meth c RX15 cX15_init 4 none "<init>") {h : Hp} {x0 : Nat} {t0 : Nat} {t1 : Nat} {H : Heap} {locs : List Loc} (k_x0 : hK h x0 = 15) (k_t0 : hK h t0 = 13) (k_t1 : hK h t1 = 15) (hkl : Kl h0 h) (hW : Wx X h H) (hZ : va_S (aA (eB X)) s.heap H locs) (ls : Array Slot) (hl : lv_has ls 4 [(0, .ref x0)]) (hE : sX15_init_129 F h x0 t0 t1 = some o) : W p l e (rmA 10 222 h0 o) s m args below meth c H locs (hS h - hS h0) (hL h - hL h0) (MQ below (QVA X h0 o) args s (hS o - hS h0) (hL o - hL h0) (aA (eB X))) (F0 m 129 ls [.ref t0, .ref t1]) := by
  refine lv_dup C.1 C.2.1 dX15_init_129 rfl ?_
  obtain ⟨o_1, eo_1, hE⟩ := cl_e hE
  have m1 := moX13_init eo_1
  have m2 := moX15_init_133 hE
  refine x_kVA (o := o_1) hkl (z_runIN (As := []) (rest := [.ref t0, .ref t1]) C (ct_X13_init l X k_t0 eo_1) cj_X15_287 hW hZ rfl hl.1 (Nat.le_of_ble_eq_true rfl) rfl dX15_init_130 ⟨Nat.le_of_ble_eq_true rfl, Nat.le_of_ble_eq_true rfl⟩ (rm_ok hkl m1 m2)) hZ (fun _ _ hW km hZ => ?_)
  replace hkl := hkl.tr km
  replace k_x0 := km.at k_x0 (by decide)
  replace k_t0 := km.at k_t0 (by decide)
  replace k_t1 := km.at k_t1 (by decide)
  exact bX15_init_133 C k_x0 k_t0 k_t1 hkl hW hZ _ (lv_sub hl [0] rfl) hE
set_option maxRecDepth 20000 in
theorem bX15_init_122 {p : Program} {l : Launch} {e : Env} {s : State} {m : MethodId} {args : Array Value} {below : List Frame} {meth : Method} {c : Code} {X : Ec} {h0 : Hp} {o : Hp} {F : Nat} (C : Cx X p s m args meth c RX15 cX15_init 4 none "<init>") {h : Hp} {x0 : Nat} {t0 : Nat} {t1 : Nat} {H : Heap} {locs : List Loc} (k_x0 : hK h x0 = 15) (k_t0 : hK h t0 = 13) (k_t1 : hK h t1 = 15) (hkl : Kl h0 h) (hW : Wx X h H) (hZ : va_S (aA (eB X)) s.heap H locs) (ls : Array Slot) (hl : lv_has ls 4 [(0, .ref x0)]) (hE : sX15_init_122 F h x0 t0 t1 = some o) : W p l e (rmA 10 222 h0 o) s m args below meth c H locs (hS h - hS h0) (hL h - hL h0) (MQ below (QVA X h0 o) args s (hS o - hS h0) (hL o - hL h0) (aA (eB X))) (F0 m 122 ls [.ref t0, .ref t1]) := by
  obtain ⟨h_1, eh_1, hE⟩ := nm_e2 hE
  refine pf_X15_288 C hW hZ rfl k_t1 k_t0 eh_1 dX15_init_122 (fun _ _ hW km hZ => ?_)
  replace hkl := hkl.tr km.l
  refine x_wc km ?_
  replace k_x0 := km.at k_x0 (by decide)
  refine lv_aload_n C.1 C.2.1 dX15_init_125 rfl (lv_at hl 0 rfl) ?_
  obtain ⟨a_2, ea_2, hE⟩ := nm_e2 hE
  obtain ⟨h_3, eh_3, hE⟩ := nm_e2 hE
  refine y_new C hW hZ hkl (moX15_init_129 hE) ⟨rfl, rfl⟩ i_X13 tyX13 tyX13_ok (by decide) rfl rfl dv_X13 m_1941 m_1942 m_22 eh_3 dX15_init_126 (fun _ hW km k_a_2 hZ => ?_)
  replace hkl := hkl.tr km
  refine x_nmA ea_2 ?_
  rw [← ea_2] at k_a_2
  replace k_x0 := km.at k_x0 (by decide)
  exact bX15_init_129 C k_x0 k_a_2 k_x0 hkl hW hZ _ (lv_sub hl [0] rfl) hE
set_option maxRecDepth 20000 in
theorem bX15_init_118 {p : Program} {l : Launch} {e : Env} {s : State} {m : MethodId} {args : Array Value} {below : List Frame} {meth : Method} {c : Code} {X : Ec} {h0 : Hp} {o : Hp} {F : Nat} (C : Cx X p s m args meth c RX15 cX15_init 4 none "<init>") {h : Hp} {x0 : Nat} {t0 : Nat} {t1 : Nat} {H : Heap} {locs : List Loc} (k_x0 : hK h x0 = 15) (k_t0 : hK h t0 = 13) (k_t1 : hK h t1 = 15) (hkl : Kl h0 h) (hW : Wx X h H) (hZ : va_S (aA (eB X)) s.heap H locs) (ls : Array Slot) (hl : lv_has ls 4 [(0, .ref x0)]) (hE : sX15_init_118 F h x0 t0 t1 = some o) : W p l e (rmA 10 222 h0 o) s m args below meth c H locs (hS h - hS h0) (hL h - hL h0) (MQ below (QVA X h0 o) args s (hS o - hS h0) (hL o - hL h0) (aA (eB X))) (F0 m 118 ls [.ref t0, .ref t1]) := by
  refine lv_dup C.1 C.2.1 dX15_init_118 rfl ?_
  obtain ⟨o_1, eo_1, hE⟩ := cl_e hE
  have m1 := moX13_init eo_1
  have m2 := moX15_init_122 hE
  refine x_kVA (o := o_1) hkl (z_runIN (As := []) (rest := [.ref t0, .ref t1]) C (ct_X13_init l X k_t0 eo_1) cj_X15_287 hW hZ rfl hl.1 (Nat.le_of_ble_eq_true rfl) rfl dX15_init_119 ⟨Nat.le_of_ble_eq_true rfl, Nat.le_of_ble_eq_true rfl⟩ (rm_ok hkl m1 m2)) hZ (fun _ _ hW km hZ => ?_)
  replace hkl := hkl.tr km
  replace k_x0 := km.at k_x0 (by decide)
  replace k_t0 := km.at k_t0 (by decide)
  replace k_t1 := km.at k_t1 (by decide)
  exact bX15_init_122 C k_x0 k_t0 k_t1 hkl hW hZ _ (lv_sub hl [0] rfl) hE
set_option maxRecDepth 20000 in
theorem bX15_init_111 {p : Program} {l : Launch} {e : Env} {s : State} {m : MethodId} {args : Array Value} {below : List Frame} {meth : Method} {c : Code} {X : Ec} {h0 : Hp} {o : Hp} {F : Nat} (C : Cx X p s m args meth c RX15 cX15_init 4 none "<init>") {h : Hp} {x0 : Nat} {t0 : Nat} {t1 : Nat} {H : Heap} {locs : List Loc} (k_x0 : hK h x0 = 15) (k_t0 : hK h t0 = 12) (k_t1 : hK h t1 = 15) (hkl : Kl h0 h) (hW : Wx X h H) (hZ : va_S (aA (eB X)) s.heap H locs) (ls : Array Slot) (hl : lv_has ls 4 [(0, .ref x0)]) (hE : sX15_init_111 F h x0 t0 t1 = some o) : W p l e (rmA 10 222 h0 o) s m args below meth c H locs (hS h - hS h0) (hL h - hL h0) (MQ below (QVA X h0 o) args s (hS o - hS h0) (hL o - hL h0) (aA (eB X))) (F0 m 111 ls [.ref t0, .ref t1]) := by
  obtain ⟨h_1, eh_1, hE⟩ := nm_e2 hE
  refine pf_X15_282 C hW hZ rfl k_t1 k_t0 eh_1 dX15_init_111 (fun _ _ hW km hZ => ?_)
  replace hkl := hkl.tr km.l
  refine x_wc km ?_
  replace k_x0 := km.at k_x0 (by decide)
  refine lv_aload_n C.1 C.2.1 dX15_init_114 rfl (lv_at hl 0 rfl) ?_
  obtain ⟨a_2, ea_2, hE⟩ := nm_e2 hE
  obtain ⟨h_3, eh_3, hE⟩ := nm_e2 hE
  refine y_new C hW hZ hkl (moX15_init_118 hE) ⟨rfl, rfl⟩ i_X13 tyX13 tyX13_ok (by decide) rfl rfl dv_X13 m_1941 m_1942 m_22 eh_3 dX15_init_115 (fun _ hW km k_a_2 hZ => ?_)
  replace hkl := hkl.tr km
  refine x_nmA ea_2 ?_
  rw [← ea_2] at k_a_2
  replace k_x0 := km.at k_x0 (by decide)
  exact bX15_init_118 C k_x0 k_a_2 k_x0 hkl hW hZ _ (lv_sub hl [0] rfl) hE
set_option maxRecDepth 20000 in
theorem bX15_init_107 {p : Program} {l : Launch} {e : Env} {s : State} {m : MethodId} {args : Array Value} {below : List Frame} {meth : Method} {c : Code} {X : Ec} {h0 : Hp} {o : Hp} {F : Nat} (C : Cx X p s m args meth c RX15 cX15_init 4 none "<init>") {h : Hp} {x0 : Nat} {t0 : Nat} {t1 : Nat} {H : Heap} {locs : List Loc} (k_x0 : hK h x0 = 15) (k_t0 : hK h t0 = 12) (k_t1 : hK h t1 = 15) (hkl : Kl h0 h) (hW : Wx X h H) (hZ : va_S (aA (eB X)) s.heap H locs) (ls : Array Slot) (hl : lv_has ls 4 [(0, .ref x0)]) (hE : sX15_init_107 F h x0 t0 t1 = some o) : W p l e (rmA 10 222 h0 o) s m args below meth c H locs (hS h - hS h0) (hL h - hL h0) (MQ below (QVA X h0 o) args s (hS o - hS h0) (hL o - hL h0) (aA (eB X))) (F0 m 107 ls [.ref t0, .ref t1]) := by
  refine lv_dup C.1 C.2.1 dX15_init_107 rfl ?_
  obtain ⟨o_1, eo_1, hE⟩ := cl_e hE
  have m1 := moX12_init eo_1
  have m2 := moX15_init_111 hE
  refine x_kVA (o := o_1) hkl (z_runIN (As := []) (rest := [.ref t0, .ref t1]) C (ct_X12_init l X k_t0 eo_1) cj_X15_264 hW hZ rfl hl.1 (Nat.le_of_ble_eq_true rfl) rfl dX15_init_108 ⟨Nat.le_of_ble_eq_true rfl, Nat.le_of_ble_eq_true rfl⟩ (rm_ok hkl m1 m2)) hZ (fun _ _ hW km hZ => ?_)
  replace hkl := hkl.tr km
  replace k_x0 := km.at k_x0 (by decide)
  replace k_t0 := km.at k_t0 (by decide)
  replace k_t1 := km.at k_t1 (by decide)
  exact bX15_init_111 C k_x0 k_t0 k_t1 hkl hW hZ _ (lv_sub hl [0] rfl) hE
set_option maxRecDepth 20000 in
theorem bX15_init_100 {p : Program} {l : Launch} {e : Env} {s : State} {m : MethodId} {args : Array Value} {below : List Frame} {meth : Method} {c : Code} {X : Ec} {h0 : Hp} {o : Hp} {F : Nat} (C : Cx X p s m args meth c RX15 cX15_init 4 none "<init>") {h : Hp} {x0 : Nat} {t0 : Nat} {t1 : Nat} {H : Heap} {locs : List Loc} (k_x0 : hK h x0 = 15) (k_t0 : hK h t0 = 19) (k_t1 : hK h t1 = 15) (hkl : Kl h0 h) (hW : Wx X h H) (hZ : va_S (aA (eB X)) s.heap H locs) (ls : Array Slot) (hl : lv_has ls 4 [(0, .ref x0)]) (hE : sX15_init_100 F h x0 t0 t1 = some o) : W p l e (rmA 10 222 h0 o) s m args below meth c H locs (hS h - hS h0) (hL h - hL h0) (MQ below (QVA X h0 o) args s (hS o - hS h0) (hL o - hL h0) (aA (eB X))) (F0 m 100 ls [.ref t0, .ref t1]) := by
  obtain ⟨h_1, eh_1, hE⟩ := nm_e2 hE
  refine pf_X15_278 C hW hZ rfl k_t1 k_t0 eh_1 dX15_init_100 (fun _ _ hW km hZ => ?_)
  replace hkl := hkl.tr km.l
  refine x_wc km ?_
  replace k_x0 := km.at k_x0 (by decide)
  refine lv_aload_n C.1 C.2.1 dX15_init_103 rfl (lv_at hl 0 rfl) ?_
  obtain ⟨a_2, ea_2, hE⟩ := nm_e2 hE
  obtain ⟨h_3, eh_3, hE⟩ := nm_e2 hE
  refine y_new C hW hZ hkl (moX15_init_107 hE) ⟨rfl, rfl⟩ i_X12 tyX12 tyX12_ok (by decide) rfl rfl dv_X12 m_1901 m_1903 m_21 eh_3 dX15_init_104 (fun _ hW km k_a_2 hZ => ?_)
  replace hkl := hkl.tr km
  refine x_nmA ea_2 ?_
  rw [← ea_2] at k_a_2
  replace k_x0 := km.at k_x0 (by decide)
  exact bX15_init_107 C k_x0 k_a_2 k_x0 hkl hW hZ _ (lv_sub hl [0] rfl) hE
set_option maxRecDepth 20000 in
theorem bX15_init_92 {p : Program} {l : Launch} {e : Env} {s : State} {m : MethodId} {args : Array Value} {below : List Frame} {meth : Method} {c : Code} {X : Ec} {h0 : Hp} {o : Hp} {F : Nat} (C : Cx X p s m args meth c RX15 cX15_init 4 none "<init>") {h : Hp} {x0 : Nat} {t0 : Nat} {t1 : Nat} {H : Heap} {locs : List Loc} (k_x0 : hK h x0 = 15) (k_t0 : hK h t0 = 17) (k_t1 : hK h t1 = 15) (hkl : Kl h0 h) (hW : Wx X h H) (hZ : va_S (aA (eB X)) s.heap H locs) (ls : Array Slot) (hl : lv_has ls 4 [(0, .ref x0)]) (hE : sX15_init_92 F h x0 t0 t1 = some o) : W p l e (rmA 10 222 h0 o) s m args below meth c H locs (hS h - hS h0) (hL h - hL h0) (MQ below (QVA X h0 o) args s (hS o - hS h0) (hL o - hL h0) (aA (eB X))) (F0 m 92 ls [.ref t0, .ref t1]) := by
  obtain ⟨h_1, eh_1, hE⟩ := nm_e2 hE
  refine pf_X15_275 C hW hZ rfl k_t1 k_t0 eh_1 dX15_init_92 (fun _ _ hW km hZ => ?_)
  replace hkl := hkl.tr km.l
  refine x_wc km ?_
  replace k_x0 := km.at k_x0 (by decide)
  refine lv_aload_n C.1 C.2.1 dX15_init_95 rfl (lv_at hl 0 rfl) ?_
  refine lv_bipush (v := (64 : Int32)) C.1 C.2.1 dX15_init_96 (by decide) ?_
  obtain ⟨a_2, ea_2, hE⟩ := nm_e2 hE
  obtain ⟨h_3, eh_3, hE⟩ := nm_e2 hE
  refine y_newa (k := 19) (ty := .boolean) (t0 := 3) C hW hZ hkl (moX15_init_100 hE) ⟨rfl, rfl⟩ (by decide) (by decide) rfl rfl (by intro C hC; cases hC) hdef_19 m_884 (by decide) (by decide) eh_3 dX15_init_98 (fun _ hW km k_a_2 hZ => ?_)
  replace hkl := hkl.tr km
  refine x_nmA ea_2 ?_
  rw [← ea_2] at k_a_2
  replace k_x0 := km.at k_x0 (by decide)
  exact bX15_init_100 C k_x0 k_a_2 k_x0 hkl hW hZ _ (lv_sub hl [0] rfl) hE
set_option maxRecDepth 20000 in
theorem bX15_init_84 {p : Program} {l : Launch} {e : Env} {s : State} {m : MethodId} {args : Array Value} {below : List Frame} {meth : Method} {c : Code} {X : Ec} {h0 : Hp} {o : Hp} {F : Nat} (C : Cx X p s m args meth c RX15 cX15_init 4 none "<init>") {h : Hp} {x0 : Nat} {t0 : Nat} {t1 : Nat} {H : Heap} {locs : List Loc} (k_x0 : hK h x0 = 15) (k_t0 : hK h t0 = 17) (k_t1 : hK h t1 = 15) (hkl : Kl h0 h) (hW : Wx X h H) (hZ : va_S (aA (eB X)) s.heap H locs) (ls : Array Slot) (hl : lv_has ls 4 [(0, .ref x0)]) (hE : sX15_init_84 F h x0 t0 t1 = some o) : W p l e (rmA 10 222 h0 o) s m args below meth c H locs (hS h - hS h0) (hL h - hL h0) (MQ below (QVA X h0 o) args s (hS o - hS h0) (hL o - hL h0) (aA (eB X))) (F0 m 84 ls [.ref t0, .ref t1]) := by
  obtain ⟨h_1, eh_1, hE⟩ := nm_e2 hE
  refine pf_X15_272 C hW hZ rfl k_t1 k_t0 eh_1 dX15_init_84 (fun _ _ hW km hZ => ?_)
  replace hkl := hkl.tr km.l
  refine x_wc km ?_
  replace k_x0 := km.at k_x0 (by decide)
  refine lv_aload_n C.1 C.2.1 dX15_init_87 rfl (lv_at hl 0 rfl) ?_
  refine lv_bipush (v := (64 : Int32)) C.1 C.2.1 dX15_init_88 (by decide) ?_
  obtain ⟨a_2, ea_2, hE⟩ := nm_e2 hE
  obtain ⟨h_3, eh_3, hE⟩ := nm_e2 hE
  refine y_newa (k := 17) (ty := .int) (t0 := 1) C hW hZ hkl (moX15_init_92 hE) ⟨rfl, rfl⟩ (by decide) (by decide) rfl rfl (by intro C hC; cases hC) hdef_17 m_54 (by decide) (by decide) eh_3 dX15_init_90 (fun _ hW km k_a_2 hZ => ?_)
  replace hkl := hkl.tr km
  refine x_nmA ea_2 ?_
  rw [← ea_2] at k_a_2
  replace k_x0 := km.at k_x0 (by decide)
  exact bX15_init_92 C k_x0 k_a_2 k_x0 hkl hW hZ _ (lv_sub hl [0] rfl) hE
set_option maxRecDepth 20000 in
theorem bX15_init_76 {p : Program} {l : Launch} {e : Env} {s : State} {m : MethodId} {args : Array Value} {below : List Frame} {meth : Method} {c : Code} {X : Ec} {h0 : Hp} {o : Hp} {F : Nat} (C : Cx X p s m args meth c RX15 cX15_init 4 none "<init>") {h : Hp} {x0 : Nat} {t0 : Nat} {t1 : Nat} {H : Heap} {locs : List Loc} (k_x0 : hK h x0 = 15) (k_t0 : hK h t0 = 17) (k_t1 : hK h t1 = 15) (hkl : Kl h0 h) (hW : Wx X h H) (hZ : va_S (aA (eB X)) s.heap H locs) (ls : Array Slot) (hl : lv_has ls 4 [(0, .ref x0)]) (hE : sX15_init_76 F h x0 t0 t1 = some o) : W p l e (rmA 10 222 h0 o) s m args below meth c H locs (hS h - hS h0) (hL h - hL h0) (MQ below (QVA X h0 o) args s (hS o - hS h0) (hL o - hL h0) (aA (eB X))) (F0 m 76 ls [.ref t0, .ref t1]) := by
  obtain ⟨h_1, eh_1, hE⟩ := nm_e2 hE
  refine pf_X15_269 C hW hZ rfl k_t1 k_t0 eh_1 dX15_init_76 (fun _ _ hW km hZ => ?_)
  replace hkl := hkl.tr km.l
  refine x_wc km ?_
  replace k_x0 := km.at k_x0 (by decide)
  refine lv_aload_n C.1 C.2.1 dX15_init_79 rfl (lv_at hl 0 rfl) ?_
  refine lv_bipush (v := (64 : Int32)) C.1 C.2.1 dX15_init_80 (by decide) ?_
  obtain ⟨a_2, ea_2, hE⟩ := nm_e2 hE
  obtain ⟨h_3, eh_3, hE⟩ := nm_e2 hE
  refine y_newa (k := 17) (ty := .int) (t0 := 1) C hW hZ hkl (moX15_init_84 hE) ⟨rfl, rfl⟩ (by decide) (by decide) rfl rfl (by intro C hC; cases hC) hdef_17 m_54 (by decide) (by decide) eh_3 dX15_init_82 (fun _ hW km k_a_2 hZ => ?_)
  replace hkl := hkl.tr km
  refine x_nmA ea_2 ?_
  rw [← ea_2] at k_a_2
  replace k_x0 := km.at k_x0 (by decide)
  exact bX15_init_84 C k_x0 k_a_2 k_x0 hkl hW hZ _ (lv_sub hl [0] rfl) hE
set_option maxRecDepth 20000 in
theorem bX15_init_69 {p : Program} {l : Launch} {e : Env} {s : State} {m : MethodId} {args : Array Value} {below : List Frame} {meth : Method} {c : Code} {X : Ec} {h0 : Hp} {o : Hp} {F : Nat} (C : Cx X p s m args meth c RX15 cX15_init 4 none "<init>") {h : Hp} {x0 : Nat} {t0 : Nat} {t1 : Nat} {H : Heap} {locs : List Loc} (k_x0 : hK h x0 = 15) (k_t0 : hK h t0 = 12) (k_t1 : hK h t1 = 15) (hkl : Kl h0 h) (hW : Wx X h H) (hZ : va_S (aA (eB X)) s.heap H locs) (ls : Array Slot) (hl : lv_has ls 4 [(0, .ref x0)]) (hE : sX15_init_69 F h x0 t0 t1 = some o) : W p l e (rmA 10 222 h0 o) s m args below meth c H locs (hS h - hS h0) (hL h - hL h0) (MQ below (QVA X h0 o) args s (hS o - hS h0) (hL o - hL h0) (aA (eB X))) (F0 m 69 ls [.ref t0, .ref t1]) := by
  obtain ⟨h_1, eh_1, hE⟩ := nm_e2 hE
  refine pf_X15_265 C hW hZ rfl k_t1 k_t0 eh_1 dX15_init_69 (fun _ _ hW km hZ => ?_)
  replace hkl := hkl.tr km.l
  refine x_wc km ?_
  replace k_x0 := km.at k_x0 (by decide)
  refine lv_aload_n C.1 C.2.1 dX15_init_72 rfl (lv_at hl 0 rfl) ?_
  refine lv_iconst (v := (2 : Int32)) C.1 C.2.1 dX15_init_73 (by decide) ?_
  obtain ⟨a_2, ea_2, hE⟩ := nm_e2 hE
  obtain ⟨h_3, eh_3, hE⟩ := nm_e2 hE
  refine y_newa (k := 17) (ty := .int) (t0 := 1) C hW hZ hkl (moX15_init_76 hE) ⟨rfl, rfl⟩ (by decide) (by decide) rfl rfl (by intro C hC; cases hC) hdef_17 m_54 (by decide) (by decide) eh_3 dX15_init_74 (fun _ hW km k_a_2 hZ => ?_)
  replace hkl := hkl.tr km
  refine x_nmA ea_2 ?_
  rw [← ea_2] at k_a_2
  replace k_x0 := km.at k_x0 (by decide)
  exact bX15_init_76 C k_x0 k_a_2 k_x0 hkl hW hZ _ (lv_sub hl [0] rfl) hE
set_option maxRecDepth 20000 in
theorem bX15_init_65 {p : Program} {l : Launch} {e : Env} {s : State} {m : MethodId} {args : Array Value} {below : List Frame} {meth : Method} {c : Code} {X : Ec} {h0 : Hp} {o : Hp} {F : Nat} (C : Cx X p s m args meth c RX15 cX15_init 4 none "<init>") {h : Hp} {x0 : Nat} {t0 : Nat} {t1 : Nat} {H : Heap} {locs : List Loc} (k_x0 : hK h x0 = 15) (k_t0 : hK h t0 = 12) (k_t1 : hK h t1 = 15) (hkl : Kl h0 h) (hW : Wx X h H) (hZ : va_S (aA (eB X)) s.heap H locs) (ls : Array Slot) (hl : lv_has ls 4 [(0, .ref x0)]) (hE : sX15_init_65 F h x0 t0 t1 = some o) : W p l e (rmA 10 222 h0 o) s m args below meth c H locs (hS h - hS h0) (hL h - hL h0) (MQ below (QVA X h0 o) args s (hS o - hS h0) (hL o - hL h0) (aA (eB X))) (F0 m 65 ls [.ref t0, .ref t1]) := by
  refine lv_dup C.1 C.2.1 dX15_init_65 rfl ?_
  obtain ⟨o_1, eo_1, hE⟩ := cl_e hE
  have m1 := moX12_init eo_1
  have m2 := moX15_init_69 hE
  refine x_kVA (o := o_1) hkl (z_runIN (As := []) (rest := [.ref t0, .ref t1]) C (ct_X12_init l X k_t0 eo_1) cj_X15_264 hW hZ rfl hl.1 (Nat.le_of_ble_eq_true rfl) rfl dX15_init_66 ⟨Nat.le_of_ble_eq_true rfl, Nat.le_of_ble_eq_true rfl⟩ (rm_ok hkl m1 m2)) hZ (fun _ _ hW km hZ => ?_)
  replace hkl := hkl.tr km
  replace k_x0 := km.at k_x0 (by decide)
  replace k_t0 := km.at k_t0 (by decide)
  replace k_t1 := km.at k_t1 (by decide)
  exact bX15_init_69 C k_x0 k_t0 k_t1 hkl hW hZ _ (lv_sub hl [0] rfl) hE
set_option maxRecDepth 20000 in
theorem bX15_init_58 {p : Program} {l : Launch} {e : Env} {s : State} {m : MethodId} {args : Array Value} {below : List Frame} {meth : Method} {c : Code} {X : Ec} {h0 : Hp} {o : Hp} {F : Nat} (C : Cx X p s m args meth c RX15 cX15_init 4 none "<init>") {h : Hp} {x0 : Nat} {t0 : Nat} {t1 : Nat} {H : Heap} {locs : List Loc} (k_x0 : hK h x0 = 15) (k_t0 : hK h t0 = 17) (k_t1 : hK h t1 = 15) (hkl : Kl h0 h) (hW : Wx X h H) (hZ : va_S (aA (eB X)) s.heap H locs) (ls : Array Slot) (hl : lv_has ls 4 [(0, .ref x0)]) (hE : sX15_init_58 F h x0 t0 t1 = some o) : W p l e (rmA 10 222 h0 o) s m args below meth c H locs (hS h - hS h0) (hL h - hL h0) (MQ below (QVA X h0 o) args s (hS o - hS h0) (hL o - hL h0) (aA (eB X))) (F0 m 58 ls [.ref t0, .ref t1]) := by
  obtain ⟨h_1, eh_1, hE⟩ := nm_e2 hE
  refine pf_X15_261 C hW hZ rfl k_t1 k_t0 eh_1 dX15_init_58 (fun _ _ hW km hZ => ?_)
  replace hkl := hkl.tr km.l
  refine x_wc km ?_
  replace k_x0 := km.at k_x0 (by decide)
  refine lv_aload_n C.1 C.2.1 dX15_init_61 rfl (lv_at hl 0 rfl) ?_
  obtain ⟨a_2, ea_2, hE⟩ := nm_e2 hE
  obtain ⟨h_3, eh_3, hE⟩ := nm_e2 hE
  refine y_new C hW hZ hkl (moX15_init_65 hE) ⟨rfl, rfl⟩ i_X12 tyX12 tyX12_ok (by decide) rfl rfl dv_X12 m_1901 m_1903 m_21 eh_3 dX15_init_62 (fun _ hW km k_a_2 hZ => ?_)
  replace hkl := hkl.tr km
  refine x_nmA ea_2 ?_
  rw [← ea_2] at k_a_2
  replace k_x0 := km.at k_x0 (by decide)
  exact bX15_init_65 C k_x0 k_a_2 k_x0 hkl hW hZ _ (lv_sub hl [0] rfl) hE
set_option maxRecDepth 20000 in
theorem bX15_init_50 {p : Program} {l : Launch} {e : Env} {s : State} {m : MethodId} {args : Array Value} {below : List Frame} {meth : Method} {c : Code} {X : Ec} {h0 : Hp} {o : Hp} {F : Nat} (C : Cx X p s m args meth c RX15 cX15_init 4 none "<init>") {h : Hp} {x0 : Nat} {t0 : Nat} {t1 : Nat} {H : Heap} {locs : List Loc} (k_x0 : hK h x0 = 15) (k_t0 : hK h t0 = 21) (k_t1 : hK h t1 = 15) (hkl : Kl h0 h) (hW : Wx X h H) (hZ : va_S (aA (eB X)) s.heap H locs) (ls : Array Slot) (hl : lv_has ls 4 [(0, .ref x0)]) (hE : sX15_init_50 F h x0 t0 t1 = some o) : W p l e (rmA 10 222 h0 o) s m args below meth c H locs (hS h - hS h0) (hL h - hL h0) (MQ below (QVA X h0 o) args s (hS o - hS h0) (hL o - hL h0) (aA (eB X))) (F0 m 50 ls [.ref t0, .ref t1]) := by
  obtain ⟨h_1, eh_1, hE⟩ := nm_e2 hE
  refine pf_X15_257 C hW hZ rfl k_t1 k_t0 eh_1 dX15_init_50 (fun _ _ hW km hZ => ?_)
  replace hkl := hkl.tr km.l
  refine x_wc km ?_
  replace k_x0 := km.at k_x0 (by decide)
  refine lv_aload_n C.1 C.2.1 dX15_init_53 rfl (lv_at hl 0 rfl) ?_
  refine lv_bipush (v := (60 : Int32)) C.1 C.2.1 dX15_init_54 (by decide) ?_
  obtain ⟨a_2, ea_2, hE⟩ := nm_e2 hE
  obtain ⟨h_3, eh_3, hE⟩ := nm_e2 hE
  refine y_newa (k := 17) (ty := .int) (t0 := 1) C hW hZ hkl (moX15_init_58 hE) ⟨rfl, rfl⟩ (by decide) (by decide) rfl rfl (by intro C hC; cases hC) hdef_17 m_54 (by decide) (by decide) eh_3 dX15_init_56 (fun _ hW km k_a_2 hZ => ?_)
  replace hkl := hkl.tr km
  refine x_nmA ea_2 ?_
  rw [← ea_2] at k_a_2
  replace k_x0 := km.at k_x0 (by decide)
  exact bX15_init_58 C k_x0 k_a_2 k_x0 hkl hW hZ _ (lv_sub hl [0] rfl) hE
set_option maxRecDepth 20000 in
theorem bX15_init_41 {p : Program} {l : Launch} {e : Env} {s : State} {m : MethodId} {args : Array Value} {below : List Frame} {meth : Method} {c : Code} {X : Ec} {h0 : Hp} {o : Hp} {F : Nat} (C : Cx X p s m args meth c RX15 cX15_init 4 none "<init>") {h : Hp} {x0 : Nat} {t0 : Nat} {t1 : Nat} {H : Heap} {locs : List Loc} (k_x0 : hK h x0 = 15) (k_t0 : hK h t0 = 14) (k_t1 : hK h t1 = 15) (hkl : Kl h0 h) (hW : Wx X h H) (hZ : va_S (aA (eB X)) s.heap H locs) (ls : Array Slot) (hl : lv_has ls 4 [(0, .ref x0)]) (hE : sX15_init_41 F h x0 t0 t1 = some o) : W p l e (rmA 10 222 h0 o) s m args below meth c H locs (hS h - hS h0) (hL h - hL h0) (MQ below (QVA X h0 o) args s (hS o - hS h0) (hL o - hL h0) (aA (eB X))) (F0 m 41 ls [.ref t0, .ref t1]) := by
  obtain ⟨h_1, eh_1, hE⟩ := nm_e2 hE
  refine pf_X15_57 C hW hZ k_t1 k_t0 eh_1 dX15_init_41 (fun _ _ hW km hZ => ?_)
  replace hkl := hkl.tr km.l
  refine x_wc km ?_
  replace k_x0 := km.at k_x0 (by decide)
  refine lv_aload_n C.1 C.2.1 dX15_init_44 rfl (lv_at hl 0 rfl) ?_
  refine lv_bipush (v := (60 : Int32)) C.1 C.2.1 dX15_init_45 (by decide) ?_
  obtain ⟨a_2, ea_2, hE⟩ := nm_e2 hE
  obtain ⟨h_3, eh_3, hE⟩ := nm_e2 hE
  refine y_newq (k := 21) (t0 := 5) C hW hZ hkl (moX15_init_50 hE) ⟨rfl, rfl⟩ (by decide) (by decide) rfl m_1901 C.2.2.2.2.2.2.2.2.2.2.2.2.2.2.1 (by decide) (by decide) eh_3 dX15_init_47 (fun _ hW km k_a_2 hZ => ?_)
  replace hkl := hkl.tr km
  refine x_nmA ea_2 ?_
  rw [← ea_2] at k_a_2
  replace k_x0 := km.at k_x0 (by decide)
  exact bX15_init_50 C k_x0 k_a_2 k_x0 hkl hW hZ _ (lv_sub hl [0] rfl) hE
set_option maxRecDepth 20000 in
theorem bX15_init_37 {p : Program} {l : Launch} {e : Env} {s : State} {m : MethodId} {args : Array Value} {below : List Frame} {meth : Method} {c : Code} {X : Ec} {h0 : Hp} {o : Hp} {F : Nat} (C : Cx X p s m args meth c RX15 cX15_init 4 none "<init>") {h : Hp} {x0 : Nat} {t0 : Nat} {t1 : Nat} {H : Heap} {locs : List Loc} (k_x0 : hK h x0 = 15) (k_t0 : hK h t0 = 14) (k_t1 : hK h t1 = 15) (hkl : Kl h0 h) (hW : Wx X h H) (hZ : va_S (aA (eB X)) s.heap H locs) (ls : Array Slot) (hl : lv_has ls 4 [(0, .ref x0)]) (hE : sX15_init_37 F h x0 t0 t1 = some o) : W p l e (rmA 10 222 h0 o) s m args below meth c H locs (hS h - hS h0) (hL h - hL h0) (MQ below (QVA X h0 o) args s (hS o - hS h0) (hL o - hL h0) (aA (eB X))) (F0 m 37 ls [.ref t0, .ref t1]) := by
  refine lv_dup C.1 C.2.1 dX15_init_37 rfl ?_
  obtain ⟨o_1, eo_1, hE⟩ := cl_e hE
  have m1 := moX14_init eo_1
  have m2 := moX15_init_41 hE
  refine x_kVA (o := o_1) hkl (z_runIN (As := []) (rest := [.ref t0, .ref t1]) C (ct_X14_init l X k_t0 eo_1) cj_X15_251 hW hZ rfl hl.1 (Nat.le_of_ble_eq_true rfl) rfl dX15_init_38 ⟨Nat.le_of_ble_eq_true rfl, Nat.le_of_ble_eq_true rfl⟩ (rm_ok hkl m1 m2)) hZ (fun _ _ hW km hZ => ?_)
  replace hkl := hkl.tr km
  replace k_x0 := km.at k_x0 (by decide)
  replace k_t0 := km.at k_t0 (by decide)
  replace k_t1 := km.at k_t1 (by decide)
  exact bX15_init_41 C k_x0 k_t0 k_t1 hkl hW hZ _ (lv_sub hl [0] rfl) hE
set_option maxRecDepth 20000 in
theorem bX15_init_30 {p : Program} {l : Launch} {e : Env} {s : State} {m : MethodId} {args : Array Value} {below : List Frame} {meth : Method} {c : Code} {X : Ec} {h0 : Hp} {o : Hp} {F : Nat} (C : Cx X p s m args meth c RX15 cX15_init 4 none "<init>") {h : Hp} {x0 : Nat} {t0 : Nat} {t1 : Nat} {H : Heap} {locs : List Loc} (k_x0 : hK h x0 = 15) (k_t0 : hK h t0 = 14) (k_t1 : hK h t1 = 15) (hkl : Kl h0 h) (hW : Wx X h H) (hZ : va_S (aA (eB X)) s.heap H locs) (ls : Array Slot) (hl : lv_has ls 4 [(0, .ref x0)]) (hE : sX15_init_30 F h x0 t0 t1 = some o) : W p l e (rmA 10 222 h0 o) s m args below meth c H locs (hS h - hS h0) (hL h - hL h0) (MQ below (QVA X h0 o) args s (hS o - hS h0) (hL o - hL h0) (aA (eB X))) (F0 m 30 ls [.ref t0, .ref t1]) := by
  obtain ⟨h_1, eh_1, hE⟩ := nm_e2 hE
  refine pf_X15_252 C hW hZ k_t1 k_t0 eh_1 dX15_init_30 (fun _ _ hW km hZ => ?_)
  replace hkl := hkl.tr km.l
  refine x_wc km ?_
  replace k_x0 := km.at k_x0 (by decide)
  refine lv_aload_n C.1 C.2.1 dX15_init_33 rfl (lv_at hl 0 rfl) ?_
  obtain ⟨a_2, ea_2, hE⟩ := nm_e2 hE
  obtain ⟨h_3, eh_3, hE⟩ := nm_e2 hE
  refine y_new C hW hZ hkl (moX15_init_37 hE) ⟨rfl, rfl⟩ i_X14 tyX14 tyX14_ok (by decide) rfl rfl dv_X14 m_1800 m_1801 m_20 eh_3 dX15_init_34 (fun _ hW km k_a_2 hZ => ?_)
  replace hkl := hkl.tr km
  refine x_nmA ea_2 ?_
  rw [← ea_2] at k_a_2
  replace k_x0 := km.at k_x0 (by decide)
  exact bX15_init_37 C k_x0 k_a_2 k_x0 hkl hW hZ _ (lv_sub hl [0] rfl) hE
set_option maxRecDepth 20000 in
theorem bX15_init_26 {p : Program} {l : Launch} {e : Env} {s : State} {m : MethodId} {args : Array Value} {below : List Frame} {meth : Method} {c : Code} {X : Ec} {h0 : Hp} {o : Hp} {F : Nat} (C : Cx X p s m args meth c RX15 cX15_init 4 none "<init>") {h : Hp} {x0 : Nat} {t0 : Nat} {t1 : Nat} {H : Heap} {locs : List Loc} (k_x0 : hK h x0 = 15) (k_t0 : hK h t0 = 14) (k_t1 : hK h t1 = 15) (hkl : Kl h0 h) (hW : Wx X h H) (hZ : va_S (aA (eB X)) s.heap H locs) (ls : Array Slot) (hl : lv_has ls 4 [(0, .ref x0)]) (hE : sX15_init_26 F h x0 t0 t1 = some o) : W p l e (rmA 10 222 h0 o) s m args below meth c H locs (hS h - hS h0) (hL h - hL h0) (MQ below (QVA X h0 o) args s (hS o - hS h0) (hL o - hL h0) (aA (eB X))) (F0 m 26 ls [.ref t0, .ref t1]) := by
  refine lv_dup C.1 C.2.1 dX15_init_26 rfl ?_
  obtain ⟨o_1, eo_1, hE⟩ := cl_e hE
  have m1 := moX14_init eo_1
  have m2 := moX15_init_30 hE
  refine x_kVA (o := o_1) hkl (z_runIN (As := []) (rest := [.ref t0, .ref t1]) C (ct_X14_init l X k_t0 eo_1) cj_X15_251 hW hZ rfl hl.1 (Nat.le_of_ble_eq_true rfl) rfl dX15_init_27 ⟨Nat.le_of_ble_eq_true rfl, Nat.le_of_ble_eq_true rfl⟩ (rm_ok hkl m1 m2)) hZ (fun _ _ hW km hZ => ?_)
  replace hkl := hkl.tr km
  replace k_x0 := km.at k_x0 (by decide)
  replace k_t0 := km.at k_t0 (by decide)
  replace k_t1 := km.at k_t1 (by decide)
  exact bX15_init_30 C k_x0 k_t0 k_t1 hkl hW hZ _ (lv_sub hl [0] rfl) hE
set_option maxRecDepth 20000 in
theorem bX15_init_19 {p : Program} {l : Launch} {e : Env} {s : State} {m : MethodId} {args : Array Value} {below : List Frame} {meth : Method} {c : Code} {X : Ec} {h0 : Hp} {o : Hp} {F : Nat} (C : Cx X p s m args meth c RX15 cX15_init 4 none "<init>") {h : Hp} {x0 : Nat} {t0 : Nat} {t1 : Nat} {H : Heap} {locs : List Loc} (k_x0 : hK h x0 = 15) (k_t0 : hK h t0 = 16) (k_t1 : hK h t1 = 15) (hkl : Kl h0 h) (hW : Wx X h H) (hZ : va_S (aA (eB X)) s.heap H locs) (ls : Array Slot) (hl : lv_has ls 4 [(0, .ref x0)]) (hE : sX15_init_19 F h x0 t0 t1 = some o) : W p l e (rmA 10 222 h0 o) s m args below meth c H locs (hS h - hS h0) (hL h - hL h0) (MQ below (QVA X h0 o) args s (hS o - hS h0) (hL o - hL h0) (aA (eB X))) (F0 m 19 ls [.ref t0, .ref t1]) := by
  obtain ⟨h_1, eh_1, hE⟩ := nm_e2 hE
  refine pf_X15_14 C hW hZ rfl k_t1 k_t0 eh_1 dX15_init_19 (fun _ _ hW km hZ => ?_)
  replace hkl := hkl.tr km.l
  refine x_wc km ?_
  replace k_x0 := km.at k_x0 (by decide)
  refine lv_aload_n C.1 C.2.1 dX15_init_22 rfl (lv_at hl 0 rfl) ?_
  obtain ⟨a_2, ea_2, hE⟩ := nm_e2 hE
  obtain ⟨h_3, eh_3, hE⟩ := nm_e2 hE
  refine y_new C hW hZ hkl (moX15_init_26 hE) ⟨rfl, rfl⟩ i_X14 tyX14 tyX14_ok (by decide) rfl rfl dv_X14 m_1800 m_1801 m_20 eh_3 dX15_init_23 (fun _ hW km k_a_2 hZ => ?_)
  replace hkl := hkl.tr km
  refine x_nmA ea_2 ?_
  rw [← ea_2] at k_a_2
  replace k_x0 := km.at k_x0 (by decide)
  exact bX15_init_26 C k_x0 k_a_2 k_x0 hkl hW hZ _ (lv_sub hl [0] rfl) hE
set_option maxRecDepth 20000 in
theorem bX15_init_10 {p : Program} {l : Launch} {e : Env} {s : State} {m : MethodId} {args : Array Value} {below : List Frame} {meth : Method} {c : Code} {X : Ec} {h0 : Hp} {o : Hp} {F : Nat} (C : Cx X p s m args meth c RX15 cX15_init 4 none "<init>") {h : Hp} {x0 : Nat} {t0 : Nat} {t1 : Nat} {H : Heap} {locs : List Loc} (k_x0 : hK h x0 = 15) (k_t0 : hK h t0 = 16) (k_t1 : hK h t1 = 15) (hkl : Kl h0 h) (hW : Wx X h H) (hZ : va_S (aA (eB X)) s.heap H locs) (ls : Array Slot) (hl : lv_has ls 4 [(0, .ref x0)]) (hE : sX15_init_10 F h x0 t0 t1 = some o) : W p l e (rmA 10 222 h0 o) s m args below meth c H locs (hS h - hS h0) (hL h - hL h0) (MQ below (QVA X h0 o) args s (hS o - hS h0) (hL o - hL h0) (aA (eB X))) (F0 m 10 ls [.ref t0, .ref t1]) := by
  obtain ⟨h_1, eh_1, hE⟩ := nm_e2 hE
  refine pf_X15_7 C hW hZ rfl k_t1 k_t0 eh_1 dX15_init_10 (fun _ _ hW km hZ => ?_)
  replace hkl := hkl.tr km.l
  refine x_wc km ?_
  replace k_x0 := km.at k_x0 (by decide)
  refine lv_aload_n C.1 C.2.1 dX15_init_13 rfl (lv_at hl 0 rfl) ?_
  refine lv_sipush (v := (256 : Int32)) C.1 C.2.1 dX15_init_14 (by decide) ?_
  obtain ⟨a_2, ea_2, hE⟩ := nm_e2 hE
  obtain ⟨h_3, eh_3, hE⟩ := nm_e2 hE
  refine y_newa (k := 16) (ty := .byte) (t0 := 0) C hW hZ hkl (moX15_init_19 hE) ⟨rfl, rfl⟩ (by decide) (by decide) rfl rfl (by intro C hC; cases hC) hdef_16 m_343 (by decide) (by decide) eh_3 dX15_init_17 (fun _ hW km k_a_2 hZ => ?_)
  replace hkl := hkl.tr km
  refine x_nmA ea_2 ?_
  rw [← ea_2] at k_a_2
  replace k_x0 := km.at k_x0 (by decide)
  exact bX15_init_19 C k_x0 k_a_2 k_x0 hkl hW hZ _ (lv_sub hl [0] rfl) hE
set_option maxRecDepth 20000 in
theorem ct_X15_init (l : Launch) (X : Ec) (F : Nat) {h : Hp} {x0 : Nat} {o : Hp} (k_x0 : hK h x0 = 15) (hE : sX15_init F h x0 = some o) : MetVA l yX15_init cX15_init 4 none 10 222 X [.ref x0] h o := by
  refine x_metA (oh := o) (by decide) (Nat.le_of_ble_eq_true rfl) ?_
  intro p e s m below meth c ls C hl hW hZ
  have hl : lv_has ls 4 [(0, .ref x0)] := hl
  have hkl : Kl h h := Kl.rf h
  refine lv_aload_n C.1 C.2.1 dX15_init_0 rfl (lv_at hl 0 rfl) ?_
  refine W.objInit C.1 C.2.1 C.2.2.2.1 (C.2.2.2.2.1 _ m_1799) (C.2.2.2.2.1 _ m_32) (C.2.2.2.2.1 _ m_33) rfl (by rw [C.2.2.1]; exact hl.1) rfl dX15_init_1 (Nat.le_of_ble_eq_true rfl) (Nat.le_of_ble_eq_true rfl) ?_
  refine W.eq (g2 := F0 m 4 ls []) rfl ?_
  refine lv_aload_n C.1 C.2.1 dX15_init_4 rfl (lv_at hl 0 rfl) ?_
  refine lv_sipush (v := (1220 : Int32)) C.1 C.2.1 dX15_init_5 (by decide) ?_
  obtain ⟨a_1, ea_1, hE⟩ := nm_e2 hE
  obtain ⟨h_2, eh_2, hE⟩ := nm_e2 hE
  refine y_newa (k := 16) (ty := .byte) (t0 := 0) C hW hZ hkl (moX15_init_10 hE) ⟨rfl, rfl⟩ (by decide) (by decide) rfl rfl (by intro C hC; cases hC) hdef_16 m_343 (by decide) (by decide) eh_2 dX15_init_8 (fun _ hW km k_a_1 hZ => ?_)
  replace hkl := hkl.tr km
  refine x_nmA ea_1 ?_
  rw [← ea_1] at k_a_1
  replace k_x0 := km.at k_x0 (by decide)
  exact bX15_init_10 C k_x0 k_a_1 k_x0 hkl hW hZ _ (lv_sub hl [0] rfl) hE
