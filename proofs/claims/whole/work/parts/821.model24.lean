set_option maxRecDepth 100000 in
theorem ms_213 : Cond.selects RX15 yX15_stateOf yX15_stateOf ∈ W0 := w0_in (List.mem_append_left _ (List.mem_of_getElem? (i := 213) rfl)) rfl
set_option maxRecDepth 100000 in
theorem m_2817 : Cond.methodLink RX15 760 yX15_stateOf ∈ W0 := w0_in (List.mem_append_right _ (List.mem_of_getElem? (i := 2817) rfl)) rfl
set_option maxRecDepth 100000 in
theorem m_2819 : Cond.instanceMethod yX15_stateOf ∈ W0 := w0_in (List.mem_append_right _ (List.mem_of_getElem? (i := 2819) rfl)) rfl
set_option maxRecDepth 100000 in
theorem m_2820 : Cond.code yX15_stateOf cX15_stateOf 7 (some .int) ∈ W0 := w0_in (List.mem_append_right _ (List.mem_of_getElem? (i := 2820) rfl)) rfl
section
variable {p : Program} {l : Launch} {e : Env} {R : Room} {s : State} {m : MethodId} {args : Array Value} {below : List Frame} {meth : Method} {c : Code} {H : Heap} {locs : List Loc} {cells slots : Nat} {Q : State → Prop}
variable {cc : ByteArray} {pc : Nat} {ls : Array Slot} {rest : List Value} {X : Ec} {h h1 : Hp} {nL : Nat} {rt : Option FieldType} {mn : String}
theorem gf_X15_368 {a r : Nat} (C : Cx X p s m args meth c RX15 cc nL rt mn) (hW : Wx X h H) (ha : hK h a = 15) (hr : hR h a 61 = some r) (hdg : decode cc pc = .ok (.getfield 368, 3)) (kk : hK h r = 17 → W p l e R s m args below meth c H locs cells slots Q (F0 m (pc + 3) ls (.ref r :: rest))) : W p l e R s m args below meth c H locs cells slots Q (F0 m pc ls (.ref a :: rest)) :=
  y_getr C hW ha i_X15 (by decide) rfl (by decide) m_2172 rfl rfl hr hdg kk
end
theorem cw_X15_760 : cwd RX15 760 yX15_stateOf cX15_stateOf 7 (some .int) false 2 := ⟨m_2820, m_2817, m_19, ⟨m_2819, ms_213⟩, by decide, by decide, by decide +kernel⟩
theorem dX15_stateBehind_0 : decode cX15_stateBehind 0 = .ok (.iconst 0, 1) := by decide +kernel
theorem dX15_stateBehind_1 : decode cX15_stateBehind 1 = .ok (.istore 6, 2) := by decide +kernel
theorem dX15_stateBehind_3 : decode cX15_stateBehind 3 = .ok (.iconst 0, 1) := by decide +kernel
theorem dX15_stateBehind_4 : decode cX15_stateBehind 4 = .ok (.istore 7, 2) := by decide +kernel
theorem dX15_stateBehind_6 : decode cX15_stateBehind 6 = .ok (.iload 7, 2) := by decide +kernel
theorem dX15_stateBehind_8 : decode cX15_stateBehind 8 = .ok (.aload_n 0, 1) := by decide +kernel
theorem dX15_stateBehind_9 : decode cX15_stateBehind 9 = .ok (.getfield 333, 3) := by decide +kernel
theorem dX15_stateBehind_12 : decode cX15_stateBehind 12 = .ok (.iload_n 1, 1) := by decide +kernel
theorem dX15_stateBehind_13 : decode cX15_stateBehind 13 = .ok (.iaload, 1) := by decide +kernel
theorem dX15_stateBehind_14 : decode cX15_stateBehind 14 = .ok (.if_icmp .ge 82, 3) := by decide +kernel
theorem dX15_stateBehind_17 : decode cX15_stateBehind 17 = .ok (.iload 7, 2) := by decide +kernel
theorem dX15_stateBehind_19 : decode cX15_stateBehind 19 = .ok (.iload_n 2, 1) := by decide +kernel
theorem dX15_stateBehind_20 : decode cX15_stateBehind 20 = .ok (.if_icmp .eq 14, 3) := by decide +kernel
theorem dX15_stateBehind_23 : decode cX15_stateBehind 23 = .ok (.aload_n 0, 1) := by decide +kernel
theorem dX15_stateBehind_24 : decode cX15_stateBehind 24 = .ok (.getfield 368, 3) := by decide +kernel
theorem dX15_stateBehind_27 : decode cX15_stateBehind 27 = .ok (.iload 7, 2) := by decide +kernel
theorem dX15_stateBehind_29 : decode cX15_stateBehind 29 = .ok (.iaload, 1) := by decide +kernel
theorem dX15_stateBehind_30 : decode cX15_stateBehind 30 = .ok (.iload_n 3, 1) := by decide +kernel
theorem dX15_stateBehind_31 : decode cX15_stateBehind 31 = .ok (.if_icmp .eq 59, 3) := by decide +kernel
theorem dX15_stateBehind_34 : decode cX15_stateBehind 34 = .ok (.aload_n 0, 1) := by decide +kernel
theorem dX15_stateBehind_35 : decode cX15_stateBehind 35 = .ok (.getfield 359, 3) := by decide +kernel
theorem dX15_stateBehind_38 : decode cX15_stateBehind 38 = .ok (.iload 6, 2) := by decide +kernel
theorem dX15_stateBehind_40 : decode cX15_stateBehind 40 = .ok (.iload 7, 2) := by decide +kernel
theorem dX15_stateBehind_42 : decode cX15_stateBehind 42 = .ok (.iload_n 2, 1) := by decide +kernel
theorem dX15_stateBehind_43 : decode cX15_stateBehind 43 = .ok (.if_icmp .ne 8, 3) := by decide +kernel
theorem dX15_stateBehind_46 : decode cX15_stateBehind 46 = .ok (.iload 4, 2) := by decide +kernel
theorem dX15_stateBehind_48 : decode cX15_stateBehind 48 = .ok (.goto 14, 3) := by decide +kernel
theorem dX15_stateBehind_51 : decode cX15_stateBehind 51 = .ok (.aload_n 0, 1) := by decide +kernel
theorem dX15_stateBehind_52 : decode cX15_stateBehind 52 = .ok (.getfield 336, 3) := by decide +kernel
theorem dX15_stateBehind_55 : decode cX15_stateBehind 55 = .ok (.iconst 5, 1) := by decide +kernel
theorem dX15_stateBehind_56 : decode cX15_stateBehind 56 = .ok (.iload_n 1, 1) := by decide +kernel
theorem dX15_stateBehind_57 : decode cX15_stateBehind 57 = .ok (.imul, 1) := by decide +kernel
theorem dX15_stateBehind_58 : decode cX15_stateBehind 58 = .ok (.iload 7, 2) := by decide +kernel
theorem dX15_stateBehind_60 : decode cX15_stateBehind 60 = .ok (.iadd, 1) := by decide +kernel
theorem dX15_stateBehind_61 : decode cX15_stateBehind 61 = .ok (.iaload, 1) := by decide +kernel
theorem dX15_stateBehind_62 : decode cX15_stateBehind 62 = .ok (.iastore, 1) := by decide +kernel
theorem dX15_stateBehind_63 : decode cX15_stateBehind 63 = .ok (.aload_n 0, 1) := by decide +kernel
theorem dX15_stateBehind_64 : decode cX15_stateBehind 64 = .ok (.getfield 362, 3) := by decide +kernel
theorem dX15_stateBehind_67 : decode cX15_stateBehind 67 = .ok (.iload 6, 2) := by decide +kernel
theorem dX15_stateBehind_69 : decode cX15_stateBehind 69 = .ok (.iload 7, 2) := by decide +kernel
theorem dX15_stateBehind_71 : decode cX15_stateBehind 71 = .ok (.iload_n 2, 1) := by decide +kernel
theorem dX15_stateBehind_72 : decode cX15_stateBehind 72 = .ok (.if_icmp .ne 7, 3) := by decide +kernel
theorem dX15_stateBehind_75 : decode cX15_stateBehind 75 = .ok (.iload_n 3, 1) := by decide +kernel
theorem dX15_stateBehind_76 : decode cX15_stateBehind 76 = .ok (.goto 10, 3) := by decide +kernel
theorem dX15_stateBehind_79 : decode cX15_stateBehind 79 = .ok (.aload_n 0, 1) := by decide +kernel
theorem dX15_stateBehind_80 : decode cX15_stateBehind 80 = .ok (.getfield 368, 3) := by decide +kernel
theorem dX15_stateBehind_83 : decode cX15_stateBehind 83 = .ok (.iload 7, 2) := by decide +kernel
theorem dX15_stateBehind_85 : decode cX15_stateBehind 85 = .ok (.iaload, 1) := by decide +kernel
theorem dX15_stateBehind_86 : decode cX15_stateBehind 86 = .ok (.iastore, 1) := by decide +kernel
theorem dX15_stateBehind_87 : decode cX15_stateBehind 87 = .ok (.iinc 6 1, 3) := by decide +kernel
theorem dX15_stateBehind_90 : decode cX15_stateBehind 90 = .ok (.iinc 7 1, 3) := by decide +kernel
theorem dX15_stateBehind_93 : decode cX15_stateBehind 93 = .ok (.goto (-87), 3) := by decide +kernel
theorem dX15_stateBehind_96 : decode cX15_stateBehind 96 = .ok (.aload_n 0, 1) := by decide +kernel
theorem dX15_stateBehind_97 : decode cX15_stateBehind 97 = .ok (.iload 6, 2) := by decide +kernel
theorem dX15_stateBehind_99 : decode cX15_stateBehind 99 = .ok (.iconst 1, 1) := by decide +kernel
theorem dX15_stateBehind_100 : decode cX15_stateBehind 100 = .ok (.iload 5, 2) := by decide +kernel
theorem dX15_stateBehind_102 : decode cX15_stateBehind 102 = .ok (.isub, 1) := by decide +kernel
theorem dX15_stateBehind_103 : decode cX15_stateBehind 103 = .ok (.invokevirtual 760, 3) := by decide +kernel
theorem dX15_stateBehind_106 : decode cX15_stateBehind 106 = .ok (.ireturn, 1) := by decide +kernel
set_option maxRecDepth 20000 in
theorem moX15_stateBehind_90 {o : Int32 × Hp} {k_6 : Hp → Nat → Int32 → Int32 → Int32 → Int32 → Int32 → Int32 → Int32 → Option (Int32 × Hp)} {F : Nat} (mk_6 : ∀ (h : Hp) (x0 : Nat) (x1 : Int32) (x2 : Int32) (x3 : Int32) (x4 : Int32) (x5 : Int32) (x6 : Int32) (x7 : Int32), k_6 h x0 x1 x2 x3 x4 x5 x6 x7 = some o → Le h o.2) {h : Hp} {x0 : Nat} {x1 : Int32} {x2 : Int32} {x3 : Int32} {x4 : Int32} {x5 : Int32} {x6 : Int32} {x7 : Int32} (hE : sX15_stateBehind_90 F k_6 h x0 x1 x2 x3 x4 x5 x6 x7 = some o) : Le h o.2 := by
  obtain ⟨v_1, ev_1, hE⟩ := nm_e2 hE
  exact mk_6 _ _ _ _ _ _ _ _ _ hE
set_option maxRecDepth 20000 in
theorem moX15_stateBehind_86 {o : Int32 × Hp} {k_6 : Hp → Nat → Int32 → Int32 → Int32 → Int32 → Int32 → Int32 → Int32 → Option (Int32 × Hp)} {F : Nat} (mk_6 : ∀ (h : Hp) (x0 : Nat) (x1 : Int32) (x2 : Int32) (x3 : Int32) (x4 : Int32) (x5 : Int32) (x6 : Int32) (x7 : Int32), k_6 h x0 x1 x2 x3 x4 x5 x6 x7 = some o → Le h o.2) {h : Hp} {x0 : Nat} {x1 : Int32} {x2 : Int32} {x3 : Int32} {x4 : Int32} {x5 : Int32} {x6 : Int32} {x7 : Int32} {t0 : Int32} {t1 : Int32} {t2 : Nat} (hE : sX15_stateBehind_86 F k_6 h x0 x1 x2 x3 x4 x5 x6 x7 t0 t1 t2 = some o) : Le h o.2 := by
  obtain ⟨g_1, hE⟩ := gd_e hE
  obtain ⟨h_2, eh_2, hE⟩ := nm_e2 hE
  refine (le_I eh_2).tr ?_
  obtain ⟨v_3, ev_3, hE⟩ := nm_e2 hE
  exact moX15_stateBehind_90 mk_6 hE
set_option maxRecDepth 20000 in
theorem moX15_stateBehind_62 {o : Int32 × Hp} {k_6 : Hp → Nat → Int32 → Int32 → Int32 → Int32 → Int32 → Int32 → Int32 → Option (Int32 × Hp)} {F : Nat} (mk_6 : ∀ (h : Hp) (x0 : Nat) (x1 : Int32) (x2 : Int32) (x3 : Int32) (x4 : Int32) (x5 : Int32) (x6 : Int32) (x7 : Int32), k_6 h x0 x1 x2 x3 x4 x5 x6 x7 = some o → Le h o.2) {h : Hp} {x0 : Nat} {x1 : Int32} {x2 : Int32} {x3 : Int32} {x4 : Int32} {x5 : Int32} {x6 : Int32} {x7 : Int32} {t0 : Int32} {t1 : Int32} {t2 : Nat} (hE : sX15_stateBehind_62 F k_6 h x0 x1 x2 x3 x4 x5 x6 x7 t0 t1 t2 = some o) : Le h o.2 := by
  obtain ⟨g_1, hE⟩ := gd_e hE
  obtain ⟨h_2, eh_2, hE⟩ := nm_e2 hE
  refine (le_I eh_2).tr ?_
  obtain ⟨r_3, er_3, hE⟩ := cl_e hE
  rcases br_e hE with ⟨_, hE⟩ | ⟨_, hE⟩
  · exact moX15_stateBehind_86 mk_6 hE
  · obtain ⟨r_5, er_5, hE⟩ := cl_e hE
    obtain ⟨g_6, hE⟩ := gd_e hE
    exact moX15_stateBehind_86 mk_6 hE
set_option maxRecDepth 20000 in
theorem moX15_stateBehind_34 {o : Int32 × Hp} {k_6 : Hp → Nat → Int32 → Int32 → Int32 → Int32 → Int32 → Int32 → Int32 → Option (Int32 × Hp)} {F : Nat} (mk_6 : ∀ (h : Hp) (x0 : Nat) (x1 : Int32) (x2 : Int32) (x3 : Int32) (x4 : Int32) (x5 : Int32) (x6 : Int32) (x7 : Int32), k_6 h x0 x1 x2 x3 x4 x5 x6 x7 = some o → Le h o.2) {h : Hp} {x0 : Nat} {x1 : Int32} {x2 : Int32} {x3 : Int32} {x4 : Int32} {x5 : Int32} {x6 : Int32} {x7 : Int32} (hE : sX15_stateBehind_34 F k_6 h x0 x1 x2 x3 x4 x5 x6 x7 = some o) : Le h o.2 := by
  obtain ⟨r_1, er_1, hE⟩ := cl_e hE
  rcases br_e hE with ⟨_, hE⟩ | ⟨_, hE⟩
  · exact moX15_stateBehind_62 mk_6 hE
  · obtain ⟨r_3, er_3, hE⟩ := cl_e hE
    obtain ⟨g_4, hE⟩ := gd_e hE
    exact moX15_stateBehind_62 mk_6 hE
set_option maxRecDepth 20000 in
theorem moX15_stateBehind_6 {o : Int32 × Hp} {F : Nat} : ∀ (f : Nat) {h : Hp} {x0 : Nat} {x1 : Int32} {x2 : Int32} {x3 : Int32} {x4 : Int32} {x5 : Int32} {x6 : Int32} {x7 : Int32}, sX15_stateBehind_6 F f h x0 x1 x2 x3 x4 x5 x6 x7 = some o → Le h o.2 := by
  intro f
  induction f with
  | zero =>
    intro h x0 x1 x2 x3 x4 x5 x6 x7 hE
    rw [sX15_stateBehind_6] at hE
    cases hE
  | succ f ih =>
    intro h x0 x1 x2 x3 x4 x5 x6 x7 hE
    rw [sX15_stateBehind_6] at hE
    have mk_6 : ∀ (h : Hp) (x0 : Nat) (x1 : Int32) (x2 : Int32) (x3 : Int32) (x4 : Int32) (x5 : Int32) (x6 : Int32) (x7 : Int32), sX15_stateBehind_6 F f h x0 x1 x2 x3 x4 x5 x6 x7 = some o → Le h o.2 := fun h x0 x1 x2 x3 x4 x5 x6 x7 hE => ih hE
    obtain ⟨r_1, er_1, hE⟩ := cl_e hE
    obtain ⟨g_2, hE⟩ := gd_e hE
    rcases br_e hE with ⟨_, hE⟩ | ⟨_, hE⟩
    · obtain ⟨o_4, eo_4, hE⟩ := cl_e hE
      refine (moX15_stateOf eo_4).tr ?_
      exact le_some2 hE
    · rcases br_e hE with ⟨_, hE⟩ | ⟨_, hE⟩
      · exact moX15_stateBehind_34 mk_6 hE
      · obtain ⟨r_6, er_6, hE⟩ := cl_e hE
        obtain ⟨g_7, hE⟩ := gd_e hE
        rcases br_e hE with ⟨_, hE⟩ | ⟨_, hE⟩
        · exact moX15_stateBehind_90 mk_6 hE
        · exact moX15_stateBehind_34 mk_6 hE
set_option maxRecDepth 20000 in
theorem moX15_stateBehind {o : Int32 × Hp} {F : Nat} {h : Hp} {x0 : Nat} {x1 : Int32} {x2 : Int32} {x3 : Int32} {x4 : Int32} {x5 : Int32} (hE : sX15_stateBehind F h x0 x1 x2 x3 x4 x5 = some o) : Le h o.2 := by
  exact moX15_stateBehind_6 _ hE
set_option maxRecDepth 20000 in
theorem bX15_stateBehind_90 {p : Program} {l : Launch} {e : Env} {s : State} {m : MethodId} {args : Array Value} {below : List Frame} {meth : Method} {c : Code} {X : Ec} {h0 : Hp} {o : Int32 × Hp} {k_6 : Hp → Nat → Int32 → Int32 → Int32 → Int32 → Int32 → Int32 → Int32 → Option (Int32 × Hp)} {F : Nat} (C : Cx X p s m args meth c RX15 cX15_stateBehind 8 (some .int) "stateBehind") (hk_6 : ∀ (h : Hp) (x0 : Nat) (x1 : Int32) (x2 : Int32) (x3 : Int32) (x4 : Int32) (x5 : Int32) (x6 : Int32) (x7 : Int32) (H : Heap) (locs : List Loc), hK h x0 = 15 → Km h0 h → Wx X h H → va_S (aA (eB X)) s.heap H locs → ∀ (ls : Array Slot), lv_has ls 8 [(0, .ref x0), (1, .int x1), (2, .int x2), (3, .int x3), (4, .int x4), (5, .int x5), (6, .int x6), (7, .int x7)] → k_6 h x0 x1 x2 x3 x4 x5 x6 x7 = some o → W p l e (rm 3 71) s m args below meth c H locs 0 0 (MQ below (QI X h0 o.1 o.2) args s 0 0 (aA (eB X))) (F0 m 6 ls [])) {h : Hp} {x0 : Nat} {x1 : Int32} {x2 : Int32} {x3 : Int32} {x4 : Int32} {x5 : Int32} {x6 : Int32} {x7 : Int32} {H : Heap} {locs : List Loc} (k_x0 : hK h x0 = 15) (hkm : Km h0 h) (hW : Wx X h H) (hZ : va_S (aA (eB X)) s.heap H locs) (ls : Array Slot) (hl : lv_has ls 8 [(0, .ref x0), (1, .int x1), (2, .int x2), (3, .int x3), (4, .int x4), (5, .int x5), (6, .int x6), (7, .int x7)]) (hE : sX15_stateBehind_90 F k_6 h x0 x1 x2 x3 x4 x5 x6 x7 = some o) : W p l e (rm 3 71) s m args below meth c H locs 0 0 (MQ below (QI X h0 o.1 o.2) args s 0 0 (aA (eB X))) (F0 m 90 ls []) := by
  obtain ⟨v_1, ev_1, hE⟩ := nm_e2 hE
  refine lv_iinc (v := v_1) (lv' := [(7, .int v_1), (0, .ref x0), (1, .int x1), (2, .int x2), (3, .int x3), (4, .int x4), (5, .int x5), (6, .int x6)]) C.1 C.2.1 dX15_stateBehind_90 hl (k := 7) rfl (by rw [ev_1]; rfl) (by decide) rfl (fun ls hl => ?_)
  refine lv_goto (tgt := 6) C.1 C.2.1 dX15_stateBehind_93 (by decide) ?_
  exact hk_6 _ _ _ _ _ _ _ _ _ _ _ k_x0 hkm hW hZ _ (lv_sub hl [1, 2, 3, 4, 5, 6, 7, 0] rfl) hE
set_option maxRecDepth 20000 in
theorem bX15_stateBehind_86 {p : Program} {l : Launch} {e : Env} {s : State} {m : MethodId} {args : Array Value} {below : List Frame} {meth : Method} {c : Code} {X : Ec} {h0 : Hp} {o : Int32 × Hp} {k_6 : Hp → Nat → Int32 → Int32 → Int32 → Int32 → Int32 → Int32 → Int32 → Option (Int32 × Hp)} {F : Nat} (C : Cx X p s m args meth c RX15 cX15_stateBehind 8 (some .int) "stateBehind") (hk_6 : ∀ (h : Hp) (x0 : Nat) (x1 : Int32) (x2 : Int32) (x3 : Int32) (x4 : Int32) (x5 : Int32) (x6 : Int32) (x7 : Int32) (H : Heap) (locs : List Loc), hK h x0 = 15 → Km h0 h → Wx X h H → va_S (aA (eB X)) s.heap H locs → ∀ (ls : Array Slot), lv_has ls 8 [(0, .ref x0), (1, .int x1), (2, .int x2), (3, .int x3), (4, .int x4), (5, .int x5), (6, .int x6), (7, .int x7)] → k_6 h x0 x1 x2 x3 x4 x5 x6 x7 = some o → W p l e (rm 3 71) s m args below meth c H locs 0 0 (MQ below (QI X h0 o.1 o.2) args s 0 0 (aA (eB X))) (F0 m 6 ls [])) {h : Hp} {x0 : Nat} {x1 : Int32} {x2 : Int32} {x3 : Int32} {x4 : Int32} {x5 : Int32} {x6 : Int32} {x7 : Int32} {t0 : Int32} {t1 : Int32} {t2 : Nat} {H : Heap} {locs : List Loc} (k_x0 : hK h x0 = 15) (k_t2 : hK h t2 = 17) (hkm : Km h0 h) (hW : Wx X h H) (hZ : va_S (aA (eB X)) s.heap H locs) (ls : Array Slot) (hl : lv_has ls 8 [(0, .ref x0), (1, .int x1), (2, .int x2), (3, .int x3), (4, .int x4), (5, .int x5), (6, .int x6), (7, .int x7)]) (hE : sX15_stateBehind_86 F k_6 h x0 x1 x2 x3 x4 x5 x6 x7 t0 t1 t2 = some o) : W p l e (rm 3 71) s m args below meth c H locs 0 0 (MQ below (QI X h0 o.1 o.2) args s 0 0 (aA (eB X))) (F0 m 86 ls [.int t0, .int t1, .ref t2]) := by
  obtain ⟨g_1, hE⟩ := gd_e hE
  obtain ⟨h_2, eh_2, hE⟩ := nm_e2 hE
  refine y_iast C hW hZ k_t2 g_1 eh_2 dX15_stateBehind_86 (fun _ _ hW km hZ => ?_)
  replace hkm := hkm.tr km
  replace k_x0 := km.at k_x0 (by decide)
  obtain ⟨v_3, ev_3, hE⟩ := nm_e2 hE
  refine lv_iinc (v := v_3) (lv' := [(6, .int v_3), (0, .ref x0), (1, .int x1), (2, .int x2), (3, .int x3), (4, .int x4), (5, .int x5), (7, .int x7)]) C.1 C.2.1 dX15_stateBehind_87 hl (k := 6) rfl (by rw [ev_3]; rfl) (by decide) rfl (fun ls hl => ?_)
  exact bX15_stateBehind_90 C hk_6 k_x0 hkm hW hZ _ (lv_sub hl [1, 2, 3, 4, 5, 6, 0, 7] rfl) hE
set_option maxRecDepth 20000 in
theorem bX15_stateBehind_62 {p : Program} {l : Launch} {e : Env} {s : State} {m : MethodId} {args : Array Value} {below : List Frame} {meth : Method} {c : Code} {X : Ec} {h0 : Hp} {o : Int32 × Hp} {k_6 : Hp → Nat → Int32 → Int32 → Int32 → Int32 → Int32 → Int32 → Int32 → Option (Int32 × Hp)} {F : Nat} (C : Cx X p s m args meth c RX15 cX15_stateBehind 8 (some .int) "stateBehind") (hk_6 : ∀ (h : Hp) (x0 : Nat) (x1 : Int32) (x2 : Int32) (x3 : Int32) (x4 : Int32) (x5 : Int32) (x6 : Int32) (x7 : Int32) (H : Heap) (locs : List Loc), hK h x0 = 15 → Km h0 h → Wx X h H → va_S (aA (eB X)) s.heap H locs → ∀ (ls : Array Slot), lv_has ls 8 [(0, .ref x0), (1, .int x1), (2, .int x2), (3, .int x3), (4, .int x4), (5, .int x5), (6, .int x6), (7, .int x7)] → k_6 h x0 x1 x2 x3 x4 x5 x6 x7 = some o → W p l e (rm 3 71) s m args below meth c H locs 0 0 (MQ below (QI X h0 o.1 o.2) args s 0 0 (aA (eB X))) (F0 m 6 ls [])) {h : Hp} {x0 : Nat} {x1 : Int32} {x2 : Int32} {x3 : Int32} {x4 : Int32} {x5 : Int32} {x6 : Int32} {x7 : Int32} {t0 : Int32} {t1 : Int32} {t2 : Nat} {H : Heap} {locs : List Loc} (k_x0 : hK h x0 = 15) (k_t2 : hK h t2 = 17) (hkm : Km h0 h) (hW : Wx X h H) (hZ : va_S (aA (eB X)) s.heap H locs) (ls : Array Slot) (hl : lv_has ls 8 [(0, .ref x0), (1, .int x1), (2, .int x2), (3, .int x3), (4, .int x4), (5, .int x5), (6, .int x6), (7, .int x7)]) (hE : sX15_stateBehind_62 F k_6 h x0 x1 x2 x3 x4 x5 x6 x7 t0 t1 t2 = some o) : W p l e (rm 3 71) s m args below meth c H locs 0 0 (MQ below (QI X h0 o.1 o.2) args s 0 0 (aA (eB X))) (F0 m 62 ls [.int t0, .int t1, .ref t2]) := by
  obtain ⟨g_1, hE⟩ := gd_e hE
  obtain ⟨h_2, eh_2, hE⟩ := nm_e2 hE
  refine y_iast C hW hZ k_t2 g_1 eh_2 dX15_stateBehind_62 (fun _ _ hW km hZ => ?_)
  replace hkm := hkm.tr km
  replace k_x0 := km.at k_x0 (by decide)
  refine lv_aload_n C.1 C.2.1 dX15_stateBehind_63 rfl (lv_at hl 0 rfl) ?_
  obtain ⟨r_3, er_3, hE⟩ := cl_e hE
  refine gf_X15_362 C hW k_x0 er_3 dX15_stateBehind_64 (fun k_r_3 => ?_)
  refine lv_iload C.1 C.2.1 dX15_stateBehind_67 (lv_at hl 6 rfl) ?_
  refine lv_iload C.1 C.2.1 dX15_stateBehind_69 (lv_at hl 7 rfl) ?_
  refine lv_iload_n C.1 C.2.1 dX15_stateBehind_71 rfl (lv_at hl 2 rfl) ?_
  refine lv_icmp_ne (tgt := 79) C.1 C.2.1 dX15_stateBehind_72 (by decide) (fun c_4 => ?_) (fun c_4 => ?_)
  · have hE := br_n hE c_4
    refine lv_aload_n C.1 C.2.1 dX15_stateBehind_79 rfl (lv_at hl 0 rfl) ?_
    obtain ⟨r_5, er_5, hE⟩ := cl_e hE
    refine gf_X15_368 C hW k_x0 er_5 dX15_stateBehind_80 (fun k_r_5 => ?_)
    refine lv_iload C.1 C.2.1 dX15_stateBehind_83 (lv_at hl 7 rfl) ?_
    obtain ⟨g_6, hE⟩ := gd_e hE
    refine y_iald C hW k_r_5 g_6 dX15_stateBehind_85 ?_
    exact bX15_stateBehind_86 C hk_6 k_x0 k_r_3 hkm hW hZ _ (lv_sub hl [0, 1, 2, 3, 4, 5, 6, 7] rfl) hE
  · have hE := br_p hE c_4
    refine lv_iload_n C.1 C.2.1 dX15_stateBehind_75 rfl (lv_at hl 3 rfl) ?_
    refine lv_goto (tgt := 86) C.1 C.2.1 dX15_stateBehind_76 (by decide) ?_
    exact bX15_stateBehind_86 C hk_6 k_x0 k_r_3 hkm hW hZ _ (lv_sub hl [0, 1, 2, 3, 4, 5, 6, 7] rfl) hE
set_option maxRecDepth 20000 in
theorem bX15_stateBehind_34 {p : Program} {l : Launch} {e : Env} {s : State} {m : MethodId} {args : Array Value} {below : List Frame} {meth : Method} {c : Code} {X : Ec} {h0 : Hp} {o : Int32 × Hp} {k_6 : Hp → Nat → Int32 → Int32 → Int32 → Int32 → Int32 → Int32 → Int32 → Option (Int32 × Hp)} {F : Nat} (C : Cx X p s m args meth c RX15 cX15_stateBehind 8 (some .int) "stateBehind") (hk_6 : ∀ (h : Hp) (x0 : Nat) (x1 : Int32) (x2 : Int32) (x3 : Int32) (x4 : Int32) (x5 : Int32) (x6 : Int32) (x7 : Int32) (H : Heap) (locs : List Loc), hK h x0 = 15 → Km h0 h → Wx X h H → va_S (aA (eB X)) s.heap H locs → ∀ (ls : Array Slot), lv_has ls 8 [(0, .ref x0), (1, .int x1), (2, .int x2), (3, .int x3), (4, .int x4), (5, .int x5), (6, .int x6), (7, .int x7)] → k_6 h x0 x1 x2 x3 x4 x5 x6 x7 = some o → W p l e (rm 3 71) s m args below meth c H locs 0 0 (MQ below (QI X h0 o.1 o.2) args s 0 0 (aA (eB X))) (F0 m 6 ls [])) {h : Hp} {x0 : Nat} {x1 : Int32} {x2 : Int32} {x3 : Int32} {x4 : Int32} {x5 : Int32} {x6 : Int32} {x7 : Int32} {H : Heap} {locs : List Loc} (k_x0 : hK h x0 = 15) (hkm : Km h0 h) (hW : Wx X h H) (hZ : va_S (aA (eB X)) s.heap H locs) (ls : Array Slot) (hl : lv_has ls 8 [(0, .ref x0), (1, .int x1), (2, .int x2), (3, .int x3), (4, .int x4), (5, .int x5), (6, .int x6), (7, .int x7)]) (hE : sX15_stateBehind_34 F k_6 h x0 x1 x2 x3 x4 x5 x6 x7 = some o) : W p l e (rm 3 71) s m args below meth c H locs 0 0 (MQ below (QI X h0 o.1 o.2) args s 0 0 (aA (eB X))) (F0 m 34 ls []) := by
  refine lv_aload_n C.1 C.2.1 dX15_stateBehind_34 rfl (lv_at hl 0 rfl) ?_
  obtain ⟨r_1, er_1, hE⟩ := cl_e hE
  refine gf_X15_359 C hW k_x0 er_1 dX15_stateBehind_35 (fun k_r_1 => ?_)
  refine lv_iload C.1 C.2.1 dX15_stateBehind_38 (lv_at hl 6 rfl) ?_
  refine lv_iload C.1 C.2.1 dX15_stateBehind_40 (lv_at hl 7 rfl) ?_
  refine lv_iload_n C.1 C.2.1 dX15_stateBehind_42 rfl (lv_at hl 2 rfl) ?_
  refine lv_icmp_ne (tgt := 51) C.1 C.2.1 dX15_stateBehind_43 (by decide) (fun c_2 => ?_) (fun c_2 => ?_)
  · have hE := br_n hE c_2
    refine lv_aload_n C.1 C.2.1 dX15_stateBehind_51 rfl (lv_at hl 0 rfl) ?_
    obtain ⟨r_3, er_3, hE⟩ := cl_e hE
    refine gf_X15_336 C hW k_x0 er_3 dX15_stateBehind_52 (fun k_r_3 => ?_)
    refine lv_iconst (v := (5 : Int32)) C.1 C.2.1 dX15_stateBehind_55 (by decide) ?_
    refine lv_iload_n C.1 C.2.1 dX15_stateBehind_56 rfl (lv_at hl 1 rfl) ?_
    refine lv_imul C.1 C.2.1 dX15_stateBehind_57 ?_
    refine lv_iload C.1 C.2.1 dX15_stateBehind_58 (lv_at hl 7 rfl) ?_
    refine lv_iadd C.1 C.2.1 dX15_stateBehind_60 ?_
    obtain ⟨g_4, hE⟩ := gd_e hE
    refine y_iald C hW k_r_3 g_4 dX15_stateBehind_61 ?_
    exact bX15_stateBehind_62 C hk_6 k_x0 k_r_1 hkm hW hZ _ (lv_sub hl [0, 1, 2, 3, 4, 5, 6, 7] rfl) hE
  · have hE := br_p hE c_2
    refine lv_iload C.1 C.2.1 dX15_stateBehind_46 (lv_at hl 4 rfl) ?_
    refine lv_goto (tgt := 62) C.1 C.2.1 dX15_stateBehind_48 (by decide) ?_
    exact bX15_stateBehind_62 C hk_6 k_x0 k_r_1 hkm hW hZ _ (lv_sub hl [0, 1, 2, 3, 4, 5, 6, 7] rfl) hE
set_option maxRecDepth 20000 in
theorem bX15_stateBehind_6 {p : Program} {l : Launch} {e : Env} {s : State} {m : MethodId} {args : Array Value} {below : List Frame} {meth : Method} {c : Code} {X : Ec} {h0 : Hp} {o : Int32 × Hp} {F : Nat} (C : Cx X p s m args meth c RX15 cX15_stateBehind 8 (some .int) "stateBehind") : ∀ (f : Nat) {h : Hp} {x0 : Nat} {x1 : Int32} {x2 : Int32} {x3 : Int32} {x4 : Int32} {x5 : Int32} {x6 : Int32} {x7 : Int32} {H : Heap} {locs : List Loc} (k_x0 : hK h x0 = 15), Km h0 h → Wx X h H → va_S (aA (eB X)) s.heap H locs → ∀ (ls : Array Slot), lv_has ls 8 [(0, .ref x0), (1, .int x1), (2, .int x2), (3, .int x3), (4, .int x4), (5, .int x5), (6, .int x6), (7, .int x7)] → sX15_stateBehind_6 F f h x0 x1 x2 x3 x4 x5 x6 x7 = some o → W p l e (rm 3 71) s m args below meth c H locs 0 0 (MQ below (QI X h0 o.1 o.2) args s 0 0 (aA (eB X))) (F0 m 6 ls []) := by
  intro f
  induction f with
  | zero =>
    intro h x0 x1 x2 x3 x4 x5 x6 x7 H locs k_x0 hkm hW hZ ls hl hE
    rw [sX15_stateBehind_6] at hE
    cases hE
  | succ f ih =>
    intro h x0 x1 x2 x3 x4 x5 x6 x7 H locs k_x0 hkm hW hZ ls hl hE
    rw [sX15_stateBehind_6] at hE
    have hk_6 : ∀ (h : Hp) (x0 : Nat) (x1 : Int32) (x2 : Int32) (x3 : Int32) (x4 : Int32) (x5 : Int32) (x6 : Int32) (x7 : Int32) (H : Heap) (locs : List Loc), hK h x0 = 15 → Km h0 h → Wx X h H → va_S (aA (eB X)) s.heap H locs → ∀ (ls : Array Slot), lv_has ls 8 [(0, .ref x0), (1, .int x1), (2, .int x2), (3, .int x3), (4, .int x4), (5, .int x5), (6, .int x6), (7, .int x7)] → sX15_stateBehind_6 F f h x0 x1 x2 x3 x4 x5 x6 x7 = some o → W p l e (rm 3 71) s m args below meth c H locs 0 0 (MQ below (QI X h0 o.1 o.2) args s 0 0 (aA (eB X))) (F0 m 6 ls []) := fun h x0 x1 x2 x3 x4 x5 x6 x7 H locs k_x0 a b c ls hl hE => ih k_x0 a b c ls hl hE
    refine lv_iload C.1 C.2.1 dX15_stateBehind_6 (lv_at hl 7 rfl) ?_
    refine lv_aload_n C.1 C.2.1 dX15_stateBehind_8 rfl (lv_at hl 0 rfl) ?_
    obtain ⟨r_1, er_1, hE⟩ := cl_e hE
    refine gf_X15_333 C hW k_x0 er_1 dX15_stateBehind_9 (fun k_r_1 => ?_)
    refine lv_iload_n C.1 C.2.1 dX15_stateBehind_12 rfl (lv_at hl 1 rfl) ?_
    obtain ⟨g_2, hE⟩ := gd_e hE
    refine y_iald C hW k_r_1 g_2 dX15_stateBehind_13 ?_
    refine lv_icmp_ge (tgt := 96) C.1 C.2.1 dX15_stateBehind_14 (by decide) (fun c_3 => ?_) (fun c_3 => ?_)
    · have hE := br_p hE c_3
      refine lv_aload_n C.1 C.2.1 dX15_stateBehind_96 rfl (lv_at hl 0 rfl) ?_
      refine lv_iload C.1 C.2.1 dX15_stateBehind_97 (lv_at hl 6 rfl) ?_
      refine lv_iconst (v := (1 : Int32)) C.1 C.2.1 dX15_stateBehind_99 (by decide) ?_
      refine lv_iload C.1 C.2.1 dX15_stateBehind_100 (lv_at hl 5 rfl) ?_
      refine lv_isub C.1 C.2.1 dX15_stateBehind_102 ?_
      obtain ⟨o_4, eo_4, hE⟩ := cl_e hE
      refine x_kI (o := o_4) (z_runV (As := [.int x6, .int ((1 : Int32) - x5)]) (rest := []) C (ct_X15_stateOf l X F k_x0 eo_4) cw_X15_760 hW hZ k_x0 (by decide) rfl rfl rfl hl.1 (Nat.le_of_ble_eq_true rfl) rfl dX15_stateBehind_103 ⟨Nat.le_of_ble_eq_true rfl, Nat.le_of_ble_eq_true rfl⟩ ⟨Nat.le_refl _, Nat.le_refl _⟩) hZ (fun _ _ hW km hZ => ?_)
      replace hkm := hkm.tr km
      replace k_x0 := km.at k_x0 (by decide)
      exact x_iret C rfl rfl hW hZ hkm hE dX15_stateBehind_106
    · have hE := br_n hE c_3
      refine lv_iload C.1 C.2.1 dX15_stateBehind_17 (lv_at hl 7 rfl) ?_
      refine lv_iload_n C.1 C.2.1 dX15_stateBehind_19 rfl (lv_at hl 2 rfl) ?_
      refine lv_icmp_eq (tgt := 34) C.1 C.2.1 dX15_stateBehind_20 (by decide) (fun c_5 => ?_) (fun c_5 => ?_)
      · have hE := br_p hE c_5
        exact bX15_stateBehind_34 C hk_6 k_x0 hkm hW hZ _ (lv_sub hl [0, 1, 2, 3, 4, 5, 6, 7] rfl) hE
      · have hE := br_n hE c_5
        refine lv_aload_n C.1 C.2.1 dX15_stateBehind_23 rfl (lv_at hl 0 rfl) ?_
        obtain ⟨r_6, er_6, hE⟩ := cl_e hE
        refine gf_X15_368 C hW k_x0 er_6 dX15_stateBehind_24 (fun k_r_6 => ?_)
        refine lv_iload C.1 C.2.1 dX15_stateBehind_27 (lv_at hl 7 rfl) ?_
        obtain ⟨g_7, hE⟩ := gd_e hE
        refine y_iald C hW k_r_6 g_7 dX15_stateBehind_29 ?_
        refine lv_iload_n C.1 C.2.1 dX15_stateBehind_30 rfl (lv_at hl 3 rfl) ?_
        refine lv_icmp_eq (tgt := 90) C.1 C.2.1 dX15_stateBehind_31 (by decide) (fun c_8 => ?_) (fun c_8 => ?_)
        · have hE := br_p hE c_8
          exact bX15_stateBehind_90 C hk_6 k_x0 hkm hW hZ _ (lv_sub hl [0, 1, 2, 3, 4, 5, 6, 7] rfl) hE
        · have hE := br_n hE c_8
          exact bX15_stateBehind_34 C hk_6 k_x0 hkm hW hZ _ (lv_sub hl [0, 1, 2, 3, 4, 5, 6, 7] rfl) hE
set_option maxRecDepth 20000 in
theorem ct_X15_stateBehind (l : Launch) (X : Ec) (F : Nat) {h : Hp} {x0 : Nat} {x1 : Int32} {x2 : Int32} {x3 : Int32} {x4 : Int32} {x5 : Int32} {o : Int32 × Hp} (k_x0 : hK h x0 = 15) (hE : sX15_stateBehind F h x0 x1 x2 x3 x4 x5 = some o) : MetI l yX15_stateBehind cX15_stateBehind 8 (some .int) 3 71 X [.ref x0, .int x1, .int x2, .int x3, .int x4, .int x5] h o := by
  refine x_met (by decide) (Nat.le_of_ble_eq_true rfl) ?_
  intro p e s m below meth c ls C hl hW hZ
  have hl : lv_has ls 8 [(0, .ref x0), (1, .int x1), (2, .int x2), (3, .int x3), (4, .int x4), (5, .int x5)] := hl
  have hkm : Km h h := Km.rf h
  refine lv_iconst (v := (0 : Int32)) C.1 C.2.1 dX15_stateBehind_0 (by decide) ?_
  refine lv_istore (lv' := [(6, .int (0 : Int32)), (0, .ref x0), (1, .int x1), (2, .int x2), (3, .int x3), (4, .int x4), (5, .int x5)]) C.1 C.2.1 dX15_stateBehind_1 hl (by decide) rfl (fun ls hl => ?_)
  refine lv_iconst (v := (0 : Int32)) C.1 C.2.1 dX15_stateBehind_3 (by decide) ?_
  refine lv_istore (lv' := [(7, .int (0 : Int32)), (6, .int (0 : Int32)), (0, .ref x0), (1, .int x1), (2, .int x2), (3, .int x3), (4, .int x4), (5, .int x5)]) C.1 C.2.1 dX15_stateBehind_4 hl (by decide) rfl (fun ls hl => ?_)
  exact bX15_stateBehind_6 C F k_x0 hkm hW hZ _ (lv_sub hl [2, 3, 4, 5, 6, 7, 1, 0] rfl) hE
set_option maxRecDepth 100000 in
theorem m_2173 : Cond.fieldLink RX15 777 (TX15 62).1 (TX15 62).2.1 (TX15 62).2.2.1 ∈ W0 := w0_in (List.mem_append_right _ (List.mem_of_getElem? (i := 2173) rfl)) rfl
set_option maxRecDepth 100000 in
theorem m_2174 : Cond.fieldLink RX15 780 (TX15 63).1 (TX15 63).2.1 (TX15 63).2.2.1 ∈ W0 := w0_in (List.mem_append_right _ (List.mem_of_getElem? (i := 2174) rfl)) rfl
section
variable {p : Program} {l : Launch} {e : Env} {R : Room} {s : State} {m : MethodId} {args : Array Value} {below : List Frame} {meth : Method} {c : Code} {H : Heap} {locs : List Loc} {cells slots : Nat} {Q : State → Prop}
variable {cc : ByteArray} {pc : Nat} {ls : Array Slot} {rest : List Value} {X : Ec} {h h1 : Hp} {nL : Nat} {rt : Option FieldType} {mn : String}
theorem pf_X15_780 {a : Nat} {v : Int32} (C : Cx X p s m args meth c RX15 cc nL rt mn) (hW : Wx X h H) (hZ : va_S (aA (eB X)) s.heap H locs) (ha : hK h a = 15) (hn : narrow .boolean (.int v) = .int v) (eh : h1 = wI h a 63 v) (hdg : decode cc pc = .ok (.putfield 780, 3)) (kk : ∀ (H1 : Heap) (locs1 : List Loc), Wx X h1 H1 → Km h h1 → va_S (aA (eB X)) s.heap H1 locs1 → W p l e R s m args below meth c H1 locs1 cells slots Q (F0 m (pc + 3) ls rest)) : W p l e R s m args below meth c H locs cells slots Q (F0 m pc ls (.int v :: .ref a :: rest)) :=
  y_puti (ty := .boolean) C hW hZ ha i_X15 tyX15 tyX15_ok nmX15 (by decide) rfl rfl (by decide) m_2174 rfl (by decide +kernel) rfl hn (fitZ hn) eh hdg kk
theorem pf_X15_777 {a : Nat} {v : Int32} (C : Cx X p s m args meth c RX15 cc nL rt mn) (hW : Wx X h H) (hZ : va_S (aA (eB X)) s.heap H locs) (ha : hK h a = 15) (hn : narrow .boolean (.int v) = .int v) (eh : h1 = wI h a 62 v) (hdg : decode cc pc = .ok (.putfield 777, 3)) (kk : ∀ (H1 : Heap) (locs1 : List Loc), Wx X h1 H1 → Km h h1 → va_S (aA (eB X)) s.heap H1 locs1 → W p l e R s m args below meth c H1 locs1 cells slots Q (F0 m (pc + 3) ls rest)) : W p l e R s m args below meth c H locs cells slots Q (F0 m pc ls (.int v :: .ref a :: rest)) :=
  y_puti (ty := .boolean) C hW hZ ha i_X15 tyX15 tyX15_ok nmX15 (by decide) rfl rfl (by decide) m_2173 rfl (by decide +kernel) rfl hn (fitZ hn) eh hdg kk
theorem gf_X15_780 {a : Nat} (C : Cx X p s m args meth c RX15 cc nL rt mn) (hW : Wx X h H) (ha : hK h a = 15) (hdg : decode cc pc = .ok (.getfield 780, 3)) (kk : W p l e R s m args below meth c H locs cells slots Q (F0 m (pc + 3) ls (.int (hI h a 63) :: rest))) : W p l e R s m args below meth c H locs cells slots Q (F0 m pc ls (.ref a :: rest)) :=
  y_geti C hW ha i_X15 (by decide) rfl (by decide) m_2174 rfl hdg kk
theorem gf_X15_777 {a : Nat} (C : Cx X p s m args meth c RX15 cc nL rt mn) (hW : Wx X h H) (ha : hK h a = 15) (hdg : decode cc pc = .ok (.getfield 777, 3)) (kk : W p l e R s m args below meth c H locs cells slots Q (F0 m (pc + 3) ls (.int (hI h a 62) :: rest))) : W p l e R s m args below meth c H locs cells slots Q (F0 m pc ls (.ref a :: rest)) :=
  y_geti C hW ha i_X15 (by decide) rfl (by decide) m_2173 rfl hdg kk
end
theorem dX15_meet_0 : decode cX15_meet 0 = .ok (.aload_n 0, 1) := by decide +kernel
theorem dX15_meet_1 : decode cX15_meet 1 = .ok (.dup, 1) := by decide +kernel
theorem dX15_meet_2 : decode cX15_meet 2 = .ok (.getfield 777, 3) := by decide +kernel
theorem dX15_meet_5 : decode cX15_meet 5 = .ok (.iload_n 1, 1) := by decide +kernel
theorem dX15_meet_6 : decode cX15_meet 6 = .ok (.iload_n 2, 1) := by decide +kernel
theorem dX15_meet_7 : decode cX15_meet 7 = .ok (.iconst 1, 1) := by decide +kernel
theorem dX15_meet_8 : decode cX15_meet 8 = .ok (.isub, 1) := by decide +kernel
theorem dX15_meet_9 : decode cX15_meet 9 = .ok (.ldc_w 767, 3) := by decide +kernel
theorem dX15_meet_12 : decode cX15_meet 12 = .ok (.isub, 1) := by decide +kernel
theorem dX15_meet_13 : decode cX15_meet 13 = .ok (.if_icmp .ne 7, 3) := by decide +kernel
theorem dX15_meet_16 : decode cX15_meet 16 = .ok (.iconst 1, 1) := by decide +kernel
theorem dX15_meet_17 : decode cX15_meet 17 = .ok (.goto 4, 3) := by decide +kernel
theorem dX15_meet_20 : decode cX15_meet 20 = .ok (.iconst 0, 1) := by decide +kernel
theorem dX15_meet_21 : decode cX15_meet 21 = .ok (.ior, 1) := by decide +kernel
theorem dX15_meet_22 : decode cX15_meet 22 = .ok (.putfield 777, 3) := by decide +kernel
theorem dX15_meet_25 : decode cX15_meet 25 = .ok (.aload_n 0, 1) := by decide +kernel
theorem dX15_meet_26 : decode cX15_meet 26 = .ok (.dup, 1) := by decide +kernel
theorem dX15_meet_27 : decode cX15_meet 27 = .ok (.getfield 780, 3) := by decide +kernel
theorem dX15_meet_30 : decode cX15_meet 30 = .ok (.iload_n 1, 1) := by decide +kernel
theorem dX15_meet_31 : decode cX15_meet 31 = .ok (.ldc_w 767, 3) := by decide +kernel
theorem dX15_meet_34 : decode cX15_meet 34 = .ok (.iload_n 2, 1) := by decide +kernel
theorem dX15_meet_35 : decode cX15_meet 35 = .ok (.isub, 1) := by decide +kernel
theorem dX15_meet_36 : decode cX15_meet 36 = .ok (.if_icmp .le 14, 3) := by decide +kernel
theorem dX15_meet_39 : decode cX15_meet 39 = .ok (.iload_n 1, 1) := by decide +kernel
theorem dX15_meet_40 : decode cX15_meet 40 = .ok (.ldc_w 767, 3) := by decide +kernel
theorem dX15_meet_43 : decode cX15_meet 43 = .ok (.if_icmp .gt 7, 3) := by decide +kernel
theorem dX15_meet_46 : decode cX15_meet 46 = .ok (.iconst 1, 1) := by decide +kernel
theorem dX15_meet_47 : decode cX15_meet 47 = .ok (.goto 4, 3) := by decide +kernel
theorem dX15_meet_50 : decode cX15_meet 50 = .ok (.iconst 0, 1) := by decide +kernel
theorem dX15_meet_51 : decode cX15_meet 51 = .ok (.iand, 1) := by decide +kernel
theorem dX15_meet_52 : decode cX15_meet 52 = .ok (.putfield 780, 3) := by decide +kernel
theorem dX15_meet_55 : decode cX15_meet 55 = .ok (.return_, 1) := by decide +kernel
set_option maxRecDepth 20000 in
theorem moX15_meet_51 {o : Hp} {h : Hp} {t0 : Int32} {t1 : Int32} {t2 : Nat} (hE : sX15_meet_51 h  t0 t1 t2 = some o) : Le h o := by
  obtain ⟨g_1, hE⟩ := gd_e hE
  obtain ⟨h_2, eh_2, hE⟩ := nm_e2 hE
  refine (le_I eh_2).tr ?_
  exact le_some1 hE
set_option maxRecDepth 20000 in
theorem moX15_meet_50 {o : Hp} {h : Hp} {t0 : Int32} {t1 : Nat} (hE : sX15_meet_50 h  t0 t1 = some o) : Le h o := by
  exact moX15_meet_51 hE
set_option maxRecDepth 20000 in
theorem moX15_meet_21 {o : Hp} {h : Hp} {x0 : Nat} {x1 : Int32} {x2 : Int32} {t0 : Int32} {t1 : Int32} {t2 : Nat} (hE : sX15_meet_21 h x0 x1 x2 t0 t1 t2 = some o) : Le h o := by
  obtain ⟨g_1, hE⟩ := gd_e hE
  obtain ⟨h_2, eh_2, hE⟩ := nm_e2 hE
  refine (le_I eh_2).tr ?_
  rcases br_e hE with ⟨_, hE⟩ | ⟨_, hE⟩
  · exact moX15_meet_50 hE
  · rcases br_e hE with ⟨_, hE⟩ | ⟨_, hE⟩
    · exact moX15_meet_50 hE
    · exact moX15_meet_51 hE
set_option maxRecDepth 20000 in
theorem moX15_meet {o : Hp} {h : Hp} {x0 : Nat} {x1 : Int32} {x2 : Int32} (hE : sX15_meet h x0 x1 x2 = some o) : Le h o := by
  rcases br_e hE with ⟨_, hE⟩ | ⟨_, hE⟩
  · exact moX15_meet_21 hE
  · exact moX15_meet_21 hE
set_option maxRecDepth 20000 in
theorem bX15_meet_51 {p : Program} {l : Launch} {e : Env} {s : State} {m : MethodId} {args : Array Value} {below : List Frame} {meth : Method} {c : Code} {X : Ec} {h0 : Hp} {o : Hp} (C : Cx X p s m args meth c RX15 cX15_meet 3 none "meet") {h : Hp} {t0 : Int32} {t1 : Int32} {t2 : Nat} {H : Heap} {locs : List Loc} (k_t2 : hK h t2 = 15) (hkm : Km h0 h) (hW : Wx X h H) (hZ : va_S (aA (eB X)) s.heap H locs) (ls : Array Slot) (hl : lv_has ls 3 []) (hE : sX15_meet_51 h  t0 t1 t2 = some o) : W p l e (rm 0 0) s m args below meth c H locs 0 0 (MQ below (QV X h0 o) args s 0 0 (aA (eB X))) (F0 m 51 ls [.int t0, .int t1, .ref t2]) := by
  refine lv_iand C.1 C.2.1 dX15_meet_51 ?_
  obtain ⟨g_1, hE⟩ := gd_e hE
  obtain ⟨h_2, eh_2, hE⟩ := nm_e2 hE
  refine pf_X15_780 C hW hZ k_t2 (narB g_1) eh_2 dX15_meet_52 (fun _ _ hW km hZ => ?_)
  replace hkm := hkm.tr km
  exact x_vret C rfl hW hZ hkm hE dX15_meet_55
set_option maxRecDepth 20000 in
theorem bX15_meet_50 {p : Program} {l : Launch} {e : Env} {s : State} {m : MethodId} {args : Array Value} {below : List Frame} {meth : Method} {c : Code} {X : Ec} {h0 : Hp} {o : Hp} (C : Cx X p s m args meth c RX15 cX15_meet 3 none "meet") {h : Hp} {t0 : Int32} {t1 : Nat} {H : Heap} {locs : List Loc} (k_t1 : hK h t1 = 15) (hkm : Km h0 h) (hW : Wx X h H) (hZ : va_S (aA (eB X)) s.heap H locs) (ls : Array Slot) (hl : lv_has ls 3 []) (hE : sX15_meet_50 h  t0 t1 = some o) : W p l e (rm 0 0) s m args below meth c H locs 0 0 (MQ below (QV X h0 o) args s 0 0 (aA (eB X))) (F0 m 50 ls [.int t0, .ref t1]) := by
  refine lv_iconst (v := (0 : Int32)) C.1 C.2.1 dX15_meet_50 (by decide) ?_
  exact bX15_meet_51 C k_t1 hkm hW hZ _ (lv_sub hl [] rfl) hE
set_option maxRecDepth 20000 in
theorem bX15_meet_21 {p : Program} {l : Launch} {e : Env} {s : State} {m : MethodId} {args : Array Value} {below : List Frame} {meth : Method} {c : Code} {X : Ec} {h0 : Hp} {o : Hp} (C : Cx X p s m args meth c RX15 cX15_meet 3 none "meet") {h : Hp} {x0 : Nat} {x1 : Int32} {x2 : Int32} {t0 : Int32} {t1 : Int32} {t2 : Nat} {H : Heap} {locs : List Loc} (k_x0 : hK h x0 = 15) (k_t2 : hK h t2 = 15) (hkm : Km h0 h) (hW : Wx X h H) (hZ : va_S (aA (eB X)) s.heap H locs) (ls : Array Slot) (hl : lv_has ls 3 [(0, .ref x0), (1, .int x1), (2, .int x2)]) (hE : sX15_meet_21 h x0 x1 x2 t0 t1 t2 = some o) : W p l e (rm 0 0) s m args below meth c H locs 0 0 (MQ below (QV X h0 o) args s 0 0 (aA (eB X))) (F0 m 21 ls [.int t0, .int t1, .ref t2]) := by
  refine lv_ior C.1 C.2.1 dX15_meet_21 ?_
  obtain ⟨g_1, hE⟩ := gd_e hE
  obtain ⟨h_2, eh_2, hE⟩ := nm_e2 hE
  refine pf_X15_777 C hW hZ k_t2 (narB g_1) eh_2 dX15_meet_22 (fun _ _ hW km hZ => ?_)
  replace hkm := hkm.tr km
  replace k_x0 := km.at k_x0 (by decide)
  refine lv_aload_n C.1 C.2.1 dX15_meet_25 rfl (lv_at hl 0 rfl) ?_
  refine lv_dup C.1 C.2.1 dX15_meet_26 rfl ?_
  refine gf_X15_780 C hW k_x0 dX15_meet_27 ?_
  refine lv_iload_n C.1 C.2.1 dX15_meet_30 rfl (lv_at hl 1 rfl) ?_
  refine lv_ldcw (v := (1000000 : Int32)) C.1 C.2.1 C.2.2.2.1 (C.2.2.2.2.1 _ m_2787) dX15_meet_31 ?_
  refine lv_iload_n C.1 C.2.1 dX15_meet_34 rfl (lv_at hl 2 rfl) ?_
  refine lv_isub C.1 C.2.1 dX15_meet_35 ?_
  refine lv_icmp_le (tgt := 50) C.1 C.2.1 dX15_meet_36 (by decide) (fun c_3 => ?_) (fun c_3 => ?_)
  · have hE := br_p hE c_3
    exact bX15_meet_50 C k_x0 hkm hW hZ _ (lv_sub hl [] rfl) hE
  · have hE := br_n hE c_3
    refine lv_iload_n C.1 C.2.1 dX15_meet_39 rfl (lv_at hl 1 rfl) ?_
    refine lv_ldcw (v := (1000000 : Int32)) C.1 C.2.1 C.2.2.2.1 (C.2.2.2.2.1 _ m_2787) dX15_meet_40 ?_
    refine lv_icmp_gt (tgt := 50) C.1 C.2.1 dX15_meet_43 (by decide) (fun c_4 => ?_) (fun c_4 => ?_)
    · have hE := br_p hE c_4
      exact bX15_meet_50 C k_x0 hkm hW hZ _ (lv_sub hl [] rfl) hE
    · have hE := br_n hE c_4
      refine lv_iconst (v := (1 : Int32)) C.1 C.2.1 dX15_meet_46 (by decide) ?_
      refine lv_goto (tgt := 51) C.1 C.2.1 dX15_meet_47 (by decide) ?_
      exact bX15_meet_51 C k_x0 hkm hW hZ _ (lv_sub hl [] rfl) hE
set_option maxRecDepth 20000 in
theorem ct_X15_meet (l : Launch) (X : Ec) {h : Hp} {x0 : Nat} {x1 : Int32} {x2 : Int32} {o : Hp} (k_x0 : hK h x0 = 15) (hE : sX15_meet h x0 x1 x2 = some o) : MetV l yX15_meet cX15_meet 3 none 0 0 X [.ref x0, .int x1, .int x2] h o := by
  refine x_met (by decide) (Nat.le_of_ble_eq_true rfl) ?_
  intro p e s m below meth c ls C hl hW hZ
  have hl : lv_has ls 3 [(0, .ref x0), (1, .int x1), (2, .int x2)] := hl
  have hkm : Km h h := Km.rf h
  refine lv_aload_n C.1 C.2.1 dX15_meet_0 rfl (lv_at hl 0 rfl) ?_
  refine lv_dup C.1 C.2.1 dX15_meet_1 rfl ?_
  refine gf_X15_777 C hW k_x0 dX15_meet_2 ?_
  refine lv_iload_n C.1 C.2.1 dX15_meet_5 rfl (lv_at hl 1 rfl) ?_
  refine lv_iload_n C.1 C.2.1 dX15_meet_6 rfl (lv_at hl 2 rfl) ?_
  refine lv_iconst (v := (1 : Int32)) C.1 C.2.1 dX15_meet_7 (by decide) ?_
  refine lv_isub C.1 C.2.1 dX15_meet_8 ?_
  refine lv_ldcw (v := (1000000 : Int32)) C.1 C.2.1 C.2.2.2.1 (C.2.2.2.2.1 _ m_2787) dX15_meet_9 ?_
  refine lv_isub C.1 C.2.1 dX15_meet_12 ?_
  refine lv_icmp_ne (tgt := 20) C.1 C.2.1 dX15_meet_13 (by decide) (fun c_1 => ?_) (fun c_1 => ?_)
  · have hE := br_n hE c_1
    refine lv_iconst (v := (0 : Int32)) C.1 C.2.1 dX15_meet_20 (by decide) ?_
    exact bX15_meet_21 C k_x0 k_x0 hkm hW hZ _ (lv_sub hl [0, 1, 2] rfl) hE
  · have hE := br_p hE c_1
    refine lv_iconst (v := (1 : Int32)) C.1 C.2.1 dX15_meet_16 (by decide) ?_
    refine lv_goto (tgt := 21) C.1 C.2.1 dX15_meet_17 (by decide) ?_
    exact bX15_meet_21 C k_x0 k_x0 hkm hW hZ _ (lv_sub hl [0, 1, 2] rfl) hE
theorem dX15_isLike_0 : decode cX15_isLike 0 = .ok (.aload_n 0, 1) := by decide +kernel
theorem dX15_isLike_1 : decode cX15_isLike 1 = .ok (.getfield 336, 3) := by decide +kernel
theorem dX15_isLike_4 : decode cX15_isLike 4 = .ok (.iconst 5, 1) := by decide +kernel
theorem dX15_isLike_5 : decode cX15_isLike 5 = .ok (.iload_n 1, 1) := by decide +kernel
theorem dX15_isLike_6 : decode cX15_isLike 6 = .ok (.imul, 1) := by decide +kernel
theorem dX15_isLike_7 : decode cX15_isLike 7 = .ok (.iload_n 2, 1) := by decide +kernel
theorem dX15_isLike_8 : decode cX15_isLike 8 = .ok (.iadd, 1) := by decide +kernel
theorem dX15_isLike_9 : decode cX15_isLike 9 = .ok (.iaload, 1) := by decide +kernel
theorem dX15_isLike_10 : decode cX15_isLike 10 = .ok (.istore_n 3, 1) := by decide +kernel
theorem dX15_isLike_11 : decode cX15_isLike 11 = .ok (.iload_n 2, 1) := by decide +kernel
theorem dX15_isLike_12 : decode cX15_isLike 12 = .ok (.ifCond .le 19, 3) := by decide +kernel
theorem dX15_isLike_15 : decode cX15_isLike 15 = .ok (.aload_n 0, 1) := by decide +kernel
theorem dX15_isLike_16 : decode cX15_isLike 16 = .ok (.getfield 336, 3) := by decide +kernel
theorem dX15_isLike_19 : decode cX15_isLike 19 = .ok (.iconst 5, 1) := by decide +kernel
theorem dX15_isLike_20 : decode cX15_isLike 20 = .ok (.iload_n 1, 1) := by decide +kernel
theorem dX15_isLike_21 : decode cX15_isLike 21 = .ok (.imul, 1) := by decide +kernel
theorem dX15_isLike_22 : decode cX15_isLike 22 = .ok (.iload_n 2, 1) := by decide +kernel
theorem dX15_isLike_23 : decode cX15_isLike 23 = .ok (.iadd, 1) := by decide +kernel
theorem dX15_isLike_24 : decode cX15_isLike 24 = .ok (.iconst 1, 1) := by decide +kernel
theorem dX15_isLike_25 : decode cX15_isLike 25 = .ok (.isub, 1) := by decide +kernel
theorem dX15_isLike_26 : decode cX15_isLike 26 = .ok (.iaload, 1) := by decide +kernel
theorem dX15_isLike_27 : decode cX15_isLike 27 = .ok (.iload_n 3, 1) := by decide +kernel
theorem dX15_isLike_28 : decode cX15_isLike 28 = .ok (.if_icmp .eq 31, 3) := by decide +kernel
theorem dX15_isLike_31 : decode cX15_isLike 31 = .ok (.iload_n 2, 1) := by decide +kernel
theorem dX15_isLike_32 : decode cX15_isLike 32 = .ok (.iconst 1, 1) := by decide +kernel
theorem dX15_isLike_33 : decode cX15_isLike 33 = .ok (.iadd, 1) := by decide +kernel
theorem dX15_isLike_34 : decode cX15_isLike 34 = .ok (.aload_n 0, 1) := by decide +kernel
theorem dX15_isLike_35 : decode cX15_isLike 35 = .ok (.getfield 333, 3) := by decide +kernel
theorem dX15_isLike_38 : decode cX15_isLike 38 = .ok (.iload_n 1, 1) := by decide +kernel
theorem dX15_isLike_39 : decode cX15_isLike 39 = .ok (.iaload, 1) := by decide +kernel
theorem dX15_isLike_40 : decode cX15_isLike 40 = .ok (.if_icmp .ge 23, 3) := by decide +kernel
theorem dX15_isLike_43 : decode cX15_isLike 43 = .ok (.aload_n 0, 1) := by decide +kernel
theorem dX15_isLike_44 : decode cX15_isLike 44 = .ok (.getfield 336, 3) := by decide +kernel
theorem dX15_isLike_47 : decode cX15_isLike 47 = .ok (.iconst 5, 1) := by decide +kernel
theorem dX15_isLike_48 : decode cX15_isLike 48 = .ok (.iload_n 1, 1) := by decide +kernel
theorem dX15_isLike_49 : decode cX15_isLike 49 = .ok (.imul, 1) := by decide +kernel
theorem dX15_isLike_50 : decode cX15_isLike 50 = .ok (.iload_n 2, 1) := by decide +kernel
theorem dX15_isLike_51 : decode cX15_isLike 51 = .ok (.iadd, 1) := by decide +kernel
theorem dX15_isLike_52 : decode cX15_isLike 52 = .ok (.iconst 1, 1) := by decide +kernel
theorem dX15_isLike_53 : decode cX15_isLike 53 = .ok (.iadd, 1) := by decide +kernel
theorem dX15_isLike_54 : decode cX15_isLike 54 = .ok (.iaload, 1) := by decide +kernel
theorem dX15_isLike_55 : decode cX15_isLike 55 = .ok (.iload_n 3, 1) := by decide +kernel
theorem dX15_isLike_56 : decode cX15_isLike 56 = .ok (.if_icmp .ne 7, 3) := by decide +kernel
theorem dX15_isLike_59 : decode cX15_isLike 59 = .ok (.iconst 1, 1) := by decide +kernel
theorem dX15_isLike_60 : decode cX15_isLike 60 = .ok (.goto 4, 3) := by decide +kernel
theorem dX15_isLike_63 : decode cX15_isLike 63 = .ok (.iconst 0, 1) := by decide +kernel
theorem dX15_isLike_64 : decode cX15_isLike 64 = .ok (.ireturn, 1) := by decide +kernel
set_option maxRecDepth 20000 in
theorem moX15_isLike_64 {o : Int32 × Hp} {h : Hp} {t0 : Int32} (hE : sX15_isLike_64 h  t0 = some o) : Le h o.2 := by
  obtain ⟨g_1, hE⟩ := gd_e hE
  exact le_some2 hE
set_option maxRecDepth 20000 in
theorem moX15_isLike_63 {o : Int32 × Hp} {h : Hp} (hE : sX15_isLike_63 h  = some o) : Le h o.2 := by
  exact moX15_isLike_64 hE
set_option maxRecDepth 20000 in
theorem moX15_isLike_59 {o : Int32 × Hp} {h : Hp} (hE : sX15_isLike_59 h  = some o) : Le h o.2 := by
  exact moX15_isLike_64 hE
set_option maxRecDepth 20000 in
theorem moX15_isLike_31 {o : Int32 × Hp} {h : Hp} {x0 : Nat} {x1 : Int32} {x2 : Int32} {x3 : Int32} (hE : sX15_isLike_31 h x0 x1 x2 x3 = some o) : Le h o.2 := by
  obtain ⟨r_1, er_1, hE⟩ := cl_e hE
  obtain ⟨g_2, hE⟩ := gd_e hE
  rcases br_e hE with ⟨_, hE⟩ | ⟨_, hE⟩
  · exact moX15_isLike_63 hE
  · obtain ⟨r_4, er_4, hE⟩ := cl_e hE
    obtain ⟨g_5, hE⟩ := gd_e hE
    rcases br_e hE with ⟨_, hE⟩ | ⟨_, hE⟩
    · exact moX15_isLike_59 hE
    · exact moX15_isLike_63 hE
set_option maxRecDepth 20000 in
theorem moX15_isLike {o : Int32 × Hp} {h : Hp} {x0 : Nat} {x1 : Int32} {x2 : Int32} (hE : sX15_isLike h x0 x1 x2 = some o) : Le h o.2 := by
  obtain ⟨r_1, er_1, hE⟩ := cl_e hE
  obtain ⟨g_2, hE⟩ := gd_e hE
  obtain ⟨v_3, ev_3, hE⟩ := nm_e2 hE
  rcases br_e hE with ⟨_, hE⟩ | ⟨_, hE⟩
  · exact moX15_isLike_31 hE
  · obtain ⟨r_5, er_5, hE⟩ := cl_e hE
    obtain ⟨g_6, hE⟩ := gd_e hE
    rcases br_e hE with ⟨_, hE⟩ | ⟨_, hE⟩
    · exact moX15_isLike_59 hE
    · exact moX15_isLike_31 hE
set_option maxRecDepth 20000 in
theorem bX15_isLike_64 {p : Program} {l : Launch} {e : Env} {s : State} {m : MethodId} {args : Array Value} {below : List Frame} {meth : Method} {c : Code} {X : Ec} {h0 : Hp} {o : Int32 × Hp} (C : Cx X p s m args meth c RX15 cX15_isLike 4 (some .boolean) "isLike") {h : Hp} {t0 : Int32} {H : Heap} {locs : List Loc} (hkm : Km h0 h) (hW : Wx X h H) (hZ : va_S (aA (eB X)) s.heap H locs) (ls : Array Slot) (hl : lv_has ls 4 []) (hE : sX15_isLike_64 h  t0 = some o) : W p l e (rm 0 0) s m args below meth c H locs 0 0 (MQ below (QI X h0 o.1 o.2) args s 0 0 (aA (eB X))) (F0 m 64 ls [.int t0]) := by
  obtain ⟨g_1, hE⟩ := gd_e hE
  exact x_iret C rfl (narB g_1) hW hZ hkm hE dX15_isLike_64
set_option maxRecDepth 20000 in
theorem bX15_isLike_63 {p : Program} {l : Launch} {e : Env} {s : State} {m : MethodId} {args : Array Value} {below : List Frame} {meth : Method} {c : Code} {X : Ec} {h0 : Hp} {o : Int32 × Hp} (C : Cx X p s m args meth c RX15 cX15_isLike 4 (some .boolean) "isLike") {h : Hp} {H : Heap} {locs : List Loc} (hkm : Km h0 h) (hW : Wx X h H) (hZ : va_S (aA (eB X)) s.heap H locs) (ls : Array Slot) (hl : lv_has ls 4 []) (hE : sX15_isLike_63 h  = some o) : W p l e (rm 0 0) s m args below meth c H locs 0 0 (MQ below (QI X h0 o.1 o.2) args s 0 0 (aA (eB X))) (F0 m 63 ls []) := by
  refine lv_iconst (v := (0 : Int32)) C.1 C.2.1 dX15_isLike_63 (by decide) ?_
  exact bX15_isLike_64 C hkm hW hZ _ (lv_sub hl [] rfl) hE
set_option maxRecDepth 20000 in
theorem bX15_isLike_59 {p : Program} {l : Launch} {e : Env} {s : State} {m : MethodId} {args : Array Value} {below : List Frame} {meth : Method} {c : Code} {X : Ec} {h0 : Hp} {o : Int32 × Hp} (C : Cx X p s m args meth c RX15 cX15_isLike 4 (some .boolean) "isLike") {h : Hp} {H : Heap} {locs : List Loc} (hkm : Km h0 h) (hW : Wx X h H) (hZ : va_S (aA (eB X)) s.heap H locs) (ls : Array Slot) (hl : lv_has ls 4 []) (hE : sX15_isLike_59 h  = some o) : W p l e (rm 0 0) s m args below meth c H locs 0 0 (MQ below (QI X h0 o.1 o.2) args s 0 0 (aA (eB X))) (F0 m 59 ls []) := by
  refine lv_iconst (v := (1 : Int32)) C.1 C.2.1 dX15_isLike_59 (by decide) ?_
  refine lv_goto (tgt := 64) C.1 C.2.1 dX15_isLike_60 (by decide) ?_
  exact bX15_isLike_64 C hkm hW hZ _ (lv_sub hl [] rfl) hE
set_option maxRecDepth 20000 in
theorem bX15_isLike_31 {p : Program} {l : Launch} {e : Env} {s : State} {m : MethodId} {args : Array Value} {below : List Frame} {meth : Method} {c : Code} {X : Ec} {h0 : Hp} {o : Int32 × Hp} (C : Cx X p s m args meth c RX15 cX15_isLike 4 (some .boolean) "isLike") {h : Hp} {x0 : Nat} {x1 : Int32} {x2 : Int32} {x3 : Int32} {H : Heap} {locs : List Loc} (k_x0 : hK h x0 = 15) (hkm : Km h0 h) (hW : Wx X h H) (hZ : va_S (aA (eB X)) s.heap H locs) (ls : Array Slot) (hl : lv_has ls 4 [(0, .ref x0), (1, .int x1), (2, .int x2), (3, .int x3)]) (hE : sX15_isLike_31 h x0 x1 x2 x3 = some o) : W p l e (rm 0 0) s m args below meth c H locs 0 0 (MQ below (QI X h0 o.1 o.2) args s 0 0 (aA (eB X))) (F0 m 31 ls []) := by
  refine lv_iload_n C.1 C.2.1 dX15_isLike_31 rfl (lv_at hl 2 rfl) ?_
  refine lv_iconst (v := (1 : Int32)) C.1 C.2.1 dX15_isLike_32 (by decide) ?_
  refine lv_iadd C.1 C.2.1 dX15_isLike_33 ?_
  refine lv_aload_n C.1 C.2.1 dX15_isLike_34 rfl (lv_at hl 0 rfl) ?_
  obtain ⟨r_1, er_1, hE⟩ := cl_e hE
  refine gf_X15_333 C hW k_x0 er_1 dX15_isLike_35 (fun k_r_1 => ?_)
  refine lv_iload_n C.1 C.2.1 dX15_isLike_38 rfl (lv_at hl 1 rfl) ?_
  obtain ⟨g_2, hE⟩ := gd_e hE
  refine y_iald C hW k_r_1 g_2 dX15_isLike_39 ?_
  refine lv_icmp_ge (tgt := 63) C.1 C.2.1 dX15_isLike_40 (by decide) (fun c_3 => ?_) (fun c_3 => ?_)
  · have hE := br_p hE c_3
    exact bX15_isLike_63 C hkm hW hZ _ (lv_sub hl [] rfl) hE
  · have hE := br_n hE c_3
    refine lv_aload_n C.1 C.2.1 dX15_isLike_43 rfl (lv_at hl 0 rfl) ?_
    obtain ⟨r_4, er_4, hE⟩ := cl_e hE
    refine gf_X15_336 C hW k_x0 er_4 dX15_isLike_44 (fun k_r_4 => ?_)
    refine lv_iconst (v := (5 : Int32)) C.1 C.2.1 dX15_isLike_47 (by decide) ?_
    refine lv_iload_n C.1 C.2.1 dX15_isLike_48 rfl (lv_at hl 1 rfl) ?_
    refine lv_imul C.1 C.2.1 dX15_isLike_49 ?_
    refine lv_iload_n C.1 C.2.1 dX15_isLike_50 rfl (lv_at hl 2 rfl) ?_
    refine lv_iadd C.1 C.2.1 dX15_isLike_51 ?_
    refine lv_iconst (v := (1 : Int32)) C.1 C.2.1 dX15_isLike_52 (by decide) ?_
    refine lv_iadd C.1 C.2.1 dX15_isLike_53 ?_
    obtain ⟨g_5, hE⟩ := gd_e hE
    refine y_iald C hW k_r_4 g_5 dX15_isLike_54 ?_
    refine lv_iload_n C.1 C.2.1 dX15_isLike_55 rfl (lv_at hl 3 rfl) ?_
    refine lv_icmp_ne (tgt := 63) C.1 C.2.1 dX15_isLike_56 (by decide) (fun c_6 => ?_) (fun c_6 => ?_)
    · have hE := br_n hE c_6
      exact bX15_isLike_63 C hkm hW hZ _ (lv_sub hl [] rfl) hE
    · have hE := br_p hE c_6
      exact bX15_isLike_59 C hkm hW hZ _ (lv_sub hl [] rfl) hE
set_option maxRecDepth 20000 in
theorem ct_X15_isLike (l : Launch) (X : Ec) {h : Hp} {x0 : Nat} {x1 : Int32} {x2 : Int32} {o : Int32 × Hp} (k_x0 : hK h x0 = 15) (hE : sX15_isLike h x0 x1 x2 = some o) : MetI l yX15_isLike cX15_isLike 4 (some .boolean) 0 0 X [.ref x0, .int x1, .int x2] h o := by
  refine x_met (by decide) (Nat.le_of_ble_eq_true rfl) ?_
  intro p e s m below meth c ls C hl hW hZ
  have hl : lv_has ls 4 [(0, .ref x0), (1, .int x1), (2, .int x2)] := hl
  have hkm : Km h h := Km.rf h
  refine lv_aload_n C.1 C.2.1 dX15_isLike_0 rfl (lv_at hl 0 rfl) ?_
  obtain ⟨r_1, er_1, hE⟩ := cl_e hE
  refine gf_X15_336 C hW k_x0 er_1 dX15_isLike_1 (fun k_r_1 => ?_)
  refine lv_iconst (v := (5 : Int32)) C.1 C.2.1 dX15_isLike_4 (by decide) ?_
  refine lv_iload_n C.1 C.2.1 dX15_isLike_5 rfl (lv_at hl 1 rfl) ?_
  refine lv_imul C.1 C.2.1 dX15_isLike_6 ?_
  refine lv_iload_n C.1 C.2.1 dX15_isLike_7 rfl (lv_at hl 2 rfl) ?_
  refine lv_iadd C.1 C.2.1 dX15_isLike_8 ?_
  obtain ⟨g_2, hE⟩ := gd_e hE
  refine y_iald C hW k_r_1 g_2 dX15_isLike_9 ?_
  obtain ⟨v_3, ev_3, hE⟩ := nm_e2 hE
  refine x_nmI ev_3 ?_
  refine lv_istore_n (lv' := [(3, .int v_3), (0, .ref x0), (1, .int x1), (2, .int x2)]) C.1 C.2.1 dX15_isLike_10 rfl hl (by decide) rfl (fun ls hl => ?_)
  refine lv_iload_n C.1 C.2.1 dX15_isLike_11 rfl (lv_at hl 3 rfl) ?_
  refine lv_if_le (tgt := 31) C.1 C.2.1 dX15_isLike_12 (by decide) (fun c_4 => ?_) (fun c_4 => ?_)
  · have hE := br_p hE c_4
    exact bX15_isLike_31 C k_x0 hkm hW hZ _ (lv_sub hl [1, 2, 3, 0] rfl) hE
  · have hE := br_n hE c_4
    refine lv_aload_n C.1 C.2.1 dX15_isLike_15 rfl (lv_at hl 1 rfl) ?_
    obtain ⟨r_5, er_5, hE⟩ := cl_e hE
    refine gf_X15_336 C hW k_x0 er_5 dX15_isLike_16 (fun k_r_5 => ?_)
    refine lv_iconst (v := (5 : Int32)) C.1 C.2.1 dX15_isLike_19 (by decide) ?_
    refine lv_iload_n C.1 C.2.1 dX15_isLike_20 rfl (lv_at hl 2 rfl) ?_
    refine lv_imul C.1 C.2.1 dX15_isLike_21 ?_
    refine lv_iload_n C.1 C.2.1 dX15_isLike_22 rfl (lv_at hl 3 rfl) ?_
    refine lv_iadd C.1 C.2.1 dX15_isLike_23 ?_
    refine lv_iconst (v := (1 : Int32)) C.1 C.2.1 dX15_isLike_24 (by decide) ?_
    refine lv_isub C.1 C.2.1 dX15_isLike_25 ?_
    obtain ⟨g_6, hE⟩ := gd_e hE
    refine y_iald C hW k_r_5 g_6 dX15_isLike_26 ?_
    refine lv_iload_n C.1 C.2.1 dX15_isLike_27 rfl (lv_at hl 0 rfl) ?_
    refine lv_icmp_eq (tgt := 59) C.1 C.2.1 dX15_isLike_28 (by decide) (fun c_7 => ?_) (fun c_7 => ?_)
    · have hE := br_p hE c_7
      exact bX15_isLike_59 C hkm hW hZ _ (lv_sub hl [] rfl) hE
    · have hE := br_n hE c_7
      exact bX15_isLike_31 C k_x0 hkm hW hZ _ (lv_sub hl [1, 2, 3, 0] rfl) hE
set_option maxRecDepth 100000 in
theorem ms_215 : Cond.selects RX15 yX15_isLike yX15_isLike ∈ W0 := w0_in (List.mem_append_left _ (List.mem_of_getElem? (i := 215) rfl)) rfl
set_option maxRecDepth 100000 in
theorem ms_214 : Cond.selects RX15 yX15_meet yX15_meet ∈ W0 := w0_in (List.mem_append_left _ (List.mem_of_getElem? (i := 214) rfl)) rfl
set_option maxRecDepth 100000 in
theorem ms_212 : Cond.selects RX15 yX15_stateBehind yX15_stateBehind ∈ W0 := w0_in (List.mem_append_left _ (List.mem_of_getElem? (i := 212) rfl)) rfl
set_option maxRecDepth 100000 in
theorem m_2813 : Cond.methodLink RX15 790 yX15_stateBehind ∈ W0 := w0_in (List.mem_append_right _ (List.mem_of_getElem? (i := 2813) rfl)) rfl
set_option maxRecDepth 100000 in
theorem m_2815 : Cond.instanceMethod yX15_stateBehind ∈ W0 := w0_in (List.mem_append_right _ (List.mem_of_getElem? (i := 2815) rfl)) rfl
set_option maxRecDepth 100000 in
theorem m_2816 : Cond.code yX15_stateBehind cX15_stateBehind 8 (some .int) ∈ W0 := w0_in (List.mem_append_right _ (List.mem_of_getElem? (i := 2816) rfl)) rfl
set_option maxRecDepth 100000 in
theorem m_2821 : Cond.methodLink RX15 794 yX15_meet ∈ W0 := w0_in (List.mem_append_right _ (List.mem_of_getElem? (i := 2821) rfl)) rfl
set_option maxRecDepth 100000 in
theorem m_2823 : Cond.instanceMethod yX15_meet ∈ W0 := w0_in (List.mem_append_right _ (List.mem_of_getElem? (i := 2823) rfl)) rfl
set_option maxRecDepth 100000 in
theorem m_2824 : Cond.code yX15_meet cX15_meet 3 none ∈ W0 := w0_in (List.mem_append_right _ (List.mem_of_getElem? (i := 2824) rfl)) rfl
set_option maxRecDepth 100000 in
theorem m_2825 : Cond.methodLink RX15 798 yX15_isLike ∈ W0 := w0_in (List.mem_append_right _ (List.mem_of_getElem? (i := 2825) rfl)) rfl
set_option maxRecDepth 100000 in
theorem m_2827 : Cond.instanceMethod yX15_isLike ∈ W0 := w0_in (List.mem_append_right _ (List.mem_of_getElem? (i := 2827) rfl)) rfl
set_option maxRecDepth 100000 in
theorem m_2828 : Cond.code yX15_isLike cX15_isLike 4 (some .boolean) ∈ W0 := w0_in (List.mem_append_right _ (List.mem_of_getElem? (i := 2828) rfl)) rfl
theorem cw_X15_794 : cwd RX15 794 yX15_meet cX15_meet 3 none false 2 := ⟨m_2824, m_2821, m_19, ⟨m_2823, ms_214⟩, by decide, by decide, by decide +kernel⟩
theorem cw_X15_790 : cwd RX15 790 yX15_stateBehind cX15_stateBehind 8 (some .int) false 5 := ⟨m_2816, m_2813, m_19, ⟨m_2815, ms_212⟩, by decide, by decide, by decide +kernel⟩
theorem cw_X15_798 : cwd RX15 798 yX15_isLike cX15_isLike 4 (some .boolean) false 2 := ⟨m_2828, m_2825, m_19, ⟨m_2827, ms_215⟩, by decide, by decide, by decide +kernel⟩
theorem dX15_meetAll_0 : decode cX15_meetAll 0 = .ok (.aload_n 0, 1) := by decide +kernel
theorem dX15_meetAll_1 : decode cX15_meetAll 1 = .ok (.getfield 336, 3) := by decide +kernel
theorem dX15_meetAll_4 : decode cX15_meetAll 4 = .ok (.iconst 5, 1) := by decide +kernel
theorem dX15_meetAll_5 : decode cX15_meetAll 5 = .ok (.iload_n 1, 1) := by decide +kernel
theorem dX15_meetAll_6 : decode cX15_meetAll 6 = .ok (.imul, 1) := by decide +kernel
theorem dX15_meetAll_7 : decode cX15_meetAll 7 = .ok (.iload_n 3, 1) := by decide +kernel
theorem dX15_meetAll_8 : decode cX15_meetAll 8 = .ok (.iadd, 1) := by decide +kernel
theorem dX15_meetAll_9 : decode cX15_meetAll 9 = .ok (.iaload, 1) := by decide +kernel
theorem dX15_meetAll_10 : decode cX15_meetAll 10 = .ok (.istore 7, 2) := by decide +kernel
theorem dX15_meetAll_12 : decode cX15_meetAll 12 = .ok (.iload_n 2, 1) := by decide +kernel
theorem dX15_meetAll_13 : decode cX15_meetAll 13 = .ok (.iconst 1, 1) := by decide +kernel
theorem dX15_meetAll_14 : decode cX15_meetAll 14 = .ok (.iand, 1) := by decide +kernel
theorem dX15_meetAll_15 : decode cX15_meetAll 15 = .ok (.istore 8, 2) := by decide +kernel
theorem dX15_meetAll_17 : decode cX15_meetAll 17 = .ok (.iload 7, 2) := by decide +kernel
theorem dX15_meetAll_19 : decode cX15_meetAll 19 = .ok (.invokestatic 492, 3) := by decide +kernel
theorem dX15_meetAll_22 : decode cX15_meetAll 22 = .ok (.istore 9, 2) := by decide +kernel
theorem dX15_meetAll_24 : decode cX15_meetAll 24 = .ok (.aload_n 0, 1) := by decide +kernel
theorem dX15_meetAll_25 : decode cX15_meetAll 25 = .ok (.iload 9, 2) := by decide +kernel
theorem dX15_meetAll_27 : decode cX15_meetAll 27 = .ok (.invokevirtual 495, 3) := by decide +kernel
theorem dX15_meetAll_30 : decode cX15_meetAll 30 = .ok (.ifCond .eq 119, 3) := by decide +kernel
theorem dX15_meetAll_33 : decode cX15_meetAll 33 = .ok (.aload_n 0, 1) := by decide +kernel
theorem dX15_meetAll_34 : decode cX15_meetAll 34 = .ok (.iload 4, 2) := by decide +kernel
theorem dX15_meetAll_36 : decode cX15_meetAll 36 = .ok (.iload 8, 2) := by decide +kernel
theorem dX15_meetAll_38 : decode cX15_meetAll 38 = .ok (.invokevirtual 498, 3) := by decide +kernel
theorem dX15_meetAll_41 : decode cX15_meetAll 41 = .ok (.aload_n 0, 1) := by decide +kernel
theorem dX15_meetAll_42 : decode cX15_meetAll 42 = .ok (.getfield 383, 3) := by decide +kernel
theorem dX15_meetAll_45 : decode cX15_meetAll 45 = .ok (.if_icmp .ne 104, 3) := by decide +kernel
theorem dX15_meetAll_48 : decode cX15_meetAll 48 = .ok (.iconst 0, 1) := by decide +kernel
theorem dX15_meetAll_49 : decode cX15_meetAll 49 = .ok (.istore 10, 2) := by decide +kernel
theorem dX15_meetAll_51 : decode cX15_meetAll 51 = .ok (.iload 10, 2) := by decide +kernel
theorem dX15_meetAll_53 : decode cX15_meetAll 53 = .ok (.aload_n 0, 1) := by decide +kernel
theorem dX15_meetAll_54 : decode cX15_meetAll 54 = .ok (.getfield 252, 3) := by decide +kernel
theorem dX15_meetAll_57 : decode cX15_meetAll 57 = .ok (.getfield 215, 3) := by decide +kernel
theorem dX15_meetAll_60 : decode cX15_meetAll 60 = .ok (.iload 9, 2) := by decide +kernel
theorem dX15_meetAll_62 : decode cX15_meetAll 62 = .ok (.iaload, 1) := by decide +kernel
theorem dX15_meetAll_63 : decode cX15_meetAll 63 = .ok (.if_icmp .ge 85, 3) := by decide +kernel
theorem dX15_meetAll_66 : decode cX15_meetAll 66 = .ok (.aload_n 0, 1) := by decide +kernel
theorem dX15_meetAll_67 : decode cX15_meetAll 67 = .ok (.iload_n 1, 1) := by decide +kernel
theorem dX15_meetAll_68 : decode cX15_meetAll 68 = .ok (.iload_n 3, 1) := by decide +kernel
theorem dX15_meetAll_69 : decode cX15_meetAll 69 = .ok (.iload 4, 2) := by decide +kernel
theorem dX15_meetAll_71 : decode cX15_meetAll 71 = .ok (.aload_n 0, 1) := by decide +kernel
theorem dX15_meetAll_72 : decode cX15_meetAll 72 = .ok (.getfield 252, 3) := by decide +kernel
theorem dX15_meetAll_75 : decode cX15_meetAll 75 = .ok (.getfield 223, 3) := by decide +kernel
theorem dX15_meetAll_78 : decode cX15_meetAll 78 = .ok (.bipush 6, 2) := by decide +kernel
theorem dX15_meetAll_80 : decode cX15_meetAll 80 = .ok (.iload 9, 2) := by decide +kernel
theorem dX15_meetAll_82 : decode cX15_meetAll 82 = .ok (.imul, 1) := by decide +kernel
theorem dX15_meetAll_83 : decode cX15_meetAll 83 = .ok (.iload 10, 2) := by decide +kernel
theorem dX15_meetAll_85 : decode cX15_meetAll 85 = .ok (.iadd, 1) := by decide +kernel
theorem dX15_meetAll_86 : decode cX15_meetAll 86 = .ok (.iaload, 1) := by decide +kernel
theorem dX15_meetAll_87 : decode cX15_meetAll 87 = .ok (.iload 8, 2) := by decide +kernel
theorem dX15_meetAll_89 : decode cX15_meetAll 89 = .ok (.invokestatic 398, 3) := by decide +kernel
theorem dX15_meetAll_92 : decode cX15_meetAll 92 = .ok (.iload 8, 2) := by decide +kernel
theorem dX15_meetAll_94 : decode cX15_meetAll 94 = .ok (.invokevirtual 790, 3) := by decide +kernel
theorem dX15_meetAll_97 : decode cX15_meetAll 97 = .ok (.istore 11, 2) := by decide +kernel
theorem dX15_meetAll_99 : decode cX15_meetAll 99 = .ok (.aload_n 0, 1) := by decide +kernel
theorem dX15_meetAll_100 : decode cX15_meetAll 100 = .ok (.getfield 252, 3) := by decide +kernel
theorem dX15_meetAll_103 : decode cX15_meetAll 103 = .ok (.getfield 138, 3) := by decide +kernel
theorem dX15_meetAll_106 : decode cX15_meetAll 106 = .ok (.ifCond .eq 23, 3) := by decide +kernel
theorem dX15_meetAll_109 : decode cX15_meetAll 109 = .ok (.aload_n 0, 1) := by decide +kernel
theorem dX15_meetAll_110 : decode cX15_meetAll 110 = .ok (.getfield 349, 3) := by decide +kernel
theorem dX15_meetAll_113 : decode cX15_meetAll 113 = .ok (.iload 11, 2) := by decide +kernel
theorem dX15_meetAll_115 : decode cX15_meetAll 115 = .ok (.bipush 6, 2) := by decide +kernel
theorem dX15_meetAll_117 : decode cX15_meetAll 117 = .ok (.ishr, 1) := by decide +kernel
theorem dX15_meetAll_118 : decode cX15_meetAll 118 = .ok (.laload, 1) := by decide +kernel
theorem dX15_meetAll_119 : decode cX15_meetAll 119 = .ok (.iload 11, 2) := by decide +kernel
theorem dX15_meetAll_121 : decode cX15_meetAll 121 = .ok (.lshr, 1) := by decide +kernel
theorem dX15_meetAll_122 : decode cX15_meetAll 122 = .ok (.lconst 1, 1) := by decide +kernel
theorem dX15_meetAll_123 : decode cX15_meetAll 123 = .ok (.land, 1) := by decide +kernel
theorem dX15_meetAll_124 : decode cX15_meetAll 124 = .ok (.lconst 0, 1) := by decide +kernel
theorem dX15_meetAll_125 : decode cX15_meetAll 125 = .ok (.lcmp, 1) := by decide +kernel
theorem dX15_meetAll_126 : decode cX15_meetAll 126 = .ok (.ifCond .ne 16, 3) := by decide +kernel
theorem dX15_meetAll_129 : decode cX15_meetAll 129 = .ok (.aload_n 0, 1) := by decide +kernel
theorem dX15_meetAll_130 : decode cX15_meetAll 130 = .ok (.aload_n 0, 1) := by decide +kernel
theorem dX15_meetAll_131 : decode cX15_meetAll 131 = .ok (.getfield 343, 3) := by decide +kernel
theorem dX15_meetAll_134 : decode cX15_meetAll 134 = .ok (.iload 11, 2) := by decide +kernel
theorem dX15_meetAll_136 : decode cX15_meetAll 136 = .ok (.iaload, 1) := by decide +kernel
theorem dX15_meetAll_137 : decode cX15_meetAll 137 = .ok (.iload 6, 2) := by decide +kernel
theorem dX15_meetAll_139 : decode cX15_meetAll 139 = .ok (.invokevirtual 794, 3) := by decide +kernel
theorem dX15_meetAll_142 : decode cX15_meetAll 142 = .ok (.iinc 10 1, 3) := by decide +kernel
theorem dX15_meetAll_145 : decode cX15_meetAll 145 = .ok (.goto (-94), 3) := by decide +kernel
theorem dX15_meetAll_148 : decode cX15_meetAll 148 = .ok (.return_, 1) := by decide +kernel
theorem dX15_meetAll_149 : decode cX15_meetAll 149 = .ok (.aload_n 0, 1) := by decide +kernel
theorem dX15_meetAll_150 : decode cX15_meetAll 150 = .ok (.iload_n 1, 1) := by decide +kernel
theorem dX15_meetAll_151 : decode cX15_meetAll 151 = .ok (.iload_n 3, 1) := by decide +kernel
theorem dX15_meetAll_152 : decode cX15_meetAll 152 = .ok (.invokevirtual 798, 3) := by decide +kernel
theorem dX15_meetAll_155 : decode cX15_meetAll 155 = .ok (.ifCond .ne 7, 3) := by decide +kernel
theorem dX15_meetAll_158 : decode cX15_meetAll 158 = .ok (.iconst 1, 1) := by decide +kernel
theorem dX15_meetAll_159 : decode cX15_meetAll 159 = .ok (.goto 4, 3) := by decide +kernel
theorem dX15_meetAll_162 : decode cX15_meetAll 162 = .ok (.iconst 0, 1) := by decide +kernel
theorem dX15_meetAll_163 : decode cX15_meetAll 163 = .ok (.istore 10, 2) := by decide +kernel
theorem dX15_meetAll_165 : decode cX15_meetAll 165 = .ok (.iconst 0, 1) := by decide +kernel
theorem dX15_meetAll_166 : decode cX15_meetAll 166 = .ok (.istore 11, 2) := by decide +kernel
theorem dX15_meetAll_168 : decode cX15_meetAll 168 = .ok (.iload 11, 2) := by decide +kernel
theorem dX15_meetAll_170 : decode cX15_meetAll 170 = .ok (.aload_n 0, 1) := by decide +kernel
theorem dX15_meetAll_171 : decode cX15_meetAll 171 = .ok (.getfield 333, 3) := by decide +kernel
theorem dX15_meetAll_174 : decode cX15_meetAll 174 = .ok (.iload_n 1, 1) := by decide +kernel
theorem dX15_meetAll_175 : decode cX15_meetAll 175 = .ok (.iaload, 1) := by decide +kernel
theorem dX15_meetAll_176 : decode cX15_meetAll 176 = .ok (.if_icmp .ge 31, 3) := by decide +kernel
theorem dX15_meetAll_179 : decode cX15_meetAll 179 = .ok (.iload 10, 2) := by decide +kernel
theorem dX15_meetAll_181 : decode cX15_meetAll 181 = .ok (.aload_n 0, 1) := by decide +kernel
theorem dX15_meetAll_182 : decode cX15_meetAll 182 = .ok (.getfield 368, 3) := by decide +kernel
theorem dX15_meetAll_185 : decode cX15_meetAll 185 = .ok (.iload 11, 2) := by decide +kernel
theorem dX15_meetAll_187 : decode cX15_meetAll 187 = .ok (.iaload, 1) := by decide +kernel
theorem dX15_meetAll_188 : decode cX15_meetAll 188 = .ok (.iload 4, 2) := by decide +kernel
theorem dX15_meetAll_190 : decode cX15_meetAll 190 = .ok (.if_icmp .eq 7, 3) := by decide +kernel
theorem dX15_meetAll_193 : decode cX15_meetAll 193 = .ok (.iconst 1, 1) := by decide +kernel
theorem dX15_meetAll_194 : decode cX15_meetAll 194 = .ok (.goto 4, 3) := by decide +kernel
theorem dX15_meetAll_197 : decode cX15_meetAll 197 = .ok (.iconst 0, 1) := by decide +kernel
theorem dX15_meetAll_198 : decode cX15_meetAll 198 = .ok (.iand, 1) := by decide +kernel
theorem dX15_meetAll_199 : decode cX15_meetAll 199 = .ok (.istore 10, 2) := by decide +kernel
theorem dX15_meetAll_201 : decode cX15_meetAll 201 = .ok (.iinc 11 1, 3) := by decide +kernel
theorem dX15_meetAll_204 : decode cX15_meetAll 204 = .ok (.goto (-36), 3) := by decide +kernel
theorem dX15_meetAll_207 : decode cX15_meetAll 207 = .ok (.aload_n 0, 1) := by decide +kernel
theorem dX15_meetAll_208 : decode cX15_meetAll 208 = .ok (.aload_n 0, 1) := by decide +kernel
theorem dX15_meetAll_209 : decode cX15_meetAll 209 = .ok (.getfield 343, 3) := by decide +kernel
theorem dX15_meetAll_212 : decode cX15_meetAll 212 = .ok (.iload 10, 2) := by decide +kernel
theorem dX15_meetAll_214 : decode cX15_meetAll 214 = .ok (.ifCond .eq 34, 3) := by decide +kernel
theorem dX15_meetAll_217 : decode cX15_meetAll 217 = .ok (.aload_n 0, 1) := by decide +kernel
theorem dX15_meetAll_218 : decode cX15_meetAll 218 = .ok (.getfield 339, 3) := by decide +kernel
theorem dX15_meetAll_221 : decode cX15_meetAll 221 = .ok (.iload_n 1, 1) := by decide +kernel
theorem dX15_meetAll_222 : decode cX15_meetAll 222 = .ok (.iaload, 1) := by decide +kernel
theorem dX15_meetAll_223 : decode cX15_meetAll 223 = .ok (.iload_n 2, 1) := by decide +kernel
theorem dX15_meetAll_224 : decode cX15_meetAll 224 = .ok (.iadd, 1) := by decide +kernel
theorem dX15_meetAll_225 : decode cX15_meetAll 225 = .ok (.iload 4, 2) := by decide +kernel
theorem dX15_meetAll_227 : decode cX15_meetAll 227 = .ok (.aload_n 0, 1) := by decide +kernel
theorem dX15_meetAll_228 : decode cX15_meetAll 228 = .ok (.getfield 368, 3) := by decide +kernel
theorem dX15_meetAll_231 : decode cX15_meetAll 231 = .ok (.iload_n 3, 1) := by decide +kernel
theorem dX15_meetAll_232 : decode cX15_meetAll 232 = .ok (.iaload, 1) := by decide +kernel
theorem dX15_meetAll_233 : decode cX15_meetAll 233 = .ok (.isub, 1) := by decide +kernel
theorem dX15_meetAll_234 : decode cX15_meetAll 234 = .ok (.iload 5, 2) := by decide +kernel
theorem dX15_meetAll_236 : decode cX15_meetAll 236 = .ok (.imul, 1) := by decide +kernel
theorem dX15_meetAll_237 : decode cX15_meetAll 237 = .ok (.iadd, 1) := by decide +kernel
theorem dX15_meetAll_238 : decode cX15_meetAll 238 = .ok (.iconst 1, 1) := by decide +kernel
theorem dX15_meetAll_239 : decode cX15_meetAll 239 = .ok (.iadd, 1) := by decide +kernel
theorem dX15_meetAll_240 : decode cX15_meetAll 240 = .ok (.iconst 2, 1) := by decide +kernel
theorem dX15_meetAll_241 : decode cX15_meetAll 241 = .ok (.iload 8, 2) := by decide +kernel
theorem dX15_meetAll_243 : decode cX15_meetAll 243 = .ok (.imul, 1) := by decide +kernel
theorem dX15_meetAll_244 : decode cX15_meetAll 244 = .ok (.isub, 1) := by decide +kernel
theorem dX15_meetAll_245 : decode cX15_meetAll 245 = .ok (.goto 15, 3) := by decide +kernel
theorem dX15_meetAll_248 : decode cX15_meetAll 248 = .ok (.aload_n 0, 1) := by decide +kernel
theorem dX15_meetAll_249 : decode cX15_meetAll 249 = .ok (.iload_n 1, 1) := by decide +kernel
theorem dX15_meetAll_250 : decode cX15_meetAll 250 = .ok (.iload_n 3, 1) := by decide +kernel
theorem dX15_meetAll_251 : decode cX15_meetAll 251 = .ok (.iload 4, 2) := by decide +kernel
theorem dX15_meetAll_253 : decode cX15_meetAll 253 = .ok (.iload 7, 2) := by decide +kernel
theorem dX15_meetAll_255 : decode cX15_meetAll 255 = .ok (.iload 8, 2) := by decide +kernel
theorem dX15_meetAll_257 : decode cX15_meetAll 257 = .ok (.invokevirtual 790, 3) := by decide +kernel
theorem dX15_meetAll_260 : decode cX15_meetAll 260 = .ok (.iaload, 1) := by decide +kernel
theorem dX15_meetAll_261 : decode cX15_meetAll 261 = .ok (.iload 6, 2) := by decide +kernel
theorem dX15_meetAll_263 : decode cX15_meetAll 263 = .ok (.invokevirtual 794, 3) := by decide +kernel
theorem dX15_meetAll_266 : decode cX15_meetAll 266 = .ok (.return_, 1) := by decide +kernel
set_option maxRecDepth 20000 in
theorem moX15_meetAll_260 {o : Hp} {F : Nat} {h : Hp} {x6 : Int32} {t0 : Int32} {t1 : Nat} {t2 : Nat} (hE : sX15_meetAll_260 F h x6 t0 t1 t2 = some o) : Le h o := by
  obtain ⟨g_1, hE⟩ := gd_e hE
  obtain ⟨o_2, eo_2, hE⟩ := cl_e hE
  refine (moX15_meet eo_2).tr ?_
  exact le_some1 hE
set_option maxRecDepth 20000 in
theorem moX15_meetAll_198 {o : Hp} {k_168 : Hp → Nat → Int32 → Int32 → Int32 → Int32 → Int32 → Int32 → Int32 → Int32 → Int32 → Int32 → Option (Hp)} {F : Nat} (mk_168 : ∀ (h : Hp) (x0 : Nat) (x1 : Int32) (x2 : Int32) (x3 : Int32) (x4 : Int32) (x5 : Int32) (x6 : Int32) (x7 : Int32) (x8 : Int32) (x10 : Int32) (x11 : Int32), k_168 h x0 x1 x2 x3 x4 x5 x6 x7 x8 x10 x11 = some o → Le h o) {h : Hp} {x0 : Nat} {x1 : Int32} {x2 : Int32} {x3 : Int32} {x4 : Int32} {x5 : Int32} {x6 : Int32} {x7 : Int32} {x8 : Int32} {x11 : Int32} {t0 : Int32} {t1 : Int32} (hE : sX15_meetAll_198 F k_168 h x0 x1 x2 x3 x4 x5 x6 x7 x8 x11 t0 t1 = some o) : Le h o := by
  obtain ⟨v_1, ev_1, hE⟩ := nm_e2 hE
  obtain ⟨v_2, ev_2, hE⟩ := nm_e2 hE
  exact mk_168 _ _ _ _ _ _ _ _ _ _ _ _ hE
set_option maxRecDepth 20000 in
theorem moX15_meetAll_168 {o : Hp} {F : Nat} : ∀ (f : Nat) {h : Hp} {x0 : Nat} {x1 : Int32} {x2 : Int32} {x3 : Int32} {x4 : Int32} {x5 : Int32} {x6 : Int32} {x7 : Int32} {x8 : Int32} {x10 : Int32} {x11 : Int32}, sX15_meetAll_168 F f h x0 x1 x2 x3 x4 x5 x6 x7 x8 x10 x11 = some o → Le h o := by
  intro f
  induction f with
  | zero =>
    intro h x0 x1 x2 x3 x4 x5 x6 x7 x8 x10 x11 hE
    rw [sX15_meetAll_168] at hE
    cases hE
  | succ f ih =>
    intro h x0 x1 x2 x3 x4 x5 x6 x7 x8 x10 x11 hE
    rw [sX15_meetAll_168] at hE
    have mk_168 : ∀ (h : Hp) (x0 : Nat) (x1 : Int32) (x2 : Int32) (x3 : Int32) (x4 : Int32) (x5 : Int32) (x6 : Int32) (x7 : Int32) (x8 : Int32) (x10 : Int32) (x11 : Int32), sX15_meetAll_168 F f h x0 x1 x2 x3 x4 x5 x6 x7 x8 x10 x11 = some o → Le h o := fun h x0 x1 x2 x3 x4 x5 x6 x7 x8 x10 x11 hE => ih hE
    obtain ⟨r_1, er_1, hE⟩ := cl_e hE
    obtain ⟨g_2, hE⟩ := gd_e hE
    rcases br_e hE with ⟨_, hE⟩ | ⟨_, hE⟩
    · obtain ⟨r_4, er_4, hE⟩ := cl_e hE
      rcases br_e hE with ⟨_, hE⟩ | ⟨_, hE⟩
      · obtain ⟨o_6, eo_6, hE⟩ := cl_e hE
        refine (moX15_stateBehind eo_6).tr ?_
        exact moX15_meetAll_260 hE
      · obtain ⟨r_7, er_7, hE⟩ := cl_e hE
        obtain ⟨g_8, hE⟩ := gd_e hE
        obtain ⟨r_9, er_9, hE⟩ := cl_e hE
        obtain ⟨g_10, hE⟩ := gd_e hE
        exact moX15_meetAll_260 hE
    · obtain ⟨r_11, er_11, hE⟩ := cl_e hE
      obtain ⟨g_12, hE⟩ := gd_e hE
      rcases br_e hE with ⟨_, hE⟩ | ⟨_, hE⟩
      · exact moX15_meetAll_198 mk_168 hE
      · exact moX15_meetAll_198 mk_168 hE
set_option maxRecDepth 20000 in
theorem moX15_meetAll_163 {o : Hp} {F : Nat} {h : Hp} {x0 : Nat} {x1 : Int32} {x2 : Int32} {x3 : Int32} {x4 : Int32} {x5 : Int32} {x6 : Int32} {x7 : Int32} {x8 : Int32} {t0 : Int32} (hE : sX15_meetAll_163 F h x0 x1 x2 x3 x4 x5 x6 x7 x8 t0 = some o) : Le h o := by
  exact moX15_meetAll_168 _ hE
set_option maxRecDepth 20000 in
theorem moX15_meetAll_149 {o : Hp} {F : Nat} {h : Hp} {x0 : Nat} {x1 : Int32} {x2 : Int32} {x3 : Int32} {x4 : Int32} {x5 : Int32} {x6 : Int32} {x7 : Int32} {x8 : Int32} (hE : sX15_meetAll_149 F h x0 x1 x2 x3 x4 x5 x6 x7 x8 = some o) : Le h o := by
  obtain ⟨o_1, eo_1, hE⟩ := cl_e hE
  refine (moX15_isLike eo_1).tr ?_
  rcases br_e hE with ⟨_, hE⟩ | ⟨_, hE⟩
  · exact moX15_meetAll_163 hE
  · exact moX15_meetAll_163 hE
set_option maxRecDepth 20000 in
theorem moX15_meetAll_142 {o : Hp} {k_51 : Hp → Nat → Int32 → Int32 → Int32 → Int32 → Int32 → Int32 → Int32 → Option (Hp)} {F : Nat} (mk_51 : ∀ (h : Hp) (x0 : Nat) (x1 : Int32) (x3 : Int32) (x4 : Int32) (x6 : Int32) (x8 : Int32) (x9 : Int32) (x10 : Int32), k_51 h x0 x1 x3 x4 x6 x8 x9 x10 = some o → Le h o) {h : Hp} {x0 : Nat} {x1 : Int32} {x3 : Int32} {x4 : Int32} {x6 : Int32} {x8 : Int32} {x9 : Int32} {x10 : Int32} (hE : sX15_meetAll_142 F k_51 h x0 x1 x3 x4 x6 x8 x9 x10 = some o) : Le h o := by
  obtain ⟨v_1, ev_1, hE⟩ := nm_e2 hE
  exact mk_51 _ _ _ _ _ _ _ _ _ hE
set_option maxRecDepth 20000 in
theorem moX15_meetAll_129 {o : Hp} {k_51 : Hp → Nat → Int32 → Int32 → Int32 → Int32 → Int32 → Int32 → Int32 → Option (Hp)} {F : Nat} (mk_51 : ∀ (h : Hp) (x0 : Nat) (x1 : Int32) (x3 : Int32) (x4 : Int32) (x6 : Int32) (x8 : Int32) (x9 : Int32) (x10 : Int32), k_51 h x0 x1 x3 x4 x6 x8 x9 x10 = some o → Le h o) {h : Hp} {x0 : Nat} {x1 : Int32} {x3 : Int32} {x4 : Int32} {x6 : Int32} {x8 : Int32} {x9 : Int32} {x10 : Int32} {x11 : Int32} (hE : sX15_meetAll_129 F k_51 h x0 x1 x3 x4 x6 x8 x9 x10 x11 = some o) : Le h o := by
  obtain ⟨r_1, er_1, hE⟩ := cl_e hE
  obtain ⟨g_2, hE⟩ := gd_e hE
  obtain ⟨o_3, eo_3, hE⟩ := cl_e hE
  refine (moX15_meet eo_3).tr ?_
  exact moX15_meetAll_142 mk_51 hE
set_option maxRecDepth 20000 in
theorem moX15_meetAll_51 {o : Hp} {F : Nat} : ∀ (f : Nat) {h : Hp} {x0 : Nat} {x1 : Int32} {x3 : Int32} {x4 : Int32} {x6 : Int32} {x8 : Int32} {x9 : Int32} {x10 : Int32}, sX15_meetAll_51 F f h x0 x1 x3 x4 x6 x8 x9 x10 = some o → Le h o := by
  intro f
  induction f with
  | zero =>
    intro h x0 x1 x3 x4 x6 x8 x9 x10 hE
    rw [sX15_meetAll_51] at hE
    cases hE
  | succ f ih =>
    intro h x0 x1 x3 x4 x6 x8 x9 x10 hE
    rw [sX15_meetAll_51] at hE
    have mk_51 : ∀ (h : Hp) (x0 : Nat) (x1 : Int32) (x3 : Int32) (x4 : Int32) (x6 : Int32) (x8 : Int32) (x9 : Int32) (x10 : Int32), sX15_meetAll_51 F f h x0 x1 x3 x4 x6 x8 x9 x10 = some o → Le h o := fun h x0 x1 x3 x4 x6 x8 x9 x10 hE => ih hE
    obtain ⟨r_1, er_1, hE⟩ := cl_e hE
    obtain ⟨r_2, er_2, hE⟩ := cl_e hE
    obtain ⟨g_3, hE⟩ := gd_e hE
    rcases br_e hE with ⟨_, hE⟩ | ⟨_, hE⟩
    · exact le_some1 hE
    · obtain ⟨r_5, er_5, hE⟩ := cl_e hE
      obtain ⟨r_6, er_6, hE⟩ := cl_e hE
      obtain ⟨g_7, hE⟩ := gd_e hE
      obtain ⟨o_8, eo_8, hE⟩ := cl_e hE
      refine (moX15_valueOf eo_8).tr ?_
      obtain ⟨o_9, eo_9, hE⟩ := cl_e hE
      refine (moX15_stateBehind eo_9).tr ?_
      obtain ⟨r_10, er_10, hE⟩ := cl_e hE
      rcases br_e hE with ⟨_, hE⟩ | ⟨_, hE⟩
      · exact moX15_meetAll_129 mk_51 hE
      · obtain ⟨r_12, er_12, hE⟩ := cl_e hE
        obtain ⟨g_13, hE⟩ := gd_e hE
        rcases br_e hE with ⟨_, hE⟩ | ⟨_, hE⟩
        · exact moX15_meetAll_129 mk_51 hE
        · exact moX15_meetAll_142 mk_51 hE
set_option maxRecDepth 20000 in
theorem moX15_meetAll {o : Hp} {F : Nat} {h : Hp} {x0 : Nat} {x1 : Int32} {x2 : Int32} {x3 : Int32} {x4 : Int32} {x5 : Int32} {x6 : Int32} (hE : sX15_meetAll F h x0 x1 x2 x3 x4 x5 x6 = some o) : Le h o := by
  obtain ⟨r_1, er_1, hE⟩ := cl_e hE
  obtain ⟨g_2, hE⟩ := gd_e hE
  obtain ⟨v_3, ev_3, hE⟩ := nm_e2 hE
  obtain ⟨v_4, ev_4, hE⟩ := nm_e2 hE
  obtain ⟨o_5, eo_5, hE⟩ := cl_e hE
  refine (moX15_manOf eo_5).tr ?_
  obtain ⟨o_6, eo_6, hE⟩ := cl_e hE
  refine (moX15_becomesOthers eo_6).tr ?_
  rcases br_e hE with ⟨_, hE⟩ | ⟨_, hE⟩
  · exact moX15_meetAll_149 hE
  · obtain ⟨o_8, eo_8, hE⟩ := cl_e hE
    refine (moX15_rankFor eo_8).tr ?_
    rcases br_e hE with ⟨_, hE⟩ | ⟨_, hE⟩
    · exact moX15_meetAll_51 _ hE
    · exact moX15_meetAll_149 hE
set_option maxRecDepth 20000 in
theorem bX15_meetAll_260 {p : Program} {l : Launch} {e : Env} {s : State} {m : MethodId} {args : Array Value} {below : List Frame} {meth : Method} {c : Code} {X : Ec} {h0 : Hp} {o : Hp} {F : Nat} (C : Cx X p s m args meth c RX15 cX15_meetAll 12 none "meetAll") {h : Hp} {x6 : Int32} {t0 : Int32} {t1 : Nat} {t2 : Nat} {H : Heap} {locs : List Loc} (k_t1 : hK h t1 = 17) (k_t2 : hK h t2 = 15) (hkm : Km h0 h) (hW : Wx X h H) (hZ : va_S (aA (eB X)) s.heap H locs) (ls : Array Slot) (hl : lv_has ls 12 [(6, .int x6)]) (hE : sX15_meetAll_260 F h x6 t0 t1 t2 = some o) : W p l e (rm 4 98) s m args below meth c H locs 0 0 (MQ below (QV X h0 o) args s 0 0 (aA (eB X))) (F0 m 260 ls [.int t0, .ref t1, .ref t2]) := by
  obtain ⟨g_1, hE⟩ := gd_e hE
  refine y_iald C hW k_t1 g_1 dX15_meetAll_260 ?_
  refine lv_iload C.1 C.2.1 dX15_meetAll_261 (lv_at hl 0 rfl) ?_
  obtain ⟨o_2, eo_2, hE⟩ := cl_e hE
  refine x_kV (o := o_2) (z_runV (As := [.int (hI h t1 t0.toNatClampNeg), .int x6]) (rest := []) C (ct_X15_meet l X k_t2 eo_2) cw_X15_794 hW hZ k_t2 (by decide) rfl rfl rfl hl.1 (Nat.le_of_ble_eq_true rfl) rfl dX15_meetAll_263 ⟨Nat.le_of_ble_eq_true rfl, Nat.le_of_ble_eq_true rfl⟩ ⟨Nat.le_refl _, Nat.le_refl _⟩) hZ (fun _ _ hW km hZ => ?_)
  replace hkm := hkm.tr km
  exact x_vret C rfl hW hZ hkm hE dX15_meetAll_266
set_option maxRecDepth 20000 in
theorem bX15_meetAll_198 {p : Program} {l : Launch} {e : Env} {s : State} {m : MethodId} {args : Array Value} {below : List Frame} {meth : Method} {c : Code} {X : Ec} {h0 : Hp} {o : Hp} {k_168 : Hp → Nat → Int32 → Int32 → Int32 → Int32 → Int32 → Int32 → Int32 → Int32 → Int32 → Int32 → Option (Hp)} {F : Nat} (C : Cx X p s m args meth c RX15 cX15_meetAll 12 none "meetAll") (hk_168 : ∀ (h : Hp) (x0 : Nat) (x1 : Int32) (x2 : Int32) (x3 : Int32) (x4 : Int32) (x5 : Int32) (x6 : Int32) (x7 : Int32) (x8 : Int32) (x10 : Int32) (x11 : Int32) (H : Heap) (locs : List Loc), hK h x0 = 15 → Km h0 h → Wx X h H → va_S (aA (eB X)) s.heap H locs → ∀ (ls : Array Slot), lv_has ls 12 [(0, .ref x0), (1, .int x1), (2, .int x2), (3, .int x3), (4, .int x4), (5, .int x5), (6, .int x6), (7, .int x7), (8, .int x8), (10, .int x10), (11, .int x11)] → k_168 h x0 x1 x2 x3 x4 x5 x6 x7 x8 x10 x11 = some o → W p l e (rm 4 98) s m args below meth c H locs 0 0 (MQ below (QV X h0 o) args s 0 0 (aA (eB X))) (F0 m 168 ls [])) {h : Hp} {x0 : Nat} {x1 : Int32} {x2 : Int32} {x3 : Int32} {x4 : Int32} {x5 : Int32} {x6 : Int32} {x7 : Int32} {x8 : Int32} {x11 : Int32} {t0 : Int32} {t1 : Int32} {H : Heap} {locs : List Loc} (k_x0 : hK h x0 = 15) (hkm : Km h0 h) (hW : Wx X h H) (hZ : va_S (aA (eB X)) s.heap H locs) (ls : Array Slot) (hl : lv_has ls 12 [(0, .ref x0), (1, .int x1), (2, .int x2), (3, .int x3), (4, .int x4), (5, .int x5), (6, .int x6), (7, .int x7), (8, .int x8), (11, .int x11)]) (hE : sX15_meetAll_198 F k_168 h x0 x1 x2 x3 x4 x5 x6 x7 x8 x11 t0 t1 = some o) : W p l e (rm 4 98) s m args below meth c H locs 0 0 (MQ below (QV X h0 o) args s 0 0 (aA (eB X))) (F0 m 198 ls [.int t0, .int t1]) := by
  refine lv_iand C.1 C.2.1 dX15_meetAll_198 ?_
  obtain ⟨v_1, ev_1, hE⟩ := nm_e2 hE
  refine x_nmI ev_1 ?_
  refine lv_istore (lv' := [(10, .int v_1), (0, .ref x0), (1, .int x1), (2, .int x2), (3, .int x3), (4, .int x4), (5, .int x5), (6, .int x6), (7, .int x7), (8, .int x8), (11, .int x11)]) C.1 C.2.1 dX15_meetAll_199 hl (by decide) rfl (fun ls hl => ?_)
  obtain ⟨v_2, ev_2, hE⟩ := nm_e2 hE
  refine lv_iinc (v := v_2) (lv' := [(11, .int v_2), (10, .int v_1), (0, .ref x0), (1, .int x1), (2, .int x2), (3, .int x3), (4, .int x4), (5, .int x5), (6, .int x6), (7, .int x7), (8, .int x8)]) C.1 C.2.1 dX15_meetAll_201 hl (k := 10) rfl (by rw [ev_2]; rfl) (by decide) rfl (fun ls hl => ?_)
  refine lv_goto (tgt := 168) C.1 C.2.1 dX15_meetAll_204 (by decide) ?_
  exact hk_168 _ _ _ _ _ _ _ _ _ _ _ _ _ _ k_x0 hkm hW hZ _ (lv_sub hl [2, 3, 4, 5, 6, 7, 8, 9, 10, 1, 0] rfl) hE
set_option maxRecDepth 20000 in
theorem bX15_meetAll_168 {p : Program} {l : Launch} {e : Env} {s : State} {m : MethodId} {args : Array Value} {below : List Frame} {meth : Method} {c : Code} {X : Ec} {h0 : Hp} {o : Hp} {F : Nat} (C : Cx X p s m args meth c RX15 cX15_meetAll 12 none "meetAll") : ∀ (f : Nat) {h : Hp} {x0 : Nat} {x1 : Int32} {x2 : Int32} {x3 : Int32} {x4 : Int32} {x5 : Int32} {x6 : Int32} {x7 : Int32} {x8 : Int32} {x10 : Int32} {x11 : Int32} {H : Heap} {locs : List Loc} (k_x0 : hK h x0 = 15), Km h0 h → Wx X h H → va_S (aA (eB X)) s.heap H locs → ∀ (ls : Array Slot), lv_has ls 12 [(0, .ref x0), (1, .int x1), (2, .int x2), (3, .int x3), (4, .int x4), (5, .int x5), (6, .int x6), (7, .int x7), (8, .int x8), (10, .int x10), (11, .int x11)] → sX15_meetAll_168 F f h x0 x1 x2 x3 x4 x5 x6 x7 x8 x10 x11 = some o → W p l e (rm 4 98) s m args below meth c H locs 0 0 (MQ below (QV X h0 o) args s 0 0 (aA (eB X))) (F0 m 168 ls []) := by
  intro f
  induction f with
  | zero =>
    intro h x0 x1 x2 x3 x4 x5 x6 x7 x8 x10 x11 H locs k_x0 hkm hW hZ ls hl hE
    rw [sX15_meetAll_168] at hE
    cases hE
  | succ f ih =>
    intro h x0 x1 x2 x3 x4 x5 x6 x7 x8 x10 x11 H locs k_x0 hkm hW hZ ls hl hE
    rw [sX15_meetAll_168] at hE
    have hk_168 : ∀ (h : Hp) (x0 : Nat) (x1 : Int32) (x2 : Int32) (x3 : Int32) (x4 : Int32) (x5 : Int32) (x6 : Int32) (x7 : Int32) (x8 : Int32) (x10 : Int32) (x11 : Int32) (H : Heap) (locs : List Loc), hK h x0 = 15 → Km h0 h → Wx X h H → va_S (aA (eB X)) s.heap H locs → ∀ (ls : Array Slot), lv_has ls 12 [(0, .ref x0), (1, .int x1), (2, .int x2), (3, .int x3), (4, .int x4), (5, .int x5), (6, .int x6), (7, .int x7), (8, .int x8), (10, .int x10), (11, .int x11)] → sX15_meetAll_168 F f h x0 x1 x2 x3 x4 x5 x6 x7 x8 x10 x11 = some o → W p l e (rm 4 98) s m args below meth c H locs 0 0 (MQ below (QV X h0 o) args s 0 0 (aA (eB X))) (F0 m 168 ls []) := fun h x0 x1 x2 x3 x4 x5 x6 x7 x8 x10 x11 H locs k_x0 a b c ls hl hE => ih k_x0 a b c ls hl hE
    refine lv_iload C.1 C.2.1 dX15_meetAll_168 (lv_at hl 10 rfl) ?_
    refine lv_aload_n C.1 C.2.1 dX15_meetAll_170 rfl (lv_at hl 0 rfl) ?_
    obtain ⟨r_1, er_1, hE⟩ := cl_e hE
    refine gf_X15_333 C hW k_x0 er_1 dX15_meetAll_171 (fun k_r_1 => ?_)
    refine lv_iload_n C.1 C.2.1 dX15_meetAll_174 rfl (lv_at hl 1 rfl) ?_
    obtain ⟨g_2, hE⟩ := gd_e hE
    refine y_iald C hW k_r_1 g_2 dX15_meetAll_175 ?_
    refine lv_icmp_ge (tgt := 207) C.1 C.2.1 dX15_meetAll_176 (by decide) (fun c_3 => ?_) (fun c_3 => ?_)
    · have hE := br_p hE c_3
      refine lv_aload_n C.1 C.2.1 dX15_meetAll_207 rfl (lv_at hl 0 rfl) ?_
      refine lv_aload_n C.1 C.2.1 dX15_meetAll_208 rfl (lv_at hl 0 rfl) ?_
      obtain ⟨r_4, er_4, hE⟩ := cl_e hE
      refine gf_X15_343 C hW k_x0 er_4 dX15_meetAll_209 (fun k_r_4 => ?_)
      refine lv_iload C.1 C.2.1 dX15_meetAll_212 (lv_at hl 9 rfl) ?_
      refine lv_if_eq (tgt := 248) C.1 C.2.1 dX15_meetAll_214 (by decide) (fun c_5 => ?_) (fun c_5 => ?_)
      · have hE := br_p hE c_5
        refine lv_aload_n C.1 C.2.1 dX15_meetAll_248 rfl (lv_at hl 0 rfl) ?_
        refine lv_iload_n C.1 C.2.1 dX15_meetAll_249 rfl (lv_at hl 1 rfl) ?_
        refine lv_iload_n C.1 C.2.1 dX15_meetAll_250 rfl (lv_at hl 3 rfl) ?_
        refine lv_iload C.1 C.2.1 dX15_meetAll_251 (lv_at hl 4 rfl) ?_
        refine lv_iload C.1 C.2.1 dX15_meetAll_253 (lv_at hl 7 rfl) ?_
        refine lv_iload C.1 C.2.1 dX15_meetAll_255 (lv_at hl 8 rfl) ?_
        obtain ⟨o_6, eo_6, hE⟩ := cl_e hE
        refine x_kI (o := o_6) (z_runV (As := [.int x1, .int x3, .int x4, .int x7, .int x8]) (rest := [.ref r_4, .ref x0]) C (ct_X15_stateBehind l X F k_x0 eo_6) cw_X15_790 hW hZ k_x0 (by decide) rfl rfl rfl hl.1 (Nat.le_of_ble_eq_true rfl) rfl dX15_meetAll_257 ⟨Nat.le_of_ble_eq_true rfl, Nat.le_of_ble_eq_true rfl⟩ ⟨Nat.le_refl _, Nat.le_refl _⟩) hZ (fun _ _ hW km hZ => ?_)
        replace hkm := hkm.tr km
        replace k_x0 := km.at k_x0 (by decide)
        replace k_r_4 := km.at k_r_4 (by decide)
        exact bX15_meetAll_260 C k_r_4 k_x0 hkm hW hZ _ (lv_sub hl [6] rfl) hE
      · have hE := br_n hE c_5
        refine lv_aload_n C.1 C.2.1 dX15_meetAll_217 rfl (lv_at hl 0 rfl) ?_
        obtain ⟨r_7, er_7, hE⟩ := cl_e hE
        refine gf_X15_339 C hW k_x0 er_7 dX15_meetAll_218 (fun k_r_7 => ?_)
        refine lv_iload_n C.1 C.2.1 dX15_meetAll_221 rfl (lv_at hl 1 rfl) ?_
        obtain ⟨g_8, hE⟩ := gd_e hE
        refine y_iald C hW k_r_7 g_8 dX15_meetAll_222 ?_
        refine lv_iload_n C.1 C.2.1 dX15_meetAll_223 rfl (lv_at hl 2 rfl) ?_
        refine lv_iadd C.1 C.2.1 dX15_meetAll_224 ?_
        refine lv_iload C.1 C.2.1 dX15_meetAll_225 (lv_at hl 4 rfl) ?_
        refine lv_aload_n C.1 C.2.1 dX15_meetAll_227 rfl (lv_at hl 0 rfl) ?_
        obtain ⟨r_9, er_9, hE⟩ := cl_e hE
        refine gf_X15_368 C hW k_x0 er_9 dX15_meetAll_228 (fun k_r_9 => ?_)
        refine lv_iload_n C.1 C.2.1 dX15_meetAll_231 rfl (lv_at hl 3 rfl) ?_
        obtain ⟨g_10, hE⟩ := gd_e hE
        refine y_iald C hW k_r_9 g_10 dX15_meetAll_232 ?_
        refine lv_isub C.1 C.2.1 dX15_meetAll_233 ?_
        refine lv_iload C.1 C.2.1 dX15_meetAll_234 (lv_at hl 5 rfl) ?_
        refine lv_imul C.1 C.2.1 dX15_meetAll_236 ?_
        refine lv_iadd C.1 C.2.1 dX15_meetAll_237 ?_
        refine lv_iconst (v := (1 : Int32)) C.1 C.2.1 dX15_meetAll_238 (by decide) ?_
        refine lv_iadd C.1 C.2.1 dX15_meetAll_239 ?_
        refine lv_iconst (v := (2 : Int32)) C.1 C.2.1 dX15_meetAll_240 (by decide) ?_
        refine lv_iload C.1 C.2.1 dX15_meetAll_241 (lv_at hl 8 rfl) ?_
        refine lv_imul C.1 C.2.1 dX15_meetAll_243 ?_
        refine lv_isub C.1 C.2.1 dX15_meetAll_244 ?_
        refine lv_goto (tgt := 260) C.1 C.2.1 dX15_meetAll_245 (by decide) ?_
        exact bX15_meetAll_260 C k_r_4 k_x0 hkm hW hZ _ (lv_sub hl [6] rfl) hE
    · have hE := br_n hE c_3
      refine lv_iload C.1 C.2.1 dX15_meetAll_179 (lv_at hl 9 rfl) ?_
      refine lv_aload_n C.1 C.2.1 dX15_meetAll_181 rfl (lv_at hl 0 rfl) ?_
      obtain ⟨r_11, er_11, hE⟩ := cl_e hE
      refine gf_X15_368 C hW k_x0 er_11 dX15_meetAll_182 (fun k_r_11 => ?_)
      refine lv_iload C.1 C.2.1 dX15_meetAll_185 (lv_at hl 10 rfl) ?_
      obtain ⟨g_12, hE⟩ := gd_e hE
      refine y_iald C hW k_r_11 g_12 dX15_meetAll_187 ?_
      refine lv_iload C.1 C.2.1 dX15_meetAll_188 (lv_at hl 4 rfl) ?_
      refine lv_icmp_eq (tgt := 197) C.1 C.2.1 dX15_meetAll_190 (by decide) (fun c_13 => ?_) (fun c_13 => ?_)
      · have hE := br_p hE c_13
        refine lv_iconst (v := (0 : Int32)) C.1 C.2.1 dX15_meetAll_197 (by decide) ?_
        exact bX15_meetAll_198 C hk_168 k_x0 hkm hW hZ _ (lv_sub hl [0, 1, 2, 3, 4, 5, 6, 7, 8, 10] rfl) hE
      · have hE := br_n hE c_13
        refine lv_iconst (v := (1 : Int32)) C.1 C.2.1 dX15_meetAll_193 (by decide) ?_
        refine lv_goto (tgt := 198) C.1 C.2.1 dX15_meetAll_194 (by decide) ?_
        exact bX15_meetAll_198 C hk_168 k_x0 hkm hW hZ _ (lv_sub hl [0, 1, 2, 3, 4, 5, 6, 7, 8, 10] rfl) hE
set_option maxRecDepth 20000 in
theorem bX15_meetAll_163 {p : Program} {l : Launch} {e : Env} {s : State} {m : MethodId} {args : Array Value} {below : List Frame} {meth : Method} {c : Code} {X : Ec} {h0 : Hp} {o : Hp} {F : Nat} (C : Cx X p s m args meth c RX15 cX15_meetAll 12 none "meetAll") {h : Hp} {x0 : Nat} {x1 : Int32} {x2 : Int32} {x3 : Int32} {x4 : Int32} {x5 : Int32} {x6 : Int32} {x7 : Int32} {x8 : Int32} {t0 : Int32} {H : Heap} {locs : List Loc} (k_x0 : hK h x0 = 15) (hkm : Km h0 h) (hW : Wx X h H) (hZ : va_S (aA (eB X)) s.heap H locs) (ls : Array Slot) (hl : lv_has ls 12 [(0, .ref x0), (1, .int x1), (2, .int x2), (3, .int x3), (4, .int x4), (5, .int x5), (6, .int x6), (7, .int x7), (8, .int x8)]) (hE : sX15_meetAll_163 F h x0 x1 x2 x3 x4 x5 x6 x7 x8 t0 = some o) : W p l e (rm 4 98) s m args below meth c H locs 0 0 (MQ below (QV X h0 o) args s 0 0 (aA (eB X))) (F0 m 163 ls [.int t0]) := by
  refine lv_istore (lv' := [(10, .int t0), (0, .ref x0), (1, .int x1), (2, .int x2), (3, .int x3), (4, .int x4), (5, .int x5), (6, .int x6), (7, .int x7), (8, .int x8)]) C.1 C.2.1 dX15_meetAll_163 hl (by decide) rfl (fun ls hl => ?_)
  refine lv_iconst (v := (0 : Int32)) C.1 C.2.1 dX15_meetAll_165 (by decide) ?_
  refine lv_istore (lv' := [(11, .int (0 : Int32)), (10, .int t0), (0, .ref x0), (1, .int x1), (2, .int x2), (3, .int x3), (4, .int x4), (5, .int x5), (6, .int x6), (7, .int x7), (8, .int x8)]) C.1 C.2.1 dX15_meetAll_166 hl (by decide) rfl (fun ls hl => ?_)
  exact bX15_meetAll_168 C F k_x0 hkm hW hZ _ (lv_sub hl [2, 3, 4, 5, 6, 7, 8, 9, 10, 1, 0] rfl) hE
set_option maxRecDepth 20000 in
theorem bX15_meetAll_149 {p : Program} {l : Launch} {e : Env} {s : State} {m : MethodId} {args : Array Value} {below : List Frame} {meth : Method} {c : Code} {X : Ec} {h0 : Hp} {o : Hp} {F : Nat} (C : Cx X p s m args meth c RX15 cX15_meetAll 12 none "meetAll") {h : Hp} {x0 : Nat} {x1 : Int32} {x2 : Int32} {x3 : Int32} {x4 : Int32} {x5 : Int32} {x6 : Int32} {x7 : Int32} {x8 : Int32} {H : Heap} {locs : List Loc} (k_x0 : hK h x0 = 15) (hkm : Km h0 h) (hW : Wx X h H) (hZ : va_S (aA (eB X)) s.heap H locs) (ls : Array Slot) (hl : lv_has ls 12 [(0, .ref x0), (1, .int x1), (2, .int x2), (3, .int x3), (4, .int x4), (5, .int x5), (6, .int x6), (7, .int x7), (8, .int x8)]) (hE : sX15_meetAll_149 F h x0 x1 x2 x3 x4 x5 x6 x7 x8 = some o) : W p l e (rm 4 98) s m args below meth c H locs 0 0 (MQ below (QV X h0 o) args s 0 0 (aA (eB X))) (F0 m 149 ls []) := by
  refine lv_aload_n C.1 C.2.1 dX15_meetAll_149 rfl (lv_at hl 0 rfl) ?_
  refine lv_iload_n C.1 C.2.1 dX15_meetAll_150 rfl (lv_at hl 1 rfl) ?_
  refine lv_iload_n C.1 C.2.1 dX15_meetAll_151 rfl (lv_at hl 3 rfl) ?_
  obtain ⟨o_1, eo_1, hE⟩ := cl_e hE
  refine x_kI (o := o_1) (z_runV (As := [.int x1, .int x3]) (rest := []) C (ct_X15_isLike l X k_x0 eo_1) cw_X15_798 hW hZ k_x0 (by decide) rfl rfl rfl hl.1 (Nat.le_of_ble_eq_true rfl) rfl dX15_meetAll_152 ⟨Nat.le_of_ble_eq_true rfl, Nat.le_of_ble_eq_true rfl⟩ ⟨Nat.le_refl _, Nat.le_refl _⟩) hZ (fun _ _ hW km hZ => ?_)
  replace hkm := hkm.tr km
  replace k_x0 := km.at k_x0 (by decide)
  refine lv_if_ne (tgt := 162) C.1 C.2.1 dX15_meetAll_155 (by decide) (fun c_2 => ?_) (fun c_2 => ?_)
  · have hE := br_n hE c_2
    refine lv_iconst (v := (0 : Int32)) C.1 C.2.1 dX15_meetAll_162 (by decide) ?_
    exact bX15_meetAll_163 C k_x0 hkm hW hZ _ (lv_sub hl [0, 1, 2, 3, 4, 5, 6, 7, 8] rfl) hE
  · have hE := br_p hE c_2
    refine lv_iconst (v := (1 : Int32)) C.1 C.2.1 dX15_meetAll_158 (by decide) ?_
    refine lv_goto (tgt := 163) C.1 C.2.1 dX15_meetAll_159 (by decide) ?_
    exact bX15_meetAll_163 C k_x0 hkm hW hZ _ (lv_sub hl [0, 1, 2, 3, 4, 5, 6, 7, 8] rfl) hE
set_option maxRecDepth 20000 in
theorem bX15_meetAll_142 {p : Program} {l : Launch} {e : Env} {s : State} {m : MethodId} {args : Array Value} {below : List Frame} {meth : Method} {c : Code} {X : Ec} {h0 : Hp} {o : Hp} {k_51 : Hp → Nat → Int32 → Int32 → Int32 → Int32 → Int32 → Int32 → Int32 → Option (Hp)} {F : Nat} (C : Cx X p s m args meth c RX15 cX15_meetAll 12 none "meetAll") (hk_51 : ∀ (h : Hp) (x0 : Nat) (x1 : Int32) (x3 : Int32) (x4 : Int32) (x6 : Int32) (x8 : Int32) (x9 : Int32) (x10 : Int32) (H : Heap) (locs : List Loc), hK h x0 = 15 → Km h0 h → Wx X h H → va_S (aA (eB X)) s.heap H locs → ∀ (ls : Array Slot), lv_has ls 12 [(0, .ref x0), (1, .int x1), (3, .int x3), (4, .int x4), (6, .int x6), (8, .int x8), (9, .int x9), (10, .int x10)] → k_51 h x0 x1 x3 x4 x6 x8 x9 x10 = some o → W p l e (rm 4 98) s m args below meth c H locs 0 0 (MQ below (QV X h0 o) args s 0 0 (aA (eB X))) (F0 m 51 ls [])) {h : Hp} {x0 : Nat} {x1 : Int32} {x3 : Int32} {x4 : Int32} {x6 : Int32} {x8 : Int32} {x9 : Int32} {x10 : Int32} {H : Heap} {locs : List Loc} (k_x0 : hK h x0 = 15) (hkm : Km h0 h) (hW : Wx X h H) (hZ : va_S (aA (eB X)) s.heap H locs) (ls : Array Slot) (hl : lv_has ls 12 [(0, .ref x0), (1, .int x1), (3, .int x3), (4, .int x4), (6, .int x6), (8, .int x8), (9, .int x9), (10, .int x10)]) (hE : sX15_meetAll_142 F k_51 h x0 x1 x3 x4 x6 x8 x9 x10 = some o) : W p l e (rm 4 98) s m args below meth c H locs 0 0 (MQ below (QV X h0 o) args s 0 0 (aA (eB X))) (F0 m 142 ls []) := by
  obtain ⟨v_1, ev_1, hE⟩ := nm_e2 hE
  refine lv_iinc (v := v_1) (lv' := [(10, .int v_1), (0, .ref x0), (1, .int x1), (3, .int x3), (4, .int x4), (6, .int x6), (8, .int x8), (9, .int x9)]) C.1 C.2.1 dX15_meetAll_142 hl (k := 7) rfl (by rw [ev_1]; rfl) (by decide) rfl (fun ls hl => ?_)
  refine lv_goto (tgt := 51) C.1 C.2.1 dX15_meetAll_145 (by decide) ?_
  exact hk_51 _ _ _ _ _ _ _ _ _ _ _ k_x0 hkm hW hZ _ (lv_sub hl [1, 2, 3, 4, 5, 6, 7, 0] rfl) hE
set_option maxRecDepth 20000 in
theorem bX15_meetAll_129 {p : Program} {l : Launch} {e : Env} {s : State} {m : MethodId} {args : Array Value} {below : List Frame} {meth : Method} {c : Code} {X : Ec} {h0 : Hp} {o : Hp} {k_51 : Hp → Nat → Int32 → Int32 → Int32 → Int32 → Int32 → Int32 → Int32 → Option (Hp)} {F : Nat} (C : Cx X p s m args meth c RX15 cX15_meetAll 12 none "meetAll") (hk_51 : ∀ (h : Hp) (x0 : Nat) (x1 : Int32) (x3 : Int32) (x4 : Int32) (x6 : Int32) (x8 : Int32) (x9 : Int32) (x10 : Int32) (H : Heap) (locs : List Loc), hK h x0 = 15 → Km h0 h → Wx X h H → va_S (aA (eB X)) s.heap H locs → ∀ (ls : Array Slot), lv_has ls 12 [(0, .ref x0), (1, .int x1), (3, .int x3), (4, .int x4), (6, .int x6), (8, .int x8), (9, .int x9), (10, .int x10)] → k_51 h x0 x1 x3 x4 x6 x8 x9 x10 = some o → W p l e (rm 4 98) s m args below meth c H locs 0 0 (MQ below (QV X h0 o) args s 0 0 (aA (eB X))) (F0 m 51 ls [])) {h : Hp} {x0 : Nat} {x1 : Int32} {x3 : Int32} {x4 : Int32} {x6 : Int32} {x8 : Int32} {x9 : Int32} {x10 : Int32} {x11 : Int32} {H : Heap} {locs : List Loc} (k_x0 : hK h x0 = 15) (hkm : Km h0 h) (hW : Wx X h H) (hZ : va_S (aA (eB X)) s.heap H locs) (ls : Array Slot) (hl : lv_has ls 12 [(0, .ref x0), (1, .int x1), (3, .int x3), (4, .int x4), (6, .int x6), (8, .int x8), (9, .int x9), (10, .int x10), (11, .int x11)]) (hE : sX15_meetAll_129 F k_51 h x0 x1 x3 x4 x6 x8 x9 x10 x11 = some o) : W p l e (rm 4 98) s m args below meth c H locs 0 0 (MQ below (QV X h0 o) args s 0 0 (aA (eB X))) (F0 m 129 ls []) := by
  refine lv_aload_n C.1 C.2.1 dX15_meetAll_129 rfl (lv_at hl 0 rfl) ?_
  refine lv_aload_n C.1 C.2.1 dX15_meetAll_130 rfl (lv_at hl 0 rfl) ?_
  obtain ⟨r_1, er_1, hE⟩ := cl_e hE
  refine gf_X15_343 C hW k_x0 er_1 dX15_meetAll_131 (fun k_r_1 => ?_)
  refine lv_iload C.1 C.2.1 dX15_meetAll_134 (lv_at hl 8 rfl) ?_
  obtain ⟨g_2, hE⟩ := gd_e hE
  refine y_iald C hW k_r_1 g_2 dX15_meetAll_136 ?_
  refine lv_iload C.1 C.2.1 dX15_meetAll_137 (lv_at hl 4 rfl) ?_
  obtain ⟨o_3, eo_3, hE⟩ := cl_e hE
  refine x_kV (o := o_3) (z_runV (As := [.int (hI h r_1 x11.toNatClampNeg), .int x6]) (rest := []) C (ct_X15_meet l X k_x0 eo_3) cw_X15_794 hW hZ k_x0 (by decide) rfl rfl rfl hl.1 (Nat.le_of_ble_eq_true rfl) rfl dX15_meetAll_139 ⟨Nat.le_of_ble_eq_true rfl, Nat.le_of_ble_eq_true rfl⟩ ⟨Nat.le_refl _, Nat.le_refl _⟩) hZ (fun _ _ hW km hZ => ?_)
  replace hkm := hkm.tr km
  replace k_x0 := km.at k_x0 (by decide)
  exact bX15_meetAll_142 C hk_51 k_x0 hkm hW hZ _ (lv_sub hl [0, 1, 2, 3, 4, 5, 6, 7] rfl) hE
set_option maxRecDepth 20000 in
theorem bX15_meetAll_51 {p : Program} {l : Launch} {e : Env} {s : State} {m : MethodId} {args : Array Value} {below : List Frame} {meth : Method} {c : Code} {X : Ec} {h0 : Hp} {o : Hp} {F : Nat} (C : Cx X p s m args meth c RX15 cX15_meetAll 12 none "meetAll") : ∀ (f : Nat) {h : Hp} {x0 : Nat} {x1 : Int32} {x3 : Int32} {x4 : Int32} {x6 : Int32} {x8 : Int32} {x9 : Int32} {x10 : Int32} {H : Heap} {locs : List Loc} (k_x0 : hK h x0 = 15), Km h0 h → Wx X h H → va_S (aA (eB X)) s.heap H locs → ∀ (ls : Array Slot), lv_has ls 12 [(0, .ref x0), (1, .int x1), (3, .int x3), (4, .int x4), (6, .int x6), (8, .int x8), (9, .int x9), (10, .int x10)] → sX15_meetAll_51 F f h x0 x1 x3 x4 x6 x8 x9 x10 = some o → W p l e (rm 4 98) s m args below meth c H locs 0 0 (MQ below (QV X h0 o) args s 0 0 (aA (eB X))) (F0 m 51 ls []) := by
  intro f
  induction f with
  | zero =>
    intro h x0 x1 x3 x4 x6 x8 x9 x10 H locs k_x0 hkm hW hZ ls hl hE
    rw [sX15_meetAll_51] at hE
    cases hE
  | succ f ih =>
    intro h x0 x1 x3 x4 x6 x8 x9 x10 H locs k_x0 hkm hW hZ ls hl hE
    rw [sX15_meetAll_51] at hE
    have hk_51 : ∀ (h : Hp) (x0 : Nat) (x1 : Int32) (x3 : Int32) (x4 : Int32) (x6 : Int32) (x8 : Int32) (x9 : Int32) (x10 : Int32) (H : Heap) (locs : List Loc), hK h x0 = 15 → Km h0 h → Wx X h H → va_S (aA (eB X)) s.heap H locs → ∀ (ls : Array Slot), lv_has ls 12 [(0, .ref x0), (1, .int x1), (3, .int x3), (4, .int x4), (6, .int x6), (8, .int x8), (9, .int x9), (10, .int x10)] → sX15_meetAll_51 F f h x0 x1 x3 x4 x6 x8 x9 x10 = some o → W p l e (rm 4 98) s m args below meth c H locs 0 0 (MQ below (QV X h0 o) args s 0 0 (aA (eB X))) (F0 m 51 ls []) := fun h x0 x1 x3 x4 x6 x8 x9 x10 H locs k_x0 a b c ls hl hE => ih k_x0 a b c ls hl hE
    refine lv_iload C.1 C.2.1 dX15_meetAll_51 (lv_at hl 7 rfl) ?_
    refine lv_aload_n C.1 C.2.1 dX15_meetAll_53 rfl (lv_at hl 0 rfl) ?_
    obtain ⟨r_1, er_1, hE⟩ := cl_e hE
    refine gf_X15_252 C hW k_x0 er_1 dX15_meetAll_54 (fun k_r_1 => ?_)
    obtain ⟨r_2, er_2, hE⟩ := cl_e hE
    refine gf_X15_215 C hW k_r_1 er_2 dX15_meetAll_57 (fun k_r_2 => ?_)
    refine lv_iload C.1 C.2.1 dX15_meetAll_60 (lv_at hl 6 rfl) ?_
    obtain ⟨g_3, hE⟩ := gd_e hE
    refine y_iald C hW k_r_2 g_3 dX15_meetAll_62 ?_
    refine lv_icmp_ge (tgt := 148) C.1 C.2.1 dX15_meetAll_63 (by decide) (fun c_4 => ?_) (fun c_4 => ?_)
    · have hE := br_p hE c_4
      exact x_vret C rfl hW hZ hkm hE dX15_meetAll_148
    · have hE := br_n hE c_4
      refine lv_aload_n C.1 C.2.1 dX15_meetAll_66 rfl (lv_at hl 0 rfl) ?_
      refine lv_iload_n C.1 C.2.1 dX15_meetAll_67 rfl (lv_at hl 1 rfl) ?_
      refine lv_iload_n C.1 C.2.1 dX15_meetAll_68 rfl (lv_at hl 2 rfl) ?_
      refine lv_iload C.1 C.2.1 dX15_meetAll_69 (lv_at hl 3 rfl) ?_
      refine lv_aload_n C.1 C.2.1 dX15_meetAll_71 rfl (lv_at hl 0 rfl) ?_
      obtain ⟨r_5, er_5, hE⟩ := cl_e hE
      refine gf_X15_252 C hW k_x0 er_5 dX15_meetAll_72 (fun k_r_5 => ?_)
      obtain ⟨r_6, er_6, hE⟩ := cl_e hE
      refine gf_X15_223 C hW k_r_5 er_6 dX15_meetAll_75 (fun k_r_6 => ?_)
      refine lv_bipush (v := (6 : Int32)) C.1 C.2.1 dX15_meetAll_78 (by decide) ?_
      refine lv_iload C.1 C.2.1 dX15_meetAll_80 (lv_at hl 6 rfl) ?_
      refine lv_imul C.1 C.2.1 dX15_meetAll_82 ?_
      refine lv_iload C.1 C.2.1 dX15_meetAll_83 (lv_at hl 7 rfl) ?_
      refine lv_iadd C.1 C.2.1 dX15_meetAll_85 ?_
      obtain ⟨g_7, hE⟩ := gd_e hE
      refine y_iald C hW k_r_6 g_7 dX15_meetAll_86 ?_
      refine lv_iload C.1 C.2.1 dX15_meetAll_87 (lv_at hl 5 rfl) ?_
      obtain ⟨o_8, eo_8, hE⟩ := cl_e hE
      refine x_kI (o := o_8) (z_runS (As := [.int (hI h r_6 (((6 : Int32) * x9) + x10).toNatClampNeg), .int x8]) (rest := [.int x4, .int x3, .int x1, .ref x0]) C (ct_X15_valueOf l X eo_8) cw_X15_398 hW hZ rfl hl.1 (Nat.le_of_ble_eq_true rfl) rfl dX15_meetAll_89 ⟨Nat.le_of_ble_eq_true rfl, Nat.le_of_ble_eq_true rfl⟩ ⟨Nat.le_refl _, Nat.le_refl _⟩) hZ (fun _ _ hW km hZ => ?_)
      replace hkm := hkm.tr km
      replace k_x0 := km.at k_x0 (by decide)
      refine lv_iload C.1 C.2.1 dX15_meetAll_92 (lv_at hl 5 rfl) ?_
      obtain ⟨o_9, eo_9, hE⟩ := cl_e hE
      refine x_kI (o := o_9) (z_runV (As := [.int x1, .int x3, .int x4, .int o_8.1, .int x8]) (rest := []) C (ct_X15_stateBehind l X F k_x0 eo_9) cw_X15_790 hW hZ k_x0 (by decide) rfl rfl rfl hl.1 (Nat.le_of_ble_eq_true rfl) rfl dX15_meetAll_94 ⟨Nat.le_of_ble_eq_true rfl, Nat.le_of_ble_eq_true rfl⟩ ⟨Nat.le_refl _, Nat.le_refl _⟩) hZ (fun _ _ hW km hZ => ?_)
      replace hkm := hkm.tr km
      replace k_x0 := km.at k_x0 (by decide)
      refine lv_istore (lv' := [(11, .int o_9.1), (0, .ref x0), (1, .int x1), (3, .int x3), (4, .int x4), (6, .int x6), (8, .int x8), (9, .int x9), (10, .int x10)]) C.1 C.2.1 dX15_meetAll_97 hl (by decide) rfl (fun ls hl => ?_)
      refine lv_aload_n C.1 C.2.1 dX15_meetAll_99 rfl (lv_at hl 1 rfl) ?_
      obtain ⟨r_10, er_10, hE⟩ := cl_e hE
      refine gf_X15_252 C hW k_x0 er_10 dX15_meetAll_100 (fun k_r_10 => ?_)
      refine gf_X15_138 C hW k_r_10 dX15_meetAll_103 ?_
      refine lv_if_eq (tgt := 129) C.1 C.2.1 dX15_meetAll_106 (by decide) (fun c_11 => ?_) (fun c_11 => ?_)
      · have hE := br_p hE c_11
        exact bX15_meetAll_129 C hk_51 k_x0 hkm hW hZ _ (lv_sub hl [1, 2, 3, 4, 5, 6, 7, 8, 0] rfl) hE
      · have hE := br_n hE c_11
        refine lv_aload_n C.1 C.2.1 dX15_meetAll_109 rfl (lv_at hl 1 rfl) ?_
        obtain ⟨r_12, er_12, hE⟩ := cl_e hE
        refine gf_X15_349 C hW k_x0 er_12 dX15_meetAll_110 (fun k_r_12 => ?_)
        refine lv_iload C.1 C.2.1 dX15_meetAll_113 (lv_at hl 0 rfl) ?_
        refine lv_bipush (v := (6 : Int32)) C.1 C.2.1 dX15_meetAll_115 (by decide) ?_
        refine lv_ishr C.1 C.2.1 dX15_meetAll_117 ?_
        obtain ⟨g_13, hE⟩ := gd_e hE
        refine y_lald C hW k_r_12 g_13 dX15_meetAll_118 ?_
        refine lv_iload C.1 C.2.1 dX15_meetAll_119 (lv_at hl 0 rfl) ?_
        refine lv_lshr C.1 C.2.1 dX15_meetAll_121 rfl ?_
        refine lv_lconst (v := (1 : Int64)) C.1 C.2.1 dX15_meetAll_122 (by decide) ?_
        refine lv_land C.1 C.2.1 dX15_meetAll_123 ?_
        refine lv_lconst (v := (0 : Int64)) C.1 C.2.1 dX15_meetAll_124 (by decide) ?_
        refine W.lcmp C.1 C.2.1 dX15_meetAll_125 ?_
        refine lv_if_ne (tgt := 142) C.1 C.2.1 dX15_meetAll_126 (by decide) (fun c_14 => ?_) (fun c_14 => ?_)
        · have hE := br_n hE c_14
          exact bX15_meetAll_142 C hk_51 k_x0 hkm hW hZ _ (lv_sub hl [1, 2, 3, 4, 5, 6, 7, 8] rfl) hE
        · have hE := br_p hE c_14
          exact bX15_meetAll_129 C hk_51 k_x0 hkm hW hZ _ (lv_sub hl [1, 2, 3, 4, 5, 6, 7, 8, 0] rfl) hE
set_option maxRecDepth 20000 in
theorem ct_X15_meetAll (l : Launch) (X : Ec) (F : Nat) {h : Hp} {x0 : Nat} {x1 : Int32} {x2 : Int32} {x3 : Int32} {x4 : Int32} {x5 : Int32} {x6 : Int32} {o : Hp} (k_x0 : hK h x0 = 15) (hE : sX15_meetAll F h x0 x1 x2 x3 x4 x5 x6 = some o) : MetV l yX15_meetAll cX15_meetAll 12 none 4 98 X [.ref x0, .int x1, .int x2, .int x3, .int x4, .int x5, .int x6] h o := by
  refine x_met (by decide) (Nat.le_of_ble_eq_true rfl) ?_
  intro p e s m below meth c ls C hl hW hZ
  have hl : lv_has ls 12 [(0, .ref x0), (1, .int x1), (2, .int x2), (3, .int x3), (4, .int x4), (5, .int x5), (6, .int x6)] := hl
  have hkm : Km h h := Km.rf h
  refine lv_aload_n C.1 C.2.1 dX15_meetAll_0 rfl (lv_at hl 0 rfl) ?_
  obtain ⟨r_1, er_1, hE⟩ := cl_e hE
  refine gf_X15_336 C hW k_x0 er_1 dX15_meetAll_1 (fun k_r_1 => ?_)
  refine lv_iconst (v := (5 : Int32)) C.1 C.2.1 dX15_meetAll_4 (by decide) ?_
  refine lv_iload_n C.1 C.2.1 dX15_meetAll_5 rfl (lv_at hl 1 rfl) ?_
  refine lv_imul C.1 C.2.1 dX15_meetAll_6 ?_
  refine lv_iload_n C.1 C.2.1 dX15_meetAll_7 rfl (lv_at hl 3 rfl) ?_
  refine lv_iadd C.1 C.2.1 dX15_meetAll_8 ?_
  obtain ⟨g_2, hE⟩ := gd_e hE
  refine y_iald C hW k_r_1 g_2 dX15_meetAll_9 ?_
  obtain ⟨v_3, ev_3, hE⟩ := nm_e2 hE
  refine x_nmI ev_3 ?_
  refine lv_istore (lv' := [(7, .int v_3), (0, .ref x0), (1, .int x1), (2, .int x2), (3, .int x3), (4, .int x4), (5, .int x5), (6, .int x6)]) C.1 C.2.1 dX15_meetAll_10 hl (by decide) rfl (fun ls hl => ?_)
  refine lv_iload_n C.1 C.2.1 dX15_meetAll_12 rfl (lv_at hl 3 rfl) ?_
  refine lv_iconst (v := (1 : Int32)) C.1 C.2.1 dX15_meetAll_13 (by decide) ?_
  refine lv_iand C.1 C.2.1 dX15_meetAll_14 ?_
  obtain ⟨v_4, ev_4, hE⟩ := nm_e2 hE
  refine x_nmI ev_4 ?_
  refine lv_istore (lv' := [(8, .int v_4), (7, .int v_3), (0, .ref x0), (1, .int x1), (2, .int x2), (3, .int x3), (4, .int x4), (5, .int x5), (6, .int x6)]) C.1 C.2.1 dX15_meetAll_15 hl (by decide) rfl (fun ls hl => ?_)
  refine lv_iload C.1 C.2.1 dX15_meetAll_17 (lv_at hl 1 rfl) ?_
  obtain ⟨o_5, eo_5, hE⟩ := cl_e hE
  refine x_kI (o := o_5) (z_runS (As := [.int v_3]) (rest := []) C (ct_X15_manOf l X eo_5) cw_X15_492 hW hZ rfl hl.1 (Nat.le_of_ble_eq_true rfl) rfl dX15_meetAll_19 ⟨Nat.le_of_ble_eq_true rfl, Nat.le_of_ble_eq_true rfl⟩ ⟨Nat.le_refl _, Nat.le_refl _⟩) hZ (fun _ _ hW km hZ => ?_)
  replace hkm := hkm.tr km
  replace k_x0 := km.at k_x0 (by decide)
  refine lv_istore (lv' := [(9, .int o_5.1), (8, .int v_4), (7, .int v_3), (0, .ref x0), (1, .int x1), (2, .int x2), (3, .int x3), (4, .int x4), (5, .int x5), (6, .int x6)]) C.1 C.2.1 dX15_meetAll_22 hl (by decide) rfl (fun ls hl => ?_)
  refine lv_aload_n C.1 C.2.1 dX15_meetAll_24 rfl (lv_at hl 3 rfl) ?_
  refine lv_iload C.1 C.2.1 dX15_meetAll_25 (lv_at hl 0 rfl) ?_
  obtain ⟨o_6, eo_6, hE⟩ := cl_e hE
  refine x_kI (o := o_6) (z_runV (As := [.int o_5.1]) (rest := []) C (ct_X15_becomesOthers l X k_x0 eo_6) cw_X15_495 hW hZ k_x0 (by decide) rfl rfl rfl hl.1 (Nat.le_of_ble_eq_true rfl) rfl dX15_meetAll_27 ⟨Nat.le_of_ble_eq_true rfl, Nat.le_of_ble_eq_true rfl⟩ ⟨Nat.le_refl _, Nat.le_refl _⟩) hZ (fun _ _ hW km hZ => ?_)
  replace hkm := hkm.tr km
  replace k_x0 := km.at k_x0 (by decide)
  refine lv_if_eq (tgt := 149) C.1 C.2.1 dX15_meetAll_30 (by decide) (fun c_7 => ?_) (fun c_7 => ?_)
  · have hE := br_p hE c_7
    exact bX15_meetAll_149 C k_x0 hkm hW hZ _ (lv_sub hl [3, 4, 5, 6, 7, 8, 9, 2, 1] rfl) hE
  · have hE := br_n hE c_7
    refine lv_aload_n C.1 C.2.1 dX15_meetAll_33 rfl (lv_at hl 3 rfl) ?_
    refine lv_iload C.1 C.2.1 dX15_meetAll_34 (lv_at hl 7 rfl) ?_
    refine lv_iload C.1 C.2.1 dX15_meetAll_36 (lv_at hl 1 rfl) ?_
    obtain ⟨o_8, eo_8, hE⟩ := cl_e hE
    refine x_kI (o := o_8) (z_runV (As := [.int x4, .int v_4]) (rest := []) C (ct_X15_rankFor l X k_x0 eo_8) cw_X15_498 hW hZ k_x0 (by decide) rfl rfl rfl hl.1 (Nat.le_of_ble_eq_true rfl) rfl dX15_meetAll_38 ⟨Nat.le_of_ble_eq_true rfl, Nat.le_of_ble_eq_true rfl⟩ ⟨Nat.le_refl _, Nat.le_refl _⟩) hZ (fun _ _ hW km hZ => ?_)
    replace hkm := hkm.tr km
    replace k_x0 := km.at k_x0 (by decide)
    refine lv_aload_n C.1 C.2.1 dX15_meetAll_41 rfl (lv_at hl 3 rfl) ?_
    refine gf_X15_383 C hW k_x0 dX15_meetAll_42 ?_
    refine lv_icmp_ne (tgt := 149) C.1 C.2.1 dX15_meetAll_45 (by decide) (fun c_9 => ?_) (fun c_9 => ?_)
    · have hE := br_n hE c_9
      exact bX15_meetAll_149 C k_x0 hkm hW hZ _ (lv_sub hl [3, 4, 5, 6, 7, 8, 9, 2, 1] rfl) hE
    · have hE := br_p hE c_9
      refine lv_iconst (v := (0 : Int32)) C.1 C.2.1 dX15_meetAll_48 (by decide) ?_
      refine lv_istore (lv' := [(10, .int (0 : Int32)), (9, .int o_5.1), (8, .int v_4), (7, .int v_3), (0, .ref x0), (1, .int x1), (2, .int x2), (3, .int x3), (4, .int x4), (5, .int x5), (6, .int x6)]) C.1 C.2.1 dX15_meetAll_49 hl (by decide) rfl (fun ls hl => ?_)
      exact bX15_meetAll_51 C F k_x0 hkm hW hZ _ (lv_sub hl [4, 5, 7, 8, 10, 2, 1, 0] rfl) hE
set_option maxRecDepth 100000 in
theorem ms_211 : Cond.selects RX15 yX15_meetAll yX15_meetAll ∈ W0 := w0_in (List.mem_append_left _ (List.mem_of_getElem? (i := 211) rfl)) rfl
set_option maxRecDepth 100000 in
theorem m_2802 : Cond.methodLink RX15 783 yJ13_numberOfTrailingZeros_95d88 ∈ W0 := w0_in (List.mem_append_right _ (List.mem_of_getElem? (i := 2802) rfl)) rfl
set_option maxRecDepth 100000 in
theorem m_2803 : Cond.static yJ13_numberOfTrailingZeros_95d88 ∈ W0 := w0_in (List.mem_append_right _ (List.mem_of_getElem? (i := 2803) rfl)) rfl
set_option maxRecDepth 100000 in
theorem m_2804 : Cond.code yJ13_numberOfTrailingZeros_95d88 cJ13_numberOfTrailingZeros_95d88 3 (some .int) ∈ W0 := w0_in (List.mem_append_right _ (List.mem_of_getElem? (i := 2804) rfl)) rfl
set_option maxRecDepth 100000 in
theorem m_2809 : Cond.methodLink RX15 786 yX15_meetAll ∈ W0 := w0_in (List.mem_append_right _ (List.mem_of_getElem? (i := 2809) rfl)) rfl
set_option maxRecDepth 100000 in
theorem m_2811 : Cond.instanceMethod yX15_meetAll ∈ W0 := w0_in (List.mem_append_right _ (List.mem_of_getElem? (i := 2811) rfl)) rfl
set_option maxRecDepth 100000 in
theorem m_2812 : Cond.code yX15_meetAll cX15_meetAll 12 none ∈ W0 := w0_in (List.mem_append_right _ (List.mem_of_getElem? (i := 2812) rfl)) rfl
theorem cw_X15_783 : cwd RX15 783 yJ13_numberOfTrailingZeros_95d88 cJ13_numberOfTrailingZeros_95d88 3 (some .int) true 1 := ⟨m_2804, m_2802, m_24, m_2803, by decide, by decide, by decide +kernel⟩
theorem cw_X15_786 : cwd RX15 786 yX15_meetAll cX15_meetAll 12 none false 6 := ⟨m_2812, m_2809, m_19, ⟨m_2811, ms_211⟩, by decide, by decide, by decide +kernel⟩
theorem dX15_worthNow_0 : decode cX15_worthNow 0 = .ok (.aload_n 0, 1) := by decide +kernel
theorem dX15_worthNow_1 : decode cX15_worthNow 1 = .ok (.getfield 333, 3) := by decide +kernel
theorem dX15_worthNow_4 : decode cX15_worthNow 4 = .ok (.iload_n 1, 1) := by decide +kernel
theorem dX15_worthNow_5 : decode cX15_worthNow 5 = .ok (.iaload, 1) := by decide +kernel
theorem dX15_worthNow_6 : decode cX15_worthNow 6 = .ok (.istore 4, 2) := by decide +kernel
theorem dX15_worthNow_8 : decode cX15_worthNow 8 = .ok (.iload_n 2, 1) := by decide +kernel
theorem dX15_worthNow_9 : decode cX15_worthNow 9 = .ok (.iconst 1, 1) := by decide +kernel
theorem dX15_worthNow_10 : decode cX15_worthNow 10 = .ok (.iand, 1) := by decide +kernel
theorem dX15_worthNow_11 : decode cX15_worthNow 11 = .ok (.istore 5, 2) := by decide +kernel
theorem dX15_worthNow_13 : decode cX15_worthNow 13 = .ok (.iload_n 2, 1) := by decide +kernel
theorem dX15_worthNow_14 : decode cX15_worthNow 14 = .ok (.iconst 1, 1) := by decide +kernel
theorem dX15_worthNow_15 : decode cX15_worthNow 15 = .ok (.ishr, 1) := by decide +kernel
theorem dX15_worthNow_16 : decode cX15_worthNow 16 = .ok (.istore 6, 2) := by decide +kernel
theorem dX15_worthNow_18 : decode cX15_worthNow 18 = .ok (.iconst 0, 1) := by decide +kernel
theorem dX15_worthNow_19 : decode cX15_worthNow 19 = .ok (.istore 7, 2) := by decide +kernel
theorem dX15_worthNow_21 : decode cX15_worthNow 21 = .ok (.iload 7, 2) := by decide +kernel
theorem dX15_worthNow_23 : decode cX15_worthNow 23 = .ok (.iload 4, 2) := by decide +kernel
theorem dX15_worthNow_25 : decode cX15_worthNow 25 = .ok (.if_icmp .ge 32, 3) := by decide +kernel
theorem dX15_worthNow_28 : decode cX15_worthNow 28 = .ok (.aload_n 0, 1) := by decide +kernel
theorem dX15_worthNow_29 : decode cX15_worthNow 29 = .ok (.getfield 368, 3) := by decide +kernel
theorem dX15_worthNow_32 : decode cX15_worthNow 32 = .ok (.iload 7, 2) := by decide +kernel
theorem dX15_worthNow_34 : decode cX15_worthNow 34 = .ok (.iload 6, 2) := by decide +kernel
theorem dX15_worthNow_36 : decode cX15_worthNow 36 = .ok (.aload_n 0, 1) := by decide +kernel
theorem dX15_worthNow_37 : decode cX15_worthNow 37 = .ok (.getfield 384, 3) := by decide +kernel
theorem dX15_worthNow_40 : decode cX15_worthNow 40 = .ok (.irem, 1) := by decide +kernel
theorem dX15_worthNow_41 : decode cX15_worthNow 41 = .ok (.iastore, 1) := by decide +kernel
theorem dX15_worthNow_42 : decode cX15_worthNow 42 = .ok (.iload 6, 2) := by decide +kernel
theorem dX15_worthNow_44 : decode cX15_worthNow 44 = .ok (.aload_n 0, 1) := by decide +kernel
theorem dX15_worthNow_45 : decode cX15_worthNow 45 = .ok (.getfield 384, 3) := by decide +kernel
theorem dX15_worthNow_48 : decode cX15_worthNow 48 = .ok (.idiv, 1) := by decide +kernel
theorem dX15_worthNow_49 : decode cX15_worthNow 49 = .ok (.istore 6, 2) := by decide +kernel
theorem dX15_worthNow_51 : decode cX15_worthNow 51 = .ok (.iinc 7 1, 3) := by decide +kernel
theorem dX15_worthNow_54 : decode cX15_worthNow 54 = .ok (.goto (-33), 3) := by decide +kernel
theorem dX15_worthNow_57 : decode cX15_worthNow 57 = .ok (.aload_n 0, 1) := by decide +kernel
theorem dX15_worthNow_58 : decode cX15_worthNow 58 = .ok (.iconst 0, 1) := by decide +kernel
theorem dX15_worthNow_59 : decode cX15_worthNow 59 = .ok (.putfield 777, 3) := by decide +kernel
theorem dX15_worthNow_62 : decode cX15_worthNow 62 = .ok (.aload_n 0, 1) := by decide +kernel
theorem dX15_worthNow_63 : decode cX15_worthNow 63 = .ok (.iconst 1, 1) := by decide +kernel
theorem dX15_worthNow_64 : decode cX15_worthNow 64 = .ok (.putfield 780, 3) := by decide +kernel
theorem dX15_worthNow_67 : decode cX15_worthNow 67 = .ok (.iconst 2, 1) := by decide +kernel
theorem dX15_worthNow_68 : decode cX15_worthNow 68 = .ok (.istore 7, 2) := by decide +kernel
theorem dX15_worthNow_70 : decode cX15_worthNow 70 = .ok (.iconst 0, 1) := by decide +kernel
theorem dX15_worthNow_71 : decode cX15_worthNow 71 = .ok (.istore 8, 2) := by decide +kernel
theorem dX15_worthNow_73 : decode cX15_worthNow 73 = .ok (.iload 8, 2) := by decide +kernel
theorem dX15_worthNow_75 : decode cX15_worthNow 75 = .ok (.iload 4, 2) := by decide +kernel
theorem dX15_worthNow_77 : decode cX15_worthNow 77 = .ok (.if_icmp .ge 109, 3) := by decide +kernel
theorem dX15_worthNow_80 : decode cX15_worthNow 80 = .ok (.aload_n 0, 1) := by decide +kernel
theorem dX15_worthNow_81 : decode cX15_worthNow 81 = .ok (.getfield 777, 3) := by decide +kernel
theorem dX15_worthNow_84 : decode cX15_worthNow 84 = .ok (.ifCond .ne 102, 3) := by decide +kernel
theorem dX15_worthNow_87 : decode cX15_worthNow 87 = .ok (.aload_n 0, 1) := by decide +kernel
theorem dX15_worthNow_88 : decode cX15_worthNow 88 = .ok (.getfield 336, 3) := by decide +kernel
theorem dX15_worthNow_91 : decode cX15_worthNow 91 = .ok (.iconst 5, 1) := by decide +kernel
theorem dX15_worthNow_92 : decode cX15_worthNow 92 = .ok (.iload_n 1, 1) := by decide +kernel
theorem dX15_worthNow_93 : decode cX15_worthNow 93 = .ok (.imul, 1) := by decide +kernel
theorem dX15_worthNow_94 : decode cX15_worthNow 94 = .ok (.iload 8, 2) := by decide +kernel
theorem dX15_worthNow_96 : decode cX15_worthNow 96 = .ok (.iadd, 1) := by decide +kernel
theorem dX15_worthNow_97 : decode cX15_worthNow 97 = .ok (.iaload, 1) := by decide +kernel
theorem dX15_worthNow_98 : decode cX15_worthNow 98 = .ok (.invokestatic 489, 3) := by decide +kernel
theorem dX15_worthNow_101 : decode cX15_worthNow 101 = .ok (.iload 5, 2) := by decide +kernel
theorem dX15_worthNow_103 : decode cX15_worthNow 103 = .ok (.if_icmp .ne 19, 3) := by decide +kernel
theorem dX15_worthNow_106 : decode cX15_worthNow 106 = .ok (.aload_n 0, 1) := by decide +kernel
theorem dX15_worthNow_107 : decode cX15_worthNow 107 = .ok (.getfield 770, 3) := by decide +kernel
theorem dX15_worthNow_110 : decode cX15_worthNow 110 = .ok (.aload_n 0, 1) := by decide +kernel
theorem dX15_worthNow_111 : decode cX15_worthNow 111 = .ok (.iload_n 1, 1) := by decide +kernel
theorem dX15_worthNow_112 : decode cX15_worthNow 112 = .ok (.iload_n 2, 1) := by decide +kernel
theorem dX15_worthNow_113 : decode cX15_worthNow 113 = .ok (.iload 8, 2) := by decide +kernel
theorem dX15_worthNow_115 : decode cX15_worthNow 115 = .ok (.invokevirtual 773, 3) := by decide +kernel
theorem dX15_worthNow_118 : decode cX15_worthNow 118 = .ok (.laload, 1) := by decide +kernel
theorem dX15_worthNow_119 : decode cX15_worthNow 119 = .ok (.goto 4, 3) := by decide +kernel
theorem dX15_worthNow_122 : decode cX15_worthNow 122 = .ok (.lconst 0, 1) := by decide +kernel
theorem dX15_worthNow_123 : decode cX15_worthNow 123 = .ok (.lstore 9, 2) := by decide +kernel
theorem dX15_worthNow_125 : decode cX15_worthNow 125 = .ok (.lload 9, 2) := by decide +kernel
theorem dX15_worthNow_127 : decode cX15_worthNow 127 = .ok (.lconst 0, 1) := by decide +kernel
theorem dX15_worthNow_128 : decode cX15_worthNow 128 = .ok (.lcmp, 1) := by decide +kernel
theorem dX15_worthNow_129 : decode cX15_worthNow 129 = .ok (.ifCond .eq 42, 3) := by decide +kernel
theorem dX15_worthNow_132 : decode cX15_worthNow 132 = .ok (.aload_n 0, 1) := by decide +kernel
theorem dX15_worthNow_133 : decode cX15_worthNow 133 = .ok (.getfield 777, 3) := by decide +kernel
theorem dX15_worthNow_136 : decode cX15_worthNow 136 = .ok (.ifCond .ne 35, 3) := by decide +kernel
theorem dX15_worthNow_139 : decode cX15_worthNow 139 = .ok (.lload 9, 2) := by decide +kernel
theorem dX15_worthNow_141 : decode cX15_worthNow 141 = .ok (.invokestatic 783, 3) := by decide +kernel
theorem dX15_worthNow_144 : decode cX15_worthNow 144 = .ok (.istore 11, 2) := by decide +kernel
theorem dX15_worthNow_146 : decode cX15_worthNow 146 = .ok (.lload 9, 2) := by decide +kernel
theorem dX15_worthNow_148 : decode cX15_worthNow 148 = .ok (.lload 9, 2) := by decide +kernel
theorem dX15_worthNow_150 : decode cX15_worthNow 150 = .ok (.lconst 1, 1) := by decide +kernel
theorem dX15_worthNow_151 : decode cX15_worthNow 151 = .ok (.lsub, 1) := by decide +kernel
theorem dX15_worthNow_152 : decode cX15_worthNow 152 = .ok (.land, 1) := by decide +kernel
theorem dX15_worthNow_153 : decode cX15_worthNow 153 = .ok (.lstore 9, 2) := by decide +kernel
theorem dX15_worthNow_155 : decode cX15_worthNow 155 = .ok (.aload_n 0, 1) := by decide +kernel
theorem dX15_worthNow_156 : decode cX15_worthNow 156 = .ok (.iload_n 1, 1) := by decide +kernel
theorem dX15_worthNow_157 : decode cX15_worthNow 157 = .ok (.iload_n 2, 1) := by decide +kernel
theorem dX15_worthNow_158 : decode cX15_worthNow 158 = .ok (.iload 8, 2) := by decide +kernel
theorem dX15_worthNow_160 : decode cX15_worthNow 160 = .ok (.iload 11, 2) := by decide +kernel
theorem dX15_worthNow_162 : decode cX15_worthNow 162 = .ok (.iload 7, 2) := by decide +kernel
theorem dX15_worthNow_164 : decode cX15_worthNow 164 = .ok (.iload_n 3, 1) := by decide +kernel
theorem dX15_worthNow_165 : decode cX15_worthNow 165 = .ok (.invokevirtual 786, 3) := by decide +kernel
theorem dX15_worthNow_168 : decode cX15_worthNow 168 = .ok (.goto (-43), 3) := by decide +kernel
theorem dX15_worthNow_171 : decode cX15_worthNow 171 = .ok (.iload 7, 2) := by decide +kernel
theorem dX15_worthNow_173 : decode cX15_worthNow 173 = .ok (.aload_n 0, 1) := by decide +kernel
theorem dX15_worthNow_174 : decode cX15_worthNow 174 = .ok (.getfield 384, 3) := by decide +kernel
theorem dX15_worthNow_177 : decode cX15_worthNow 177 = .ok (.imul, 1) := by decide +kernel
theorem dX15_worthNow_178 : decode cX15_worthNow 178 = .ok (.istore 7, 2) := by decide +kernel
theorem dX15_worthNow_180 : decode cX15_worthNow 180 = .ok (.iinc 8 1, 3) := by decide +kernel
theorem dX15_worthNow_183 : decode cX15_worthNow 183 = .ok (.goto (-110), 3) := by decide +kernel
theorem dX15_worthNow_186 : decode cX15_worthNow 186 = .ok (.aload_n 0, 1) := by decide +kernel
theorem dX15_worthNow_187 : decode cX15_worthNow 187 = .ok (.getfield 777, 3) := by decide +kernel
theorem dX15_worthNow_190 : decode cX15_worthNow 190 = .ok (.ifCond .eq 11, 3) := by decide +kernel
theorem dX15_worthNow_193 : decode cX15_worthNow 193 = .ok (.ldc_w 767, 3) := by decide +kernel
theorem dX15_worthNow_196 : decode cX15_worthNow 196 = .ok (.iload_n 3, 1) := by decide +kernel
theorem dX15_worthNow_197 : decode cX15_worthNow 197 = .ok (.isub, 1) := by decide +kernel
theorem dX15_worthNow_198 : decode cX15_worthNow 198 = .ok (.goto 19, 3) := by decide +kernel
theorem dX15_worthNow_201 : decode cX15_worthNow 201 = .ok (.aload_n 0, 1) := by decide +kernel
theorem dX15_worthNow_202 : decode cX15_worthNow 202 = .ok (.getfield 780, 3) := by decide +kernel
theorem dX15_worthNow_205 : decode cX15_worthNow 205 = .ok (.ifCond .eq 11, 3) := by decide +kernel
theorem dX15_worthNow_208 : decode cX15_worthNow 208 = .ok (.iload_n 3, 1) := by decide +kernel
theorem dX15_worthNow_209 : decode cX15_worthNow 209 = .ok (.ldc_w 767, 3) := by decide +kernel
theorem dX15_worthNow_212 : decode cX15_worthNow 212 = .ok (.isub, 1) := by decide +kernel
theorem dX15_worthNow_213 : decode cX15_worthNow 213 = .ok (.goto 4, 3) := by decide +kernel
theorem dX15_worthNow_216 : decode cX15_worthNow 216 = .ok (.iconst 0, 1) := by decide +kernel
theorem dX15_worthNow_217 : decode cX15_worthNow 217 = .ok (.ireturn, 1) := by decide +kernel
set_option maxRecDepth 20000 in
theorem moX15_worthNow_217 {o : Int32 × Hp} {F : Nat} {h : Hp} {t0 : Int32} (hE : sX15_worthNow_217 F h  t0 = some o) : Le h o.2 := by
  exact le_some2 hE
set_option maxRecDepth 20000 in
theorem moX15_worthNow_186 {o : Int32 × Hp} {F : Nat} {h : Hp} {x0 : Nat} {x3 : Int32} (hE : sX15_worthNow_186 F h x0 x3 = some o) : Le h o.2 := by
  rcases br_e hE with ⟨_, hE⟩ | ⟨_, hE⟩
  · rcases br_e hE with ⟨_, hE⟩ | ⟨_, hE⟩
    · exact moX15_worthNow_217 hE
    · exact moX15_worthNow_217 hE
  · exact moX15_worthNow_217 hE
set_option maxRecDepth 20000 in
theorem moX15_worthNow_171 {o : Int32 × Hp} {k_73 : Hp → Nat → Int32 → Int32 → Int32 → Int32 → Int32 → Int32 → Int32 → Option (Int32 × Hp)} {F : Nat} (mk_73 : ∀ (h : Hp) (x0 : Nat) (x1 : Int32) (x2 : Int32) (x3 : Int32) (x4 : Int32) (x5 : Int32) (x7 : Int32) (x8 : Int32), k_73 h x0 x1 x2 x3 x4 x5 x7 x8 = some o → Le h o.2) {h : Hp} {x0 : Nat} {x1 : Int32} {x2 : Int32} {x3 : Int32} {x4 : Int32} {x5 : Int32} {x7 : Int32} {x8 : Int32} (hE : sX15_worthNow_171 F k_73 h x0 x1 x2 x3 x4 x5 x7 x8 = some o) : Le h o.2 := by
  obtain ⟨v_1, ev_1, hE⟩ := nm_e2 hE
  obtain ⟨v_2, ev_2, hE⟩ := nm_e2 hE
  exact mk_73 _ _ _ _ _ _ _ _ _ hE
set_option maxRecDepth 20000 in
theorem moX15_worthNow_125 {o : Int32 × Hp} {k_73 : Hp → Nat → Int32 → Int32 → Int32 → Int32 → Int32 → Int32 → Int32 → Option (Int32 × Hp)} {F : Nat} (mk_73 : ∀ (h : Hp) (x0 : Nat) (x1 : Int32) (x2 : Int32) (x3 : Int32) (x4 : Int32) (x5 : Int32) (x7 : Int32) (x8 : Int32), k_73 h x0 x1 x2 x3 x4 x5 x7 x8 = some o → Le h o.2) : ∀ (f : Nat) {h : Hp} {x0 : Nat} {x1 : Int32} {x2 : Int32} {x3 : Int32} {x4 : Int32} {x5 : Int32} {x7 : Int32} {x8 : Int32} {x9 : Int64}, sX15_worthNow_125 F k_73 f h x0 x1 x2 x3 x4 x5 x7 x8 x9 = some o → Le h o.2 := by
  intro f
  induction f with
  | zero =>
    intro h x0 x1 x2 x3 x4 x5 x7 x8 x9 hE
    rw [sX15_worthNow_125] at hE
    cases hE
  | succ f ih =>
    intro h x0 x1 x2 x3 x4 x5 x7 x8 x9 hE
    rw [sX15_worthNow_125] at hE
    have mk_125 : ∀ (h : Hp) (x0 : Nat) (x1 : Int32) (x2 : Int32) (x3 : Int32) (x4 : Int32) (x5 : Int32) (x7 : Int32) (x8 : Int32) (x9 : Int64), sX15_worthNow_125 F k_73 f h x0 x1 x2 x3 x4 x5 x7 x8 x9 = some o → Le h o.2 := fun h x0 x1 x2 x3 x4 x5 x7 x8 x9 hE => ih hE
    rcases br_e hE with ⟨_, hE⟩ | ⟨_, hE⟩
    · exact moX15_worthNow_171 mk_73 hE
    · rcases br_e hE with ⟨_, hE⟩ | ⟨_, hE⟩
      · obtain ⟨o_3, eo_3, hE⟩ := cl_e hE
        refine (moJ13_numberOfTrailingZeros_95d88 eo_3).tr ?_
        obtain ⟨v_4, ev_4, hE⟩ := nm_e2 hE
        obtain ⟨o_5, eo_5, hE⟩ := cl_e hE
        refine (moX15_meetAll eo_5).tr ?_
        exact mk_125 _ _ _ _ _ _ _ _ _ _ hE
      · exact moX15_worthNow_171 mk_73 hE
set_option maxRecDepth 20000 in
theorem moX15_worthNow_123 {o : Int32 × Hp} {k_73 : Hp → Nat → Int32 → Int32 → Int32 → Int32 → Int32 → Int32 → Int32 → Option (Int32 × Hp)} {F : Nat} (mk_73 : ∀ (h : Hp) (x0 : Nat) (x1 : Int32) (x2 : Int32) (x3 : Int32) (x4 : Int32) (x5 : Int32) (x7 : Int32) (x8 : Int32), k_73 h x0 x1 x2 x3 x4 x5 x7 x8 = some o → Le h o.2) {h : Hp} {x0 : Nat} {x1 : Int32} {x2 : Int32} {x3 : Int32} {x4 : Int32} {x5 : Int32} {x7 : Int32} {x8 : Int32} {t0 : Int64} (hE : sX15_worthNow_123 F k_73 h x0 x1 x2 x3 x4 x5 x7 x8 t0 = some o) : Le h o.2 := by
  exact moX15_worthNow_125 mk_73 _ hE
set_option maxRecDepth 20000 in
theorem moX15_worthNow_73 {o : Int32 × Hp} {F : Nat} : ∀ (f : Nat) {h : Hp} {x0 : Nat} {x1 : Int32} {x2 : Int32} {x3 : Int32} {x4 : Int32} {x5 : Int32} {x7 : Int32} {x8 : Int32}, sX15_worthNow_73 F f h x0 x1 x2 x3 x4 x5 x7 x8 = some o → Le h o.2 := by
  intro f
  induction f with
  | zero =>
    intro h x0 x1 x2 x3 x4 x5 x7 x8 hE
    rw [sX15_worthNow_73] at hE
    cases hE
  | succ f ih =>
    intro h x0 x1 x2 x3 x4 x5 x7 x8 hE
    rw [sX15_worthNow_73] at hE
    have mk_73 : ∀ (h : Hp) (x0 : Nat) (x1 : Int32) (x2 : Int32) (x3 : Int32) (x4 : Int32) (x5 : Int32) (x7 : Int32) (x8 : Int32), sX15_worthNow_73 F f h x0 x1 x2 x3 x4 x5 x7 x8 = some o → Le h o.2 := fun h x0 x1 x2 x3 x4 x5 x7 x8 hE => ih hE
    rcases br_e hE with ⟨_, hE⟩ | ⟨_, hE⟩
    · exact moX15_worthNow_186 hE
    · rcases br_e hE with ⟨_, hE⟩ | ⟨_, hE⟩
      · obtain ⟨r_3, er_3, hE⟩ := cl_e hE
        obtain ⟨g_4, hE⟩ := gd_e hE
        obtain ⟨o_5, eo_5, hE⟩ := cl_e hE
        refine (moX15_sideOf eo_5).tr ?_
        rcases br_e hE with ⟨_, hE⟩ | ⟨_, hE⟩
        · obtain ⟨r_7, er_7, hE⟩ := cl_e hE
          obtain ⟨o_8, eo_8, hE⟩ := cl_e hE
          refine (moX15_maskOf eo_8).tr ?_
          obtain ⟨g_9, hE⟩ := gd_e hE
          exact moX15_worthNow_123 mk_73 hE
        · exact moX15_worthNow_123 mk_73 hE
      · exact moX15_worthNow_186 hE
set_option maxRecDepth 20000 in
theorem moX15_worthNow_21 {o : Int32 × Hp} {F : Nat} : ∀ (f : Nat) {h : Hp} {x0 : Nat} {x1 : Int32} {x2 : Int32} {x3 : Int32} {x4 : Int32} {x5 : Int32} {x6 : Int32} {x7 : Int32}, sX15_worthNow_21 F f h x0 x1 x2 x3 x4 x5 x6 x7 = some o → Le h o.2 := by
  intro f
  induction f with
  | zero =>
    intro h x0 x1 x2 x3 x4 x5 x6 x7 hE
    rw [sX15_worthNow_21] at hE
    cases hE
  | succ f ih =>
    intro h x0 x1 x2 x3 x4 x5 x6 x7 hE
    rw [sX15_worthNow_21] at hE
    have mk_21 : ∀ (h : Hp) (x0 : Nat) (x1 : Int32) (x2 : Int32) (x3 : Int32) (x4 : Int32) (x5 : Int32) (x6 : Int32) (x7 : Int32), sX15_worthNow_21 F f h x0 x1 x2 x3 x4 x5 x6 x7 = some o → Le h o.2 := fun h x0 x1 x2 x3 x4 x5 x6 x7 hE => ih hE
    rcases br_e hE with ⟨_, hE⟩ | ⟨_, hE⟩
    · obtain ⟨h_2, eh_2, hE⟩ := nm_e2 hE
      refine (le_I eh_2).tr ?_
      obtain ⟨h_3, eh_3, hE⟩ := nm_e2 hE
      refine (le_I eh_3).tr ?_
      exact moX15_worthNow_73 _ hE
    · obtain ⟨r_4, er_4, hE⟩ := cl_e hE
      obtain ⟨g_5, hE⟩ := gd_e hE
      obtain ⟨g_6, hE⟩ := gd_e hE
      obtain ⟨h_7, eh_7, hE⟩ := nm_e2 hE
      refine (le_I eh_7).tr ?_
      obtain ⟨g_8, hE⟩ := gd_e hE
      obtain ⟨v_9, ev_9, hE⟩ := nm_e2 hE
      obtain ⟨v_10, ev_10, hE⟩ := nm_e2 hE
      exact mk_21 _ _ _ _ _ _ _ _ _ hE
set_option maxRecDepth 20000 in
theorem moX15_worthNow {o : Int32 × Hp} {F : Nat} {h : Hp} {x0 : Nat} {x1 : Int32} {x2 : Int32} {x3 : Int32} (hE : sX15_worthNow F h x0 x1 x2 x3 = some o) : Le h o.2 := by
  obtain ⟨r_1, er_1, hE⟩ := cl_e hE
  obtain ⟨g_2, hE⟩ := gd_e hE
  obtain ⟨v_3, ev_3, hE⟩ := nm_e2 hE
  obtain ⟨v_4, ev_4, hE⟩ := nm_e2 hE
  obtain ⟨v_5, ev_5, hE⟩ := nm_e2 hE
  exact moX15_worthNow_21 _ hE
set_option maxRecDepth 20000 in
theorem bX15_worthNow_217 {p : Program} {l : Launch} {e : Env} {s : State} {m : MethodId} {args : Array Value} {below : List Frame} {meth : Method} {c : Code} {X : Ec} {h0 : Hp} {o : Int32 × Hp} {F : Nat} (C : Cx X p s m args meth c RX15 cX15_worthNow 12 (some .int) "worthNow") {h : Hp} {t0 : Int32} {H : Heap} {locs : List Loc} (hkm : Km h0 h) (hW : Wx X h H) (hZ : va_S (aA (eB X)) s.heap H locs) (ls : Array Slot) (hl : lv_has ls 12 []) (hE : sX15_worthNow_217 F h  t0 = some o) : W p l e (rm 5 129) s m args below meth c H locs 0 0 (MQ below (QI X h0 o.1 o.2) args s 0 0 (aA (eB X))) (F0 m 217 ls [.int t0]) := by
  exact x_iret C rfl rfl hW hZ hkm hE dX15_worthNow_217
set_option maxRecDepth 20000 in
theorem bX15_worthNow_186 {p : Program} {l : Launch} {e : Env} {s : State} {m : MethodId} {args : Array Value} {below : List Frame} {meth : Method} {c : Code} {X : Ec} {h0 : Hp} {o : Int32 × Hp} {F : Nat} (C : Cx X p s m args meth c RX15 cX15_worthNow 12 (some .int) "worthNow") {h : Hp} {x0 : Nat} {x3 : Int32} {H : Heap} {locs : List Loc} (k_x0 : hK h x0 = 15) (hkm : Km h0 h) (hW : Wx X h H) (hZ : va_S (aA (eB X)) s.heap H locs) (ls : Array Slot) (hl : lv_has ls 12 [(0, .ref x0), (3, .int x3)]) (hE : sX15_worthNow_186 F h x0 x3 = some o) : W p l e (rm 5 129) s m args below meth c H locs 0 0 (MQ below (QI X h0 o.1 o.2) args s 0 0 (aA (eB X))) (F0 m 186 ls []) := by
  refine lv_aload_n C.1 C.2.1 dX15_worthNow_186 rfl (lv_at hl 0 rfl) ?_
  refine gf_X15_777 C hW k_x0 dX15_worthNow_187 ?_
  refine lv_if_eq (tgt := 201) C.1 C.2.1 dX15_worthNow_190 (by decide) (fun c_1 => ?_) (fun c_1 => ?_)
  · have hE := br_p hE c_1
    refine lv_aload_n C.1 C.2.1 dX15_worthNow_201 rfl (lv_at hl 0 rfl) ?_
    refine gf_X15_780 C hW k_x0 dX15_worthNow_202 ?_
    refine lv_if_eq (tgt := 216) C.1 C.2.1 dX15_worthNow_205 (by decide) (fun c_2 => ?_) (fun c_2 => ?_)
    · have hE := br_p hE c_2
      refine lv_iconst (v := (0 : Int32)) C.1 C.2.1 dX15_worthNow_216 (by decide) ?_
      exact bX15_worthNow_217 C hkm hW hZ _ (lv_sub hl [] rfl) hE
    · have hE := br_n hE c_2
      refine lv_iload_n C.1 C.2.1 dX15_worthNow_208 rfl (lv_at hl 1 rfl) ?_
      refine lv_ldcw (v := (1000000 : Int32)) C.1 C.2.1 C.2.2.2.1 (C.2.2.2.2.1 _ m_2787) dX15_worthNow_209 ?_
      refine lv_isub C.1 C.2.1 dX15_worthNow_212 ?_
      refine lv_goto (tgt := 217) C.1 C.2.1 dX15_worthNow_213 (by decide) ?_
      exact bX15_worthNow_217 C hkm hW hZ _ (lv_sub hl [] rfl) hE
  · have hE := br_n hE c_1
    refine lv_ldcw (v := (1000000 : Int32)) C.1 C.2.1 C.2.2.2.1 (C.2.2.2.2.1 _ m_2787) dX15_worthNow_193 ?_
    refine lv_iload_n C.1 C.2.1 dX15_worthNow_196 rfl (lv_at hl 1 rfl) ?_
    refine lv_isub C.1 C.2.1 dX15_worthNow_197 ?_
    refine lv_goto (tgt := 217) C.1 C.2.1 dX15_worthNow_198 (by decide) ?_
    exact bX15_worthNow_217 C hkm hW hZ _ (lv_sub hl [] rfl) hE
set_option maxRecDepth 20000 in
theorem bX15_worthNow_171 {p : Program} {l : Launch} {e : Env} {s : State} {m : MethodId} {args : Array Value} {below : List Frame} {meth : Method} {c : Code} {X : Ec} {h0 : Hp} {o : Int32 × Hp} {k_73 : Hp → Nat → Int32 → Int32 → Int32 → Int32 → Int32 → Int32 → Int32 → Option (Int32 × Hp)} {F : Nat} (C : Cx X p s m args meth c RX15 cX15_worthNow 12 (some .int) "worthNow") (hk_73 : ∀ (h : Hp) (x0 : Nat) (x1 : Int32) (x2 : Int32) (x3 : Int32) (x4 : Int32) (x5 : Int32) (x7 : Int32) (x8 : Int32) (H : Heap) (locs : List Loc), hK h x0 = 15 → Km h0 h → Wx X h H → va_S (aA (eB X)) s.heap H locs → ∀ (ls : Array Slot), lv_has ls 12 [(0, .ref x0), (1, .int x1), (2, .int x2), (3, .int x3), (4, .int x4), (5, .int x5), (7, .int x7), (8, .int x8)] → k_73 h x0 x1 x2 x3 x4 x5 x7 x8 = some o → W p l e (rm 5 129) s m args below meth c H locs 0 0 (MQ below (QI X h0 o.1 o.2) args s 0 0 (aA (eB X))) (F0 m 73 ls [])) {h : Hp} {x0 : Nat} {x1 : Int32} {x2 : Int32} {x3 : Int32} {x4 : Int32} {x5 : Int32} {x7 : Int32} {x8 : Int32} {H : Heap} {locs : List Loc} (k_x0 : hK h x0 = 15) (hkm : Km h0 h) (hW : Wx X h H) (hZ : va_S (aA (eB X)) s.heap H locs) (ls : Array Slot) (hl : lv_has ls 12 [(0, .ref x0), (1, .int x1), (2, .int x2), (3, .int x3), (4, .int x4), (5, .int x5), (7, .int x7), (8, .int x8)]) (hE : sX15_worthNow_171 F k_73 h x0 x1 x2 x3 x4 x5 x7 x8 = some o) : W p l e (rm 5 129) s m args below meth c H locs 0 0 (MQ below (QI X h0 o.1 o.2) args s 0 0 (aA (eB X))) (F0 m 171 ls []) := by
  refine lv_iload C.1 C.2.1 dX15_worthNow_171 (lv_at hl 6 rfl) ?_
  refine lv_aload_n C.1 C.2.1 dX15_worthNow_173 rfl (lv_at hl 0 rfl) ?_
  refine gf_X15_384 C hW k_x0 dX15_worthNow_174 ?_
  refine lv_imul C.1 C.2.1 dX15_worthNow_177 ?_
  obtain ⟨v_1, ev_1, hE⟩ := nm_e2 hE
  refine x_nmI ev_1 ?_
  refine lv_istore (lv' := [(7, .int v_1), (0, .ref x0), (1, .int x1), (2, .int x2), (3, .int x3), (4, .int x4), (5, .int x5), (8, .int x8)]) C.1 C.2.1 dX15_worthNow_178 hl (by decide) rfl (fun ls hl => ?_)
  obtain ⟨v_2, ev_2, hE⟩ := nm_e2 hE
  refine lv_iinc (v := v_2) (lv' := [(8, .int v_2), (7, .int v_1), (0, .ref x0), (1, .int x1), (2, .int x2), (3, .int x3), (4, .int x4), (5, .int x5)]) C.1 C.2.1 dX15_worthNow_180 hl (k := 7) rfl (by rw [ev_2]; rfl) (by decide) rfl (fun ls hl => ?_)
  refine lv_goto (tgt := 73) C.1 C.2.1 dX15_worthNow_183 (by decide) ?_
  exact hk_73 _ _ _ _ _ _ _ _ _ _ _ k_x0 hkm hW hZ _ (lv_sub hl [2, 3, 4, 5, 6, 7, 1, 0] rfl) hE
set_option maxRecDepth 20000 in
theorem bX15_worthNow_125 {p : Program} {l : Launch} {e : Env} {s : State} {m : MethodId} {args : Array Value} {below : List Frame} {meth : Method} {c : Code} {X : Ec} {h0 : Hp} {o : Int32 × Hp} {k_73 : Hp → Nat → Int32 → Int32 → Int32 → Int32 → Int32 → Int32 → Int32 → Option (Int32 × Hp)} {F : Nat} (C : Cx X p s m args meth c RX15 cX15_worthNow 12 (some .int) "worthNow") (hk_73 : ∀ (h : Hp) (x0 : Nat) (x1 : Int32) (x2 : Int32) (x3 : Int32) (x4 : Int32) (x5 : Int32) (x7 : Int32) (x8 : Int32) (H : Heap) (locs : List Loc), hK h x0 = 15 → Km h0 h → Wx X h H → va_S (aA (eB X)) s.heap H locs → ∀ (ls : Array Slot), lv_has ls 12 [(0, .ref x0), (1, .int x1), (2, .int x2), (3, .int x3), (4, .int x4), (5, .int x5), (7, .int x7), (8, .int x8)] → k_73 h x0 x1 x2 x3 x4 x5 x7 x8 = some o → W p l e (rm 5 129) s m args below meth c H locs 0 0 (MQ below (QI X h0 o.1 o.2) args s 0 0 (aA (eB X))) (F0 m 73 ls [])) : ∀ (f : Nat) {h : Hp} {x0 : Nat} {x1 : Int32} {x2 : Int32} {x3 : Int32} {x4 : Int32} {x5 : Int32} {x7 : Int32} {x8 : Int32} {x9 : Int64} {H : Heap} {locs : List Loc} (k_x0 : hK h x0 = 15), Km h0 h → Wx X h H → va_S (aA (eB X)) s.heap H locs → ∀ (ls : Array Slot), lv_has ls 12 [(0, .ref x0), (1, .int x1), (2, .int x2), (3, .int x3), (4, .int x4), (5, .int x5), (7, .int x7), (8, .int x8), (9, .long x9)] → sX15_worthNow_125 F k_73 f h x0 x1 x2 x3 x4 x5 x7 x8 x9 = some o → W p l e (rm 5 129) s m args below meth c H locs 0 0 (MQ below (QI X h0 o.1 o.2) args s 0 0 (aA (eB X))) (F0 m 125 ls []) := by
  intro f
  induction f with
  | zero =>
    intro h x0 x1 x2 x3 x4 x5 x7 x8 x9 H locs k_x0 hkm hW hZ ls hl hE
    rw [sX15_worthNow_125] at hE
    cases hE
  | succ f ih =>
    intro h x0 x1 x2 x3 x4 x5 x7 x8 x9 H locs k_x0 hkm hW hZ ls hl hE
    rw [sX15_worthNow_125] at hE
    have hk_125 : ∀ (h : Hp) (x0 : Nat) (x1 : Int32) (x2 : Int32) (x3 : Int32) (x4 : Int32) (x5 : Int32) (x7 : Int32) (x8 : Int32) (x9 : Int64) (H : Heap) (locs : List Loc), hK h x0 = 15 → Km h0 h → Wx X h H → va_S (aA (eB X)) s.heap H locs → ∀ (ls : Array Slot), lv_has ls 12 [(0, .ref x0), (1, .int x1), (2, .int x2), (3, .int x3), (4, .int x4), (5, .int x5), (7, .int x7), (8, .int x8), (9, .long x9)] → sX15_worthNow_125 F k_73 f h x0 x1 x2 x3 x4 x5 x7 x8 x9 = some o → W p l e (rm 5 129) s m args below meth c H locs 0 0 (MQ below (QI X h0 o.1 o.2) args s 0 0 (aA (eB X))) (F0 m 125 ls []) := fun h x0 x1 x2 x3 x4 x5 x7 x8 x9 H locs k_x0 a b c ls hl hE => ih k_x0 a b c ls hl hE
    refine lv_lload C.1 C.2.1 dX15_worthNow_125 (lv_at hl 8 rfl) ?_
    refine lv_lconst (v := (0 : Int64)) C.1 C.2.1 dX15_worthNow_127 (by decide) ?_
    refine W.lcmp C.1 C.2.1 dX15_worthNow_128 ?_
    refine lv_if_eq (tgt := 171) C.1 C.2.1 dX15_worthNow_129 (by decide) (fun c_1 => ?_) (fun c_1 => ?_)
    · have hE := br_p hE c_1
      exact bX15_worthNow_171 C hk_73 k_x0 hkm hW hZ _ (lv_sub hl [0, 1, 2, 3, 4, 5, 6, 7] rfl) hE
    · have hE := br_n hE c_1
      refine lv_aload_n C.1 C.2.1 dX15_worthNow_132 rfl (lv_at hl 0 rfl) ?_
      refine gf_X15_777 C hW k_x0 dX15_worthNow_133 ?_
      refine lv_if_ne (tgt := 171) C.1 C.2.1 dX15_worthNow_136 (by decide) (fun c_2 => ?_) (fun c_2 => ?_)
      · have hE := br_n hE c_2
        exact bX15_worthNow_171 C hk_73 k_x0 hkm hW hZ _ (lv_sub hl [0, 1, 2, 3, 4, 5, 6, 7] rfl) hE
      · have hE := br_p hE c_2
        refine lv_lload C.1 C.2.1 dX15_worthNow_139 (lv_at hl 8 rfl) ?_
        obtain ⟨o_3, eo_3, hE⟩ := cl_e hE
        refine x_kI (o := o_3) (z_runS (As := [.long x9]) (rest := []) C (ct_J13_numberOfTrailingZeros_95d88 l X eo_3) cw_X15_783 hW hZ rfl hl.1 (Nat.le_of_ble_eq_true rfl) rfl dX15_worthNow_141 ⟨Nat.le_of_ble_eq_true rfl, Nat.le_of_ble_eq_true rfl⟩ ⟨Nat.le_refl _, Nat.le_refl _⟩) hZ (fun _ _ hW km hZ => ?_)
        replace hkm := hkm.tr km
        replace k_x0 := km.at k_x0 (by decide)
        refine lv_istore (lv' := [(11, .int o_3.1), (0, .ref x0), (1, .int x1), (2, .int x2), (3, .int x3), (4, .int x4), (5, .int x5), (7, .int x7), (8, .int x8), (9, .long x9)]) C.1 C.2.1 dX15_worthNow_144 hl (by decide) rfl (fun ls hl => ?_)
        refine lv_lload C.1 C.2.1 dX15_worthNow_146 (lv_at hl 9 rfl) ?_
        refine lv_lload C.1 C.2.1 dX15_worthNow_148 (lv_at hl 9 rfl) ?_
        refine lv_lconst (v := (1 : Int64)) C.1 C.2.1 dX15_worthNow_150 (by decide) ?_
        refine lv_lsub C.1 C.2.1 dX15_worthNow_151 ?_
        refine lv_land C.1 C.2.1 dX15_worthNow_152 ?_
        obtain ⟨v_4, ev_4, hE⟩ := nm_e2 hE
        refine x_nmJ ev_4 ?_
        refine lv_lstore (lv' := [(9, .long v_4), (11, .int o_3.1), (0, .ref x0), (1, .int x1), (2, .int x2), (3, .int x3), (4, .int x4), (5, .int x5), (7, .int x7), (8, .int x8)]) C.1 C.2.1 dX15_worthNow_153 hl (by decide) rfl (fun ls hl => ?_)
        refine lv_aload_n C.1 C.2.1 dX15_worthNow_155 rfl (lv_at hl 2 rfl) ?_
        refine lv_iload_n C.1 C.2.1 dX15_worthNow_156 rfl (lv_at hl 3 rfl) ?_
        refine lv_iload_n C.1 C.2.1 dX15_worthNow_157 rfl (lv_at hl 4 rfl) ?_
        refine lv_iload C.1 C.2.1 dX15_worthNow_158 (lv_at hl 9 rfl) ?_
        refine lv_iload C.1 C.2.1 dX15_worthNow_160 (lv_at hl 1 rfl) ?_
        refine lv_iload C.1 C.2.1 dX15_worthNow_162 (lv_at hl 8 rfl) ?_
        refine lv_iload_n C.1 C.2.1 dX15_worthNow_164 rfl (lv_at hl 5 rfl) ?_
        obtain ⟨o_5, eo_5, hE⟩ := cl_e hE
        refine x_kV (o := o_5) (z_runV (As := [.int x1, .int x2, .int x8, .int o_3.1, .int x7, .int x3]) (rest := []) C (ct_X15_meetAll l X F k_x0 eo_5) cw_X15_786 hW hZ k_x0 (by decide) rfl rfl rfl hl.1 (Nat.le_of_ble_eq_true rfl) rfl dX15_worthNow_165 ⟨Nat.le_of_ble_eq_true rfl, Nat.le_of_ble_eq_true rfl⟩ ⟨Nat.le_refl _, Nat.le_refl _⟩) hZ (fun _ _ hW km hZ => ?_)
        replace hkm := hkm.tr km
        replace k_x0 := km.at k_x0 (by decide)
        refine lv_goto (tgt := 125) C.1 C.2.1 dX15_worthNow_168 (by decide) ?_
        exact hk_125 _ _ _ _ _ _ _ _ _ _ _ _ k_x0 hkm hW hZ _ (lv_sub hl [2, 3, 4, 5, 6, 7, 8, 9, 0] rfl) hE
set_option maxRecDepth 20000 in
theorem bX15_worthNow_123 {p : Program} {l : Launch} {e : Env} {s : State} {m : MethodId} {args : Array Value} {below : List Frame} {meth : Method} {c : Code} {X : Ec} {h0 : Hp} {o : Int32 × Hp} {k_73 : Hp → Nat → Int32 → Int32 → Int32 → Int32 → Int32 → Int32 → Int32 → Option (Int32 × Hp)} {F : Nat} (C : Cx X p s m args meth c RX15 cX15_worthNow 12 (some .int) "worthNow") (hk_73 : ∀ (h : Hp) (x0 : Nat) (x1 : Int32) (x2 : Int32) (x3 : Int32) (x4 : Int32) (x5 : Int32) (x7 : Int32) (x8 : Int32) (H : Heap) (locs : List Loc), hK h x0 = 15 → Km h0 h → Wx X h H → va_S (aA (eB X)) s.heap H locs → ∀ (ls : Array Slot), lv_has ls 12 [(0, .ref x0), (1, .int x1), (2, .int x2), (3, .int x3), (4, .int x4), (5, .int x5), (7, .int x7), (8, .int x8)] → k_73 h x0 x1 x2 x3 x4 x5 x7 x8 = some o → W p l e (rm 5 129) s m args below meth c H locs 0 0 (MQ below (QI X h0 o.1 o.2) args s 0 0 (aA (eB X))) (F0 m 73 ls [])) {h : Hp} {x0 : Nat} {x1 : Int32} {x2 : Int32} {x3 : Int32} {x4 : Int32} {x5 : Int32} {x7 : Int32} {x8 : Int32} {t0 : Int64} {H : Heap} {locs : List Loc} (k_x0 : hK h x0 = 15) (hkm : Km h0 h) (hW : Wx X h H) (hZ : va_S (aA (eB X)) s.heap H locs) (ls : Array Slot) (hl : lv_has ls 12 [(0, .ref x0), (1, .int x1), (2, .int x2), (3, .int x3), (4, .int x4), (5, .int x5), (7, .int x7), (8, .int x8)]) (hE : sX15_worthNow_123 F k_73 h x0 x1 x2 x3 x4 x5 x7 x8 t0 = some o) : W p l e (rm 5 129) s m args below meth c H locs 0 0 (MQ below (QI X h0 o.1 o.2) args s 0 0 (aA (eB X))) (F0 m 123 ls [.long t0]) := by
  refine lv_lstore (lv' := [(9, .long t0), (0, .ref x0), (1, .int x1), (2, .int x2), (3, .int x3), (4, .int x4), (5, .int x5), (7, .int x7), (8, .int x8)]) C.1 C.2.1 dX15_worthNow_123 hl (by decide) rfl (fun ls hl => ?_)
  exact bX15_worthNow_125 C hk_73 F k_x0 hkm hW hZ _ (lv_sub hl [1, 2, 3, 4, 5, 6, 7, 8, 0] rfl) hE
set_option maxRecDepth 20000 in
theorem bX15_worthNow_73 {p : Program} {l : Launch} {e : Env} {s : State} {m : MethodId} {args : Array Value} {below : List Frame} {meth : Method} {c : Code} {X : Ec} {h0 : Hp} {o : Int32 × Hp} {F : Nat} (C : Cx X p s m args meth c RX15 cX15_worthNow 12 (some .int) "worthNow") : ∀ (f : Nat) {h : Hp} {x0 : Nat} {x1 : Int32} {x2 : Int32} {x3 : Int32} {x4 : Int32} {x5 : Int32} {x7 : Int32} {x8 : Int32} {H : Heap} {locs : List Loc} (k_x0 : hK h x0 = 15), Km h0 h → Wx X h H → va_S (aA (eB X)) s.heap H locs → ∀ (ls : Array Slot), lv_has ls 12 [(0, .ref x0), (1, .int x1), (2, .int x2), (3, .int x3), (4, .int x4), (5, .int x5), (7, .int x7), (8, .int x8)] → sX15_worthNow_73 F f h x0 x1 x2 x3 x4 x5 x7 x8 = some o → W p l e (rm 5 129) s m args below meth c H locs 0 0 (MQ below (QI X h0 o.1 o.2) args s 0 0 (aA (eB X))) (F0 m 73 ls []) := by
  intro f
  induction f with
  | zero =>
    intro h x0 x1 x2 x3 x4 x5 x7 x8 H locs k_x0 hkm hW hZ ls hl hE
    rw [sX15_worthNow_73] at hE
    cases hE
  | succ f ih =>
    intro h x0 x1 x2 x3 x4 x5 x7 x8 H locs k_x0 hkm hW hZ ls hl hE
    rw [sX15_worthNow_73] at hE
    have hk_73 : ∀ (h : Hp) (x0 : Nat) (x1 : Int32) (x2 : Int32) (x3 : Int32) (x4 : Int32) (x5 : Int32) (x7 : Int32) (x8 : Int32) (H : Heap) (locs : List Loc), hK h x0 = 15 → Km h0 h → Wx X h H → va_S (aA (eB X)) s.heap H locs → ∀ (ls : Array Slot), lv_has ls 12 [(0, .ref x0), (1, .int x1), (2, .int x2), (3, .int x3), (4, .int x4), (5, .int x5), (7, .int x7), (8, .int x8)] → sX15_worthNow_73 F f h x0 x1 x2 x3 x4 x5 x7 x8 = some o → W p l e (rm 5 129) s m args below meth c H locs 0 0 (MQ below (QI X h0 o.1 o.2) args s 0 0 (aA (eB X))) (F0 m 73 ls []) := fun h x0 x1 x2 x3 x4 x5 x7 x8 H locs k_x0 a b c ls hl hE => ih k_x0 a b c ls hl hE
    refine lv_iload C.1 C.2.1 dX15_worthNow_73 (lv_at hl 7 rfl) ?_
    refine lv_iload C.1 C.2.1 dX15_worthNow_75 (lv_at hl 4 rfl) ?_
    refine lv_icmp_ge (tgt := 186) C.1 C.2.1 dX15_worthNow_77 (by decide) (fun c_1 => ?_) (fun c_1 => ?_)
    · have hE := br_p hE c_1
      exact bX15_worthNow_186 C k_x0 hkm hW hZ _ (lv_sub hl [0, 3] rfl) hE
    · have hE := br_n hE c_1
      refine lv_aload_n C.1 C.2.1 dX15_worthNow_80 rfl (lv_at hl 0 rfl) ?_
      refine gf_X15_777 C hW k_x0 dX15_worthNow_81 ?_
      refine lv_if_ne (tgt := 186) C.1 C.2.1 dX15_worthNow_84 (by decide) (fun c_2 => ?_) (fun c_2 => ?_)
      · have hE := br_n hE c_2
        exact bX15_worthNow_186 C k_x0 hkm hW hZ _ (lv_sub hl [0, 3] rfl) hE
      · have hE := br_p hE c_2
        refine lv_aload_n C.1 C.2.1 dX15_worthNow_87 rfl (lv_at hl 0 rfl) ?_
        obtain ⟨r_3, er_3, hE⟩ := cl_e hE
        refine gf_X15_336 C hW k_x0 er_3 dX15_worthNow_88 (fun k_r_3 => ?_)
        refine lv_iconst (v := (5 : Int32)) C.1 C.2.1 dX15_worthNow_91 (by decide) ?_
        refine lv_iload_n C.1 C.2.1 dX15_worthNow_92 rfl (lv_at hl 1 rfl) ?_
        refine lv_imul C.1 C.2.1 dX15_worthNow_93 ?_
        refine lv_iload C.1 C.2.1 dX15_worthNow_94 (lv_at hl 7 rfl) ?_
        refine lv_iadd C.1 C.2.1 dX15_worthNow_96 ?_
        obtain ⟨g_4, hE⟩ := gd_e hE
        refine y_iald C hW k_r_3 g_4 dX15_worthNow_97 ?_
        obtain ⟨o_5, eo_5, hE⟩ := cl_e hE
        refine x_kI (o := o_5) (z_runS (As := [.int (hI h r_3 (((5 : Int32) * x1) + x8).toNatClampNeg)]) (rest := []) C (ct_X15_sideOf l X eo_5) cw_X15_489 hW hZ rfl hl.1 (Nat.le_of_ble_eq_true rfl) rfl dX15_worthNow_98 ⟨Nat.le_of_ble_eq_true rfl, Nat.le_of_ble_eq_true rfl⟩ ⟨Nat.le_refl _, Nat.le_refl _⟩) hZ (fun _ _ hW km hZ => ?_)
        replace hkm := hkm.tr km
        replace k_x0 := km.at k_x0 (by decide)
        refine lv_iload C.1 C.2.1 dX15_worthNow_101 (lv_at hl 5 rfl) ?_
        refine lv_icmp_ne (tgt := 122) C.1 C.2.1 dX15_worthNow_103 (by decide) (fun c_6 => ?_) (fun c_6 => ?_)
        · have hE := br_n hE c_6
          refine lv_lconst (v := (0 : Int64)) C.1 C.2.1 dX15_worthNow_122 (by decide) ?_
          exact bX15_worthNow_123 C hk_73 k_x0 hkm hW hZ _ (lv_sub hl [0, 1, 2, 3, 4, 5, 6, 7] rfl) hE
        · have hE := br_p hE c_6
          refine lv_aload_n C.1 C.2.1 dX15_worthNow_106 rfl (lv_at hl 0 rfl) ?_
          obtain ⟨r_7, er_7, hE⟩ := cl_e hE
          refine gf_X15_770 C hW k_x0 er_7 dX15_worthNow_107 (fun k_r_7 => ?_)
          refine lv_aload_n C.1 C.2.1 dX15_worthNow_110 rfl (lv_at hl 0 rfl) ?_
          refine lv_iload_n C.1 C.2.1 dX15_worthNow_111 rfl (lv_at hl 1 rfl) ?_
          refine lv_iload_n C.1 C.2.1 dX15_worthNow_112 rfl (lv_at hl 2 rfl) ?_
          refine lv_iload C.1 C.2.1 dX15_worthNow_113 (lv_at hl 7 rfl) ?_
          obtain ⟨o_8, eo_8, hE⟩ := cl_e hE
          refine x_kI (o := o_8) (z_runV (As := [.int x1, .int x2, .int x8]) (rest := [.ref r_7]) C (ct_X15_maskOf l X F k_x0 eo_8) cw_X15_773 hW hZ k_x0 (by decide) rfl rfl rfl hl.1 (Nat.le_of_ble_eq_true rfl) rfl dX15_worthNow_115 ⟨Nat.le_of_ble_eq_true rfl, Nat.le_of_ble_eq_true rfl⟩ ⟨Nat.le_refl _, Nat.le_refl _⟩) hZ (fun _ _ hW km hZ => ?_)
          replace hkm := hkm.tr km
          replace k_x0 := km.at k_x0 (by decide)
          replace k_r_7 := km.at k_r_7 (by decide)
          obtain ⟨g_9, hE⟩ := gd_e hE
          refine y_lald C hW k_r_7 g_9 dX15_worthNow_118 ?_
          refine lv_goto (tgt := 123) C.1 C.2.1 dX15_worthNow_119 (by decide) ?_
          exact bX15_worthNow_123 C hk_73 k_x0 hkm hW hZ _ (lv_sub hl [0, 1, 2, 3, 4, 5, 6, 7] rfl) hE
set_option maxRecDepth 20000 in
theorem bX15_worthNow_21 {p : Program} {l : Launch} {e : Env} {s : State} {m : MethodId} {args : Array Value} {below : List Frame} {meth : Method} {c : Code} {X : Ec} {h0 : Hp} {o : Int32 × Hp} {F : Nat} (C : Cx X p s m args meth c RX15 cX15_worthNow 12 (some .int) "worthNow") : ∀ (f : Nat) {h : Hp} {x0 : Nat} {x1 : Int32} {x2 : Int32} {x3 : Int32} {x4 : Int32} {x5 : Int32} {x6 : Int32} {x7 : Int32} {H : Heap} {locs : List Loc} (k_x0 : hK h x0 = 15), Km h0 h → Wx X h H → va_S (aA (eB X)) s.heap H locs → ∀ (ls : Array Slot), lv_has ls 12 [(0, .ref x0), (1, .int x1), (2, .int x2), (3, .int x3), (4, .int x4), (5, .int x5), (6, .int x6), (7, .int x7)] → sX15_worthNow_21 F f h x0 x1 x2 x3 x4 x5 x6 x7 = some o → W p l e (rm 5 129) s m args below meth c H locs 0 0 (MQ below (QI X h0 o.1 o.2) args s 0 0 (aA (eB X))) (F0 m 21 ls []) := by
  intro f
  induction f with
  | zero =>
    intro h x0 x1 x2 x3 x4 x5 x6 x7 H locs k_x0 hkm hW hZ ls hl hE
    rw [sX15_worthNow_21] at hE
    cases hE
  | succ f ih =>
    intro h x0 x1 x2 x3 x4 x5 x6 x7 H locs k_x0 hkm hW hZ ls hl hE
    rw [sX15_worthNow_21] at hE
    have hk_21 : ∀ (h : Hp) (x0 : Nat) (x1 : Int32) (x2 : Int32) (x3 : Int32) (x4 : Int32) (x5 : Int32) (x6 : Int32) (x7 : Int32) (H : Heap) (locs : List Loc), hK h x0 = 15 → Km h0 h → Wx X h H → va_S (aA (eB X)) s.heap H locs → ∀ (ls : Array Slot), lv_has ls 12 [(0, .ref x0), (1, .int x1), (2, .int x2), (3, .int x3), (4, .int x4), (5, .int x5), (6, .int x6), (7, .int x7)] → sX15_worthNow_21 F f h x0 x1 x2 x3 x4 x5 x6 x7 = some o → W p l e (rm 5 129) s m args below meth c H locs 0 0 (MQ below (QI X h0 o.1 o.2) args s 0 0 (aA (eB X))) (F0 m 21 ls []) := fun h x0 x1 x2 x3 x4 x5 x6 x7 H locs k_x0 a b c ls hl hE => ih k_x0 a b c ls hl hE
    refine lv_iload C.1 C.2.1 dX15_worthNow_21 (lv_at hl 7 rfl) ?_
    refine lv_iload C.1 C.2.1 dX15_worthNow_23 (lv_at hl 4 rfl) ?_
    refine lv_icmp_ge (tgt := 57) C.1 C.2.1 dX15_worthNow_25 (by decide) (fun c_1 => ?_) (fun c_1 => ?_)
    · have hE := br_p hE c_1
      refine lv_aload_n C.1 C.2.1 dX15_worthNow_57 rfl (lv_at hl 0 rfl) ?_
      refine lv_iconst (v := (0 : Int32)) C.1 C.2.1 dX15_worthNow_58 (by decide) ?_
      obtain ⟨h_2, eh_2, hE⟩ := nm_e2 hE
      refine pf_X15_777 C hW hZ k_x0 (by decide) eh_2 dX15_worthNow_59 (fun _ _ hW km hZ => ?_)
      replace hkm := hkm.tr km
      replace k_x0 := km.at k_x0 (by decide)
      refine lv_aload_n C.1 C.2.1 dX15_worthNow_62 rfl (lv_at hl 0 rfl) ?_
      refine lv_iconst (v := (1 : Int32)) C.1 C.2.1 dX15_worthNow_63 (by decide) ?_
      obtain ⟨h_3, eh_3, hE⟩ := nm_e2 hE
      refine pf_X15_780 C hW hZ k_x0 (by decide) eh_3 dX15_worthNow_64 (fun _ _ hW km hZ => ?_)
      replace hkm := hkm.tr km
      replace k_x0 := km.at k_x0 (by decide)
      refine lv_iconst (v := (2 : Int32)) C.1 C.2.1 dX15_worthNow_67 (by decide) ?_
      refine lv_istore (lv' := [(7, .int (2 : Int32)), (0, .ref x0), (1, .int x1), (2, .int x2), (3, .int x3), (4, .int x4), (5, .int x5), (6, .int x6)]) C.1 C.2.1 dX15_worthNow_68 hl (by decide) rfl (fun ls hl => ?_)
      refine lv_iconst (v := (0 : Int32)) C.1 C.2.1 dX15_worthNow_70 (by decide) ?_
      refine lv_istore (lv' := [(8, .int (0 : Int32)), (7, .int (2 : Int32)), (0, .ref x0), (1, .int x1), (2, .int x2), (3, .int x3), (4, .int x4), (5, .int x5), (6, .int x6)]) C.1 C.2.1 dX15_worthNow_71 hl (by decide) rfl (fun ls hl => ?_)
      exact bX15_worthNow_73 C F k_x0 hkm hW hZ _ (lv_sub hl [2, 3, 4, 5, 6, 7, 1, 0] rfl) hE
    · have hE := br_n hE c_1
      refine lv_aload_n C.1 C.2.1 dX15_worthNow_28 rfl (lv_at hl 0 rfl) ?_
      obtain ⟨r_4, er_4, hE⟩ := cl_e hE
      refine gf_X15_368 C hW k_x0 er_4 dX15_worthNow_29 (fun k_r_4 => ?_)
      refine lv_iload C.1 C.2.1 dX15_worthNow_32 (lv_at hl 7 rfl) ?_
      refine lv_iload C.1 C.2.1 dX15_worthNow_34 (lv_at hl 6 rfl) ?_
      refine lv_aload_n C.1 C.2.1 dX15_worthNow_36 rfl (lv_at hl 0 rfl) ?_
      refine gf_X15_384 C hW k_x0 dX15_worthNow_37 ?_
      obtain ⟨g_5, hE⟩ := gd_e hE
      refine lv_irem C.1 C.2.1 dX15_worthNow_40 g_5 ?_
      obtain ⟨g_6, hE⟩ := gd_e hE
      obtain ⟨h_7, eh_7, hE⟩ := nm_e2 hE
      refine y_iast C hW hZ k_r_4 g_6 eh_7 dX15_worthNow_41 (fun _ _ hW km hZ => ?_)
      replace hkm := hkm.tr km
      replace k_x0 := km.at k_x0 (by decide)
      refine lv_iload C.1 C.2.1 dX15_worthNow_42 (lv_at hl 6 rfl) ?_
      refine lv_aload_n C.1 C.2.1 dX15_worthNow_44 rfl (lv_at hl 0 rfl) ?_
      refine gf_X15_384 C hW k_x0 dX15_worthNow_45 ?_
      obtain ⟨g_8, hE⟩ := gd_e hE
      refine lv_idiv C.1 C.2.1 dX15_worthNow_48 g_8 ?_
      obtain ⟨v_9, ev_9, hE⟩ := nm_e2 hE
      refine x_nmI ev_9 ?_
      refine lv_istore (lv' := [(6, .int v_9), (0, .ref x0), (1, .int x1), (2, .int x2), (3, .int x3), (4, .int x4), (5, .int x5), (7, .int x7)]) C.1 C.2.1 dX15_worthNow_49 hl (by decide) rfl (fun ls hl => ?_)
      obtain ⟨v_10, ev_10, hE⟩ := nm_e2 hE
      refine lv_iinc (v := v_10) (lv' := [(7, .int v_10), (6, .int v_9), (0, .ref x0), (1, .int x1), (2, .int x2), (3, .int x3), (4, .int x4), (5, .int x5)]) C.1 C.2.1 dX15_worthNow_51 hl (k := 7) rfl (by rw [ev_10]; rfl) (by decide) rfl (fun ls hl => ?_)
      refine lv_goto (tgt := 21) C.1 C.2.1 dX15_worthNow_54 (by decide) ?_
      exact hk_21 _ _ _ _ _ _ _ _ _ _ _ k_x0 hkm hW hZ _ (lv_sub hl [2, 3, 4, 5, 6, 7, 1, 0] rfl) hE
set_option maxRecDepth 20000 in
theorem ct_X15_worthNow (l : Launch) (X : Ec) (F : Nat) {h : Hp} {x0 : Nat} {x1 : Int32} {x2 : Int32} {x3 : Int32} {o : Int32 × Hp} (k_x0 : hK h x0 = 15) (hE : sX15_worthNow F h x0 x1 x2 x3 = some o) : MetI l yX15_worthNow cX15_worthNow 12 (some .int) 5 129 X [.ref x0, .int x1, .int x2, .int x3] h o := by
  refine x_met (by decide) (Nat.le_of_ble_eq_true rfl) ?_
  intro p e s m below meth c ls C hl hW hZ
  have hl : lv_has ls 12 [(0, .ref x0), (1, .int x1), (2, .int x2), (3, .int x3)] := hl
  have hkm : Km h h := Km.rf h
  refine lv_aload_n C.1 C.2.1 dX15_worthNow_0 rfl (lv_at hl 0 rfl) ?_
  obtain ⟨r_1, er_1, hE⟩ := cl_e hE
  refine gf_X15_333 C hW k_x0 er_1 dX15_worthNow_1 (fun k_r_1 => ?_)
  refine lv_iload_n C.1 C.2.1 dX15_worthNow_4 rfl (lv_at hl 1 rfl) ?_
  obtain ⟨g_2, hE⟩ := gd_e hE
  refine y_iald C hW k_r_1 g_2 dX15_worthNow_5 ?_
  obtain ⟨v_3, ev_3, hE⟩ := nm_e2 hE
  refine x_nmI ev_3 ?_
  refine lv_istore (lv' := [(4, .int v_3), (0, .ref x0), (1, .int x1), (2, .int x2), (3, .int x3)]) C.1 C.2.1 dX15_worthNow_6 hl (by decide) rfl (fun ls hl => ?_)
  refine lv_iload_n C.1 C.2.1 dX15_worthNow_8 rfl (lv_at hl 3 rfl) ?_
  refine lv_iconst (v := (1 : Int32)) C.1 C.2.1 dX15_worthNow_9 (by decide) ?_
  refine lv_iand C.1 C.2.1 dX15_worthNow_10 ?_
  obtain ⟨v_4, ev_4, hE⟩ := nm_e2 hE
  refine x_nmI ev_4 ?_
  refine lv_istore (lv' := [(5, .int v_4), (4, .int v_3), (0, .ref x0), (1, .int x1), (2, .int x2), (3, .int x3)]) C.1 C.2.1 dX15_worthNow_11 hl (by decide) rfl (fun ls hl => ?_)
  refine lv_iload_n C.1 C.2.1 dX15_worthNow_13 rfl (lv_at hl 4 rfl) ?_
  refine lv_iconst (v := (1 : Int32)) C.1 C.2.1 dX15_worthNow_14 (by decide) ?_
  refine lv_ishr C.1 C.2.1 dX15_worthNow_15 ?_
  obtain ⟨v_5, ev_5, hE⟩ := nm_e2 hE
  refine x_nmI ev_5 ?_
  refine lv_istore (lv' := [(6, .int v_5), (5, .int v_4), (4, .int v_3), (0, .ref x0), (1, .int x1), (2, .int x2), (3, .int x3)]) C.1 C.2.1 dX15_worthNow_16 hl (by decide) rfl (fun ls hl => ?_)
  refine lv_iconst (v := (0 : Int32)) C.1 C.2.1 dX15_worthNow_18 (by decide) ?_
  refine lv_istore (lv' := [(7, .int (0 : Int32)), (6, .int v_5), (5, .int v_4), (4, .int v_3), (0, .ref x0), (1, .int x1), (2, .int x2), (3, .int x3)]) C.1 C.2.1 dX15_worthNow_19 hl (by decide) rfl (fun ls hl => ?_)
  exact bX15_worthNow_21 C F k_x0 hkm hW hZ _ (lv_sub hl [4, 5, 6, 7, 3, 2, 1, 0] rfl) hE
