set_option maxRecDepth 100000 in
theorem ms_175 : Cond.selects RX15 yX15_leadBy yX15_leadBy ∈ W0 := w0_in (List.mem_append_left _ (List.mem_of_getElem? (i := 175) rfl)) rfl
set_option maxRecDepth 100000 in
theorem m_2536 : Cond.methodLink RX15 568 yX15_leadBy ∈ W0 := w0_in (List.mem_append_right _ (List.mem_of_getElem? (i := 2536) rfl)) rfl
set_option maxRecDepth 100000 in
theorem m_2538 : Cond.instanceMethod yX15_leadBy ∈ W0 := w0_in (List.mem_append_right _ (List.mem_of_getElem? (i := 2538) rfl)) rfl
set_option maxRecDepth 100000 in
theorem m_2539 : Cond.code yX15_leadBy cX15_leadBy 13 none ∈ W0 := w0_in (List.mem_append_right _ (List.mem_of_getElem? (i := 2539) rfl)) rfl
theorem cw_X15_568 : cwd RX15 568 yX15_leadBy cX15_leadBy 13 none false 5 := ⟨m_2539, m_2536, m_19, ⟨m_2538, ms_175⟩, by decide, by decide, by decide +kernel⟩
theorem dX15_lead_0 : decode cX15_lead 0 = .ok (.aload_n 1, 1) := by decide +kernel
theorem dX15_lead_1 : decode cX15_lead 1 = .ok (.getfield 396, 3) := by decide +kernel
theorem dX15_lead_4 : decode cX15_lead 4 = .ok (.iload_n 2, 1) := by decide +kernel
theorem dX15_lead_5 : decode cX15_lead 5 = .ok (.iaload, 1) := by decide +kernel
theorem dX15_lead_6 : decode cX15_lead 6 = .ok (.istore 4, 2) := by decide +kernel
theorem dX15_lead_8 : decode cX15_lead 8 = .ok (.iload 4, 2) := by decide +kernel
theorem dX15_lead_10 : decode cX15_lead 10 = .ok (.invokestatic 489, 3) := by decide +kernel
theorem dX15_lead_13 : decode cX15_lead 13 = .ok (.istore 5, 2) := by decide +kernel
theorem dX15_lead_15 : decode cX15_lead 15 = .ok (.iconst 0, 1) := by decide +kernel
theorem dX15_lead_16 : decode cX15_lead 16 = .ok (.istore 6, 2) := by decide +kernel
theorem dX15_lead_18 : decode cX15_lead 18 = .ok (.iload 6, 2) := by decide +kernel
theorem dX15_lead_20 : decode cX15_lead 20 = .ok (.aload_n 0, 1) := by decide +kernel
theorem dX15_lead_21 : decode cX15_lead 21 = .ok (.getfield 384, 3) := by decide +kernel
theorem dX15_lead_24 : decode cX15_lead 24 = .ok (.if_icmp .ge 17, 3) := by decide +kernel
theorem dX15_lead_27 : decode cX15_lead 27 = .ok (.aload_n 0, 1) := by decide +kernel
theorem dX15_lead_28 : decode cX15_lead 28 = .ok (.getfield 272, 3) := by decide +kernel
theorem dX15_lead_31 : decode cX15_lead 31 = .ok (.iload 6, 2) := by decide +kernel
theorem dX15_lead_33 : decode cX15_lead 33 = .ok (.iconst (-1), 1) := by decide +kernel
theorem dX15_lead_34 : decode cX15_lead 34 = .ok (.iastore, 1) := by decide +kernel
theorem dX15_lead_35 : decode cX15_lead 35 = .ok (.iinc 6 1, 3) := by decide +kernel
theorem dX15_lead_38 : decode cX15_lead 38 = .ok (.goto (-20), 3) := by decide +kernel
theorem dX15_lead_41 : decode cX15_lead 41 = .ok (.iconst 0, 1) := by decide +kernel
theorem dX15_lead_42 : decode cX15_lead 42 = .ok (.istore 6, 2) := by decide +kernel
theorem dX15_lead_44 : decode cX15_lead 44 = .ok (.iload 6, 2) := by decide +kernel
theorem dX15_lead_46 : decode cX15_lead 46 = .ok (.aload_n 0, 1) := by decide +kernel
theorem dX15_lead_47 : decode cX15_lead 47 = .ok (.getfield 252, 3) := by decide +kernel
theorem dX15_lead_50 : decode cX15_lead 50 = .ok (.getfield 176, 3) := by decide +kernel
theorem dX15_lead_53 : decode cX15_lead 53 = .ok (.iload 4, 2) := by decide +kernel
theorem dX15_lead_55 : decode cX15_lead 55 = .ok (.invokestatic 492, 3) := by decide +kernel
theorem dX15_lead_58 : decode cX15_lead 58 = .ok (.iaload, 1) := by decide +kernel
theorem dX15_lead_59 : decode cX15_lead 59 = .ok (.if_icmp .ge 74, 3) := by decide +kernel
theorem dX15_lead_62 : decode cX15_lead 62 = .ok (.bipush 8, 2) := by decide +kernel
theorem dX15_lead_64 : decode cX15_lead 64 = .ok (.iload 4, 2) := by decide +kernel
theorem dX15_lead_66 : decode cX15_lead 66 = .ok (.invokestatic 492, 3) := by decide +kernel
theorem dX15_lead_69 : decode cX15_lead 69 = .ok (.imul, 1) := by decide +kernel
theorem dX15_lead_70 : decode cX15_lead 70 = .ok (.iload 6, 2) := by decide +kernel
theorem dX15_lead_72 : decode cX15_lead 72 = .ok (.iadd, 1) := by decide +kernel
theorem dX15_lead_73 : decode cX15_lead 73 = .ok (.istore 7, 2) := by decide +kernel
theorem dX15_lead_75 : decode cX15_lead 75 = .ok (.iconst 0, 1) := by decide +kernel
theorem dX15_lead_76 : decode cX15_lead 76 = .ok (.istore 8, 2) := by decide +kernel
theorem dX15_lead_78 : decode cX15_lead 78 = .ok (.iload 8, 2) := by decide +kernel
theorem dX15_lead_80 : decode cX15_lead 80 = .ok (.bipush 8, 2) := by decide +kernel
theorem dX15_lead_82 : decode cX15_lead 82 = .ok (.if_icmp .ge 45, 3) := by decide +kernel
theorem dX15_lead_85 : decode cX15_lead 85 = .ok (.aload_n 0, 1) := by decide +kernel
theorem dX15_lead_86 : decode cX15_lead 86 = .ok (.iload 7, 2) := by decide +kernel
theorem dX15_lead_88 : decode cX15_lead 88 = .ok (.iload_n 2, 1) := by decide +kernel
theorem dX15_lead_89 : decode cX15_lead 89 = .ok (.iload 5, 2) := by decide +kernel
theorem dX15_lead_91 : decode cX15_lead 91 = .ok (.invokevirtual 559, 3) := by decide +kernel
theorem dX15_lead_94 : decode cX15_lead 94 = .ok (.ifCond .eq 33, 3) := by decide +kernel
theorem dX15_lead_97 : decode cX15_lead 97 = .ok (.aload_n 0, 1) := by decide +kernel
theorem dX15_lead_98 : decode cX15_lead 98 = .ok (.iload 7, 2) := by decide +kernel
theorem dX15_lead_100 : decode cX15_lead 100 = .ok (.iload 8, 2) := by decide +kernel
theorem dX15_lead_102 : decode cX15_lead 102 = .ok (.iload 5, 2) := by decide +kernel
theorem dX15_lead_104 : decode cX15_lead 104 = .ok (.invokevirtual 516, 3) := by decide +kernel
theorem dX15_lead_107 : decode cX15_lead 107 = .ok (.ifCond .eq 14, 3) := by decide +kernel
theorem dX15_lead_110 : decode cX15_lead 110 = .ok (.aload_n 0, 1) := by decide +kernel
theorem dX15_lead_111 : decode cX15_lead 111 = .ok (.aload_n 1, 1) := by decide +kernel
theorem dX15_lead_112 : decode cX15_lead 112 = .ok (.iload_n 2, 1) := by decide +kernel
theorem dX15_lead_113 : decode cX15_lead 113 = .ok (.iload 5, 2) := by decide +kernel
theorem dX15_lead_115 : decode cX15_lead 115 = .ok (.iload 7, 2) := by decide +kernel
theorem dX15_lead_117 : decode cX15_lead 117 = .ok (.iload_n 3, 1) := by decide +kernel
theorem dX15_lead_118 : decode cX15_lead 118 = .ok (.invokevirtual 568, 3) := by decide +kernel
theorem dX15_lead_121 : decode cX15_lead 121 = .ok (.iinc 8 1, 3) := by decide +kernel
theorem dX15_lead_124 : decode cX15_lead 124 = .ok (.goto (-46), 3) := by decide +kernel
theorem dX15_lead_127 : decode cX15_lead 127 = .ok (.iinc 6 1, 3) := by decide +kernel
theorem dX15_lead_130 : decode cX15_lead 130 = .ok (.goto (-86), 3) := by decide +kernel
theorem dX15_lead_133 : decode cX15_lead 133 = .ok (.return_, 1) := by decide +kernel
set_option maxRecDepth 20000 in
theorem moX15_lead_127 {o : Hp} {k_44 : Hp → Nat → Nat → Int32 → Int32 → Int32 → Int32 → Int32 → Option (Hp)} {F : Nat} (mk_44 : ∀ (h : Hp) (x0 : Nat) (x1 : Nat) (x2 : Int32) (x3 : Int32) (x4 : Int32) (x5 : Int32) (x6 : Int32), k_44 h x0 x1 x2 x3 x4 x5 x6 = some o → Le h o) {h : Hp} {x0 : Nat} {x1 : Nat} {x2 : Int32} {x3 : Int32} {x4 : Int32} {x5 : Int32} {x6 : Int32} (hE : sX15_lead_127 F k_44 h x0 x1 x2 x3 x4 x5 x6 = some o) : Le h o := by
  obtain ⟨v_1, ev_1, hE⟩ := nm_e2 hE
  exact mk_44 _ _ _ _ _ _ _ _ hE
set_option maxRecDepth 20000 in
theorem moX15_lead_121 {o : Hp} {k_44 : Hp → Nat → Nat → Int32 → Int32 → Int32 → Int32 → Int32 → Option (Hp)} {k_78 : Hp → Nat → Nat → Int32 → Int32 → Int32 → Int32 → Int32 → Int32 → Int32 → Option (Hp)} {F : Nat} (mk_44 : ∀ (h : Hp) (x0 : Nat) (x1 : Nat) (x2 : Int32) (x3 : Int32) (x4 : Int32) (x5 : Int32) (x6 : Int32), k_44 h x0 x1 x2 x3 x4 x5 x6 = some o → Le h o) (mk_78 : ∀ (h : Hp) (x0 : Nat) (x1 : Nat) (x2 : Int32) (x3 : Int32) (x4 : Int32) (x5 : Int32) (x6 : Int32) (x7 : Int32) (x8 : Int32), k_78 h x0 x1 x2 x3 x4 x5 x6 x7 x8 = some o → Le h o) {h : Hp} {x0 : Nat} {x1 : Nat} {x2 : Int32} {x3 : Int32} {x4 : Int32} {x5 : Int32} {x6 : Int32} {x7 : Int32} {x8 : Int32} (hE : sX15_lead_121 F k_44 k_78 h x0 x1 x2 x3 x4 x5 x6 x7 x8 = some o) : Le h o := by
  obtain ⟨v_1, ev_1, hE⟩ := nm_e2 hE
  exact mk_78 _ _ _ _ _ _ _ _ _ _ hE
set_option maxRecDepth 20000 in
theorem moX15_lead_78 {o : Hp} {k_44 : Hp → Nat → Nat → Int32 → Int32 → Int32 → Int32 → Int32 → Option (Hp)} {F : Nat} (mk_44 : ∀ (h : Hp) (x0 : Nat) (x1 : Nat) (x2 : Int32) (x3 : Int32) (x4 : Int32) (x5 : Int32) (x6 : Int32), k_44 h x0 x1 x2 x3 x4 x5 x6 = some o → Le h o) : ∀ (f : Nat) {h : Hp} {x0 : Nat} {x1 : Nat} {x2 : Int32} {x3 : Int32} {x4 : Int32} {x5 : Int32} {x6 : Int32} {x7 : Int32} {x8 : Int32}, sX15_lead_78 F k_44 f h x0 x1 x2 x3 x4 x5 x6 x7 x8 = some o → Le h o := by
  intro f
  induction f with
  | zero =>
    intro h x0 x1 x2 x3 x4 x5 x6 x7 x8 hE
    rw [sX15_lead_78] at hE
    cases hE
  | succ f ih =>
    intro h x0 x1 x2 x3 x4 x5 x6 x7 x8 hE
    rw [sX15_lead_78] at hE
    have mk_78 : ∀ (h : Hp) (x0 : Nat) (x1 : Nat) (x2 : Int32) (x3 : Int32) (x4 : Int32) (x5 : Int32) (x6 : Int32) (x7 : Int32) (x8 : Int32), sX15_lead_78 F k_44 f h x0 x1 x2 x3 x4 x5 x6 x7 x8 = some o → Le h o := fun h x0 x1 x2 x3 x4 x5 x6 x7 x8 hE => ih hE
    rcases br_e hE with ⟨_, hE⟩ | ⟨_, hE⟩
    · exact moX15_lead_127 mk_44 hE
    · obtain ⟨o_2, eo_2, hE⟩ := cl_e hE
      refine (moX15_isFrom eo_2).tr ?_
      rcases br_e hE with ⟨_, hE⟩ | ⟨_, hE⟩
      · exact moX15_lead_127 mk_44 hE
      · obtain ⟨o_4, eo_4, hE⟩ := cl_e hE
        refine (moX15_hasVector eo_4).tr ?_
        rcases br_e hE with ⟨_, hE⟩ | ⟨_, hE⟩
        · exact moX15_lead_121 mk_44 mk_78 hE
        · obtain ⟨o_6, eo_6, hE⟩ := cl_e hE
          refine (moX15_leadBy eo_6).tr ?_
          exact moX15_lead_121 mk_44 mk_78 hE
set_option maxRecDepth 20000 in
theorem moX15_lead_44 {o : Hp} {F : Nat} : ∀ (f : Nat) {h : Hp} {x0 : Nat} {x1 : Nat} {x2 : Int32} {x3 : Int32} {x4 : Int32} {x5 : Int32} {x6 : Int32}, sX15_lead_44 F f h x0 x1 x2 x3 x4 x5 x6 = some o → Le h o := by
  intro f
  induction f with
  | zero =>
    intro h x0 x1 x2 x3 x4 x5 x6 hE
    rw [sX15_lead_44] at hE
    cases hE
  | succ f ih =>
    intro h x0 x1 x2 x3 x4 x5 x6 hE
    rw [sX15_lead_44] at hE
    have mk_44 : ∀ (h : Hp) (x0 : Nat) (x1 : Nat) (x2 : Int32) (x3 : Int32) (x4 : Int32) (x5 : Int32) (x6 : Int32), sX15_lead_44 F f h x0 x1 x2 x3 x4 x5 x6 = some o → Le h o := fun h x0 x1 x2 x3 x4 x5 x6 hE => ih hE
    obtain ⟨r_1, er_1, hE⟩ := cl_e hE
    obtain ⟨r_2, er_2, hE⟩ := cl_e hE
    obtain ⟨o_3, eo_3, hE⟩ := cl_e hE
    refine (moX15_manOf eo_3).tr ?_
    obtain ⟨g_4, hE⟩ := gd_e hE
    rcases br_e hE with ⟨_, hE⟩ | ⟨_, hE⟩
    · exact le_some1 hE
    · obtain ⟨o_6, eo_6, hE⟩ := cl_e hE
      refine (moX15_manOf eo_6).tr ?_
      obtain ⟨v_7, ev_7, hE⟩ := nm_e2 hE
      exact moX15_lead_78 mk_44 _ hE
set_option maxRecDepth 20000 in
theorem moX15_lead_18 {o : Hp} {F : Nat} : ∀ (f : Nat) {h : Hp} {x0 : Nat} {x1 : Nat} {x2 : Int32} {x3 : Int32} {x4 : Int32} {x5 : Int32} {x6 : Int32}, sX15_lead_18 F f h x0 x1 x2 x3 x4 x5 x6 = some o → Le h o := by
  intro f
  induction f with
  | zero =>
    intro h x0 x1 x2 x3 x4 x5 x6 hE
    rw [sX15_lead_18] at hE
    cases hE
  | succ f ih =>
    intro h x0 x1 x2 x3 x4 x5 x6 hE
    rw [sX15_lead_18] at hE
    have mk_18 : ∀ (h : Hp) (x0 : Nat) (x1 : Nat) (x2 : Int32) (x3 : Int32) (x4 : Int32) (x5 : Int32) (x6 : Int32), sX15_lead_18 F f h x0 x1 x2 x3 x4 x5 x6 = some o → Le h o := fun h x0 x1 x2 x3 x4 x5 x6 hE => ih hE
    rcases br_e hE with ⟨_, hE⟩ | ⟨_, hE⟩
    · exact moX15_lead_44 _ hE
    · obtain ⟨r_2, er_2, hE⟩ := cl_e hE
      obtain ⟨g_3, hE⟩ := gd_e hE
      obtain ⟨h_4, eh_4, hE⟩ := nm_e2 hE
      refine (le_I eh_4).tr ?_
      obtain ⟨v_5, ev_5, hE⟩ := nm_e2 hE
      exact mk_18 _ _ _ _ _ _ _ _ hE
set_option maxRecDepth 20000 in
theorem moX15_lead {o : Hp} {F : Nat} {h : Hp} {x0 : Nat} {x1 : Nat} {x2 : Int32} {x3 : Int32} (hE : sX15_lead F h x0 x1 x2 x3 = some o) : Le h o := by
  obtain ⟨r_1, er_1, hE⟩ := cl_e hE
  obtain ⟨g_2, hE⟩ := gd_e hE
  obtain ⟨v_3, ev_3, hE⟩ := nm_e2 hE
  obtain ⟨o_4, eo_4, hE⟩ := cl_e hE
  refine (moX15_sideOf eo_4).tr ?_
  exact moX15_lead_18 _ hE
set_option maxRecDepth 20000 in
theorem bX15_lead_127 {p : Program} {l : Launch} {e : Env} {s : State} {m : MethodId} {args : Array Value} {below : List Frame} {meth : Method} {c : Code} {X : Ec} {h0 : Hp} {o : Hp} {k_44 : Hp → Nat → Nat → Int32 → Int32 → Int32 → Int32 → Int32 → Option (Hp)} {F : Nat} (C : Cx X p s m args meth c RX15 cX15_lead 9 none "lead") (hk_44 : ∀ (h : Hp) (x0 : Nat) (x1 : Nat) (x2 : Int32) (x3 : Int32) (x4 : Int32) (x5 : Int32) (x6 : Int32) (H : Heap) (locs : List Loc), hK h x0 = 15 → hK h x1 = 12 → Km h0 h → Wx X h H → va_S (aA (eB X)) s.heap H locs → ∀ (ls : Array Slot), lv_has ls 9 [(0, .ref x0), (1, .ref x1), (2, .int x2), (3, .int x3), (4, .int x4), (5, .int x5), (6, .int x6)] → k_44 h x0 x1 x2 x3 x4 x5 x6 = some o → W p l e (rm 2 56) s m args below meth c H locs 0 0 (MQ below (QV X h0 o) args s 0 0 (aA (eB X))) (F0 m 44 ls [])) {h : Hp} {x0 : Nat} {x1 : Nat} {x2 : Int32} {x3 : Int32} {x4 : Int32} {x5 : Int32} {x6 : Int32} {H : Heap} {locs : List Loc} (k_x0 : hK h x0 = 15) (k_x1 : hK h x1 = 12) (hkm : Km h0 h) (hW : Wx X h H) (hZ : va_S (aA (eB X)) s.heap H locs) (ls : Array Slot) (hl : lv_has ls 9 [(0, .ref x0), (1, .ref x1), (2, .int x2), (3, .int x3), (4, .int x4), (5, .int x5), (6, .int x6)]) (hE : sX15_lead_127 F k_44 h x0 x1 x2 x3 x4 x5 x6 = some o) : W p l e (rm 2 56) s m args below meth c H locs 0 0 (MQ below (QV X h0 o) args s 0 0 (aA (eB X))) (F0 m 127 ls []) := by
  obtain ⟨v_1, ev_1, hE⟩ := nm_e2 hE
  refine lv_iinc (v := v_1) (lv' := [(6, .int v_1), (0, .ref x0), (1, .ref x1), (2, .int x2), (3, .int x3), (4, .int x4), (5, .int x5)]) C.1 C.2.1 dX15_lead_127 hl (k := 6) rfl (by rw [ev_1]; rfl) (by decide) rfl (fun ls hl => ?_)
  refine lv_goto (tgt := 44) C.1 C.2.1 dX15_lead_130 (by decide) ?_
  exact hk_44 _ _ _ _ _ _ _ _ _ _ k_x0 k_x1 hkm hW hZ _ (lv_sub hl [1, 2, 3, 4, 5, 6, 0] rfl) hE
set_option maxRecDepth 20000 in
theorem bX15_lead_121 {p : Program} {l : Launch} {e : Env} {s : State} {m : MethodId} {args : Array Value} {below : List Frame} {meth : Method} {c : Code} {X : Ec} {h0 : Hp} {o : Hp} {k_44 : Hp → Nat → Nat → Int32 → Int32 → Int32 → Int32 → Int32 → Option (Hp)} {k_78 : Hp → Nat → Nat → Int32 → Int32 → Int32 → Int32 → Int32 → Int32 → Int32 → Option (Hp)} {F : Nat} (C : Cx X p s m args meth c RX15 cX15_lead 9 none "lead") (hk_44 : ∀ (h : Hp) (x0 : Nat) (x1 : Nat) (x2 : Int32) (x3 : Int32) (x4 : Int32) (x5 : Int32) (x6 : Int32) (H : Heap) (locs : List Loc), hK h x0 = 15 → hK h x1 = 12 → Km h0 h → Wx X h H → va_S (aA (eB X)) s.heap H locs → ∀ (ls : Array Slot), lv_has ls 9 [(0, .ref x0), (1, .ref x1), (2, .int x2), (3, .int x3), (4, .int x4), (5, .int x5), (6, .int x6)] → k_44 h x0 x1 x2 x3 x4 x5 x6 = some o → W p l e (rm 2 56) s m args below meth c H locs 0 0 (MQ below (QV X h0 o) args s 0 0 (aA (eB X))) (F0 m 44 ls [])) (hk_78 : ∀ (h : Hp) (x0 : Nat) (x1 : Nat) (x2 : Int32) (x3 : Int32) (x4 : Int32) (x5 : Int32) (x6 : Int32) (x7 : Int32) (x8 : Int32) (H : Heap) (locs : List Loc), hK h x0 = 15 → hK h x1 = 12 → Km h0 h → Wx X h H → va_S (aA (eB X)) s.heap H locs → ∀ (ls : Array Slot), lv_has ls 9 [(0, .ref x0), (1, .ref x1), (2, .int x2), (3, .int x3), (4, .int x4), (5, .int x5), (6, .int x6), (7, .int x7), (8, .int x8)] → k_78 h x0 x1 x2 x3 x4 x5 x6 x7 x8 = some o → W p l e (rm 2 56) s m args below meth c H locs 0 0 (MQ below (QV X h0 o) args s 0 0 (aA (eB X))) (F0 m 78 ls [])) {h : Hp} {x0 : Nat} {x1 : Nat} {x2 : Int32} {x3 : Int32} {x4 : Int32} {x5 : Int32} {x6 : Int32} {x7 : Int32} {x8 : Int32} {H : Heap} {locs : List Loc} (k_x0 : hK h x0 = 15) (k_x1 : hK h x1 = 12) (hkm : Km h0 h) (hW : Wx X h H) (hZ : va_S (aA (eB X)) s.heap H locs) (ls : Array Slot) (hl : lv_has ls 9 [(0, .ref x0), (1, .ref x1), (2, .int x2), (3, .int x3), (4, .int x4), (5, .int x5), (6, .int x6), (7, .int x7), (8, .int x8)]) (hE : sX15_lead_121 F k_44 k_78 h x0 x1 x2 x3 x4 x5 x6 x7 x8 = some o) : W p l e (rm 2 56) s m args below meth c H locs 0 0 (MQ below (QV X h0 o) args s 0 0 (aA (eB X))) (F0 m 121 ls []) := by
  obtain ⟨v_1, ev_1, hE⟩ := nm_e2 hE
  refine lv_iinc (v := v_1) (lv' := [(8, .int v_1), (0, .ref x0), (1, .ref x1), (2, .int x2), (3, .int x3), (4, .int x4), (5, .int x5), (6, .int x6), (7, .int x7)]) C.1 C.2.1 dX15_lead_121 hl (k := 8) rfl (by rw [ev_1]; rfl) (by decide) rfl (fun ls hl => ?_)
  refine lv_goto (tgt := 78) C.1 C.2.1 dX15_lead_124 (by decide) ?_
  exact hk_78 _ _ _ _ _ _ _ _ _ _ _ _ k_x0 k_x1 hkm hW hZ _ (lv_sub hl [1, 2, 3, 4, 5, 6, 7, 8, 0] rfl) hE
set_option maxRecDepth 20000 in
theorem bX15_lead_78 {p : Program} {l : Launch} {e : Env} {s : State} {m : MethodId} {args : Array Value} {below : List Frame} {meth : Method} {c : Code} {X : Ec} {h0 : Hp} {o : Hp} {k_44 : Hp → Nat → Nat → Int32 → Int32 → Int32 → Int32 → Int32 → Option (Hp)} {F : Nat} (C : Cx X p s m args meth c RX15 cX15_lead 9 none "lead") (hk_44 : ∀ (h : Hp) (x0 : Nat) (x1 : Nat) (x2 : Int32) (x3 : Int32) (x4 : Int32) (x5 : Int32) (x6 : Int32) (H : Heap) (locs : List Loc), hK h x0 = 15 → hK h x1 = 12 → Km h0 h → Wx X h H → va_S (aA (eB X)) s.heap H locs → ∀ (ls : Array Slot), lv_has ls 9 [(0, .ref x0), (1, .ref x1), (2, .int x2), (3, .int x3), (4, .int x4), (5, .int x5), (6, .int x6)] → k_44 h x0 x1 x2 x3 x4 x5 x6 = some o → W p l e (rm 2 56) s m args below meth c H locs 0 0 (MQ below (QV X h0 o) args s 0 0 (aA (eB X))) (F0 m 44 ls [])) : ∀ (f : Nat) {h : Hp} {x0 : Nat} {x1 : Nat} {x2 : Int32} {x3 : Int32} {x4 : Int32} {x5 : Int32} {x6 : Int32} {x7 : Int32} {x8 : Int32} {H : Heap} {locs : List Loc} (k_x0 : hK h x0 = 15) (k_x1 : hK h x1 = 12), Km h0 h → Wx X h H → va_S (aA (eB X)) s.heap H locs → ∀ (ls : Array Slot), lv_has ls 9 [(0, .ref x0), (1, .ref x1), (2, .int x2), (3, .int x3), (4, .int x4), (5, .int x5), (6, .int x6), (7, .int x7), (8, .int x8)] → sX15_lead_78 F k_44 f h x0 x1 x2 x3 x4 x5 x6 x7 x8 = some o → W p l e (rm 2 56) s m args below meth c H locs 0 0 (MQ below (QV X h0 o) args s 0 0 (aA (eB X))) (F0 m 78 ls []) := by
  intro f
  induction f with
  | zero =>
    intro h x0 x1 x2 x3 x4 x5 x6 x7 x8 H locs k_x0 k_x1 hkm hW hZ ls hl hE
    rw [sX15_lead_78] at hE
    cases hE
  | succ f ih =>
    intro h x0 x1 x2 x3 x4 x5 x6 x7 x8 H locs k_x0 k_x1 hkm hW hZ ls hl hE
    rw [sX15_lead_78] at hE
    have hk_78 : ∀ (h : Hp) (x0 : Nat) (x1 : Nat) (x2 : Int32) (x3 : Int32) (x4 : Int32) (x5 : Int32) (x6 : Int32) (x7 : Int32) (x8 : Int32) (H : Heap) (locs : List Loc), hK h x0 = 15 → hK h x1 = 12 → Km h0 h → Wx X h H → va_S (aA (eB X)) s.heap H locs → ∀ (ls : Array Slot), lv_has ls 9 [(0, .ref x0), (1, .ref x1), (2, .int x2), (3, .int x3), (4, .int x4), (5, .int x5), (6, .int x6), (7, .int x7), (8, .int x8)] → sX15_lead_78 F k_44 f h x0 x1 x2 x3 x4 x5 x6 x7 x8 = some o → W p l e (rm 2 56) s m args below meth c H locs 0 0 (MQ below (QV X h0 o) args s 0 0 (aA (eB X))) (F0 m 78 ls []) := fun h x0 x1 x2 x3 x4 x5 x6 x7 x8 H locs k_x0 k_x1 a b c ls hl hE => ih k_x0 k_x1 a b c ls hl hE
    refine lv_iload C.1 C.2.1 dX15_lead_78 (lv_at hl 8 rfl) ?_
    refine lv_bipush (v := (8 : Int32)) C.1 C.2.1 dX15_lead_80 (by decide) ?_
    refine lv_icmp_ge (tgt := 127) C.1 C.2.1 dX15_lead_82 (by decide) (fun c_1 => ?_) (fun c_1 => ?_)
    · have hE := br_p hE c_1
      exact bX15_lead_127 C hk_44 k_x0 k_x1 hkm hW hZ _ (lv_sub hl [0, 1, 2, 3, 4, 5, 6] rfl) hE
    · have hE := br_n hE c_1
      refine lv_aload_n C.1 C.2.1 dX15_lead_85 rfl (lv_at hl 0 rfl) ?_
      refine lv_iload C.1 C.2.1 dX15_lead_86 (lv_at hl 7 rfl) ?_
      refine lv_iload_n C.1 C.2.1 dX15_lead_88 rfl (lv_at hl 2 rfl) ?_
      refine lv_iload C.1 C.2.1 dX15_lead_89 (lv_at hl 5 rfl) ?_
      obtain ⟨o_2, eo_2, hE⟩ := cl_e hE
      refine x_kI (o := o_2) (z_runV (As := [.int x7, .int x2, .int x5]) (rest := []) C (ct_X15_isFrom l X k_x0 eo_2) cw_X15_559 hW hZ k_x0 (by decide) rfl rfl rfl hl.1 (Nat.le_of_ble_eq_true rfl) rfl dX15_lead_91 ⟨Nat.le_of_ble_eq_true rfl, Nat.le_of_ble_eq_true rfl⟩ ⟨Nat.le_refl _, Nat.le_refl _⟩) hZ (fun _ _ hW km hZ => ?_)
      replace hkm := hkm.tr km
      replace k_x0 := km.at k_x0 (by decide)
      replace k_x1 := km.at k_x1 (by decide)
      refine lv_if_eq (tgt := 127) C.1 C.2.1 dX15_lead_94 (by decide) (fun c_3 => ?_) (fun c_3 => ?_)
      · have hE := br_p hE c_3
        exact bX15_lead_127 C hk_44 k_x0 k_x1 hkm hW hZ _ (lv_sub hl [0, 1, 2, 3, 4, 5, 6] rfl) hE
      · have hE := br_n hE c_3
        refine lv_aload_n C.1 C.2.1 dX15_lead_97 rfl (lv_at hl 0 rfl) ?_
        refine lv_iload C.1 C.2.1 dX15_lead_98 (lv_at hl 7 rfl) ?_
        refine lv_iload C.1 C.2.1 dX15_lead_100 (lv_at hl 8 rfl) ?_
        refine lv_iload C.1 C.2.1 dX15_lead_102 (lv_at hl 5 rfl) ?_
        obtain ⟨o_4, eo_4, hE⟩ := cl_e hE
        refine x_kI (o := o_4) (z_runV (As := [.int x7, .int x8, .int x5]) (rest := []) C (ct_X15_hasVector l X k_x0 eo_4) cw_X15_516 hW hZ k_x0 (by decide) rfl rfl rfl hl.1 (Nat.le_of_ble_eq_true rfl) rfl dX15_lead_104 ⟨Nat.le_of_ble_eq_true rfl, Nat.le_of_ble_eq_true rfl⟩ ⟨Nat.le_refl _, Nat.le_refl _⟩) hZ (fun _ _ hW km hZ => ?_)
        replace hkm := hkm.tr km
        replace k_x0 := km.at k_x0 (by decide)
        replace k_x1 := km.at k_x1 (by decide)
        refine lv_if_eq (tgt := 121) C.1 C.2.1 dX15_lead_107 (by decide) (fun c_5 => ?_) (fun c_5 => ?_)
        · have hE := br_p hE c_5
          exact bX15_lead_121 C hk_44 hk_78 k_x0 k_x1 hkm hW hZ _ (lv_sub hl [0, 1, 2, 3, 4, 5, 6, 7, 8] rfl) hE
        · have hE := br_n hE c_5
          refine lv_aload_n C.1 C.2.1 dX15_lead_110 rfl (lv_at hl 0 rfl) ?_
          refine lv_aload_n C.1 C.2.1 dX15_lead_111 rfl (lv_at hl 1 rfl) ?_
          refine lv_iload_n C.1 C.2.1 dX15_lead_112 rfl (lv_at hl 2 rfl) ?_
          refine lv_iload C.1 C.2.1 dX15_lead_113 (lv_at hl 5 rfl) ?_
          refine lv_iload C.1 C.2.1 dX15_lead_115 (lv_at hl 7 rfl) ?_
          refine lv_iload_n C.1 C.2.1 dX15_lead_117 rfl (lv_at hl 3 rfl) ?_
          obtain ⟨o_6, eo_6, hE⟩ := cl_e hE
          refine x_kV (o := o_6) (z_runV (As := [.ref x1, .int x2, .int x5, .int x7, .int x3]) (rest := []) C (ct_X15_leadBy l X F k_x0 k_x1 eo_6) cw_X15_568 hW hZ k_x0 (by decide) rfl rfl rfl hl.1 (Nat.le_of_ble_eq_true rfl) rfl dX15_lead_118 ⟨Nat.le_of_ble_eq_true rfl, Nat.le_of_ble_eq_true rfl⟩ ⟨Nat.le_refl _, Nat.le_refl _⟩) hZ (fun _ _ hW km hZ => ?_)
          replace hkm := hkm.tr km
          replace k_x0 := km.at k_x0 (by decide)
          replace k_x1 := km.at k_x1 (by decide)
          exact bX15_lead_121 C hk_44 hk_78 k_x0 k_x1 hkm hW hZ _ (lv_sub hl [0, 1, 2, 3, 4, 5, 6, 7, 8] rfl) hE
set_option maxRecDepth 20000 in
theorem bX15_lead_44 {p : Program} {l : Launch} {e : Env} {s : State} {m : MethodId} {args : Array Value} {below : List Frame} {meth : Method} {c : Code} {X : Ec} {h0 : Hp} {o : Hp} {F : Nat} (C : Cx X p s m args meth c RX15 cX15_lead 9 none "lead") : ∀ (f : Nat) {h : Hp} {x0 : Nat} {x1 : Nat} {x2 : Int32} {x3 : Int32} {x4 : Int32} {x5 : Int32} {x6 : Int32} {H : Heap} {locs : List Loc} (k_x0 : hK h x0 = 15) (k_x1 : hK h x1 = 12), Km h0 h → Wx X h H → va_S (aA (eB X)) s.heap H locs → ∀ (ls : Array Slot), lv_has ls 9 [(0, .ref x0), (1, .ref x1), (2, .int x2), (3, .int x3), (4, .int x4), (5, .int x5), (6, .int x6)] → sX15_lead_44 F f h x0 x1 x2 x3 x4 x5 x6 = some o → W p l e (rm 2 56) s m args below meth c H locs 0 0 (MQ below (QV X h0 o) args s 0 0 (aA (eB X))) (F0 m 44 ls []) := by
  intro f
  induction f with
  | zero =>
    intro h x0 x1 x2 x3 x4 x5 x6 H locs k_x0 k_x1 hkm hW hZ ls hl hE
    rw [sX15_lead_44] at hE
    cases hE
  | succ f ih =>
    intro h x0 x1 x2 x3 x4 x5 x6 H locs k_x0 k_x1 hkm hW hZ ls hl hE
    rw [sX15_lead_44] at hE
    have hk_44 : ∀ (h : Hp) (x0 : Nat) (x1 : Nat) (x2 : Int32) (x3 : Int32) (x4 : Int32) (x5 : Int32) (x6 : Int32) (H : Heap) (locs : List Loc), hK h x0 = 15 → hK h x1 = 12 → Km h0 h → Wx X h H → va_S (aA (eB X)) s.heap H locs → ∀ (ls : Array Slot), lv_has ls 9 [(0, .ref x0), (1, .ref x1), (2, .int x2), (3, .int x3), (4, .int x4), (5, .int x5), (6, .int x6)] → sX15_lead_44 F f h x0 x1 x2 x3 x4 x5 x6 = some o → W p l e (rm 2 56) s m args below meth c H locs 0 0 (MQ below (QV X h0 o) args s 0 0 (aA (eB X))) (F0 m 44 ls []) := fun h x0 x1 x2 x3 x4 x5 x6 H locs k_x0 k_x1 a b c ls hl hE => ih k_x0 k_x1 a b c ls hl hE
    refine lv_iload C.1 C.2.1 dX15_lead_44 (lv_at hl 6 rfl) ?_
    refine lv_aload_n C.1 C.2.1 dX15_lead_46 rfl (lv_at hl 0 rfl) ?_
    obtain ⟨r_1, er_1, hE⟩ := cl_e hE
    refine gf_X15_252 C hW k_x0 er_1 dX15_lead_47 (fun k_r_1 => ?_)
    obtain ⟨r_2, er_2, hE⟩ := cl_e hE
    refine gf_X15_176 C hW k_r_1 er_2 dX15_lead_50 (fun k_r_2 => ?_)
    refine lv_iload C.1 C.2.1 dX15_lead_53 (lv_at hl 4 rfl) ?_
    obtain ⟨o_3, eo_3, hE⟩ := cl_e hE
    refine x_kI (o := o_3) (z_runS (As := [.int x4]) (rest := [.ref r_2, .int x6]) C (ct_X15_manOf l X eo_3) cw_X15_492 hW hZ rfl hl.1 (Nat.le_of_ble_eq_true rfl) rfl dX15_lead_55 ⟨Nat.le_of_ble_eq_true rfl, Nat.le_of_ble_eq_true rfl⟩ ⟨Nat.le_refl _, Nat.le_refl _⟩) hZ (fun _ _ hW km hZ => ?_)
    replace hkm := hkm.tr km
    replace k_x0 := km.at k_x0 (by decide)
    replace k_x1 := km.at k_x1 (by decide)
    replace k_r_2 := km.at k_r_2 (by decide)
    obtain ⟨g_4, hE⟩ := gd_e hE
    refine y_iald C hW k_r_2 g_4 dX15_lead_58 ?_
    refine lv_icmp_ge (tgt := 133) C.1 C.2.1 dX15_lead_59 (by decide) (fun c_5 => ?_) (fun c_5 => ?_)
    · have hE := br_p hE c_5
      exact x_vret C rfl hW hZ hkm hE dX15_lead_133
    · have hE := br_n hE c_5
      refine lv_bipush (v := (8 : Int32)) C.1 C.2.1 dX15_lead_62 (by decide) ?_
      refine lv_iload C.1 C.2.1 dX15_lead_64 (lv_at hl 4 rfl) ?_
      obtain ⟨o_6, eo_6, hE⟩ := cl_e hE
      refine x_kI (o := o_6) (z_runS (As := [.int x4]) (rest := [.int (8 : Int32)]) C (ct_X15_manOf l X eo_6) cw_X15_492 hW hZ rfl hl.1 (Nat.le_of_ble_eq_true rfl) rfl dX15_lead_66 ⟨Nat.le_of_ble_eq_true rfl, Nat.le_of_ble_eq_true rfl⟩ ⟨Nat.le_refl _, Nat.le_refl _⟩) hZ (fun _ _ hW km hZ => ?_)
      replace hkm := hkm.tr km
      replace k_x0 := km.at k_x0 (by decide)
      replace k_x1 := km.at k_x1 (by decide)
      refine lv_imul C.1 C.2.1 dX15_lead_69 ?_
      refine lv_iload C.1 C.2.1 dX15_lead_70 (lv_at hl 6 rfl) ?_
      refine lv_iadd C.1 C.2.1 dX15_lead_72 ?_
      obtain ⟨v_7, ev_7, hE⟩ := nm_e2 hE
      refine x_nmI ev_7 ?_
      refine lv_istore (lv' := [(7, .int v_7), (0, .ref x0), (1, .ref x1), (2, .int x2), (3, .int x3), (4, .int x4), (5, .int x5), (6, .int x6)]) C.1 C.2.1 dX15_lead_73 hl (by decide) rfl (fun ls hl => ?_)
      refine lv_iconst (v := (0 : Int32)) C.1 C.2.1 dX15_lead_75 (by decide) ?_
      refine lv_istore (lv' := [(8, .int (0 : Int32)), (7, .int v_7), (0, .ref x0), (1, .ref x1), (2, .int x2), (3, .int x3), (4, .int x4), (5, .int x5), (6, .int x6)]) C.1 C.2.1 dX15_lead_76 hl (by decide) rfl (fun ls hl => ?_)
      exact bX15_lead_78 C hk_44 F k_x0 k_x1 hkm hW hZ _ (lv_sub hl [2, 3, 4, 5, 6, 7, 8, 1, 0] rfl) hE
set_option maxRecDepth 20000 in
theorem bX15_lead_18 {p : Program} {l : Launch} {e : Env} {s : State} {m : MethodId} {args : Array Value} {below : List Frame} {meth : Method} {c : Code} {X : Ec} {h0 : Hp} {o : Hp} {F : Nat} (C : Cx X p s m args meth c RX15 cX15_lead 9 none "lead") : ∀ (f : Nat) {h : Hp} {x0 : Nat} {x1 : Nat} {x2 : Int32} {x3 : Int32} {x4 : Int32} {x5 : Int32} {x6 : Int32} {H : Heap} {locs : List Loc} (k_x0 : hK h x0 = 15) (k_x1 : hK h x1 = 12), Km h0 h → Wx X h H → va_S (aA (eB X)) s.heap H locs → ∀ (ls : Array Slot), lv_has ls 9 [(0, .ref x0), (1, .ref x1), (2, .int x2), (3, .int x3), (4, .int x4), (5, .int x5), (6, .int x6)] → sX15_lead_18 F f h x0 x1 x2 x3 x4 x5 x6 = some o → W p l e (rm 2 56) s m args below meth c H locs 0 0 (MQ below (QV X h0 o) args s 0 0 (aA (eB X))) (F0 m 18 ls []) := by
  intro f
  induction f with
  | zero =>
    intro h x0 x1 x2 x3 x4 x5 x6 H locs k_x0 k_x1 hkm hW hZ ls hl hE
    rw [sX15_lead_18] at hE
    cases hE
  | succ f ih =>
    intro h x0 x1 x2 x3 x4 x5 x6 H locs k_x0 k_x1 hkm hW hZ ls hl hE
    rw [sX15_lead_18] at hE
    have hk_18 : ∀ (h : Hp) (x0 : Nat) (x1 : Nat) (x2 : Int32) (x3 : Int32) (x4 : Int32) (x5 : Int32) (x6 : Int32) (H : Heap) (locs : List Loc), hK h x0 = 15 → hK h x1 = 12 → Km h0 h → Wx X h H → va_S (aA (eB X)) s.heap H locs → ∀ (ls : Array Slot), lv_has ls 9 [(0, .ref x0), (1, .ref x1), (2, .int x2), (3, .int x3), (4, .int x4), (5, .int x5), (6, .int x6)] → sX15_lead_18 F f h x0 x1 x2 x3 x4 x5 x6 = some o → W p l e (rm 2 56) s m args below meth c H locs 0 0 (MQ below (QV X h0 o) args s 0 0 (aA (eB X))) (F0 m 18 ls []) := fun h x0 x1 x2 x3 x4 x5 x6 H locs k_x0 k_x1 a b c ls hl hE => ih k_x0 k_x1 a b c ls hl hE
    refine lv_iload C.1 C.2.1 dX15_lead_18 (lv_at hl 6 rfl) ?_
    refine lv_aload_n C.1 C.2.1 dX15_lead_20 rfl (lv_at hl 0 rfl) ?_
    refine gf_X15_384 C hW k_x0 dX15_lead_21 ?_
    refine lv_icmp_ge (tgt := 41) C.1 C.2.1 dX15_lead_24 (by decide) (fun c_1 => ?_) (fun c_1 => ?_)
    · have hE := br_p hE c_1
      refine lv_iconst (v := (0 : Int32)) C.1 C.2.1 dX15_lead_41 (by decide) ?_
      refine lv_istore (lv' := [(6, .int (0 : Int32)), (0, .ref x0), (1, .ref x1), (2, .int x2), (3, .int x3), (4, .int x4), (5, .int x5)]) C.1 C.2.1 dX15_lead_42 hl (by decide) rfl (fun ls hl => ?_)
      exact bX15_lead_44 C F k_x0 k_x1 hkm hW hZ _ (lv_sub hl [1, 2, 3, 4, 5, 6, 0] rfl) hE
    · have hE := br_n hE c_1
      refine lv_aload_n C.1 C.2.1 dX15_lead_27 rfl (lv_at hl 0 rfl) ?_
      obtain ⟨r_2, er_2, hE⟩ := cl_e hE
      refine gf_X15_272 C hW k_x0 er_2 dX15_lead_28 (fun k_r_2 => ?_)
      refine lv_iload C.1 C.2.1 dX15_lead_31 (lv_at hl 6 rfl) ?_
      refine lv_iconst (v := (-1 : Int32)) C.1 C.2.1 dX15_lead_33 (by decide) ?_
      obtain ⟨g_3, hE⟩ := gd_e hE
      obtain ⟨h_4, eh_4, hE⟩ := nm_e2 hE
      refine y_iast C hW hZ k_r_2 g_3 eh_4 dX15_lead_34 (fun _ _ hW km hZ => ?_)
      replace hkm := hkm.tr km
      replace k_x0 := km.at k_x0 (by decide)
      replace k_x1 := km.at k_x1 (by decide)
      obtain ⟨v_5, ev_5, hE⟩ := nm_e2 hE
      refine lv_iinc (v := v_5) (lv' := [(6, .int v_5), (0, .ref x0), (1, .ref x1), (2, .int x2), (3, .int x3), (4, .int x4), (5, .int x5)]) C.1 C.2.1 dX15_lead_35 hl (k := 6) rfl (by rw [ev_5]; rfl) (by decide) rfl (fun ls hl => ?_)
      refine lv_goto (tgt := 18) C.1 C.2.1 dX15_lead_38 (by decide) ?_
      exact hk_18 _ _ _ _ _ _ _ _ _ _ k_x0 k_x1 hkm hW hZ _ (lv_sub hl [1, 2, 3, 4, 5, 6, 0] rfl) hE
set_option maxRecDepth 20000 in
theorem ct_X15_lead (l : Launch) (X : Ec) (F : Nat) {h : Hp} {x0 : Nat} {x1 : Nat} {x2 : Int32} {x3 : Int32} {o : Hp} (k_x0 : hK h x0 = 15) (k_x1 : hK h x1 = 12) (hE : sX15_lead F h x0 x1 x2 x3 = some o) : MetV l yX15_lead cX15_lead 9 none 2 56 X [.ref x0, .ref x1, .int x2, .int x3] h o := by
  refine x_met (by decide) (Nat.le_of_ble_eq_true rfl) ?_
  intro p e s m below meth c ls C hl hW hZ
  have hl : lv_has ls 9 [(0, .ref x0), (1, .ref x1), (2, .int x2), (3, .int x3)] := hl
  have hkm : Km h h := Km.rf h
  refine lv_aload_n C.1 C.2.1 dX15_lead_0 rfl (lv_at hl 1 rfl) ?_
  obtain ⟨r_1, er_1, hE⟩ := cl_e hE
  refine gf_X15_396 C hW k_x1 er_1 dX15_lead_1 (fun k_r_1 => ?_)
  refine lv_iload_n C.1 C.2.1 dX15_lead_4 rfl (lv_at hl 2 rfl) ?_
  obtain ⟨g_2, hE⟩ := gd_e hE
  refine y_iald C hW k_r_1 g_2 dX15_lead_5 ?_
  obtain ⟨v_3, ev_3, hE⟩ := nm_e2 hE
  refine x_nmI ev_3 ?_
  refine lv_istore (lv' := [(4, .int v_3), (0, .ref x0), (1, .ref x1), (2, .int x2), (3, .int x3)]) C.1 C.2.1 dX15_lead_6 hl (by decide) rfl (fun ls hl => ?_)
  refine lv_iload C.1 C.2.1 dX15_lead_8 (lv_at hl 0 rfl) ?_
  obtain ⟨o_4, eo_4, hE⟩ := cl_e hE
  refine x_kI (o := o_4) (z_runS (As := [.int v_3]) (rest := []) C (ct_X15_sideOf l X eo_4) cw_X15_489 hW hZ rfl hl.1 (Nat.le_of_ble_eq_true rfl) rfl dX15_lead_10 ⟨Nat.le_of_ble_eq_true rfl, Nat.le_of_ble_eq_true rfl⟩ ⟨Nat.le_refl _, Nat.le_refl _⟩) hZ (fun _ _ hW km hZ => ?_)
  replace hkm := hkm.tr km
  replace k_x0 := km.at k_x0 (by decide)
  replace k_x1 := km.at k_x1 (by decide)
  refine lv_istore (lv' := [(5, .int o_4.1), (4, .int v_3), (0, .ref x0), (1, .ref x1), (2, .int x2), (3, .int x3)]) C.1 C.2.1 dX15_lead_13 hl (by decide) rfl (fun ls hl => ?_)
  refine lv_iconst (v := (0 : Int32)) C.1 C.2.1 dX15_lead_15 (by decide) ?_
  refine lv_istore (lv' := [(6, .int (0 : Int32)), (5, .int o_4.1), (4, .int v_3), (0, .ref x0), (1, .ref x1), (2, .int x2), (3, .int x3)]) C.1 C.2.1 dX15_lead_16 hl (by decide) rfl (fun ls hl => ?_)
  exact bX15_lead_18 C F k_x0 k_x1 hkm hW hZ _ (lv_sub hl [3, 4, 5, 6, 2, 1, 0] rfl) hE
set_option maxRecDepth 100000 in
theorem m_2548 : Cond.methodLink RX15 590 yX13_add ∈ W0 := w0_in (List.mem_append_right _ (List.mem_of_getElem? (i := 2548) rfl)) rfl
set_option maxRecDepth 100000 in
theorem m_2549 : Cond.instanceMethod yX13_add ∈ W0 := w0_in (List.mem_append_right _ (List.mem_of_getElem? (i := 2549) rfl)) rfl
set_option maxRecDepth 100000 in
theorem m_2550 : Cond.selects RX13 yX13_add yX13_add ∈ W0 := w0_in (List.mem_append_right _ (List.mem_of_getElem? (i := 2550) rfl)) rfl
set_option maxRecDepth 100000 in
theorem m_2551 : Cond.code yX13_add cX13_add 8 none ∈ W0 := w0_in (List.mem_append_right _ (List.mem_of_getElem? (i := 2551) rfl)) rfl
theorem cw_X15_590 : cwd RX15 590 yX13_add cX13_add 8 none false 7 := ⟨m_2551, m_2548, m_22, ⟨m_2549, m_2550⟩, by decide, by decide, by decide +kernel⟩
theorem dX15_trySteps_0 : decode cX15_trySteps 0 = .ok (.aload_n 0, 1) := by decide +kernel
theorem dX15_trySteps_1 : decode cX15_trySteps 1 = .ok (.getfield 278, 3) := by decide +kernel
theorem dX15_trySteps_4 : decode cX15_trySteps 4 = .ok (.iload_n 3, 1) := by decide +kernel
theorem dX15_trySteps_5 : decode cX15_trySteps 5 = .ok (.baload, 1) := by decide +kernel
theorem dX15_trySteps_6 : decode cX15_trySteps 6 = .ok (.ifCond .eq 20, 3) := by decide +kernel
theorem dX15_trySteps_9 : decode cX15_trySteps 9 = .ok (.aload_n 1, 1) := by decide +kernel
theorem dX15_trySteps_10 : decode cX15_trySteps 10 = .ok (.getfield 396, 3) := by decide +kernel
theorem dX15_trySteps_13 : decode cX15_trySteps 13 = .ok (.aload_n 1, 1) := by decide +kernel
theorem dX15_trySteps_14 : decode cX15_trySteps 14 = .ok (.getfield 439, 3) := by decide +kernel
theorem dX15_trySteps_17 : decode cX15_trySteps 17 = .ok (.iconst 0, 1) := by decide +kernel
theorem dX15_trySteps_18 : decode cX15_trySteps 18 = .ok (.iaload, 1) := by decide +kernel
theorem dX15_trySteps_19 : decode cX15_trySteps 19 = .ok (.iaload, 1) := by decide +kernel
theorem dX15_trySteps_20 : decode cX15_trySteps 20 = .ok (.invokestatic 492, 3) := by decide +kernel
theorem dX15_trySteps_23 : decode cX15_trySteps 23 = .ok (.goto 25, 3) := by decide +kernel
theorem dX15_trySteps_26 : decode cX15_trySteps 26 = .ok (.aload_n 1, 1) := by decide +kernel
theorem dX15_trySteps_27 : decode cX15_trySteps 27 = .ok (.getfield 396, 3) := by decide +kernel
theorem dX15_trySteps_30 : decode cX15_trySteps 30 = .ok (.iload_n 3, 1) := by decide +kernel
theorem dX15_trySteps_31 : decode cX15_trySteps 31 = .ok (.iaload, 1) := by decide +kernel
theorem dX15_trySteps_32 : decode cX15_trySteps 32 = .ok (.ifCond .le 15, 3) := by decide +kernel
theorem dX15_trySteps_35 : decode cX15_trySteps 35 = .ok (.aload_n 1, 1) := by decide +kernel
theorem dX15_trySteps_36 : decode cX15_trySteps 36 = .ok (.getfield 396, 3) := by decide +kernel
theorem dX15_trySteps_39 : decode cX15_trySteps 39 = .ok (.iload_n 3, 1) := by decide +kernel
theorem dX15_trySteps_40 : decode cX15_trySteps 40 = .ok (.iaload, 1) := by decide +kernel
theorem dX15_trySteps_41 : decode cX15_trySteps 41 = .ok (.invokestatic 492, 3) := by decide +kernel
theorem dX15_trySteps_44 : decode cX15_trySteps 44 = .ok (.goto 4, 3) := by decide +kernel
theorem dX15_trySteps_47 : decode cX15_trySteps 47 = .ok (.iconst (-1), 1) := by decide +kernel
theorem dX15_trySteps_48 : decode cX15_trySteps 48 = .ok (.istore 6, 2) := by decide +kernel
theorem dX15_trySteps_50 : decode cX15_trySteps 50 = .ok (.aload_n 0, 1) := by decide +kernel
theorem dX15_trySteps_51 : decode cX15_trySteps 51 = .ok (.getfield 252, 3) := by decide +kernel
theorem dX15_trySteps_54 : decode cX15_trySteps 54 = .ok (.getfield 198, 3) := by decide +kernel
theorem dX15_trySteps_57 : decode cX15_trySteps 57 = .ok (.aload_n 0, 1) := by decide +kernel
theorem dX15_trySteps_58 : decode cX15_trySteps 58 = .ok (.getfield 272, 3) := by decide +kernel
theorem dX15_trySteps_61 : decode cX15_trySteps 61 = .ok (.iload_n 3, 1) := by decide +kernel
theorem dX15_trySteps_62 : decode cX15_trySteps 62 = .ok (.iaload, 1) := by decide +kernel
theorem dX15_trySteps_63 : decode cX15_trySteps 63 = .ok (.iaload, 1) := by decide +kernel
theorem dX15_trySteps_64 : decode cX15_trySteps 64 = .ok (.bipush 16, 2) := by decide +kernel
theorem dX15_trySteps_66 : decode cX15_trySteps 66 = .ok (.iand, 1) := by decide +kernel
theorem dX15_trySteps_67 : decode cX15_trySteps 67 = .ok (.ifCond .eq 22, 3) := by decide +kernel
theorem dX15_trySteps_70 : decode cX15_trySteps 70 = .ok (.aload_n 0, 1) := by decide +kernel
theorem dX15_trySteps_71 : decode cX15_trySteps 71 = .ok (.getfield 275, 3) := by decide +kernel
theorem dX15_trySteps_74 : decode cX15_trySteps 74 = .ok (.iload_n 3, 1) := by decide +kernel
theorem dX15_trySteps_75 : decode cX15_trySteps 75 = .ok (.iaload, 1) := by decide +kernel
theorem dX15_trySteps_76 : decode cX15_trySteps 76 = .ok (.iconst 1, 1) := by decide +kernel
theorem dX15_trySteps_77 : decode cX15_trySteps 77 = .ok (.if_icmp .le 12, 3) := by decide +kernel
theorem dX15_trySteps_80 : decode cX15_trySteps 80 = .ok (.aload_n 0, 1) := by decide +kernel
theorem dX15_trySteps_81 : decode cX15_trySteps 81 = .ok (.getfield 275, 3) := by decide +kernel
theorem dX15_trySteps_84 : decode cX15_trySteps 84 = .ok (.iload_n 3, 1) := by decide +kernel
theorem dX15_trySteps_85 : decode cX15_trySteps 85 = .ok (.iaload, 1) := by decide +kernel
theorem dX15_trySteps_86 : decode cX15_trySteps 86 = .ok (.goto 4, 3) := by decide +kernel
theorem dX15_trySteps_89 : decode cX15_trySteps 89 = .ok (.iconst 0, 1) := by decide +kernel
theorem dX15_trySteps_90 : decode cX15_trySteps 90 = .ok (.istore 7, 2) := by decide +kernel
theorem dX15_trySteps_92 : decode cX15_trySteps 92 = .ok (.aload_n 0, 1) := by decide +kernel
theorem dX15_trySteps_93 : decode cX15_trySteps 93 = .ok (.getfield 278, 3) := by decide +kernel
theorem dX15_trySteps_96 : decode cX15_trySteps 96 = .ok (.iload_n 3, 1) := by decide +kernel
theorem dX15_trySteps_97 : decode cX15_trySteps 97 = .ok (.baload, 1) := by decide +kernel
theorem dX15_trySteps_98 : decode cX15_trySteps 98 = .ok (.ifCond .eq 7, 3) := by decide +kernel
theorem dX15_trySteps_101 : decode cX15_trySteps 101 = .ok (.iconst 1, 1) := by decide +kernel
theorem dX15_trySteps_102 : decode cX15_trySteps 102 = .ok (.goto 4, 3) := by decide +kernel
theorem dX15_trySteps_105 : decode cX15_trySteps 105 = .ok (.iconst 0, 1) := by decide +kernel
theorem dX15_trySteps_106 : decode cX15_trySteps 106 = .ok (.istore 8, 2) := by decide +kernel
theorem dX15_trySteps_108 : decode cX15_trySteps 108 = .ok (.aload_n 0, 1) := by decide +kernel
theorem dX15_trySteps_109 : decode cX15_trySteps 109 = .ok (.iload 4, 2) := by decide +kernel
theorem dX15_trySteps_111 : decode cX15_trySteps 111 = .ok (.invokevirtual 495, 3) := by decide +kernel
theorem dX15_trySteps_114 : decode cX15_trySteps 114 = .ok (.ifCond .eq 93, 3) := by decide +kernel
theorem dX15_trySteps_117 : decode cX15_trySteps 117 = .ok (.aload_n 0, 1) := by decide +kernel
theorem dX15_trySteps_118 : decode cX15_trySteps 118 = .ok (.iload_n 3, 1) := by decide +kernel
theorem dX15_trySteps_119 : decode cX15_trySteps 119 = .ok (.aload_n 1, 1) := by decide +kernel
theorem dX15_trySteps_120 : decode cX15_trySteps 120 = .ok (.getfield 452, 3) := by decide +kernel
theorem dX15_trySteps_123 : decode cX15_trySteps 123 = .ok (.invokevirtual 498, 3) := by decide +kernel
theorem dX15_trySteps_126 : decode cX15_trySteps 126 = .ok (.aload_n 0, 1) := by decide +kernel
theorem dX15_trySteps_127 : decode cX15_trySteps 127 = .ok (.getfield 383, 3) := by decide +kernel
theorem dX15_trySteps_130 : decode cX15_trySteps 130 = .ok (.if_icmp .ne 77, 3) := by decide +kernel
theorem dX15_trySteps_133 : decode cX15_trySteps 133 = .ok (.aload_n 0, 1) := by decide +kernel
theorem dX15_trySteps_134 : decode cX15_trySteps 134 = .ok (.getfield 252, 3) := by decide +kernel
theorem dX15_trySteps_137 : decode cX15_trySteps 137 = .ok (.getfield 142, 3) := by decide +kernel
theorem dX15_trySteps_140 : decode cX15_trySteps 140 = .ok (.ifCond .eq 9, 3) := by decide +kernel
theorem dX15_trySteps_143 : decode cX15_trySteps 143 = .ok (.iload 6, 2) := by decide +kernel
theorem dX15_trySteps_145 : decode cX15_trySteps 145 = .ok (.iconst (-1), 1) := by decide +kernel
theorem dX15_trySteps_146 : decode cX15_trySteps 146 = .ok (.if_icmp .ne 61, 3) := by decide +kernel
theorem dX15_trySteps_149 : decode cX15_trySteps 149 = .ok (.iconst 0, 1) := by decide +kernel
theorem dX15_trySteps_150 : decode cX15_trySteps 150 = .ok (.istore 9, 2) := by decide +kernel
theorem dX15_trySteps_152 : decode cX15_trySteps 152 = .ok (.iload 9, 2) := by decide +kernel
theorem dX15_trySteps_154 : decode cX15_trySteps 154 = .ok (.aload_n 0, 1) := by decide +kernel
theorem dX15_trySteps_155 : decode cX15_trySteps 155 = .ok (.getfield 252, 3) := by decide +kernel
theorem dX15_trySteps_158 : decode cX15_trySteps 158 = .ok (.getfield 215, 3) := by decide +kernel
theorem dX15_trySteps_161 : decode cX15_trySteps 161 = .ok (.iload 4, 2) := by decide +kernel
theorem dX15_trySteps_163 : decode cX15_trySteps 163 = .ok (.iaload, 1) := by decide +kernel
theorem dX15_trySteps_164 : decode cX15_trySteps 164 = .ok (.if_icmp .ge 40, 3) := by decide +kernel
theorem dX15_trySteps_167 : decode cX15_trySteps 167 = .ok (.aload 5, 2) := by decide +kernel
theorem dX15_trySteps_169 : decode cX15_trySteps 169 = .ok (.iload_n 2, 1) := by decide +kernel
theorem dX15_trySteps_170 : decode cX15_trySteps 170 = .ok (.iload_n 3, 1) := by decide +kernel
theorem dX15_trySteps_171 : decode cX15_trySteps 171 = .ok (.iload 4, 2) := by decide +kernel
theorem dX15_trySteps_173 : decode cX15_trySteps 173 = .ok (.aload_n 0, 1) := by decide +kernel
theorem dX15_trySteps_174 : decode cX15_trySteps 174 = .ok (.getfield 252, 3) := by decide +kernel
theorem dX15_trySteps_177 : decode cX15_trySteps 177 = .ok (.getfield 223, 3) := by decide +kernel
theorem dX15_trySteps_180 : decode cX15_trySteps 180 = .ok (.bipush 6, 2) := by decide +kernel
theorem dX15_trySteps_182 : decode cX15_trySteps 182 = .ok (.iload 4, 2) := by decide +kernel
theorem dX15_trySteps_184 : decode cX15_trySteps 184 = .ok (.imul, 1) := by decide +kernel
theorem dX15_trySteps_185 : decode cX15_trySteps 185 = .ok (.iload 9, 2) := by decide +kernel
theorem dX15_trySteps_187 : decode cX15_trySteps 187 = .ok (.iadd, 1) := by decide +kernel
theorem dX15_trySteps_188 : decode cX15_trySteps 188 = .ok (.iaload, 1) := by decide +kernel
theorem dX15_trySteps_189 : decode cX15_trySteps 189 = .ok (.iload 6, 2) := by decide +kernel
theorem dX15_trySteps_191 : decode cX15_trySteps 191 = .ok (.iload 8, 2) := by decide +kernel
theorem dX15_trySteps_193 : decode cX15_trySteps 193 = .ok (.iload 7, 2) := by decide +kernel
theorem dX15_trySteps_195 : decode cX15_trySteps 195 = .ok (.invokevirtual 590, 3) := by decide +kernel
theorem dX15_trySteps_198 : decode cX15_trySteps 198 = .ok (.iinc 9 1, 3) := by decide +kernel
theorem dX15_trySteps_201 : decode cX15_trySteps 201 = .ok (.goto (-49), 3) := by decide +kernel
theorem dX15_trySteps_204 : decode cX15_trySteps 204 = .ok (.goto 19, 3) := by decide +kernel
theorem dX15_trySteps_207 : decode cX15_trySteps 207 = .ok (.aload 5, 2) := by decide +kernel
theorem dX15_trySteps_209 : decode cX15_trySteps 209 = .ok (.iload_n 2, 1) := by decide +kernel
theorem dX15_trySteps_210 : decode cX15_trySteps 210 = .ok (.iload_n 3, 1) := by decide +kernel
theorem dX15_trySteps_211 : decode cX15_trySteps 211 = .ok (.iload 4, 2) := by decide +kernel
theorem dX15_trySteps_213 : decode cX15_trySteps 213 = .ok (.iconst (-1), 1) := by decide +kernel
theorem dX15_trySteps_214 : decode cX15_trySteps 214 = .ok (.iload 6, 2) := by decide +kernel
theorem dX15_trySteps_216 : decode cX15_trySteps 216 = .ok (.iload 8, 2) := by decide +kernel
theorem dX15_trySteps_218 : decode cX15_trySteps 218 = .ok (.iload 7, 2) := by decide +kernel
theorem dX15_trySteps_220 : decode cX15_trySteps 220 = .ok (.invokevirtual 590, 3) := by decide +kernel
theorem dX15_trySteps_223 : decode cX15_trySteps 223 = .ok (.return_, 1) := by decide +kernel
set_option maxRecDepth 20000 in
theorem moX15_trySteps_223 {o : Hp} {F : Nat} {h : Hp} (hE : sX15_trySteps_223 F h  = some o) : Le h o := by
  exact le_some1 hE
set_option maxRecDepth 20000 in
theorem moX15_trySteps_207 {o : Hp} {F : Nat} {h : Hp} {x2 : Int32} {x3 : Int32} {x4 : Int32} {x5 : Nat} {x6 : Int32} {x7 : Int32} {x8 : Int32} (hE : sX15_trySteps_207 F h x2 x3 x4 x5 x6 x7 x8 = some o) : Le h o := by
  obtain ⟨o_1, eo_1, hE⟩ := cl_e hE
  refine (moX13_add eo_1).tr ?_
  exact moX15_trySteps_223 hE
set_option maxRecDepth 20000 in
theorem moX15_trySteps_152 {o : Hp} {F : Nat} : ∀ (f : Nat) {h : Hp} {x0 : Nat} {x2 : Int32} {x3 : Int32} {x4 : Int32} {x5 : Nat} {x6 : Int32} {x7 : Int32} {x8 : Int32} {x9 : Int32}, sX15_trySteps_152 F f h x0 x2 x3 x4 x5 x6 x7 x8 x9 = some o → Le h o := by
  intro f
  induction f with
  | zero =>
    intro h x0 x2 x3 x4 x5 x6 x7 x8 x9 hE
    rw [sX15_trySteps_152] at hE
    cases hE
  | succ f ih =>
    intro h x0 x2 x3 x4 x5 x6 x7 x8 x9 hE
    rw [sX15_trySteps_152] at hE
    have mk_152 : ∀ (h : Hp) (x0 : Nat) (x2 : Int32) (x3 : Int32) (x4 : Int32) (x5 : Nat) (x6 : Int32) (x7 : Int32) (x8 : Int32) (x9 : Int32), sX15_trySteps_152 F f h x0 x2 x3 x4 x5 x6 x7 x8 x9 = some o → Le h o := fun h x0 x2 x3 x4 x5 x6 x7 x8 x9 hE => ih hE
    obtain ⟨r_1, er_1, hE⟩ := cl_e hE
    obtain ⟨r_2, er_2, hE⟩ := cl_e hE
    obtain ⟨g_3, hE⟩ := gd_e hE
    rcases br_e hE with ⟨_, hE⟩ | ⟨_, hE⟩
    · exact moX15_trySteps_223 hE
    · obtain ⟨r_5, er_5, hE⟩ := cl_e hE
      obtain ⟨r_6, er_6, hE⟩ := cl_e hE
      obtain ⟨g_7, hE⟩ := gd_e hE
      obtain ⟨o_8, eo_8, hE⟩ := cl_e hE
      refine (moX13_add eo_8).tr ?_
      obtain ⟨v_9, ev_9, hE⟩ := nm_e2 hE
      exact mk_152 _ _ _ _ _ _ _ _ _ _ hE
set_option maxRecDepth 20000 in
theorem moX15_trySteps_149 {o : Hp} {F : Nat} {h : Hp} {x0 : Nat} {x2 : Int32} {x3 : Int32} {x4 : Int32} {x5 : Nat} {x6 : Int32} {x7 : Int32} {x8 : Int32} (hE : sX15_trySteps_149 F h x0 x2 x3 x4 x5 x6 x7 x8 = some o) : Le h o := by
  exact moX15_trySteps_152 _ hE
set_option maxRecDepth 20000 in
theorem moX15_trySteps_106 {o : Hp} {F : Nat} {h : Hp} {x0 : Nat} {x1 : Nat} {x2 : Int32} {x3 : Int32} {x4 : Int32} {x5 : Nat} {x6 : Int32} {x7 : Int32} {t0 : Int32} (hE : sX15_trySteps_106 F h x0 x1 x2 x3 x4 x5 x6 x7 t0 = some o) : Le h o := by
  obtain ⟨o_1, eo_1, hE⟩ := cl_e hE
  refine (moX15_becomesOthers eo_1).tr ?_
  rcases br_e hE with ⟨_, hE⟩ | ⟨_, hE⟩
  · exact moX15_trySteps_207 hE
  · obtain ⟨o_3, eo_3, hE⟩ := cl_e hE
    refine (moX15_rankFor eo_3).tr ?_
    rcases br_e hE with ⟨_, hE⟩ | ⟨_, hE⟩
    · obtain ⟨r_5, er_5, hE⟩ := cl_e hE
      rcases br_e hE with ⟨_, hE⟩ | ⟨_, hE⟩
      · exact moX15_trySteps_149 hE
      · rcases br_e hE with ⟨_, hE⟩ | ⟨_, hE⟩
        · exact moX15_trySteps_149 hE
        · exact moX15_trySteps_207 hE
    · exact moX15_trySteps_207 hE
set_option maxRecDepth 20000 in
theorem moX15_trySteps_90 {o : Hp} {F : Nat} {h : Hp} {x0 : Nat} {x1 : Nat} {x2 : Int32} {x3 : Int32} {x4 : Int32} {x5 : Nat} {x6 : Int32} {t0 : Int32} (hE : sX15_trySteps_90 F h x0 x1 x2 x3 x4 x5 x6 t0 = some o) : Le h o := by
  obtain ⟨r_1, er_1, hE⟩ := cl_e hE
  obtain ⟨g_2, hE⟩ := gd_e hE
  rcases br_e hE with ⟨_, hE⟩ | ⟨_, hE⟩
  · exact moX15_trySteps_106 hE
  · exact moX15_trySteps_106 hE
set_option maxRecDepth 20000 in
theorem moX15_trySteps_89 {o : Hp} {F : Nat} {h : Hp} {x0 : Nat} {x1 : Nat} {x2 : Int32} {x3 : Int32} {x4 : Int32} {x5 : Nat} {x6 : Int32} (hE : sX15_trySteps_89 F h x0 x1 x2 x3 x4 x5 x6 = some o) : Le h o := by
  exact moX15_trySteps_90 hE
set_option maxRecDepth 20000 in
theorem moX15_trySteps_48 {o : Hp} {F : Nat} {h : Hp} {x0 : Nat} {x1 : Nat} {x2 : Int32} {x3 : Int32} {x4 : Int32} {x5 : Nat} {t0 : Int32} (hE : sX15_trySteps_48 F h x0 x1 x2 x3 x4 x5 t0 = some o) : Le h o := by
  obtain ⟨r_1, er_1, hE⟩ := cl_e hE
  obtain ⟨r_2, er_2, hE⟩ := cl_e hE
  obtain ⟨r_3, er_3, hE⟩ := cl_e hE
  obtain ⟨g_4, hE⟩ := gd_e hE
  obtain ⟨g_5, hE⟩ := gd_e hE
  rcases br_e hE with ⟨_, hE⟩ | ⟨_, hE⟩
  · exact moX15_trySteps_89 hE
  · obtain ⟨r_7, er_7, hE⟩ := cl_e hE
    obtain ⟨g_8, hE⟩ := gd_e hE
    rcases br_e hE with ⟨_, hE⟩ | ⟨_, hE⟩
    · exact moX15_trySteps_89 hE
    · obtain ⟨r_10, er_10, hE⟩ := cl_e hE
      obtain ⟨g_11, hE⟩ := gd_e hE
      exact moX15_trySteps_90 hE
set_option maxRecDepth 20000 in
theorem moX15_trySteps {o : Hp} {F : Nat} {h : Hp} {x0 : Nat} {x1 : Nat} {x2 : Int32} {x3 : Int32} {x4 : Int32} {x5 : Nat} (hE : sX15_trySteps F h x0 x1 x2 x3 x4 x5 = some o) : Le h o := by
  obtain ⟨r_1, er_1, hE⟩ := cl_e hE
  obtain ⟨g_2, hE⟩ := gd_e hE
  rcases br_e hE with ⟨_, hE⟩ | ⟨_, hE⟩
  · obtain ⟨r_4, er_4, hE⟩ := cl_e hE
    obtain ⟨g_5, hE⟩ := gd_e hE
    rcases br_e hE with ⟨_, hE⟩ | ⟨_, hE⟩
    · exact moX15_trySteps_48 hE
    · obtain ⟨r_7, er_7, hE⟩ := cl_e hE
      obtain ⟨g_8, hE⟩ := gd_e hE
      obtain ⟨o_9, eo_9, hE⟩ := cl_e hE
      refine (moX15_manOf eo_9).tr ?_
      exact moX15_trySteps_48 hE
  · obtain ⟨r_10, er_10, hE⟩ := cl_e hE
    obtain ⟨r_11, er_11, hE⟩ := cl_e hE
    obtain ⟨g_12, hE⟩ := gd_e hE
    obtain ⟨g_13, hE⟩ := gd_e hE
    obtain ⟨o_14, eo_14, hE⟩ := cl_e hE
    refine (moX15_manOf eo_14).tr ?_
    exact moX15_trySteps_48 hE
set_option maxRecDepth 20000 in
theorem bX15_trySteps_223 {p : Program} {l : Launch} {e : Env} {s : State} {m : MethodId} {args : Array Value} {below : List Frame} {meth : Method} {c : Code} {X : Ec} {h0 : Hp} {o : Hp} {F : Nat} (C : Cx X p s m args meth c RX15 cX15_trySteps 10 none "trySteps") {h : Hp} {H : Heap} {locs : List Loc} (hkm : Km h0 h) (hW : Wx X h H) (hZ : va_S (aA (eB X)) s.heap H locs) (ls : Array Slot) (hl : lv_has ls 10 []) (hE : sX15_trySteps_223 F h  = some o) : W p l e (rm 1 27) s m args below meth c H locs 0 0 (MQ below (QV X h0 o) args s 0 0 (aA (eB X))) (F0 m 223 ls []) := by
  exact x_vret C rfl hW hZ hkm hE dX15_trySteps_223
set_option maxRecDepth 20000 in
theorem bX15_trySteps_207 {p : Program} {l : Launch} {e : Env} {s : State} {m : MethodId} {args : Array Value} {below : List Frame} {meth : Method} {c : Code} {X : Ec} {h0 : Hp} {o : Hp} {F : Nat} (C : Cx X p s m args meth c RX15 cX15_trySteps 10 none "trySteps") {h : Hp} {x2 : Int32} {x3 : Int32} {x4 : Int32} {x5 : Nat} {x6 : Int32} {x7 : Int32} {x8 : Int32} {H : Heap} {locs : List Loc} (k_x5 : hK h x5 = 13) (hkm : Km h0 h) (hW : Wx X h H) (hZ : va_S (aA (eB X)) s.heap H locs) (ls : Array Slot) (hl : lv_has ls 10 [(2, .int x2), (3, .int x3), (4, .int x4), (5, .ref x5), (6, .int x6), (7, .int x7), (8, .int x8)]) (hE : sX15_trySteps_207 F h x2 x3 x4 x5 x6 x7 x8 = some o) : W p l e (rm 1 27) s m args below meth c H locs 0 0 (MQ below (QV X h0 o) args s 0 0 (aA (eB X))) (F0 m 207 ls []) := by
  refine lv_aload C.1 C.2.1 dX15_trySteps_207 (lv_at hl 3 rfl) ?_
  refine lv_iload_n C.1 C.2.1 dX15_trySteps_209 rfl (lv_at hl 0 rfl) ?_
  refine lv_iload_n C.1 C.2.1 dX15_trySteps_210 rfl (lv_at hl 1 rfl) ?_
  refine lv_iload C.1 C.2.1 dX15_trySteps_211 (lv_at hl 2 rfl) ?_
  refine lv_iconst (v := (-1 : Int32)) C.1 C.2.1 dX15_trySteps_213 (by decide) ?_
  refine lv_iload C.1 C.2.1 dX15_trySteps_214 (lv_at hl 4 rfl) ?_
  refine lv_iload C.1 C.2.1 dX15_trySteps_216 (lv_at hl 6 rfl) ?_
  refine lv_iload C.1 C.2.1 dX15_trySteps_218 (lv_at hl 5 rfl) ?_
  obtain ⟨o_1, eo_1, hE⟩ := cl_e hE
  refine x_kV (o := o_1) (z_runV (As := [.int x2, .int x3, .int x4, .int (-1 : Int32), .int x6, .int x8, .int x7]) (rest := []) C (ct_X13_add l X k_x5 eo_1) cw_X15_590 hW hZ k_x5 (by decide) rfl rfl rfl hl.1 (Nat.le_of_ble_eq_true rfl) rfl dX15_trySteps_220 ⟨Nat.le_of_ble_eq_true rfl, Nat.le_of_ble_eq_true rfl⟩ ⟨Nat.le_refl _, Nat.le_refl _⟩) hZ (fun _ _ hW km hZ => ?_)
  replace hkm := hkm.tr km
  replace k_x5 := km.at k_x5 (by decide)
  exact bX15_trySteps_223 C hkm hW hZ _ (lv_sub hl [] rfl) hE
set_option maxRecDepth 20000 in
theorem bX15_trySteps_152 {p : Program} {l : Launch} {e : Env} {s : State} {m : MethodId} {args : Array Value} {below : List Frame} {meth : Method} {c : Code} {X : Ec} {h0 : Hp} {o : Hp} {F : Nat} (C : Cx X p s m args meth c RX15 cX15_trySteps 10 none "trySteps") : ∀ (f : Nat) {h : Hp} {x0 : Nat} {x2 : Int32} {x3 : Int32} {x4 : Int32} {x5 : Nat} {x6 : Int32} {x7 : Int32} {x8 : Int32} {x9 : Int32} {H : Heap} {locs : List Loc} (k_x0 : hK h x0 = 15) (k_x5 : hK h x5 = 13), Km h0 h → Wx X h H → va_S (aA (eB X)) s.heap H locs → ∀ (ls : Array Slot), lv_has ls 10 [(0, .ref x0), (2, .int x2), (3, .int x3), (4, .int x4), (5, .ref x5), (6, .int x6), (7, .int x7), (8, .int x8), (9, .int x9)] → sX15_trySteps_152 F f h x0 x2 x3 x4 x5 x6 x7 x8 x9 = some o → W p l e (rm 1 27) s m args below meth c H locs 0 0 (MQ below (QV X h0 o) args s 0 0 (aA (eB X))) (F0 m 152 ls []) := by
  intro f
  induction f with
  | zero =>
    intro h x0 x2 x3 x4 x5 x6 x7 x8 x9 H locs k_x0 k_x5 hkm hW hZ ls hl hE
    rw [sX15_trySteps_152] at hE
    cases hE
  | succ f ih =>
    intro h x0 x2 x3 x4 x5 x6 x7 x8 x9 H locs k_x0 k_x5 hkm hW hZ ls hl hE
    rw [sX15_trySteps_152] at hE
    have hk_152 : ∀ (h : Hp) (x0 : Nat) (x2 : Int32) (x3 : Int32) (x4 : Int32) (x5 : Nat) (x6 : Int32) (x7 : Int32) (x8 : Int32) (x9 : Int32) (H : Heap) (locs : List Loc), hK h x0 = 15 → hK h x5 = 13 → Km h0 h → Wx X h H → va_S (aA (eB X)) s.heap H locs → ∀ (ls : Array Slot), lv_has ls 10 [(0, .ref x0), (2, .int x2), (3, .int x3), (4, .int x4), (5, .ref x5), (6, .int x6), (7, .int x7), (8, .int x8), (9, .int x9)] → sX15_trySteps_152 F f h x0 x2 x3 x4 x5 x6 x7 x8 x9 = some o → W p l e (rm 1 27) s m args below meth c H locs 0 0 (MQ below (QV X h0 o) args s 0 0 (aA (eB X))) (F0 m 152 ls []) := fun h x0 x2 x3 x4 x5 x6 x7 x8 x9 H locs k_x0 k_x5 a b c ls hl hE => ih k_x0 k_x5 a b c ls hl hE
    refine lv_iload C.1 C.2.1 dX15_trySteps_152 (lv_at hl 8 rfl) ?_
    refine lv_aload_n C.1 C.2.1 dX15_trySteps_154 rfl (lv_at hl 0 rfl) ?_
    obtain ⟨r_1, er_1, hE⟩ := cl_e hE
    refine gf_X15_252 C hW k_x0 er_1 dX15_trySteps_155 (fun k_r_1 => ?_)
    obtain ⟨r_2, er_2, hE⟩ := cl_e hE
    refine gf_X15_215 C hW k_r_1 er_2 dX15_trySteps_158 (fun k_r_2 => ?_)
    refine lv_iload C.1 C.2.1 dX15_trySteps_161 (lv_at hl 3 rfl) ?_
    obtain ⟨g_3, hE⟩ := gd_e hE
    refine y_iald C hW k_r_2 g_3 dX15_trySteps_163 ?_
    refine lv_icmp_ge (tgt := 204) C.1 C.2.1 dX15_trySteps_164 (by decide) (fun c_4 => ?_) (fun c_4 => ?_)
    · have hE := br_p hE c_4
      refine lv_goto (tgt := 223) C.1 C.2.1 dX15_trySteps_204 (by decide) ?_
      exact bX15_trySteps_223 C hkm hW hZ _ (lv_sub hl [] rfl) hE
    · have hE := br_n hE c_4
      refine lv_aload C.1 C.2.1 dX15_trySteps_167 (lv_at hl 4 rfl) ?_
      refine lv_iload_n C.1 C.2.1 dX15_trySteps_169 rfl (lv_at hl 1 rfl) ?_
      refine lv_iload_n C.1 C.2.1 dX15_trySteps_170 rfl (lv_at hl 2 rfl) ?_
      refine lv_iload C.1 C.2.1 dX15_trySteps_171 (lv_at hl 3 rfl) ?_
      refine lv_aload_n C.1 C.2.1 dX15_trySteps_173 rfl (lv_at hl 0 rfl) ?_
      obtain ⟨r_5, er_5, hE⟩ := cl_e hE
      refine gf_X15_252 C hW k_x0 er_5 dX15_trySteps_174 (fun k_r_5 => ?_)
      obtain ⟨r_6, er_6, hE⟩ := cl_e hE
      refine gf_X15_223 C hW k_r_5 er_6 dX15_trySteps_177 (fun k_r_6 => ?_)
      refine lv_bipush (v := (6 : Int32)) C.1 C.2.1 dX15_trySteps_180 (by decide) ?_
      refine lv_iload C.1 C.2.1 dX15_trySteps_182 (lv_at hl 3 rfl) ?_
      refine lv_imul C.1 C.2.1 dX15_trySteps_184 ?_
      refine lv_iload C.1 C.2.1 dX15_trySteps_185 (lv_at hl 8 rfl) ?_
      refine lv_iadd C.1 C.2.1 dX15_trySteps_187 ?_
      obtain ⟨g_7, hE⟩ := gd_e hE
      refine y_iald C hW k_r_6 g_7 dX15_trySteps_188 ?_
      refine lv_iload C.1 C.2.1 dX15_trySteps_189 (lv_at hl 5 rfl) ?_
      refine lv_iload C.1 C.2.1 dX15_trySteps_191 (lv_at hl 7 rfl) ?_
      refine lv_iload C.1 C.2.1 dX15_trySteps_193 (lv_at hl 6 rfl) ?_
      obtain ⟨o_8, eo_8, hE⟩ := cl_e hE
      refine x_kV (o := o_8) (z_runV (As := [.int x2, .int x3, .int x4, .int (hI h r_6 (((6 : Int32) * x4) + x9).toNatClampNeg), .int x6, .int x8, .int x7]) (rest := []) C (ct_X13_add l X k_x5 eo_8) cw_X15_590 hW hZ k_x5 (by decide) rfl rfl rfl hl.1 (Nat.le_of_ble_eq_true rfl) rfl dX15_trySteps_195 ⟨Nat.le_of_ble_eq_true rfl, Nat.le_of_ble_eq_true rfl⟩ ⟨Nat.le_refl _, Nat.le_refl _⟩) hZ (fun _ _ hW km hZ => ?_)
      replace hkm := hkm.tr km
      replace k_x0 := km.at k_x0 (by decide)
      replace k_x5 := km.at k_x5 (by decide)
      obtain ⟨v_9, ev_9, hE⟩ := nm_e2 hE
      refine lv_iinc (v := v_9) (lv' := [(9, .int v_9), (0, .ref x0), (2, .int x2), (3, .int x3), (4, .int x4), (5, .ref x5), (6, .int x6), (7, .int x7), (8, .int x8)]) C.1 C.2.1 dX15_trySteps_198 hl (k := 8) rfl (by rw [ev_9]; rfl) (by decide) rfl (fun ls hl => ?_)
      refine lv_goto (tgt := 152) C.1 C.2.1 dX15_trySteps_201 (by decide) ?_
      exact hk_152 _ _ _ _ _ _ _ _ _ _ _ _ k_x0 k_x5 hkm hW hZ _ (lv_sub hl [1, 2, 3, 4, 5, 6, 7, 8, 0] rfl) hE
set_option maxRecDepth 20000 in
theorem bX15_trySteps_149 {p : Program} {l : Launch} {e : Env} {s : State} {m : MethodId} {args : Array Value} {below : List Frame} {meth : Method} {c : Code} {X : Ec} {h0 : Hp} {o : Hp} {F : Nat} (C : Cx X p s m args meth c RX15 cX15_trySteps 10 none "trySteps") {h : Hp} {x0 : Nat} {x2 : Int32} {x3 : Int32} {x4 : Int32} {x5 : Nat} {x6 : Int32} {x7 : Int32} {x8 : Int32} {H : Heap} {locs : List Loc} (k_x0 : hK h x0 = 15) (k_x5 : hK h x5 = 13) (hkm : Km h0 h) (hW : Wx X h H) (hZ : va_S (aA (eB X)) s.heap H locs) (ls : Array Slot) (hl : lv_has ls 10 [(0, .ref x0), (2, .int x2), (3, .int x3), (4, .int x4), (5, .ref x5), (6, .int x6), (7, .int x7), (8, .int x8)]) (hE : sX15_trySteps_149 F h x0 x2 x3 x4 x5 x6 x7 x8 = some o) : W p l e (rm 1 27) s m args below meth c H locs 0 0 (MQ below (QV X h0 o) args s 0 0 (aA (eB X))) (F0 m 149 ls []) := by
  refine lv_iconst (v := (0 : Int32)) C.1 C.2.1 dX15_trySteps_149 (by decide) ?_
  refine lv_istore (lv' := [(9, .int (0 : Int32)), (0, .ref x0), (2, .int x2), (3, .int x3), (4, .int x4), (5, .ref x5), (6, .int x6), (7, .int x7), (8, .int x8)]) C.1 C.2.1 dX15_trySteps_150 hl (by decide) rfl (fun ls hl => ?_)
  exact bX15_trySteps_152 C F k_x0 k_x5 hkm hW hZ _ (lv_sub hl [1, 2, 3, 4, 5, 6, 7, 8, 0] rfl) hE
set_option maxRecDepth 20000 in
theorem bX15_trySteps_106 {p : Program} {l : Launch} {e : Env} {s : State} {m : MethodId} {args : Array Value} {below : List Frame} {meth : Method} {c : Code} {X : Ec} {h0 : Hp} {o : Hp} {F : Nat} (C : Cx X p s m args meth c RX15 cX15_trySteps 10 none "trySteps") {h : Hp} {x0 : Nat} {x1 : Nat} {x2 : Int32} {x3 : Int32} {x4 : Int32} {x5 : Nat} {x6 : Int32} {x7 : Int32} {t0 : Int32} {H : Heap} {locs : List Loc} (k_x0 : hK h x0 = 15) (k_x1 : hK h x1 = 12) (k_x5 : hK h x5 = 13) (hkm : Km h0 h) (hW : Wx X h H) (hZ : va_S (aA (eB X)) s.heap H locs) (ls : Array Slot) (hl : lv_has ls 10 [(0, .ref x0), (1, .ref x1), (2, .int x2), (3, .int x3), (4, .int x4), (5, .ref x5), (6, .int x6), (7, .int x7)]) (hE : sX15_trySteps_106 F h x0 x1 x2 x3 x4 x5 x6 x7 t0 = some o) : W p l e (rm 1 27) s m args below meth c H locs 0 0 (MQ below (QV X h0 o) args s 0 0 (aA (eB X))) (F0 m 106 ls [.int t0]) := by
  refine lv_istore (lv' := [(8, .int t0), (0, .ref x0), (1, .ref x1), (2, .int x2), (3, .int x3), (4, .int x4), (5, .ref x5), (6, .int x6), (7, .int x7)]) C.1 C.2.1 dX15_trySteps_106 hl (by decide) rfl (fun ls hl => ?_)
  refine lv_aload_n C.1 C.2.1 dX15_trySteps_108 rfl (lv_at hl 1 rfl) ?_
  refine lv_iload C.1 C.2.1 dX15_trySteps_109 (lv_at hl 5 rfl) ?_
  obtain ⟨o_1, eo_1, hE⟩ := cl_e hE
  refine x_kI (o := o_1) (z_runV (As := [.int x4]) (rest := []) C (ct_X15_becomesOthers l X k_x0 eo_1) cw_X15_495 hW hZ k_x0 (by decide) rfl rfl rfl hl.1 (Nat.le_of_ble_eq_true rfl) rfl dX15_trySteps_111 ⟨Nat.le_of_ble_eq_true rfl, Nat.le_of_ble_eq_true rfl⟩ ⟨Nat.le_refl _, Nat.le_refl _⟩) hZ (fun _ _ hW km hZ => ?_)
  replace hkm := hkm.tr km
  replace k_x0 := km.at k_x0 (by decide)
  replace k_x1 := km.at k_x1 (by decide)
  replace k_x5 := km.at k_x5 (by decide)
  refine lv_if_eq (tgt := 207) C.1 C.2.1 dX15_trySteps_114 (by decide) (fun c_2 => ?_) (fun c_2 => ?_)
  · have hE := br_p hE c_2
    exact bX15_trySteps_207 C k_x5 hkm hW hZ _ (lv_sub hl [3, 4, 5, 6, 7, 8, 0] rfl) hE
  · have hE := br_n hE c_2
    refine lv_aload_n C.1 C.2.1 dX15_trySteps_117 rfl (lv_at hl 1 rfl) ?_
    refine lv_iload_n C.1 C.2.1 dX15_trySteps_118 rfl (lv_at hl 4 rfl) ?_
    refine lv_aload_n C.1 C.2.1 dX15_trySteps_119 rfl (lv_at hl 2 rfl) ?_
    refine gf_X15_452 C hW k_x1 dX15_trySteps_120 ?_
    obtain ⟨o_3, eo_3, hE⟩ := cl_e hE
    refine x_kI (o := o_3) (z_runV (As := [.int x3, .int (hI o_1.2 x1 1)]) (rest := []) C (ct_X15_rankFor l X k_x0 eo_3) cw_X15_498 hW hZ k_x0 (by decide) rfl rfl rfl hl.1 (Nat.le_of_ble_eq_true rfl) rfl dX15_trySteps_123 ⟨Nat.le_of_ble_eq_true rfl, Nat.le_of_ble_eq_true rfl⟩ ⟨Nat.le_refl _, Nat.le_refl _⟩) hZ (fun _ _ hW km hZ => ?_)
    replace hkm := hkm.tr km
    replace k_x0 := km.at k_x0 (by decide)
    replace k_x1 := km.at k_x1 (by decide)
    replace k_x5 := km.at k_x5 (by decide)
    refine lv_aload_n C.1 C.2.1 dX15_trySteps_126 rfl (lv_at hl 1 rfl) ?_
    refine gf_X15_383 C hW k_x0 dX15_trySteps_127 ?_
    refine lv_icmp_ne (tgt := 207) C.1 C.2.1 dX15_trySteps_130 (by decide) (fun c_4 => ?_) (fun c_4 => ?_)
    · have hE := br_n hE c_4
      exact bX15_trySteps_207 C k_x5 hkm hW hZ _ (lv_sub hl [3, 4, 5, 6, 7, 8, 0] rfl) hE
    · have hE := br_p hE c_4
      refine lv_aload_n C.1 C.2.1 dX15_trySteps_133 rfl (lv_at hl 1 rfl) ?_
      obtain ⟨r_5, er_5, hE⟩ := cl_e hE
      refine gf_X15_252 C hW k_x0 er_5 dX15_trySteps_134 (fun k_r_5 => ?_)
      refine gf_X15_142 C hW k_r_5 dX15_trySteps_137 ?_
      refine lv_if_eq (tgt := 149) C.1 C.2.1 dX15_trySteps_140 (by decide) (fun c_6 => ?_) (fun c_6 => ?_)
      · have hE := br_p hE c_6
        exact bX15_trySteps_149 C k_x0 k_x5 hkm hW hZ _ (lv_sub hl [1, 3, 4, 5, 6, 7, 8, 0] rfl) hE
      · have hE := br_n hE c_6
        refine lv_iload C.1 C.2.1 dX15_trySteps_143 (lv_at hl 7 rfl) ?_
        refine lv_iconst (v := (-1 : Int32)) C.1 C.2.1 dX15_trySteps_145 (by decide) ?_
        refine lv_icmp_ne (tgt := 207) C.1 C.2.1 dX15_trySteps_146 (by decide) (fun c_7 => ?_) (fun c_7 => ?_)
        · have hE := br_n hE c_7
          exact bX15_trySteps_207 C k_x5 hkm hW hZ _ (lv_sub hl [3, 4, 5, 6, 7, 8, 0] rfl) hE
        · have hE := br_p hE c_7
          exact bX15_trySteps_149 C k_x0 k_x5 hkm hW hZ _ (lv_sub hl [1, 3, 4, 5, 6, 7, 8, 0] rfl) hE
set_option maxRecDepth 20000 in
theorem bX15_trySteps_90 {p : Program} {l : Launch} {e : Env} {s : State} {m : MethodId} {args : Array Value} {below : List Frame} {meth : Method} {c : Code} {X : Ec} {h0 : Hp} {o : Hp} {F : Nat} (C : Cx X p s m args meth c RX15 cX15_trySteps 10 none "trySteps") {h : Hp} {x0 : Nat} {x1 : Nat} {x2 : Int32} {x3 : Int32} {x4 : Int32} {x5 : Nat} {x6 : Int32} {t0 : Int32} {H : Heap} {locs : List Loc} (k_x0 : hK h x0 = 15) (k_x1 : hK h x1 = 12) (k_x5 : hK h x5 = 13) (hkm : Km h0 h) (hW : Wx X h H) (hZ : va_S (aA (eB X)) s.heap H locs) (ls : Array Slot) (hl : lv_has ls 10 [(0, .ref x0), (1, .ref x1), (2, .int x2), (3, .int x3), (4, .int x4), (5, .ref x5), (6, .int x6)]) (hE : sX15_trySteps_90 F h x0 x1 x2 x3 x4 x5 x6 t0 = some o) : W p l e (rm 1 27) s m args below meth c H locs 0 0 (MQ below (QV X h0 o) args s 0 0 (aA (eB X))) (F0 m 90 ls [.int t0]) := by
  refine lv_istore (lv' := [(7, .int t0), (0, .ref x0), (1, .ref x1), (2, .int x2), (3, .int x3), (4, .int x4), (5, .ref x5), (6, .int x6)]) C.1 C.2.1 dX15_trySteps_90 hl (by decide) rfl (fun ls hl => ?_)
  refine lv_aload_n C.1 C.2.1 dX15_trySteps_92 rfl (lv_at hl 1 rfl) ?_
  obtain ⟨r_1, er_1, hE⟩ := cl_e hE
  refine gf_X15_278 C hW k_x0 er_1 dX15_trySteps_93 (fun k_r_1 => ?_)
  refine lv_iload_n C.1 C.2.1 dX15_trySteps_96 rfl (lv_at hl 4 rfl) ?_
  obtain ⟨g_2, hE⟩ := gd_e hE
  refine y_zald C hW k_r_1 g_2 dX15_trySteps_97 ?_
  refine lv_if_eq (tgt := 105) C.1 C.2.1 dX15_trySteps_98 (by decide) (fun c_3 => ?_) (fun c_3 => ?_)
  · have hE := br_p hE c_3
    refine lv_iconst (v := (0 : Int32)) C.1 C.2.1 dX15_trySteps_105 (by decide) ?_
    exact bX15_trySteps_106 C k_x0 k_x1 k_x5 hkm hW hZ _ (lv_sub hl [1, 2, 3, 4, 5, 6, 7, 0] rfl) hE
  · have hE := br_n hE c_3
    refine lv_iconst (v := (1 : Int32)) C.1 C.2.1 dX15_trySteps_101 (by decide) ?_
    refine lv_goto (tgt := 106) C.1 C.2.1 dX15_trySteps_102 (by decide) ?_
    exact bX15_trySteps_106 C k_x0 k_x1 k_x5 hkm hW hZ _ (lv_sub hl [1, 2, 3, 4, 5, 6, 7, 0] rfl) hE
set_option maxRecDepth 20000 in
theorem bX15_trySteps_89 {p : Program} {l : Launch} {e : Env} {s : State} {m : MethodId} {args : Array Value} {below : List Frame} {meth : Method} {c : Code} {X : Ec} {h0 : Hp} {o : Hp} {F : Nat} (C : Cx X p s m args meth c RX15 cX15_trySteps 10 none "trySteps") {h : Hp} {x0 : Nat} {x1 : Nat} {x2 : Int32} {x3 : Int32} {x4 : Int32} {x5 : Nat} {x6 : Int32} {H : Heap} {locs : List Loc} (k_x0 : hK h x0 = 15) (k_x1 : hK h x1 = 12) (k_x5 : hK h x5 = 13) (hkm : Km h0 h) (hW : Wx X h H) (hZ : va_S (aA (eB X)) s.heap H locs) (ls : Array Slot) (hl : lv_has ls 10 [(0, .ref x0), (1, .ref x1), (2, .int x2), (3, .int x3), (4, .int x4), (5, .ref x5), (6, .int x6)]) (hE : sX15_trySteps_89 F h x0 x1 x2 x3 x4 x5 x6 = some o) : W p l e (rm 1 27) s m args below meth c H locs 0 0 (MQ below (QV X h0 o) args s 0 0 (aA (eB X))) (F0 m 89 ls []) := by
  refine lv_iconst (v := (0 : Int32)) C.1 C.2.1 dX15_trySteps_89 (by decide) ?_
  exact bX15_trySteps_90 C k_x0 k_x1 k_x5 hkm hW hZ _ (lv_sub hl [0, 1, 2, 3, 4, 5, 6] rfl) hE
set_option maxRecDepth 20000 in
theorem bX15_trySteps_48 {p : Program} {l : Launch} {e : Env} {s : State} {m : MethodId} {args : Array Value} {below : List Frame} {meth : Method} {c : Code} {X : Ec} {h0 : Hp} {o : Hp} {F : Nat} (C : Cx X p s m args meth c RX15 cX15_trySteps 10 none "trySteps") {h : Hp} {x0 : Nat} {x1 : Nat} {x2 : Int32} {x3 : Int32} {x4 : Int32} {x5 : Nat} {t0 : Int32} {H : Heap} {locs : List Loc} (k_x0 : hK h x0 = 15) (k_x1 : hK h x1 = 12) (k_x5 : hK h x5 = 13) (hkm : Km h0 h) (hW : Wx X h H) (hZ : va_S (aA (eB X)) s.heap H locs) (ls : Array Slot) (hl : lv_has ls 10 [(0, .ref x0), (1, .ref x1), (2, .int x2), (3, .int x3), (4, .int x4), (5, .ref x5)]) (hE : sX15_trySteps_48 F h x0 x1 x2 x3 x4 x5 t0 = some o) : W p l e (rm 1 27) s m args below meth c H locs 0 0 (MQ below (QV X h0 o) args s 0 0 (aA (eB X))) (F0 m 48 ls [.int t0]) := by
  refine lv_istore (lv' := [(6, .int t0), (0, .ref x0), (1, .ref x1), (2, .int x2), (3, .int x3), (4, .int x4), (5, .ref x5)]) C.1 C.2.1 dX15_trySteps_48 hl (by decide) rfl (fun ls hl => ?_)
  refine lv_aload_n C.1 C.2.1 dX15_trySteps_50 rfl (lv_at hl 1 rfl) ?_
  obtain ⟨r_1, er_1, hE⟩ := cl_e hE
  refine gf_X15_252 C hW k_x0 er_1 dX15_trySteps_51 (fun k_r_1 => ?_)
  obtain ⟨r_2, er_2, hE⟩ := cl_e hE
  refine gf_X15_198 C hW k_r_1 er_2 dX15_trySteps_54 (fun k_r_2 => ?_)
  refine lv_aload_n C.1 C.2.1 dX15_trySteps_57 rfl (lv_at hl 1 rfl) ?_
  obtain ⟨r_3, er_3, hE⟩ := cl_e hE
  refine gf_X15_272 C hW k_x0 er_3 dX15_trySteps_58 (fun k_r_3 => ?_)
  refine lv_iload_n C.1 C.2.1 dX15_trySteps_61 rfl (lv_at hl 4 rfl) ?_
  obtain ⟨g_4, hE⟩ := gd_e hE
  refine y_iald C hW k_r_3 g_4 dX15_trySteps_62 ?_
  obtain ⟨g_5, hE⟩ := gd_e hE
  refine y_iald C hW k_r_2 g_5 dX15_trySteps_63 ?_
  refine lv_bipush (v := (16 : Int32)) C.1 C.2.1 dX15_trySteps_64 (by decide) ?_
  refine lv_iand C.1 C.2.1 dX15_trySteps_66 ?_
  refine lv_if_eq (tgt := 89) C.1 C.2.1 dX15_trySteps_67 (by decide) (fun c_6 => ?_) (fun c_6 => ?_)
  · have hE := br_p hE c_6
    exact bX15_trySteps_89 C k_x0 k_x1 k_x5 hkm hW hZ _ (lv_sub hl [1, 2, 3, 4, 5, 6, 0] rfl) hE
  · have hE := br_n hE c_6
    refine lv_aload_n C.1 C.2.1 dX15_trySteps_70 rfl (lv_at hl 1 rfl) ?_
    obtain ⟨r_7, er_7, hE⟩ := cl_e hE
    refine gf_X15_275 C hW k_x0 er_7 dX15_trySteps_71 (fun k_r_7 => ?_)
    refine lv_iload_n C.1 C.2.1 dX15_trySteps_74 rfl (lv_at hl 4 rfl) ?_
    obtain ⟨g_8, hE⟩ := gd_e hE
    refine y_iald C hW k_r_7 g_8 dX15_trySteps_75 ?_
    refine lv_iconst (v := (1 : Int32)) C.1 C.2.1 dX15_trySteps_76 (by decide) ?_
    refine lv_icmp_le (tgt := 89) C.1 C.2.1 dX15_trySteps_77 (by decide) (fun c_9 => ?_) (fun c_9 => ?_)
    · have hE := br_p hE c_9
      exact bX15_trySteps_89 C k_x0 k_x1 k_x5 hkm hW hZ _ (lv_sub hl [1, 2, 3, 4, 5, 6, 0] rfl) hE
    · have hE := br_n hE c_9
      refine lv_aload_n C.1 C.2.1 dX15_trySteps_80 rfl (lv_at hl 1 rfl) ?_
      obtain ⟨r_10, er_10, hE⟩ := cl_e hE
      refine gf_X15_275 C hW k_x0 er_10 dX15_trySteps_81 (fun k_r_10 => ?_)
      refine lv_iload_n C.1 C.2.1 dX15_trySteps_84 rfl (lv_at hl 4 rfl) ?_
      obtain ⟨g_11, hE⟩ := gd_e hE
      refine y_iald C hW k_r_10 g_11 dX15_trySteps_85 ?_
      refine lv_goto (tgt := 90) C.1 C.2.1 dX15_trySteps_86 (by decide) ?_
      exact bX15_trySteps_90 C k_x0 k_x1 k_x5 hkm hW hZ _ (lv_sub hl [1, 2, 3, 4, 5, 6, 0] rfl) hE
set_option maxRecDepth 20000 in
theorem ct_X15_trySteps (l : Launch) (X : Ec) (F : Nat) {h : Hp} {x0 : Nat} {x1 : Nat} {x2 : Int32} {x3 : Int32} {x4 : Int32} {x5 : Nat} {o : Hp} (k_x0 : hK h x0 = 15) (k_x1 : hK h x1 = 12) (k_x5 : hK h x5 = 13) (hE : sX15_trySteps F h x0 x1 x2 x3 x4 x5 = some o) : MetV l yX15_trySteps cX15_trySteps 10 none 1 27 X [.ref x0, .ref x1, .int x2, .int x3, .int x4, .ref x5] h o := by
  refine x_met (by decide) (Nat.le_of_ble_eq_true rfl) ?_
  intro p e s m below meth c ls C hl hW hZ
  have hl : lv_has ls 10 [(0, .ref x0), (1, .ref x1), (2, .int x2), (3, .int x3), (4, .int x4), (5, .ref x5)] := hl
  have hkm : Km h h := Km.rf h
  refine lv_aload_n C.1 C.2.1 dX15_trySteps_0 rfl (lv_at hl 0 rfl) ?_
  obtain ⟨r_1, er_1, hE⟩ := cl_e hE
  refine gf_X15_278 C hW k_x0 er_1 dX15_trySteps_1 (fun k_r_1 => ?_)
  refine lv_iload_n C.1 C.2.1 dX15_trySteps_4 rfl (lv_at hl 3 rfl) ?_
  obtain ⟨g_2, hE⟩ := gd_e hE
  refine y_zald C hW k_r_1 g_2 dX15_trySteps_5 ?_
  refine lv_if_eq (tgt := 26) C.1 C.2.1 dX15_trySteps_6 (by decide) (fun c_3 => ?_) (fun c_3 => ?_)
  · have hE := br_p hE c_3
    refine lv_aload_n C.1 C.2.1 dX15_trySteps_26 rfl (lv_at hl 1 rfl) ?_
    obtain ⟨r_4, er_4, hE⟩ := cl_e hE
    refine gf_X15_396 C hW k_x1 er_4 dX15_trySteps_27 (fun k_r_4 => ?_)
    refine lv_iload_n C.1 C.2.1 dX15_trySteps_30 rfl (lv_at hl 3 rfl) ?_
    obtain ⟨g_5, hE⟩ := gd_e hE
    refine y_iald C hW k_r_4 g_5 dX15_trySteps_31 ?_
    refine lv_if_le (tgt := 47) C.1 C.2.1 dX15_trySteps_32 (by decide) (fun c_6 => ?_) (fun c_6 => ?_)
    · have hE := br_p hE c_6
      refine lv_iconst (v := (-1 : Int32)) C.1 C.2.1 dX15_trySteps_47 (by decide) ?_
      exact bX15_trySteps_48 C k_x0 k_x1 k_x5 hkm hW hZ _ (lv_sub hl [0, 1, 2, 3, 4, 5] rfl) hE
    · have hE := br_n hE c_6
      refine lv_aload_n C.1 C.2.1 dX15_trySteps_35 rfl (lv_at hl 1 rfl) ?_
      obtain ⟨r_7, er_7, hE⟩ := cl_e hE
      refine gf_X15_396 C hW k_x1 er_7 dX15_trySteps_36 (fun k_r_7 => ?_)
      refine lv_iload_n C.1 C.2.1 dX15_trySteps_39 rfl (lv_at hl 3 rfl) ?_
      obtain ⟨g_8, hE⟩ := gd_e hE
      refine y_iald C hW k_r_7 g_8 dX15_trySteps_40 ?_
      obtain ⟨o_9, eo_9, hE⟩ := cl_e hE
      refine x_kI (o := o_9) (z_runS (As := [.int (hI h r_7 x3.toNatClampNeg)]) (rest := []) C (ct_X15_manOf l X eo_9) cw_X15_492 hW hZ rfl hl.1 (Nat.le_of_ble_eq_true rfl) rfl dX15_trySteps_41 ⟨Nat.le_of_ble_eq_true rfl, Nat.le_of_ble_eq_true rfl⟩ ⟨Nat.le_refl _, Nat.le_refl _⟩) hZ (fun _ _ hW km hZ => ?_)
      replace hkm := hkm.tr km
      replace k_x0 := km.at k_x0 (by decide)
      replace k_x1 := km.at k_x1 (by decide)
      replace k_x5 := km.at k_x5 (by decide)
      refine lv_goto (tgt := 48) C.1 C.2.1 dX15_trySteps_44 (by decide) ?_
      exact bX15_trySteps_48 C k_x0 k_x1 k_x5 hkm hW hZ _ (lv_sub hl [0, 1, 2, 3, 4, 5] rfl) hE
  · have hE := br_n hE c_3
    refine lv_aload_n C.1 C.2.1 dX15_trySteps_9 rfl (lv_at hl 1 rfl) ?_
    obtain ⟨r_10, er_10, hE⟩ := cl_e hE
    refine gf_X15_396 C hW k_x1 er_10 dX15_trySteps_10 (fun k_r_10 => ?_)
    refine lv_aload_n C.1 C.2.1 dX15_trySteps_13 rfl (lv_at hl 1 rfl) ?_
    obtain ⟨r_11, er_11, hE⟩ := cl_e hE
    refine gf_X15_439 C hW k_x1 er_11 dX15_trySteps_14 (fun k_r_11 => ?_)
    refine lv_iconst (v := (0 : Int32)) C.1 C.2.1 dX15_trySteps_17 (by decide) ?_
    obtain ⟨g_12, hE⟩ := gd_e hE
    refine y_iald C hW k_r_11 g_12 dX15_trySteps_18 ?_
    obtain ⟨g_13, hE⟩ := gd_e hE
    refine y_iald C hW k_r_10 g_13 dX15_trySteps_19 ?_
    obtain ⟨o_14, eo_14, hE⟩ := cl_e hE
    refine x_kI (o := o_14) (z_runS (As := [.int (hI h r_10 (hI h r_11 (0 : Int32).toNatClampNeg).toNatClampNeg)]) (rest := []) C (ct_X15_manOf l X eo_14) cw_X15_492 hW hZ rfl hl.1 (Nat.le_of_ble_eq_true rfl) rfl dX15_trySteps_20 ⟨Nat.le_of_ble_eq_true rfl, Nat.le_of_ble_eq_true rfl⟩ ⟨Nat.le_refl _, Nat.le_refl _⟩) hZ (fun _ _ hW km hZ => ?_)
    replace hkm := hkm.tr km
    replace k_x0 := km.at k_x0 (by decide)
    replace k_x1 := km.at k_x1 (by decide)
    replace k_x5 := km.at k_x5 (by decide)
    refine lv_goto (tgt := 48) C.1 C.2.1 dX15_trySteps_23 (by decide) ?_
    exact bX15_trySteps_48 C k_x0 k_x1 k_x5 hkm hW hZ _ (lv_sub hl [0, 1, 2, 3, 4, 5] rfl) hE
theorem dX15_isOpen_0 : decode cX15_isOpen 0 = .ok (.iload_n 1, 1) := by decide +kernel
theorem dX15_isOpen_1 : decode cX15_isOpen 1 = .ok (.iload_n 3, 1) := by decide +kernel
theorem dX15_isOpen_2 : decode cX15_isOpen 2 = .ok (.iadd, 1) := by decide +kernel
theorem dX15_isOpen_3 : decode cX15_isOpen 3 = .ok (.istore 4, 2) := by decide +kernel
theorem dX15_isOpen_5 : decode cX15_isOpen 5 = .ok (.iload 4, 2) := by decide +kernel
theorem dX15_isOpen_7 : decode cX15_isOpen 7 = .ok (.iload_n 2, 1) := by decide +kernel
theorem dX15_isOpen_8 : decode cX15_isOpen 8 = .ok (.if_icmp .eq 24, 3) := by decide +kernel
theorem dX15_isOpen_11 : decode cX15_isOpen 11 = .ok (.aload_n 0, 1) := by decide +kernel
theorem dX15_isOpen_12 : decode cX15_isOpen 12 = .ok (.getfield 396, 3) := by decide +kernel
theorem dX15_isOpen_15 : decode cX15_isOpen 15 = .ok (.iload 4, 2) := by decide +kernel
theorem dX15_isOpen_17 : decode cX15_isOpen 17 = .ok (.iaload, 1) := by decide +kernel
theorem dX15_isOpen_18 : decode cX15_isOpen 18 = .ok (.ifCond .le 5, 3) := by decide +kernel
theorem dX15_isOpen_21 : decode cX15_isOpen 21 = .ok (.iconst 0, 1) := by decide +kernel
theorem dX15_isOpen_22 : decode cX15_isOpen 22 = .ok (.ireturn, 1) := by decide +kernel
theorem dX15_isOpen_23 : decode cX15_isOpen 23 = .ok (.iload 4, 2) := by decide +kernel
theorem dX15_isOpen_25 : decode cX15_isOpen 25 = .ok (.iload_n 3, 1) := by decide +kernel
theorem dX15_isOpen_26 : decode cX15_isOpen 26 = .ok (.iadd, 1) := by decide +kernel
theorem dX15_isOpen_27 : decode cX15_isOpen 27 = .ok (.istore 4, 2) := by decide +kernel
theorem dX15_isOpen_29 : decode cX15_isOpen 29 = .ok (.goto (-24), 3) := by decide +kernel
theorem dX15_isOpen_32 : decode cX15_isOpen 32 = .ok (.iconst 1, 1) := by decide +kernel
theorem dX15_isOpen_33 : decode cX15_isOpen 33 = .ok (.ireturn, 1) := by decide +kernel
set_option maxRecDepth 20000 in
theorem moX15_isOpen_5 {o : Int32 × Hp} {F : Nat} : ∀ (f : Nat) {h : Hp} {x0 : Nat} {x2 : Int32} {x3 : Int32} {x4 : Int32}, sX15_isOpen_5 F f h x0 x2 x3 x4 = some o → Le h o.2 := by
  intro f
  induction f with
  | zero =>
    intro h x0 x2 x3 x4 hE
    rw [sX15_isOpen_5] at hE
    cases hE
  | succ f ih =>
    intro h x0 x2 x3 x4 hE
    rw [sX15_isOpen_5] at hE
    have mk_5 : ∀ (h : Hp) (x0 : Nat) (x2 : Int32) (x3 : Int32) (x4 : Int32), sX15_isOpen_5 F f h x0 x2 x3 x4 = some o → Le h o.2 := fun h x0 x2 x3 x4 hE => ih hE
    rcases br_e hE with ⟨_, hE⟩ | ⟨_, hE⟩
    · exact le_some2 hE
    · obtain ⟨r_2, er_2, hE⟩ := cl_e hE
      obtain ⟨g_3, hE⟩ := gd_e hE
      rcases br_e hE with ⟨_, hE⟩ | ⟨_, hE⟩
      · obtain ⟨v_5, ev_5, hE⟩ := nm_e2 hE
        exact mk_5 _ _ _ _ _ hE
      · exact le_some2 hE
set_option maxRecDepth 20000 in
theorem moX15_isOpen {o : Int32 × Hp} {F : Nat} {h : Hp} {x0 : Nat} {x1 : Int32} {x2 : Int32} {x3 : Int32} (hE : sX15_isOpen F h x0 x1 x2 x3 = some o) : Le h o.2 := by
  obtain ⟨v_1, ev_1, hE⟩ := nm_e2 hE
  exact moX15_isOpen_5 _ hE
set_option maxRecDepth 20000 in
theorem bX15_isOpen_5 {p : Program} {l : Launch} {e : Env} {s : State} {m : MethodId} {args : Array Value} {below : List Frame} {meth : Method} {c : Code} {X : Ec} {h0 : Hp} {o : Int32 × Hp} {F : Nat} (C : Cx X p s m args meth c RX15 cX15_isOpen 5 (some .boolean) "isOpen") : ∀ (f : Nat) {h : Hp} {x0 : Nat} {x2 : Int32} {x3 : Int32} {x4 : Int32} {H : Heap} {locs : List Loc} (k_x0 : hK h x0 = 12), Km h0 h → Wx X h H → va_S (aA (eB X)) s.heap H locs → ∀ (ls : Array Slot), lv_has ls 5 [(0, .ref x0), (2, .int x2), (3, .int x3), (4, .int x4)] → sX15_isOpen_5 F f h x0 x2 x3 x4 = some o → W p l e (rm 0 0) s m args below meth c H locs 0 0 (MQ below (QI X h0 o.1 o.2) args s 0 0 (aA (eB X))) (F0 m 5 ls []) := by
  intro f
  induction f with
  | zero =>
    intro h x0 x2 x3 x4 H locs k_x0 hkm hW hZ ls hl hE
    rw [sX15_isOpen_5] at hE
    cases hE
  | succ f ih =>
    intro h x0 x2 x3 x4 H locs k_x0 hkm hW hZ ls hl hE
    rw [sX15_isOpen_5] at hE
    have hk_5 : ∀ (h : Hp) (x0 : Nat) (x2 : Int32) (x3 : Int32) (x4 : Int32) (H : Heap) (locs : List Loc), hK h x0 = 12 → Km h0 h → Wx X h H → va_S (aA (eB X)) s.heap H locs → ∀ (ls : Array Slot), lv_has ls 5 [(0, .ref x0), (2, .int x2), (3, .int x3), (4, .int x4)] → sX15_isOpen_5 F f h x0 x2 x3 x4 = some o → W p l e (rm 0 0) s m args below meth c H locs 0 0 (MQ below (QI X h0 o.1 o.2) args s 0 0 (aA (eB X))) (F0 m 5 ls []) := fun h x0 x2 x3 x4 H locs k_x0 a b c ls hl hE => ih k_x0 a b c ls hl hE
    refine lv_iload C.1 C.2.1 dX15_isOpen_5 (lv_at hl 3 rfl) ?_
    refine lv_iload_n C.1 C.2.1 dX15_isOpen_7 rfl (lv_at hl 1 rfl) ?_
    refine lv_icmp_eq (tgt := 32) C.1 C.2.1 dX15_isOpen_8 (by decide) (fun c_1 => ?_) (fun c_1 => ?_)
    · have hE := br_p hE c_1
      refine lv_iconst (v := (1 : Int32)) C.1 C.2.1 dX15_isOpen_32 (by decide) ?_
      exact x_iret C rfl (by decide) hW hZ hkm hE dX15_isOpen_33
    · have hE := br_n hE c_1
      refine lv_aload_n C.1 C.2.1 dX15_isOpen_11 rfl (lv_at hl 0 rfl) ?_
      obtain ⟨r_2, er_2, hE⟩ := cl_e hE
      refine gf_X15_396 C hW k_x0 er_2 dX15_isOpen_12 (fun k_r_2 => ?_)
      refine lv_iload C.1 C.2.1 dX15_isOpen_15 (lv_at hl 3 rfl) ?_
      obtain ⟨g_3, hE⟩ := gd_e hE
      refine y_iald C hW k_r_2 g_3 dX15_isOpen_17 ?_
      refine lv_if_le (tgt := 23) C.1 C.2.1 dX15_isOpen_18 (by decide) (fun c_4 => ?_) (fun c_4 => ?_)
      · have hE := br_p hE c_4
        refine lv_iload C.1 C.2.1 dX15_isOpen_23 (lv_at hl 3 rfl) ?_
        refine lv_iload_n C.1 C.2.1 dX15_isOpen_25 rfl (lv_at hl 2 rfl) ?_
        refine lv_iadd C.1 C.2.1 dX15_isOpen_26 ?_
        obtain ⟨v_5, ev_5, hE⟩ := nm_e2 hE
        refine x_nmI ev_5 ?_
        refine lv_istore (lv' := [(4, .int v_5), (0, .ref x0), (2, .int x2), (3, .int x3)]) C.1 C.2.1 dX15_isOpen_27 hl (by decide) rfl (fun ls hl => ?_)
        refine lv_goto (tgt := 5) C.1 C.2.1 dX15_isOpen_29 (by decide) ?_
        exact hk_5 _ _ _ _ _ _ _ k_x0 hkm hW hZ _ (lv_sub hl [1, 2, 3, 0] rfl) hE
      · have hE := br_n hE c_4
        refine lv_iconst (v := (0 : Int32)) C.1 C.2.1 dX15_isOpen_21 (by decide) ?_
        exact x_iret C rfl (by decide) hW hZ hkm hE dX15_isOpen_22
set_option maxRecDepth 20000 in
theorem ct_X15_isOpen (l : Launch) (X : Ec) (F : Nat) {h : Hp} {x0 : Nat} {x1 : Int32} {x2 : Int32} {x3 : Int32} {o : Int32 × Hp} (k_x0 : hK h x0 = 12) (hE : sX15_isOpen F h x0 x1 x2 x3 = some o) : MetI l yX15_isOpen cX15_isOpen 5 (some .boolean) 0 0 X [.ref x0, .int x1, .int x2, .int x3] h o := by
  refine x_met (by decide) (Nat.le_of_ble_eq_true rfl) ?_
  intro p e s m below meth c ls C hl hW hZ
  have hl : lv_has ls 5 [(0, .ref x0), (1, .int x1), (2, .int x2), (3, .int x3)] := hl
  have hkm : Km h h := Km.rf h
  refine lv_iload_n C.1 C.2.1 dX15_isOpen_0 rfl (lv_at hl 1 rfl) ?_
  refine lv_iload_n C.1 C.2.1 dX15_isOpen_1 rfl (lv_at hl 3 rfl) ?_
  refine lv_iadd C.1 C.2.1 dX15_isOpen_2 ?_
  obtain ⟨v_1, ev_1, hE⟩ := nm_e2 hE
  refine x_nmI ev_1 ?_
  refine lv_istore (lv' := [(4, .int v_1), (0, .ref x0), (1, .int x1), (2, .int x2), (3, .int x3)]) C.1 C.2.1 dX15_isOpen_3 hl (by decide) rfl (fun ls hl => ?_)
  exact bX15_isOpen_5 C F k_x0 hkm hW hZ _ (lv_sub hl [1, 3, 4, 0] rfl) hE
set_option maxRecDepth 100000 in
theorem m_2556 : Cond.methodLink RX15 594 yX15_isOpen ∈ W0 := w0_in (List.mem_append_right _ (List.mem_of_getElem? (i := 2556) rfl)) rfl
set_option maxRecDepth 100000 in
theorem m_2557 : Cond.static yX15_isOpen ∈ W0 := w0_in (List.mem_append_right _ (List.mem_of_getElem? (i := 2557) rfl)) rfl
set_option maxRecDepth 100000 in
theorem m_2558 : Cond.code yX15_isOpen cX15_isOpen 5 (some .boolean) ∈ W0 := w0_in (List.mem_append_right _ (List.mem_of_getElem? (i := 2558) rfl)) rfl
theorem cw_X15_594 : cwd RX15 594 yX15_isOpen cX15_isOpen 5 (some .boolean) true 4 := ⟨m_2558, m_2556, m_19, m_2557, by decide, by decide, by decide +kernel⟩
theorem dX15_tryCastling_0 : decode cX15_tryCastling 0 = .ok (.iload_n 3, 1) := by decide +kernel
theorem dX15_tryCastling_1 : decode cX15_tryCastling 1 = .ok (.aload_n 0, 1) := by decide +kernel
theorem dX15_tryCastling_2 : decode cX15_tryCastling 2 = .ok (.getfield 382, 3) := by decide +kernel
theorem dX15_tryCastling_5 : decode cX15_tryCastling 5 = .ok (.idiv, 1) := by decide +kernel
theorem dX15_tryCastling_6 : decode cX15_tryCastling 6 = .ok (.iload_n 2, 1) := by decide +kernel
theorem dX15_tryCastling_7 : decode cX15_tryCastling 7 = .ok (.aload_n 0, 1) := by decide +kernel
theorem dX15_tryCastling_8 : decode cX15_tryCastling 8 = .ok (.getfield 382, 3) := by decide +kernel
theorem dX15_tryCastling_11 : decode cX15_tryCastling 11 = .ok (.idiv, 1) := by decide +kernel
theorem dX15_tryCastling_12 : decode cX15_tryCastling 12 = .ok (.if_icmp .ne 13, 3) := by decide +kernel
theorem dX15_tryCastling_15 : decode cX15_tryCastling 15 = .ok (.iload_n 3, 1) := by decide +kernel
theorem dX15_tryCastling_16 : decode cX15_tryCastling 16 = .ok (.iload_n 2, 1) := by decide +kernel
theorem dX15_tryCastling_17 : decode cX15_tryCastling 17 = .ok (.isub, 1) := by decide +kernel
theorem dX15_tryCastling_18 : decode cX15_tryCastling 18 = .ok (.invokestatic 551, 3) := by decide +kernel
theorem dX15_tryCastling_21 : decode cX15_tryCastling 21 = .ok (.iconst 2, 1) := by decide +kernel
theorem dX15_tryCastling_22 : decode cX15_tryCastling 22 = .ok (.if_icmp .eq 4, 3) := by decide +kernel
theorem dX15_tryCastling_25 : decode cX15_tryCastling 25 = .ok (.return_, 1) := by decide +kernel
theorem dX15_tryCastling_26 : decode cX15_tryCastling 26 = .ok (.iload_n 3, 1) := by decide +kernel
theorem dX15_tryCastling_27 : decode cX15_tryCastling 27 = .ok (.iload_n 2, 1) := by decide +kernel
theorem dX15_tryCastling_28 : decode cX15_tryCastling 28 = .ok (.if_icmp .le 7, 3) := by decide +kernel
theorem dX15_tryCastling_31 : decode cX15_tryCastling 31 = .ok (.iconst 1, 1) := by decide +kernel
theorem dX15_tryCastling_32 : decode cX15_tryCastling 32 = .ok (.goto 4, 3) := by decide +kernel
theorem dX15_tryCastling_35 : decode cX15_tryCastling 35 = .ok (.iconst (-1), 1) := by decide +kernel
theorem dX15_tryCastling_36 : decode cX15_tryCastling 36 = .ok (.istore 5, 2) := by decide +kernel
theorem dX15_tryCastling_38 : decode cX15_tryCastling 38 = .ok (.iload_n 2, 1) := by decide +kernel
theorem dX15_tryCastling_39 : decode cX15_tryCastling 39 = .ok (.iconst 3, 1) := by decide +kernel
theorem dX15_tryCastling_40 : decode cX15_tryCastling 40 = .ok (.iload 5, 2) := by decide +kernel
theorem dX15_tryCastling_42 : decode cX15_tryCastling 42 = .ok (.imul, 1) := by decide +kernel
theorem dX15_tryCastling_43 : decode cX15_tryCastling 43 = .ok (.iadd, 1) := by decide +kernel
theorem dX15_tryCastling_44 : decode cX15_tryCastling 44 = .ok (.istore 6, 2) := by decide +kernel
theorem dX15_tryCastling_46 : decode cX15_tryCastling 46 = .ok (.iload 6, 2) := by decide +kernel
theorem dX15_tryCastling_48 : decode cX15_tryCastling 48 = .ok (.ifCond .lt 159, 3) := by decide +kernel
theorem dX15_tryCastling_51 : decode cX15_tryCastling 51 = .ok (.iload 6, 2) := by decide +kernel
theorem dX15_tryCastling_53 : decode cX15_tryCastling 53 = .ok (.aload_n 0, 1) := by decide +kernel
theorem dX15_tryCastling_54 : decode cX15_tryCastling 54 = .ok (.getfield 384, 3) := by decide +kernel
theorem dX15_tryCastling_57 : decode cX15_tryCastling 57 = .ok (.if_icmp .ge 150, 3) := by decide +kernel
theorem dX15_tryCastling_60 : decode cX15_tryCastling 60 = .ok (.iload 6, 2) := by decide +kernel
theorem dX15_tryCastling_62 : decode cX15_tryCastling 62 = .ok (.aload_n 0, 1) := by decide +kernel
theorem dX15_tryCastling_63 : decode cX15_tryCastling 63 = .ok (.getfield 382, 3) := by decide +kernel
theorem dX15_tryCastling_66 : decode cX15_tryCastling 66 = .ok (.idiv, 1) := by decide +kernel
theorem dX15_tryCastling_67 : decode cX15_tryCastling 67 = .ok (.iload_n 2, 1) := by decide +kernel
theorem dX15_tryCastling_68 : decode cX15_tryCastling 68 = .ok (.aload_n 0, 1) := by decide +kernel
theorem dX15_tryCastling_69 : decode cX15_tryCastling 69 = .ok (.getfield 382, 3) := by decide +kernel
theorem dX15_tryCastling_72 : decode cX15_tryCastling 72 = .ok (.idiv, 1) := by decide +kernel
theorem dX15_tryCastling_73 : decode cX15_tryCastling 73 = .ok (.if_icmp .ne 134, 3) := by decide +kernel
theorem dX15_tryCastling_76 : decode cX15_tryCastling 76 = .ok (.aload_n 1, 1) := by decide +kernel
theorem dX15_tryCastling_77 : decode cX15_tryCastling 77 = .ok (.getfield 436, 3) := by decide +kernel
theorem dX15_tryCastling_80 : decode cX15_tryCastling 80 = .ok (.iload 6, 2) := by decide +kernel
theorem dX15_tryCastling_82 : decode cX15_tryCastling 82 = .ok (.lshr, 1) := by decide +kernel
theorem dX15_tryCastling_83 : decode cX15_tryCastling 83 = .ok (.lconst 1, 1) := by decide +kernel
theorem dX15_tryCastling_84 : decode cX15_tryCastling 84 = .ok (.land, 1) := by decide +kernel
theorem dX15_tryCastling_85 : decode cX15_tryCastling 85 = .ok (.lconst 1, 1) := by decide +kernel
theorem dX15_tryCastling_86 : decode cX15_tryCastling 86 = .ok (.lcmp, 1) := by decide +kernel
theorem dX15_tryCastling_87 : decode cX15_tryCastling 87 = .ok (.ifCond .ne 110, 3) := by decide +kernel
theorem dX15_tryCastling_90 : decode cX15_tryCastling 90 = .ok (.aload_n 1, 1) := by decide +kernel
theorem dX15_tryCastling_91 : decode cX15_tryCastling 91 = .ok (.getfield 396, 3) := by decide +kernel
theorem dX15_tryCastling_94 : decode cX15_tryCastling 94 = .ok (.iload 6, 2) := by decide +kernel
theorem dX15_tryCastling_96 : decode cX15_tryCastling 96 = .ok (.iaload, 1) := by decide +kernel
theorem dX15_tryCastling_97 : decode cX15_tryCastling 97 = .ok (.ifCond .le 100, 3) := by decide +kernel
theorem dX15_tryCastling_100 : decode cX15_tryCastling 100 = .ok (.aload_n 1, 1) := by decide +kernel
theorem dX15_tryCastling_101 : decode cX15_tryCastling 101 = .ok (.getfield 396, 3) := by decide +kernel
theorem dX15_tryCastling_104 : decode cX15_tryCastling 104 = .ok (.iload 6, 2) := by decide +kernel
theorem dX15_tryCastling_106 : decode cX15_tryCastling 106 = .ok (.iaload, 1) := by decide +kernel
theorem dX15_tryCastling_107 : decode cX15_tryCastling 107 = .ok (.invokestatic 489, 3) := by decide +kernel
theorem dX15_tryCastling_110 : decode cX15_tryCastling 110 = .ok (.aload_n 1, 1) := by decide +kernel
theorem dX15_tryCastling_111 : decode cX15_tryCastling 111 = .ok (.getfield 452, 3) := by decide +kernel
theorem dX15_tryCastling_114 : decode cX15_tryCastling 114 = .ok (.if_icmp .ne 83, 3) := by decide +kernel
theorem dX15_tryCastling_117 : decode cX15_tryCastling 117 = .ok (.aload_n 1, 1) := by decide +kernel
theorem dX15_tryCastling_118 : decode cX15_tryCastling 118 = .ok (.iload_n 2, 1) := by decide +kernel
theorem dX15_tryCastling_119 : decode cX15_tryCastling 119 = .ok (.iload 6, 2) := by decide +kernel
theorem dX15_tryCastling_121 : decode cX15_tryCastling 121 = .ok (.iload 5, 2) := by decide +kernel
theorem dX15_tryCastling_123 : decode cX15_tryCastling 123 = .ok (.invokestatic 594, 3) := by decide +kernel
theorem dX15_tryCastling_126 : decode cX15_tryCastling 126 = .ok (.ifCond .eq 71, 3) := by decide +kernel
theorem dX15_tryCastling_129 : decode cX15_tryCastling 129 = .ok (.aload_n 0, 1) := by decide +kernel
theorem dX15_tryCastling_130 : decode cX15_tryCastling 130 = .ok (.aload_n 1, 1) := by decide +kernel
theorem dX15_tryCastling_131 : decode cX15_tryCastling 131 = .ok (.iload_n 2, 1) := by decide +kernel
theorem dX15_tryCastling_132 : decode cX15_tryCastling 132 = .ok (.iconst 1, 1) := by decide +kernel
theorem dX15_tryCastling_133 : decode cX15_tryCastling 133 = .ok (.aload_n 1, 1) := by decide +kernel
theorem dX15_tryCastling_134 : decode cX15_tryCastling 134 = .ok (.getfield 452, 3) := by decide +kernel
theorem dX15_tryCastling_137 : decode cX15_tryCastling 137 = .ok (.isub, 1) := by decide +kernel
theorem dX15_tryCastling_138 : decode cX15_tryCastling 138 = .ok (.invokevirtual 512, 3) := by decide +kernel
theorem dX15_tryCastling_141 : decode cX15_tryCastling 141 = .ok (.ifCond .ne 55, 3) := by decide +kernel
theorem dX15_tryCastling_144 : decode cX15_tryCastling 144 = .ok (.aload_n 0, 1) := by decide +kernel
theorem dX15_tryCastling_145 : decode cX15_tryCastling 145 = .ok (.aload_n 1, 1) := by decide +kernel
theorem dX15_tryCastling_146 : decode cX15_tryCastling 146 = .ok (.iload_n 2, 1) := by decide +kernel
theorem dX15_tryCastling_147 : decode cX15_tryCastling 147 = .ok (.iload 5, 2) := by decide +kernel
theorem dX15_tryCastling_149 : decode cX15_tryCastling 149 = .ok (.iadd, 1) := by decide +kernel
theorem dX15_tryCastling_150 : decode cX15_tryCastling 150 = .ok (.iconst 1, 1) := by decide +kernel
theorem dX15_tryCastling_151 : decode cX15_tryCastling 151 = .ok (.aload_n 1, 1) := by decide +kernel
theorem dX15_tryCastling_152 : decode cX15_tryCastling 152 = .ok (.getfield 452, 3) := by decide +kernel
theorem dX15_tryCastling_155 : decode cX15_tryCastling 155 = .ok (.isub, 1) := by decide +kernel
theorem dX15_tryCastling_156 : decode cX15_tryCastling 156 = .ok (.invokevirtual 512, 3) := by decide +kernel
theorem dX15_tryCastling_159 : decode cX15_tryCastling 159 = .ok (.ifCond .ne 37, 3) := by decide +kernel
theorem dX15_tryCastling_162 : decode cX15_tryCastling 162 = .ok (.aload_n 0, 1) := by decide +kernel
theorem dX15_tryCastling_163 : decode cX15_tryCastling 163 = .ok (.aload_n 1, 1) := by decide +kernel
theorem dX15_tryCastling_164 : decode cX15_tryCastling 164 = .ok (.iload_n 3, 1) := by decide +kernel
theorem dX15_tryCastling_165 : decode cX15_tryCastling 165 = .ok (.iconst 1, 1) := by decide +kernel
theorem dX15_tryCastling_166 : decode cX15_tryCastling 166 = .ok (.aload_n 1, 1) := by decide +kernel
theorem dX15_tryCastling_167 : decode cX15_tryCastling 167 = .ok (.getfield 452, 3) := by decide +kernel
theorem dX15_tryCastling_170 : decode cX15_tryCastling 170 = .ok (.isub, 1) := by decide +kernel
theorem dX15_tryCastling_171 : decode cX15_tryCastling 171 = .ok (.invokevirtual 512, 3) := by decide +kernel
theorem dX15_tryCastling_174 : decode cX15_tryCastling 174 = .ok (.ifCond .ne 22, 3) := by decide +kernel
theorem dX15_tryCastling_177 : decode cX15_tryCastling 177 = .ok (.aload 4, 2) := by decide +kernel
theorem dX15_tryCastling_179 : decode cX15_tryCastling 179 = .ok (.iload_n 2, 1) := by decide +kernel
theorem dX15_tryCastling_180 : decode cX15_tryCastling 180 = .ok (.iload_n 3, 1) := by decide +kernel
theorem dX15_tryCastling_181 : decode cX15_tryCastling 181 = .ok (.aload_n 0, 1) := by decide +kernel
theorem dX15_tryCastling_182 : decode cX15_tryCastling 182 = .ok (.getfield 252, 3) := by decide +kernel
theorem dX15_tryCastling_185 : decode cX15_tryCastling 185 = .ok (.getfield 221, 3) := by decide +kernel
theorem dX15_tryCastling_188 : decode cX15_tryCastling 188 = .ok (.iconst (-1), 1) := by decide +kernel
theorem dX15_tryCastling_189 : decode cX15_tryCastling 189 = .ok (.iconst (-1), 1) := by decide +kernel
theorem dX15_tryCastling_190 : decode cX15_tryCastling 190 = .ok (.iconst 2, 1) := by decide +kernel
theorem dX15_tryCastling_191 : decode cX15_tryCastling 191 = .ok (.iload 6, 2) := by decide +kernel
theorem dX15_tryCastling_193 : decode cX15_tryCastling 193 = .ok (.invokevirtual 590, 3) := by decide +kernel
theorem dX15_tryCastling_196 : decode cX15_tryCastling 196 = .ok (.return_, 1) := by decide +kernel
theorem dX15_tryCastling_197 : decode cX15_tryCastling 197 = .ok (.iload 6, 2) := by decide +kernel
theorem dX15_tryCastling_199 : decode cX15_tryCastling 199 = .ok (.iload 5, 2) := by decide +kernel
theorem dX15_tryCastling_201 : decode cX15_tryCastling 201 = .ok (.iadd, 1) := by decide +kernel
theorem dX15_tryCastling_202 : decode cX15_tryCastling 202 = .ok (.istore 6, 2) := by decide +kernel
theorem dX15_tryCastling_204 : decode cX15_tryCastling 204 = .ok (.goto (-158), 3) := by decide +kernel
theorem dX15_tryCastling_207 : decode cX15_tryCastling 207 = .ok (.return_, 1) := by decide +kernel
set_option maxRecDepth 20000 in
theorem moX15_tryCastling_25 {o : Hp} {F : Nat} {h : Hp} (hE : sX15_tryCastling_25 F h  = some o) : Le h o := by
  exact le_some1 hE
set_option maxRecDepth 20000 in
theorem moX15_tryCastling_207 {o : Hp} {F : Nat} {h : Hp} (hE : sX15_tryCastling_207 F h  = some o) : Le h o := by
  exact le_some1 hE
set_option maxRecDepth 20000 in
theorem moX15_tryCastling_197 {o : Hp} {k_46 : Hp → Nat → Nat → Int32 → Int32 → Nat → Int32 → Int32 → Option (Hp)} {F : Nat} (mk_46 : ∀ (h : Hp) (x0 : Nat) (x1 : Nat) (x2 : Int32) (x3 : Int32) (x4 : Nat) (x5 : Int32) (x6 : Int32), k_46 h x0 x1 x2 x3 x4 x5 x6 = some o → Le h o) {h : Hp} {x0 : Nat} {x1 : Nat} {x2 : Int32} {x3 : Int32} {x4 : Nat} {x5 : Int32} {x6 : Int32} (hE : sX15_tryCastling_197 F k_46 h x0 x1 x2 x3 x4 x5 x6 = some o) : Le h o := by
  obtain ⟨v_1, ev_1, hE⟩ := nm_e2 hE
  exact mk_46 _ _ _ _ _ _ _ _ hE
set_option maxRecDepth 20000 in
theorem moX15_tryCastling_196 {o : Hp} {F : Nat} {h : Hp} (hE : sX15_tryCastling_196 F h  = some o) : Le h o := by
  exact le_some1 hE
set_option maxRecDepth 20000 in
theorem moX15_tryCastling_46 {o : Hp} {F : Nat} : ∀ (f : Nat) {h : Hp} {x0 : Nat} {x1 : Nat} {x2 : Int32} {x3 : Int32} {x4 : Nat} {x5 : Int32} {x6 : Int32}, sX15_tryCastling_46 F f h x0 x1 x2 x3 x4 x5 x6 = some o → Le h o := by
  intro f
  induction f with
  | zero =>
    intro h x0 x1 x2 x3 x4 x5 x6 hE
    rw [sX15_tryCastling_46] at hE
    cases hE
  | succ f ih =>
    intro h x0 x1 x2 x3 x4 x5 x6 hE
    rw [sX15_tryCastling_46] at hE
    have mk_46 : ∀ (h : Hp) (x0 : Nat) (x1 : Nat) (x2 : Int32) (x3 : Int32) (x4 : Nat) (x5 : Int32) (x6 : Int32), sX15_tryCastling_46 F f h x0 x1 x2 x3 x4 x5 x6 = some o → Le h o := fun h x0 x1 x2 x3 x4 x5 x6 hE => ih hE
    rcases br_e hE with ⟨_, hE⟩ | ⟨_, hE⟩
    · exact moX15_tryCastling_207 hE
    · rcases br_e hE with ⟨_, hE⟩ | ⟨_, hE⟩
      · exact moX15_tryCastling_207 hE
      · obtain ⟨g_3, hE⟩ := gd_e hE
        obtain ⟨g_4, hE⟩ := gd_e hE
        rcases br_e hE with ⟨_, hE⟩ | ⟨_, hE⟩
        · rcases br_e hE with ⟨_, hE⟩ | ⟨_, hE⟩
          · obtain ⟨r_7, er_7, hE⟩ := cl_e hE
            obtain ⟨g_8, hE⟩ := gd_e hE
            rcases br_e hE with ⟨_, hE⟩ | ⟨_, hE⟩
            · exact moX15_tryCastling_197 mk_46 hE
            · obtain ⟨r_10, er_10, hE⟩ := cl_e hE
              obtain ⟨g_11, hE⟩ := gd_e hE
              obtain ⟨o_12, eo_12, hE⟩ := cl_e hE
              refine (moX15_sideOf eo_12).tr ?_
              rcases br_e hE with ⟨_, hE⟩ | ⟨_, hE⟩
              · obtain ⟨o_14, eo_14, hE⟩ := cl_e hE
                refine (moX15_isOpen eo_14).tr ?_
                rcases br_e hE with ⟨_, hE⟩ | ⟨_, hE⟩
                · exact moX15_tryCastling_197 mk_46 hE
                · obtain ⟨o_16, eo_16, hE⟩ := cl_e hE
                  refine (moX15_isAttacked eo_16).tr ?_
                  rcases br_e hE with ⟨_, hE⟩ | ⟨_, hE⟩
                  · obtain ⟨o_18, eo_18, hE⟩ := cl_e hE
                    refine (moX15_isAttacked eo_18).tr ?_
                    rcases br_e hE with ⟨_, hE⟩ | ⟨_, hE⟩
                    · obtain ⟨o_20, eo_20, hE⟩ := cl_e hE
                      refine (moX15_isAttacked eo_20).tr ?_
                      rcases br_e hE with ⟨_, hE⟩ | ⟨_, hE⟩
                      · obtain ⟨r_22, er_22, hE⟩ := cl_e hE
                        obtain ⟨o_23, eo_23, hE⟩ := cl_e hE
                        refine (moX13_add eo_23).tr ?_
                        exact moX15_tryCastling_196 hE
                      · exact moX15_tryCastling_196 hE
                    · exact moX15_tryCastling_196 hE
                  · exact moX15_tryCastling_196 hE
              · exact moX15_tryCastling_197 mk_46 hE
          · exact moX15_tryCastling_197 mk_46 hE
        · exact moX15_tryCastling_207 hE
set_option maxRecDepth 20000 in
theorem moX15_tryCastling_36 {o : Hp} {F : Nat} {h : Hp} {x0 : Nat} {x1 : Nat} {x2 : Int32} {x3 : Int32} {x4 : Nat} {t0 : Int32} (hE : sX15_tryCastling_36 F h x0 x1 x2 x3 x4 t0 = some o) : Le h o := by
  obtain ⟨v_1, ev_1, hE⟩ := nm_e2 hE
  exact moX15_tryCastling_46 _ hE
set_option maxRecDepth 20000 in
theorem moX15_tryCastling {o : Hp} {F : Nat} {h : Hp} {x0 : Nat} {x1 : Nat} {x2 : Int32} {x3 : Int32} {x4 : Nat} (hE : sX15_tryCastling F h x0 x1 x2 x3 x4 = some o) : Le h o := by
  obtain ⟨g_1, hE⟩ := gd_e hE
  obtain ⟨g_2, hE⟩ := gd_e hE
  rcases br_e hE with ⟨_, hE⟩ | ⟨_, hE⟩
  · rcases br_e hE with ⟨_, hE⟩ | ⟨_, hE⟩
    · rcases br_e hE with ⟨_, hE⟩ | ⟨_, hE⟩
      · exact moX15_tryCastling_36 hE
      · exact moX15_tryCastling_36 hE
    · exact moX15_tryCastling_25 hE
  · exact moX15_tryCastling_25 hE
set_option maxRecDepth 20000 in
theorem bX15_tryCastling_25 {p : Program} {l : Launch} {e : Env} {s : State} {m : MethodId} {args : Array Value} {below : List Frame} {meth : Method} {c : Code} {X : Ec} {h0 : Hp} {o : Hp} {F : Nat} (C : Cx X p s m args meth c RX15 cX15_tryCastling 7 none "tryCastling") {h : Hp} {H : Heap} {locs : List Loc} (hkm : Km h0 h) (hW : Wx X h H) (hZ : va_S (aA (eB X)) s.heap H locs) (ls : Array Slot) (hl : lv_has ls 7 []) (hE : sX15_tryCastling_25 F h  = some o) : W p l e (rm 4 106) s m args below meth c H locs 0 0 (MQ below (QV X h0 o) args s 0 0 (aA (eB X))) (F0 m 25 ls []) := by
  exact x_vret C rfl hW hZ hkm hE dX15_tryCastling_25
set_option maxRecDepth 20000 in
theorem bX15_tryCastling_207 {p : Program} {l : Launch} {e : Env} {s : State} {m : MethodId} {args : Array Value} {below : List Frame} {meth : Method} {c : Code} {X : Ec} {h0 : Hp} {o : Hp} {F : Nat} (C : Cx X p s m args meth c RX15 cX15_tryCastling 7 none "tryCastling") {h : Hp} {H : Heap} {locs : List Loc} (hkm : Km h0 h) (hW : Wx X h H) (hZ : va_S (aA (eB X)) s.heap H locs) (ls : Array Slot) (hl : lv_has ls 7 []) (hE : sX15_tryCastling_207 F h  = some o) : W p l e (rm 4 106) s m args below meth c H locs 0 0 (MQ below (QV X h0 o) args s 0 0 (aA (eB X))) (F0 m 207 ls []) := by
  exact x_vret C rfl hW hZ hkm hE dX15_tryCastling_207
set_option maxRecDepth 20000 in
theorem bX15_tryCastling_197 {p : Program} {l : Launch} {e : Env} {s : State} {m : MethodId} {args : Array Value} {below : List Frame} {meth : Method} {c : Code} {X : Ec} {h0 : Hp} {o : Hp} {k_46 : Hp → Nat → Nat → Int32 → Int32 → Nat → Int32 → Int32 → Option (Hp)} {F : Nat} (C : Cx X p s m args meth c RX15 cX15_tryCastling 7 none "tryCastling") (hk_46 : ∀ (h : Hp) (x0 : Nat) (x1 : Nat) (x2 : Int32) (x3 : Int32) (x4 : Nat) (x5 : Int32) (x6 : Int32) (H : Heap) (locs : List Loc), hK h x0 = 15 → hK h x1 = 12 → hK h x4 = 13 → Km h0 h → Wx X h H → va_S (aA (eB X)) s.heap H locs → ∀ (ls : Array Slot), lv_has ls 7 [(0, .ref x0), (1, .ref x1), (2, .int x2), (3, .int x3), (4, .ref x4), (5, .int x5), (6, .int x6)] → k_46 h x0 x1 x2 x3 x4 x5 x6 = some o → W p l e (rm 4 106) s m args below meth c H locs 0 0 (MQ below (QV X h0 o) args s 0 0 (aA (eB X))) (F0 m 46 ls [])) {h : Hp} {x0 : Nat} {x1 : Nat} {x2 : Int32} {x3 : Int32} {x4 : Nat} {x5 : Int32} {x6 : Int32} {H : Heap} {locs : List Loc} (k_x0 : hK h x0 = 15) (k_x1 : hK h x1 = 12) (k_x4 : hK h x4 = 13) (hkm : Km h0 h) (hW : Wx X h H) (hZ : va_S (aA (eB X)) s.heap H locs) (ls : Array Slot) (hl : lv_has ls 7 [(0, .ref x0), (1, .ref x1), (2, .int x2), (3, .int x3), (4, .ref x4), (5, .int x5), (6, .int x6)]) (hE : sX15_tryCastling_197 F k_46 h x0 x1 x2 x3 x4 x5 x6 = some o) : W p l e (rm 4 106) s m args below meth c H locs 0 0 (MQ below (QV X h0 o) args s 0 0 (aA (eB X))) (F0 m 197 ls []) := by
  refine lv_iload C.1 C.2.1 dX15_tryCastling_197 (lv_at hl 6 rfl) ?_
  refine lv_iload C.1 C.2.1 dX15_tryCastling_199 (lv_at hl 5 rfl) ?_
  refine lv_iadd C.1 C.2.1 dX15_tryCastling_201 ?_
  obtain ⟨v_1, ev_1, hE⟩ := nm_e2 hE
  refine x_nmI ev_1 ?_
  refine lv_istore (lv' := [(6, .int v_1), (0, .ref x0), (1, .ref x1), (2, .int x2), (3, .int x3), (4, .ref x4), (5, .int x5)]) C.1 C.2.1 dX15_tryCastling_202 hl (by decide) rfl (fun ls hl => ?_)
  refine lv_goto (tgt := 46) C.1 C.2.1 dX15_tryCastling_204 (by decide) ?_
  exact hk_46 _ _ _ _ _ _ _ _ _ _ k_x0 k_x1 k_x4 hkm hW hZ _ (lv_sub hl [1, 2, 3, 4, 5, 6, 0] rfl) hE
set_option maxRecDepth 20000 in
theorem bX15_tryCastling_196 {p : Program} {l : Launch} {e : Env} {s : State} {m : MethodId} {args : Array Value} {below : List Frame} {meth : Method} {c : Code} {X : Ec} {h0 : Hp} {o : Hp} {F : Nat} (C : Cx X p s m args meth c RX15 cX15_tryCastling 7 none "tryCastling") {h : Hp} {H : Heap} {locs : List Loc} (hkm : Km h0 h) (hW : Wx X h H) (hZ : va_S (aA (eB X)) s.heap H locs) (ls : Array Slot) (hl : lv_has ls 7 []) (hE : sX15_tryCastling_196 F h  = some o) : W p l e (rm 4 106) s m args below meth c H locs 0 0 (MQ below (QV X h0 o) args s 0 0 (aA (eB X))) (F0 m 196 ls []) := by
  exact x_vret C rfl hW hZ hkm hE dX15_tryCastling_196
set_option maxRecDepth 20000 in
theorem bX15_tryCastling_46 {p : Program} {l : Launch} {e : Env} {s : State} {m : MethodId} {args : Array Value} {below : List Frame} {meth : Method} {c : Code} {X : Ec} {h0 : Hp} {o : Hp} {F : Nat} (C : Cx X p s m args meth c RX15 cX15_tryCastling 7 none "tryCastling") : ∀ (f : Nat) {h : Hp} {x0 : Nat} {x1 : Nat} {x2 : Int32} {x3 : Int32} {x4 : Nat} {x5 : Int32} {x6 : Int32} {H : Heap} {locs : List Loc} (k_x0 : hK h x0 = 15) (k_x1 : hK h x1 = 12) (k_x4 : hK h x4 = 13), Km h0 h → Wx X h H → va_S (aA (eB X)) s.heap H locs → ∀ (ls : Array Slot), lv_has ls 7 [(0, .ref x0), (1, .ref x1), (2, .int x2), (3, .int x3), (4, .ref x4), (5, .int x5), (6, .int x6)] → sX15_tryCastling_46 F f h x0 x1 x2 x3 x4 x5 x6 = some o → W p l e (rm 4 106) s m args below meth c H locs 0 0 (MQ below (QV X h0 o) args s 0 0 (aA (eB X))) (F0 m 46 ls []) := by
  intro f
  induction f with
  | zero =>
    intro h x0 x1 x2 x3 x4 x5 x6 H locs k_x0 k_x1 k_x4 hkm hW hZ ls hl hE
    rw [sX15_tryCastling_46] at hE
    cases hE
  | succ f ih =>
    intro h x0 x1 x2 x3 x4 x5 x6 H locs k_x0 k_x1 k_x4 hkm hW hZ ls hl hE
    rw [sX15_tryCastling_46] at hE
    have hk_46 : ∀ (h : Hp) (x0 : Nat) (x1 : Nat) (x2 : Int32) (x3 : Int32) (x4 : Nat) (x5 : Int32) (x6 : Int32) (H : Heap) (locs : List Loc), hK h x0 = 15 → hK h x1 = 12 → hK h x4 = 13 → Km h0 h → Wx X h H → va_S (aA (eB X)) s.heap H locs → ∀ (ls : Array Slot), lv_has ls 7 [(0, .ref x0), (1, .ref x1), (2, .int x2), (3, .int x3), (4, .ref x4), (5, .int x5), (6, .int x6)] → sX15_tryCastling_46 F f h x0 x1 x2 x3 x4 x5 x6 = some o → W p l e (rm 4 106) s m args below meth c H locs 0 0 (MQ below (QV X h0 o) args s 0 0 (aA (eB X))) (F0 m 46 ls []) := fun h x0 x1 x2 x3 x4 x5 x6 H locs k_x0 k_x1 k_x4 a b c ls hl hE => ih k_x0 k_x1 k_x4 a b c ls hl hE
    refine lv_iload C.1 C.2.1 dX15_tryCastling_46 (lv_at hl 6 rfl) ?_
    refine lv_if_lt (tgt := 207) C.1 C.2.1 dX15_tryCastling_48 (by decide) (fun c_1 => ?_) (fun c_1 => ?_)
    · have hE := br_p hE c_1
      exact bX15_tryCastling_207 C hkm hW hZ _ (lv_sub hl [] rfl) hE
    · have hE := br_n hE c_1
      refine lv_iload C.1 C.2.1 dX15_tryCastling_51 (lv_at hl 6 rfl) ?_
      refine lv_aload_n C.1 C.2.1 dX15_tryCastling_53 rfl (lv_at hl 0 rfl) ?_
      refine gf_X15_384 C hW k_x0 dX15_tryCastling_54 ?_
      refine lv_icmp_ge (tgt := 207) C.1 C.2.1 dX15_tryCastling_57 (by decide) (fun c_2 => ?_) (fun c_2 => ?_)
      · have hE := br_p hE c_2
        exact bX15_tryCastling_207 C hkm hW hZ _ (lv_sub hl [] rfl) hE
      · have hE := br_n hE c_2
        refine lv_iload C.1 C.2.1 dX15_tryCastling_60 (lv_at hl 6 rfl) ?_
        refine lv_aload_n C.1 C.2.1 dX15_tryCastling_62 rfl (lv_at hl 0 rfl) ?_
        refine gf_X15_382 C hW k_x0 dX15_tryCastling_63 ?_
        obtain ⟨g_3, hE⟩ := gd_e hE
        refine lv_idiv C.1 C.2.1 dX15_tryCastling_66 g_3 ?_
        refine lv_iload_n C.1 C.2.1 dX15_tryCastling_67 rfl (lv_at hl 2 rfl) ?_
        refine lv_aload_n C.1 C.2.1 dX15_tryCastling_68 rfl (lv_at hl 0 rfl) ?_
        refine gf_X15_382 C hW k_x0 dX15_tryCastling_69 ?_
        obtain ⟨g_4, hE⟩ := gd_e hE
        refine lv_idiv C.1 C.2.1 dX15_tryCastling_72 g_4 ?_
        refine lv_icmp_ne (tgt := 207) C.1 C.2.1 dX15_tryCastling_73 (by decide) (fun c_5 => ?_) (fun c_5 => ?_)
        · have hE := br_n hE c_5
          exact bX15_tryCastling_207 C hkm hW hZ _ (lv_sub hl [] rfl) hE
        · have hE := br_p hE c_5
          refine lv_aload_n C.1 C.2.1 dX15_tryCastling_76 rfl (lv_at hl 1 rfl) ?_
          refine gf_X15_436 C hW k_x1 dX15_tryCastling_77 ?_
          refine lv_iload C.1 C.2.1 dX15_tryCastling_80 (lv_at hl 6 rfl) ?_
          refine lv_lshr C.1 C.2.1 dX15_tryCastling_82 rfl ?_
          refine lv_lconst (v := (1 : Int64)) C.1 C.2.1 dX15_tryCastling_83 (by decide) ?_
          refine lv_land C.1 C.2.1 dX15_tryCastling_84 ?_
          refine lv_lconst (v := (1 : Int64)) C.1 C.2.1 dX15_tryCastling_85 (by decide) ?_
          refine W.lcmp C.1 C.2.1 dX15_tryCastling_86 ?_
          refine lv_if_ne (tgt := 197) C.1 C.2.1 dX15_tryCastling_87 (by decide) (fun c_6 => ?_) (fun c_6 => ?_)
          · have hE := br_n hE c_6
            exact bX15_tryCastling_197 C hk_46 k_x0 k_x1 k_x4 hkm hW hZ _ (lv_sub hl [0, 1, 2, 3, 4, 5, 6] rfl) hE
          · have hE := br_p hE c_6
            refine lv_aload_n C.1 C.2.1 dX15_tryCastling_90 rfl (lv_at hl 1 rfl) ?_
            obtain ⟨r_7, er_7, hE⟩ := cl_e hE
            refine gf_X15_396 C hW k_x1 er_7 dX15_tryCastling_91 (fun k_r_7 => ?_)
            refine lv_iload C.1 C.2.1 dX15_tryCastling_94 (lv_at hl 6 rfl) ?_
            obtain ⟨g_8, hE⟩ := gd_e hE
            refine y_iald C hW k_r_7 g_8 dX15_tryCastling_96 ?_
            refine lv_if_le (tgt := 197) C.1 C.2.1 dX15_tryCastling_97 (by decide) (fun c_9 => ?_) (fun c_9 => ?_)
            · have hE := br_p hE c_9
              exact bX15_tryCastling_197 C hk_46 k_x0 k_x1 k_x4 hkm hW hZ _ (lv_sub hl [0, 1, 2, 3, 4, 5, 6] rfl) hE
            · have hE := br_n hE c_9
              refine lv_aload_n C.1 C.2.1 dX15_tryCastling_100 rfl (lv_at hl 1 rfl) ?_
              obtain ⟨r_10, er_10, hE⟩ := cl_e hE
              refine gf_X15_396 C hW k_x1 er_10 dX15_tryCastling_101 (fun k_r_10 => ?_)
              refine lv_iload C.1 C.2.1 dX15_tryCastling_104 (lv_at hl 6 rfl) ?_
              obtain ⟨g_11, hE⟩ := gd_e hE
              refine y_iald C hW k_r_10 g_11 dX15_tryCastling_106 ?_
              obtain ⟨o_12, eo_12, hE⟩ := cl_e hE
              refine x_kI (o := o_12) (z_runS (As := [.int (hI h r_10 x6.toNatClampNeg)]) (rest := []) C (ct_X15_sideOf l X eo_12) cw_X15_489 hW hZ rfl hl.1 (Nat.le_of_ble_eq_true rfl) rfl dX15_tryCastling_107 ⟨Nat.le_of_ble_eq_true rfl, Nat.le_of_ble_eq_true rfl⟩ ⟨Nat.le_refl _, Nat.le_refl _⟩) hZ (fun _ _ hW km hZ => ?_)
              replace hkm := hkm.tr km
              replace k_x0 := km.at k_x0 (by decide)
              replace k_x1 := km.at k_x1 (by decide)
              replace k_x4 := km.at k_x4 (by decide)
              refine lv_aload_n C.1 C.2.1 dX15_tryCastling_110 rfl (lv_at hl 1 rfl) ?_
              refine gf_X15_452 C hW k_x1 dX15_tryCastling_111 ?_
              refine lv_icmp_ne (tgt := 197) C.1 C.2.1 dX15_tryCastling_114 (by decide) (fun c_13 => ?_) (fun c_13 => ?_)
              · have hE := br_n hE c_13
                exact bX15_tryCastling_197 C hk_46 k_x0 k_x1 k_x4 hkm hW hZ _ (lv_sub hl [0, 1, 2, 3, 4, 5, 6] rfl) hE
              · have hE := br_p hE c_13
                refine lv_aload_n C.1 C.2.1 dX15_tryCastling_117 rfl (lv_at hl 1 rfl) ?_
                refine lv_iload_n C.1 C.2.1 dX15_tryCastling_118 rfl (lv_at hl 2 rfl) ?_
                refine lv_iload C.1 C.2.1 dX15_tryCastling_119 (lv_at hl 6 rfl) ?_
                refine lv_iload C.1 C.2.1 dX15_tryCastling_121 (lv_at hl 5 rfl) ?_
                obtain ⟨o_14, eo_14, hE⟩ := cl_e hE
                refine x_kI (o := o_14) (z_runS (As := [.ref x1, .int x2, .int x6, .int x5]) (rest := []) C (ct_X15_isOpen l X F k_x1 eo_14) cw_X15_594 hW hZ rfl hl.1 (Nat.le_of_ble_eq_true rfl) rfl dX15_tryCastling_123 ⟨Nat.le_of_ble_eq_true rfl, Nat.le_of_ble_eq_true rfl⟩ ⟨Nat.le_refl _, Nat.le_refl _⟩) hZ (fun _ _ hW km hZ => ?_)
                replace hkm := hkm.tr km
                replace k_x0 := km.at k_x0 (by decide)
                replace k_x1 := km.at k_x1 (by decide)
                replace k_x4 := km.at k_x4 (by decide)
                refine lv_if_eq (tgt := 197) C.1 C.2.1 dX15_tryCastling_126 (by decide) (fun c_15 => ?_) (fun c_15 => ?_)
                · have hE := br_p hE c_15
                  exact bX15_tryCastling_197 C hk_46 k_x0 k_x1 k_x4 hkm hW hZ _ (lv_sub hl [0, 1, 2, 3, 4, 5, 6] rfl) hE
                · have hE := br_n hE c_15
                  refine lv_aload_n C.1 C.2.1 dX15_tryCastling_129 rfl (lv_at hl 0 rfl) ?_
                  refine lv_aload_n C.1 C.2.1 dX15_tryCastling_130 rfl (lv_at hl 1 rfl) ?_
                  refine lv_iload_n C.1 C.2.1 dX15_tryCastling_131 rfl (lv_at hl 2 rfl) ?_
                  refine lv_iconst (v := (1 : Int32)) C.1 C.2.1 dX15_tryCastling_132 (by decide) ?_
                  refine lv_aload_n C.1 C.2.1 dX15_tryCastling_133 rfl (lv_at hl 1 rfl) ?_
                  refine gf_X15_452 C hW k_x1 dX15_tryCastling_134 ?_
                  refine lv_isub C.1 C.2.1 dX15_tryCastling_137 ?_
                  obtain ⟨o_16, eo_16, hE⟩ := cl_e hE
                  refine x_kI (o := o_16) (z_runV (As := [.ref x1, .int x2, .int ((1 : Int32) - (hI o_14.2 x1 1))]) (rest := []) C (ct_X15_isAttacked l X F k_x0 k_x1 eo_16) cw_X15_512 hW hZ k_x0 (by decide) rfl rfl rfl hl.1 (Nat.le_of_ble_eq_true rfl) rfl dX15_tryCastling_138 ⟨Nat.le_of_ble_eq_true rfl, Nat.le_of_ble_eq_true rfl⟩ ⟨Nat.le_refl _, Nat.le_refl _⟩) hZ (fun _ _ hW km hZ => ?_)
                  replace hkm := hkm.tr km
                  replace k_x0 := km.at k_x0 (by decide)
                  replace k_x1 := km.at k_x1 (by decide)
                  replace k_x4 := km.at k_x4 (by decide)
                  refine lv_if_ne (tgt := 196) C.1 C.2.1 dX15_tryCastling_141 (by decide) (fun c_17 => ?_) (fun c_17 => ?_)
                  · have hE := br_n hE c_17
                    exact bX15_tryCastling_196 C hkm hW hZ _ (lv_sub hl [] rfl) hE
                  · have hE := br_p hE c_17
                    refine lv_aload_n C.1 C.2.1 dX15_tryCastling_144 rfl (lv_at hl 0 rfl) ?_
                    refine lv_aload_n C.1 C.2.1 dX15_tryCastling_145 rfl (lv_at hl 1 rfl) ?_
                    refine lv_iload_n C.1 C.2.1 dX15_tryCastling_146 rfl (lv_at hl 2 rfl) ?_
                    refine lv_iload C.1 C.2.1 dX15_tryCastling_147 (lv_at hl 5 rfl) ?_
                    refine lv_iadd C.1 C.2.1 dX15_tryCastling_149 ?_
                    refine lv_iconst (v := (1 : Int32)) C.1 C.2.1 dX15_tryCastling_150 (by decide) ?_
                    refine lv_aload_n C.1 C.2.1 dX15_tryCastling_151 rfl (lv_at hl 1 rfl) ?_
                    refine gf_X15_452 C hW k_x1 dX15_tryCastling_152 ?_
                    refine lv_isub C.1 C.2.1 dX15_tryCastling_155 ?_
                    obtain ⟨o_18, eo_18, hE⟩ := cl_e hE
                    refine x_kI (o := o_18) (z_runV (As := [.ref x1, .int (x2 + x5), .int ((1 : Int32) - (hI o_16.2 x1 1))]) (rest := []) C (ct_X15_isAttacked l X F k_x0 k_x1 eo_18) cw_X15_512 hW hZ k_x0 (by decide) rfl rfl rfl hl.1 (Nat.le_of_ble_eq_true rfl) rfl dX15_tryCastling_156 ⟨Nat.le_of_ble_eq_true rfl, Nat.le_of_ble_eq_true rfl⟩ ⟨Nat.le_refl _, Nat.le_refl _⟩) hZ (fun _ _ hW km hZ => ?_)
                    replace hkm := hkm.tr km
                    replace k_x0 := km.at k_x0 (by decide)
                    replace k_x1 := km.at k_x1 (by decide)
                    replace k_x4 := km.at k_x4 (by decide)
                    refine lv_if_ne (tgt := 196) C.1 C.2.1 dX15_tryCastling_159 (by decide) (fun c_19 => ?_) (fun c_19 => ?_)
                    · have hE := br_n hE c_19
                      exact bX15_tryCastling_196 C hkm hW hZ _ (lv_sub hl [] rfl) hE
                    · have hE := br_p hE c_19
                      refine lv_aload_n C.1 C.2.1 dX15_tryCastling_162 rfl (lv_at hl 0 rfl) ?_
                      refine lv_aload_n C.1 C.2.1 dX15_tryCastling_163 rfl (lv_at hl 1 rfl) ?_
                      refine lv_iload_n C.1 C.2.1 dX15_tryCastling_164 rfl (lv_at hl 3 rfl) ?_
                      refine lv_iconst (v := (1 : Int32)) C.1 C.2.1 dX15_tryCastling_165 (by decide) ?_
                      refine lv_aload_n C.1 C.2.1 dX15_tryCastling_166 rfl (lv_at hl 1 rfl) ?_
                      refine gf_X15_452 C hW k_x1 dX15_tryCastling_167 ?_
                      refine lv_isub C.1 C.2.1 dX15_tryCastling_170 ?_
                      obtain ⟨o_20, eo_20, hE⟩ := cl_e hE
                      refine x_kI (o := o_20) (z_runV (As := [.ref x1, .int x3, .int ((1 : Int32) - (hI o_18.2 x1 1))]) (rest := []) C (ct_X15_isAttacked l X F k_x0 k_x1 eo_20) cw_X15_512 hW hZ k_x0 (by decide) rfl rfl rfl hl.1 (Nat.le_of_ble_eq_true rfl) rfl dX15_tryCastling_171 ⟨Nat.le_of_ble_eq_true rfl, Nat.le_of_ble_eq_true rfl⟩ ⟨Nat.le_refl _, Nat.le_refl _⟩) hZ (fun _ _ hW km hZ => ?_)
                      replace hkm := hkm.tr km
                      replace k_x0 := km.at k_x0 (by decide)
                      replace k_x1 := km.at k_x1 (by decide)
                      replace k_x4 := km.at k_x4 (by decide)
                      refine lv_if_ne (tgt := 196) C.1 C.2.1 dX15_tryCastling_174 (by decide) (fun c_21 => ?_) (fun c_21 => ?_)
                      · have hE := br_n hE c_21
                        exact bX15_tryCastling_196 C hkm hW hZ _ (lv_sub hl [] rfl) hE
                      · have hE := br_p hE c_21
                        refine lv_aload C.1 C.2.1 dX15_tryCastling_177 (lv_at hl 4 rfl) ?_
                        refine lv_iload_n C.1 C.2.1 dX15_tryCastling_179 rfl (lv_at hl 2 rfl) ?_
                        refine lv_iload_n C.1 C.2.1 dX15_tryCastling_180 rfl (lv_at hl 3 rfl) ?_
                        refine lv_aload_n C.1 C.2.1 dX15_tryCastling_181 rfl (lv_at hl 0 rfl) ?_
                        obtain ⟨r_22, er_22, hE⟩ := cl_e hE
                        refine gf_X15_252 C hW k_x0 er_22 dX15_tryCastling_182 (fun k_r_22 => ?_)
                        refine gf_X15_221 C hW k_r_22 dX15_tryCastling_185 ?_
                        refine lv_iconst (v := (-1 : Int32)) C.1 C.2.1 dX15_tryCastling_188 (by decide) ?_
                        refine lv_iconst (v := (-1 : Int32)) C.1 C.2.1 dX15_tryCastling_189 (by decide) ?_
                        refine lv_iconst (v := (2 : Int32)) C.1 C.2.1 dX15_tryCastling_190 (by decide) ?_
                        refine lv_iload C.1 C.2.1 dX15_tryCastling_191 (lv_at hl 6 rfl) ?_
                        obtain ⟨o_23, eo_23, hE⟩ := cl_e hE
                        refine x_kV (o := o_23) (z_runV (As := [.int x2, .int x3, .int (hI o_20.2 r_22 10), .int (-1 : Int32), .int (-1 : Int32), .int (2 : Int32), .int x6]) (rest := []) C (ct_X13_add l X k_x4 eo_23) cw_X15_590 hW hZ k_x4 (by decide) rfl rfl rfl hl.1 (Nat.le_of_ble_eq_true rfl) rfl dX15_tryCastling_193 ⟨Nat.le_of_ble_eq_true rfl, Nat.le_of_ble_eq_true rfl⟩ ⟨Nat.le_refl _, Nat.le_refl _⟩) hZ (fun _ _ hW km hZ => ?_)
                        replace hkm := hkm.tr km
                        replace k_x0 := km.at k_x0 (by decide)
                        replace k_x1 := km.at k_x1 (by decide)
                        replace k_x4 := km.at k_x4 (by decide)
                        exact bX15_tryCastling_196 C hkm hW hZ _ (lv_sub hl [] rfl) hE
set_option maxRecDepth 20000 in
theorem bX15_tryCastling_36 {p : Program} {l : Launch} {e : Env} {s : State} {m : MethodId} {args : Array Value} {below : List Frame} {meth : Method} {c : Code} {X : Ec} {h0 : Hp} {o : Hp} {F : Nat} (C : Cx X p s m args meth c RX15 cX15_tryCastling 7 none "tryCastling") {h : Hp} {x0 : Nat} {x1 : Nat} {x2 : Int32} {x3 : Int32} {x4 : Nat} {t0 : Int32} {H : Heap} {locs : List Loc} (k_x0 : hK h x0 = 15) (k_x1 : hK h x1 = 12) (k_x4 : hK h x4 = 13) (hkm : Km h0 h) (hW : Wx X h H) (hZ : va_S (aA (eB X)) s.heap H locs) (ls : Array Slot) (hl : lv_has ls 7 [(0, .ref x0), (1, .ref x1), (2, .int x2), (3, .int x3), (4, .ref x4)]) (hE : sX15_tryCastling_36 F h x0 x1 x2 x3 x4 t0 = some o) : W p l e (rm 4 106) s m args below meth c H locs 0 0 (MQ below (QV X h0 o) args s 0 0 (aA (eB X))) (F0 m 36 ls [.int t0]) := by
  refine lv_istore (lv' := [(5, .int t0), (0, .ref x0), (1, .ref x1), (2, .int x2), (3, .int x3), (4, .ref x4)]) C.1 C.2.1 dX15_tryCastling_36 hl (by decide) rfl (fun ls hl => ?_)
  refine lv_iload_n C.1 C.2.1 dX15_tryCastling_38 rfl (lv_at hl 3 rfl) ?_
  refine lv_iconst (v := (3 : Int32)) C.1 C.2.1 dX15_tryCastling_39 (by decide) ?_
  refine lv_iload C.1 C.2.1 dX15_tryCastling_40 (lv_at hl 0 rfl) ?_
  refine lv_imul C.1 C.2.1 dX15_tryCastling_42 ?_
  refine lv_iadd C.1 C.2.1 dX15_tryCastling_43 ?_
  obtain ⟨v_1, ev_1, hE⟩ := nm_e2 hE
  refine x_nmI ev_1 ?_
  refine lv_istore (lv' := [(6, .int v_1), (5, .int t0), (0, .ref x0), (1, .ref x1), (2, .int x2), (3, .int x3), (4, .ref x4)]) C.1 C.2.1 dX15_tryCastling_44 hl (by decide) rfl (fun ls hl => ?_)
  exact bX15_tryCastling_46 C F k_x0 k_x1 k_x4 hkm hW hZ _ (lv_sub hl [2, 3, 4, 5, 6, 1, 0] rfl) hE
set_option maxRecDepth 20000 in
theorem ct_X15_tryCastling (l : Launch) (X : Ec) (F : Nat) {h : Hp} {x0 : Nat} {x1 : Nat} {x2 : Int32} {x3 : Int32} {x4 : Nat} {o : Hp} (k_x0 : hK h x0 = 15) (k_x1 : hK h x1 = 12) (k_x4 : hK h x4 = 13) (hE : sX15_tryCastling F h x0 x1 x2 x3 x4 = some o) : MetV l yX15_tryCastling cX15_tryCastling 7 none 4 106 X [.ref x0, .ref x1, .int x2, .int x3, .ref x4] h o := by
  refine x_met (by decide) (Nat.le_of_ble_eq_true rfl) ?_
  intro p e s m below meth c ls C hl hW hZ
  have hl : lv_has ls 7 [(0, .ref x0), (1, .ref x1), (2, .int x2), (3, .int x3), (4, .ref x4)] := hl
  have hkm : Km h h := Km.rf h
  refine lv_iload_n C.1 C.2.1 dX15_tryCastling_0 rfl (lv_at hl 3 rfl) ?_
  refine lv_aload_n C.1 C.2.1 dX15_tryCastling_1 rfl (lv_at hl 0 rfl) ?_
  refine gf_X15_382 C hW k_x0 dX15_tryCastling_2 ?_
  obtain ⟨g_1, hE⟩ := gd_e hE
  refine lv_idiv C.1 C.2.1 dX15_tryCastling_5 g_1 ?_
  refine lv_iload_n C.1 C.2.1 dX15_tryCastling_6 rfl (lv_at hl 2 rfl) ?_
  refine lv_aload_n C.1 C.2.1 dX15_tryCastling_7 rfl (lv_at hl 0 rfl) ?_
  refine gf_X15_382 C hW k_x0 dX15_tryCastling_8 ?_
  obtain ⟨g_2, hE⟩ := gd_e hE
  refine lv_idiv C.1 C.2.1 dX15_tryCastling_11 g_2 ?_
  refine lv_icmp_ne (tgt := 25) C.1 C.2.1 dX15_tryCastling_12 (by decide) (fun c_3 => ?_) (fun c_3 => ?_)
  · have hE := br_n hE c_3
    exact bX15_tryCastling_25 C hkm hW hZ _ (lv_sub hl [] rfl) hE
  · have hE := br_p hE c_3
    refine lv_iload_n C.1 C.2.1 dX15_tryCastling_15 rfl (lv_at hl 3 rfl) ?_
    refine lv_iload_n C.1 C.2.1 dX15_tryCastling_16 rfl (lv_at hl 2 rfl) ?_
    refine lv_isub C.1 C.2.1 dX15_tryCastling_17 ?_
    refine va_mabs C.1 C.2.1 (C.2.2.1.trans hl.1.symm) C.2.2.2.1 (C.2.2.2.2.1 _ m_2426) (C.2.2.2.2.1 _ m_1213) (C.2.2.2.2.1 _ m_3) (C.2.2.2.2.1 _ m_1214) (Nat.le_of_ble_eq_true rfl) (Nat.le_of_ble_eq_true rfl) (Nat.le_refl _) (Nat.le_refl _) dX15_tryCastling_18 ?_
    refine lv_iconst (v := (2 : Int32)) C.1 C.2.1 dX15_tryCastling_21 (by decide) ?_
    refine lv_icmp_eq (tgt := 26) C.1 C.2.1 dX15_tryCastling_22 (by decide) (fun c_4 => ?_) (fun c_4 => ?_)
    · have hE := br_p hE c_4
      refine lv_iload_n C.1 C.2.1 dX15_tryCastling_26 rfl (lv_at hl 3 rfl) ?_
      refine lv_iload_n C.1 C.2.1 dX15_tryCastling_27 rfl (lv_at hl 2 rfl) ?_
      refine lv_icmp_le (tgt := 35) C.1 C.2.1 dX15_tryCastling_28 (by decide) (fun c_5 => ?_) (fun c_5 => ?_)
      · have hE := br_p hE c_5
        refine lv_iconst (v := (-1 : Int32)) C.1 C.2.1 dX15_tryCastling_35 (by decide) ?_
        exact bX15_tryCastling_36 C k_x0 k_x1 k_x4 hkm hW hZ _ (lv_sub hl [0, 1, 2, 3, 4] rfl) hE
      · have hE := br_n hE c_5
        refine lv_iconst (v := (1 : Int32)) C.1 C.2.1 dX15_tryCastling_31 (by decide) ?_
        refine lv_goto (tgt := 36) C.1 C.2.1 dX15_tryCastling_32 (by decide) ?_
        exact bX15_tryCastling_36 C k_x0 k_x1 k_x4 hkm hW hZ _ (lv_sub hl [0, 1, 2, 3, 4] rfl) hE
    · have hE := br_n hE c_4
      exact bX15_tryCastling_25 C hkm hW hZ _ (lv_sub hl [] rfl) hE
