set_option maxRecDepth 100000 in
theorem ms_154 : Cond.selects RX15 yX15_onward yX15_onward ∈ W0 := w0_in (List.mem_append_left _ (List.mem_of_getElem? (i := 154) rfl)) rfl
set_option maxRecDepth 100000 in
theorem m_2431 : Cond.methodLink RX15 524 yX15_onward ∈ W0 := w0_in (List.mem_append_right _ (List.mem_of_getElem? (i := 2431) rfl)) rfl
set_option maxRecDepth 100000 in
theorem m_2433 : Cond.instanceMethod yX15_onward ∈ W0 := w0_in (List.mem_append_right _ (List.mem_of_getElem? (i := 2433) rfl)) rfl
set_option maxRecDepth 100000 in
theorem m_2434 : Cond.code yX15_onward cX15_onward 5 (some .int) ∈ W0 := w0_in (List.mem_append_right _ (List.mem_of_getElem? (i := 2434) rfl)) rfl
section
variable {p : Program} {l : Launch} {e : Env} {R : Room} {s : State} {m : MethodId} {args : Array Value} {below : List Frame} {meth : Method} {c : Code} {H : Heap} {locs : List Loc} {cells slots : Nat} {Q : State → Prop}
variable {cc : ByteArray} {pc : Nat} {ls : Array Slot} {rest : List Value} {X : Ec} {h h1 : Hp} {nL : Nat} {rt : Option FieldType} {mn : String}
theorem gf_X15_441 {a : Nat} (C : Cx X p s m args meth c RX15 cc nL rt mn) (hW : Wx X h H) (ha : hK h a = 12) (hdg : decode cc pc = .ok (.getfield 441, 3)) (kk : W p l e R s m args below meth c H locs cells slots Q (F0 m (pc + 3) ls (.int (hI h a 3) :: rest))) : W p l e R s m args below meth c H locs cells slots Q (F0 m pc ls (.ref a :: rest)) :=
  y_getiN C hW ha i_X12 (by decide) rfl (by decide) n_1915 rfl hdg kk
end
theorem cw_X15_524 : cwd RX15 524 yX15_onward cX15_onward 5 (some .int) false 2 := ⟨m_2434, m_2431, m_19, ⟨m_2433, ms_154⟩, by decide, by decide, by decide +kernel⟩
theorem dX15_isPassBy_0 : decode cX15_isPassBy 0 = .ok (.aload_n 1, 1) := by decide +kernel
theorem dX15_isPassBy_1 : decode cX15_isPassBy 1 = .ok (.getfield 441, 3) := by decide +kernel
theorem dX15_isPassBy_4 : decode cX15_isPassBy 4 = .ok (.istore 5, 2) := by decide +kernel
theorem dX15_isPassBy_6 : decode cX15_isPassBy 6 = .ok (.iload 5, 2) := by decide +kernel
theorem dX15_isPassBy_8 : decode cX15_isPassBy 8 = .ok (.aload_n 0, 1) := by decide +kernel
theorem dX15_isPassBy_9 : decode cX15_isPassBy 9 = .ok (.getfield 252, 3) := by decide +kernel
theorem dX15_isPassBy_12 : decode cX15_isPassBy 12 = .ok (.getfield 207, 3) := by decide +kernel
theorem dX15_isPassBy_15 : decode cX15_isPassBy 15 = .ok (.iload_n 3, 1) := by decide +kernel
theorem dX15_isPassBy_16 : decode cX15_isPassBy 16 = .ok (.iaload, 1) := by decide +kernel
theorem dX15_isPassBy_17 : decode cX15_isPassBy 17 = .ok (.if_icmp .le 5, 3) := by decide +kernel
theorem dX15_isPassBy_20 : decode cX15_isPassBy 20 = .ok (.iconst 0, 1) := by decide +kernel
theorem dX15_isPassBy_21 : decode cX15_isPassBy 21 = .ok (.ireturn, 1) := by decide +kernel
theorem dX15_isPassBy_22 : decode cX15_isPassBy 22 = .ok (.aload_n 0, 1) := by decide +kernel
theorem dX15_isPassBy_23 : decode cX15_isPassBy 23 = .ok (.iload_n 2, 1) := by decide +kernel
theorem dX15_isPassBy_24 : decode cX15_isPassBy 24 = .ok (.iconst 0, 1) := by decide +kernel
theorem dX15_isPassBy_25 : decode cX15_isPassBy 25 = .ok (.iload 5, 2) := by decide +kernel
theorem dX15_isPassBy_27 : decode cX15_isPassBy 27 = .ok (.isub, 1) := by decide +kernel
theorem dX15_isPassBy_28 : decode cX15_isPassBy 28 = .ok (.invokevirtual 524, 3) := by decide +kernel
theorem dX15_isPassBy_31 : decode cX15_isPassBy 31 = .ok (.istore 6, 2) := by decide +kernel
theorem dX15_isPassBy_33 : decode cX15_isPassBy 33 = .ok (.iload 6, 2) := by decide +kernel
theorem dX15_isPassBy_35 : decode cX15_isPassBy 35 = .ok (.iconst (-1), 1) := by decide +kernel
theorem dX15_isPassBy_36 : decode cX15_isPassBy 36 = .ok (.if_icmp .eq 45, 3) := by decide +kernel
theorem dX15_isPassBy_39 : decode cX15_isPassBy 39 = .ok (.aload_n 1, 1) := by decide +kernel
theorem dX15_isPassBy_40 : decode cX15_isPassBy 40 = .ok (.getfield 396, 3) := by decide +kernel
theorem dX15_isPassBy_43 : decode cX15_isPassBy 43 = .ok (.iload 6, 2) := by decide +kernel
theorem dX15_isPassBy_45 : decode cX15_isPassBy 45 = .ok (.iaload, 1) := by decide +kernel
theorem dX15_isPassBy_46 : decode cX15_isPassBy 46 = .ok (.ifCond .gt 35, 3) := by decide +kernel
theorem dX15_isPassBy_49 : decode cX15_isPassBy 49 = .ok (.aload_n 0, 1) := by decide +kernel
theorem dX15_isPassBy_50 : decode cX15_isPassBy 50 = .ok (.getfield 252, 3) := by decide +kernel
theorem dX15_isPassBy_53 : decode cX15_isPassBy 53 = .ok (.getfield 210, 3) := by decide +kernel
theorem dX15_isPassBy_56 : decode cX15_isPassBy 56 = .ok (.iload_n 3, 1) := by decide +kernel
theorem dX15_isPassBy_57 : decode cX15_isPassBy 57 = .ok (.iaload, 1) := by decide +kernel
theorem dX15_isPassBy_58 : decode cX15_isPassBy 58 = .ok (.ifCond .le 25, 3) := by decide +kernel
theorem dX15_isPassBy_61 : decode cX15_isPassBy 61 = .ok (.aload_n 0, 1) := by decide +kernel
theorem dX15_isPassBy_62 : decode cX15_isPassBy 62 = .ok (.iload 6, 2) := by decide +kernel
theorem dX15_isPassBy_64 : decode cX15_isPassBy 64 = .ok (.iload 4, 2) := by decide +kernel
theorem dX15_isPassBy_66 : decode cX15_isPassBy 66 = .ok (.invokevirtual 498, 3) := by decide +kernel
theorem dX15_isPassBy_69 : decode cX15_isPassBy 69 = .ok (.aload_n 0, 1) := by decide +kernel
theorem dX15_isPassBy_70 : decode cX15_isPassBy 70 = .ok (.getfield 252, 3) := by decide +kernel
theorem dX15_isPassBy_73 : decode cX15_isPassBy 73 = .ok (.getfield 210, 3) := by decide +kernel
theorem dX15_isPassBy_76 : decode cX15_isPassBy 76 = .ok (.iload_n 3, 1) := by decide +kernel
theorem dX15_isPassBy_77 : decode cX15_isPassBy 77 = .ok (.iaload, 1) := by decide +kernel
theorem dX15_isPassBy_78 : decode cX15_isPassBy 78 = .ok (.if_icmp .eq 5, 3) := by decide +kernel
theorem dX15_isPassBy_81 : decode cX15_isPassBy 81 = .ok (.iconst 0, 1) := by decide +kernel
theorem dX15_isPassBy_82 : decode cX15_isPassBy 82 = .ok (.ireturn, 1) := by decide +kernel
theorem dX15_isPassBy_83 : decode cX15_isPassBy 83 = .ok (.iconst 1, 1) := by decide +kernel
theorem dX15_isPassBy_84 : decode cX15_isPassBy 84 = .ok (.istore 7, 2) := by decide +kernel
theorem dX15_isPassBy_86 : decode cX15_isPassBy 86 = .ok (.iload 7, 2) := by decide +kernel
theorem dX15_isPassBy_88 : decode cX15_isPassBy 88 = .ok (.iload 5, 2) := by decide +kernel
theorem dX15_isPassBy_90 : decode cX15_isPassBy 90 = .ok (.if_icmp .ge 29, 3) := by decide +kernel
theorem dX15_isPassBy_93 : decode cX15_isPassBy 93 = .ok (.aload_n 0, 1) := by decide +kernel
theorem dX15_isPassBy_94 : decode cX15_isPassBy 94 = .ok (.iload 6, 2) := by decide +kernel
theorem dX15_isPassBy_96 : decode cX15_isPassBy 96 = .ok (.iload 7, 2) := by decide +kernel
theorem dX15_isPassBy_98 : decode cX15_isPassBy 98 = .ok (.invokevirtual 524, 3) := by decide +kernel
theorem dX15_isPassBy_101 : decode cX15_isPassBy 101 = .ok (.aload_n 1, 1) := by decide +kernel
theorem dX15_isPassBy_102 : decode cX15_isPassBy 102 = .ok (.getfield 439, 3) := by decide +kernel
theorem dX15_isPassBy_105 : decode cX15_isPassBy 105 = .ok (.iload 7, 2) := by decide +kernel
theorem dX15_isPassBy_107 : decode cX15_isPassBy 107 = .ok (.iaload, 1) := by decide +kernel
theorem dX15_isPassBy_108 : decode cX15_isPassBy 108 = .ok (.if_icmp .eq 5, 3) := by decide +kernel
theorem dX15_isPassBy_111 : decode cX15_isPassBy 111 = .ok (.iconst 0, 1) := by decide +kernel
theorem dX15_isPassBy_112 : decode cX15_isPassBy 112 = .ok (.ireturn, 1) := by decide +kernel
theorem dX15_isPassBy_113 : decode cX15_isPassBy 113 = .ok (.iinc 7 1, 3) := by decide +kernel
theorem dX15_isPassBy_116 : decode cX15_isPassBy 116 = .ok (.goto (-30), 3) := by decide +kernel
theorem dX15_isPassBy_119 : decode cX15_isPassBy 119 = .ok (.iconst 1, 1) := by decide +kernel
theorem dX15_isPassBy_120 : decode cX15_isPassBy 120 = .ok (.ireturn, 1) := by decide +kernel
set_option maxRecDepth 20000 in
theorem moX15_isPassBy_81 {o : Int32 × Hp} {F : Nat} {h : Hp} (hE : sX15_isPassBy_81 F h  = some o) : Le h o.2 := by
  exact le_some2 hE
set_option maxRecDepth 20000 in
theorem moX15_isPassBy_86 {o : Int32 × Hp} {F : Nat} : ∀ (f : Nat) {h : Hp} {x0 : Nat} {x1 : Nat} {x5 : Int32} {x6 : Int32} {x7 : Int32}, sX15_isPassBy_86 F f h x0 x1 x5 x6 x7 = some o → Le h o.2 := by
  intro f
  induction f with
  | zero =>
    intro h x0 x1 x5 x6 x7 hE
    rw [sX15_isPassBy_86] at hE
    cases hE
  | succ f ih =>
    intro h x0 x1 x5 x6 x7 hE
    rw [sX15_isPassBy_86] at hE
    have mk_86 : ∀ (h : Hp) (x0 : Nat) (x1 : Nat) (x5 : Int32) (x6 : Int32) (x7 : Int32), sX15_isPassBy_86 F f h x0 x1 x5 x6 x7 = some o → Le h o.2 := fun h x0 x1 x5 x6 x7 hE => ih hE
    rcases br_e hE with ⟨_, hE⟩ | ⟨_, hE⟩
    · exact le_some2 hE
    · obtain ⟨o_2, eo_2, hE⟩ := cl_e hE
      refine (moX15_onward eo_2).tr ?_
      obtain ⟨r_3, er_3, hE⟩ := cl_e hE
      obtain ⟨g_4, hE⟩ := gd_e hE
      rcases br_e hE with ⟨_, hE⟩ | ⟨_, hE⟩
      · obtain ⟨v_6, ev_6, hE⟩ := nm_e2 hE
        exact mk_86 _ _ _ _ _ _ hE
      · exact le_some2 hE
set_option maxRecDepth 20000 in
theorem moX15_isPassBy_83 {o : Int32 × Hp} {F : Nat} {h : Hp} {x0 : Nat} {x1 : Nat} {x5 : Int32} {x6 : Int32} (hE : sX15_isPassBy_83 F h x0 x1 x5 x6 = some o) : Le h o.2 := by
  exact moX15_isPassBy_86 _ hE
set_option maxRecDepth 20000 in
theorem moX15_isPassBy {o : Int32 × Hp} {F : Nat} {h : Hp} {x0 : Nat} {x1 : Nat} {x2 : Int32} {x3 : Int32} {x4 : Int32} (hE : sX15_isPassBy F h x0 x1 x2 x3 x4 = some o) : Le h o.2 := by
  obtain ⟨v_1, ev_1, hE⟩ := nm_e2 hE
  obtain ⟨r_2, er_2, hE⟩ := cl_e hE
  obtain ⟨r_3, er_3, hE⟩ := cl_e hE
  obtain ⟨g_4, hE⟩ := gd_e hE
  rcases br_e hE with ⟨_, hE⟩ | ⟨_, hE⟩
  · obtain ⟨o_6, eo_6, hE⟩ := cl_e hE
    refine (moX15_onward eo_6).tr ?_
    rcases br_e hE with ⟨_, hE⟩ | ⟨_, hE⟩
    · exact moX15_isPassBy_81 hE
    · obtain ⟨r_8, er_8, hE⟩ := cl_e hE
      obtain ⟨g_9, hE⟩ := gd_e hE
      rcases br_e hE with ⟨_, hE⟩ | ⟨_, hE⟩
      · exact moX15_isPassBy_81 hE
      · obtain ⟨r_11, er_11, hE⟩ := cl_e hE
        obtain ⟨r_12, er_12, hE⟩ := cl_e hE
        obtain ⟨g_13, hE⟩ := gd_e hE
        rcases br_e hE with ⟨_, hE⟩ | ⟨_, hE⟩
        · exact moX15_isPassBy_83 hE
        · obtain ⟨o_15, eo_15, hE⟩ := cl_e hE
          refine (moX15_rankFor eo_15).tr ?_
          obtain ⟨r_16, er_16, hE⟩ := cl_e hE
          obtain ⟨r_17, er_17, hE⟩ := cl_e hE
          obtain ⟨g_18, hE⟩ := gd_e hE
          rcases br_e hE with ⟨_, hE⟩ | ⟨_, hE⟩
          · exact moX15_isPassBy_83 hE
          · exact moX15_isPassBy_81 hE
  · exact le_some2 hE
set_option maxRecDepth 20000 in
theorem bX15_isPassBy_81 {p : Program} {l : Launch} {e : Env} {s : State} {m : MethodId} {args : Array Value} {below : List Frame} {meth : Method} {c : Code} {X : Ec} {h0 : Hp} {o : Int32 × Hp} {F : Nat} (C : Cx X p s m args meth c RX15 cX15_isPassBy 8 (some .boolean) "isPassBy") {h : Hp} {H : Heap} {locs : List Loc} (hkm : Km h0 h) (hW : Wx X h H) (hZ : va_S (aA (eB X)) s.heap H locs) (ls : Array Slot) (hl : lv_has ls 8 []) (hE : sX15_isPassBy_81 F h  = some o) : W p l e (rm 1 24) s m args below meth c H locs 0 0 (MQ below (QI X h0 o.1 o.2) args s 0 0 (aA (eB X))) (F0 m 81 ls []) := by
  refine lv_iconst (v := (0 : Int32)) C.1 C.2.1 dX15_isPassBy_81 (by decide) ?_
  exact x_iret C rfl (by decide) hW hZ hkm hE dX15_isPassBy_82
set_option maxRecDepth 20000 in
theorem bX15_isPassBy_86 {p : Program} {l : Launch} {e : Env} {s : State} {m : MethodId} {args : Array Value} {below : List Frame} {meth : Method} {c : Code} {X : Ec} {h0 : Hp} {o : Int32 × Hp} {F : Nat} (C : Cx X p s m args meth c RX15 cX15_isPassBy 8 (some .boolean) "isPassBy") : ∀ (f : Nat) {h : Hp} {x0 : Nat} {x1 : Nat} {x5 : Int32} {x6 : Int32} {x7 : Int32} {H : Heap} {locs : List Loc} (k_x0 : hK h x0 = 15) (k_x1 : hK h x1 = 12), Km h0 h → Wx X h H → va_S (aA (eB X)) s.heap H locs → ∀ (ls : Array Slot), lv_has ls 8 [(0, .ref x0), (1, .ref x1), (5, .int x5), (6, .int x6), (7, .int x7)] → sX15_isPassBy_86 F f h x0 x1 x5 x6 x7 = some o → W p l e (rm 1 24) s m args below meth c H locs 0 0 (MQ below (QI X h0 o.1 o.2) args s 0 0 (aA (eB X))) (F0 m 86 ls []) := by
  intro f
  induction f with
  | zero =>
    intro h x0 x1 x5 x6 x7 H locs k_x0 k_x1 hkm hW hZ ls hl hE
    rw [sX15_isPassBy_86] at hE
    cases hE
  | succ f ih =>
    intro h x0 x1 x5 x6 x7 H locs k_x0 k_x1 hkm hW hZ ls hl hE
    rw [sX15_isPassBy_86] at hE
    have hk_86 : ∀ (h : Hp) (x0 : Nat) (x1 : Nat) (x5 : Int32) (x6 : Int32) (x7 : Int32) (H : Heap) (locs : List Loc), hK h x0 = 15 → hK h x1 = 12 → Km h0 h → Wx X h H → va_S (aA (eB X)) s.heap H locs → ∀ (ls : Array Slot), lv_has ls 8 [(0, .ref x0), (1, .ref x1), (5, .int x5), (6, .int x6), (7, .int x7)] → sX15_isPassBy_86 F f h x0 x1 x5 x6 x7 = some o → W p l e (rm 1 24) s m args below meth c H locs 0 0 (MQ below (QI X h0 o.1 o.2) args s 0 0 (aA (eB X))) (F0 m 86 ls []) := fun h x0 x1 x5 x6 x7 H locs k_x0 k_x1 a b c ls hl hE => ih k_x0 k_x1 a b c ls hl hE
    refine lv_iload C.1 C.2.1 dX15_isPassBy_86 (lv_at hl 4 rfl) ?_
    refine lv_iload C.1 C.2.1 dX15_isPassBy_88 (lv_at hl 2 rfl) ?_
    refine lv_icmp_ge (tgt := 119) C.1 C.2.1 dX15_isPassBy_90 (by decide) (fun c_1 => ?_) (fun c_1 => ?_)
    · have hE := br_p hE c_1
      refine lv_iconst (v := (1 : Int32)) C.1 C.2.1 dX15_isPassBy_119 (by decide) ?_
      exact x_iret C rfl (by decide) hW hZ hkm hE dX15_isPassBy_120
    · have hE := br_n hE c_1
      refine lv_aload_n C.1 C.2.1 dX15_isPassBy_93 rfl (lv_at hl 0 rfl) ?_
      refine lv_iload C.1 C.2.1 dX15_isPassBy_94 (lv_at hl 3 rfl) ?_
      refine lv_iload C.1 C.2.1 dX15_isPassBy_96 (lv_at hl 4 rfl) ?_
      obtain ⟨o_2, eo_2, hE⟩ := cl_e hE
      refine x_kI (o := o_2) (z_runV (As := [.int x6, .int x7]) (rest := []) C (ct_X15_onward l X k_x0 eo_2) cw_X15_524 hW hZ k_x0 (by decide) rfl rfl rfl hl.1 (Nat.le_of_ble_eq_true rfl) rfl dX15_isPassBy_98 ⟨Nat.le_of_ble_eq_true rfl, Nat.le_of_ble_eq_true rfl⟩ ⟨Nat.le_refl _, Nat.le_refl _⟩) hZ (fun _ _ hW km hZ => ?_)
      replace hkm := hkm.tr km
      replace k_x0 := km.at k_x0 (by decide)
      replace k_x1 := km.at k_x1 (by decide)
      refine lv_aload_n C.1 C.2.1 dX15_isPassBy_101 rfl (lv_at hl 1 rfl) ?_
      obtain ⟨r_3, er_3, hE⟩ := cl_e hE
      refine gf_X15_439 C hW k_x1 er_3 dX15_isPassBy_102 (fun k_r_3 => ?_)
      refine lv_iload C.1 C.2.1 dX15_isPassBy_105 (lv_at hl 4 rfl) ?_
      obtain ⟨g_4, hE⟩ := gd_e hE
      refine y_iald C hW k_r_3 g_4 dX15_isPassBy_107 ?_
      refine lv_icmp_eq (tgt := 113) C.1 C.2.1 dX15_isPassBy_108 (by decide) (fun c_5 => ?_) (fun c_5 => ?_)
      · have hE := br_p hE c_5
        obtain ⟨v_6, ev_6, hE⟩ := nm_e2 hE
        refine lv_iinc (v := v_6) (lv' := [(7, .int v_6), (0, .ref x0), (1, .ref x1), (5, .int x5), (6, .int x6)]) C.1 C.2.1 dX15_isPassBy_113 hl (k := 4) rfl (by rw [ev_6]; rfl) (by decide) rfl (fun ls hl => ?_)
        refine lv_goto (tgt := 86) C.1 C.2.1 dX15_isPassBy_116 (by decide) ?_
        exact hk_86 _ _ _ _ _ _ _ _ k_x0 k_x1 hkm hW hZ _ (lv_sub hl [1, 2, 3, 4, 0] rfl) hE
      · have hE := br_n hE c_5
        refine lv_iconst (v := (0 : Int32)) C.1 C.2.1 dX15_isPassBy_111 (by decide) ?_
        exact x_iret C rfl (by decide) hW hZ hkm hE dX15_isPassBy_112
set_option maxRecDepth 20000 in
theorem bX15_isPassBy_83 {p : Program} {l : Launch} {e : Env} {s : State} {m : MethodId} {args : Array Value} {below : List Frame} {meth : Method} {c : Code} {X : Ec} {h0 : Hp} {o : Int32 × Hp} {F : Nat} (C : Cx X p s m args meth c RX15 cX15_isPassBy 8 (some .boolean) "isPassBy") {h : Hp} {x0 : Nat} {x1 : Nat} {x5 : Int32} {x6 : Int32} {H : Heap} {locs : List Loc} (k_x0 : hK h x0 = 15) (k_x1 : hK h x1 = 12) (hkm : Km h0 h) (hW : Wx X h H) (hZ : va_S (aA (eB X)) s.heap H locs) (ls : Array Slot) (hl : lv_has ls 8 [(0, .ref x0), (1, .ref x1), (5, .int x5), (6, .int x6)]) (hE : sX15_isPassBy_83 F h x0 x1 x5 x6 = some o) : W p l e (rm 1 24) s m args below meth c H locs 0 0 (MQ below (QI X h0 o.1 o.2) args s 0 0 (aA (eB X))) (F0 m 83 ls []) := by
  refine lv_iconst (v := (1 : Int32)) C.1 C.2.1 dX15_isPassBy_83 (by decide) ?_
  refine lv_istore (lv' := [(7, .int (1 : Int32)), (0, .ref x0), (1, .ref x1), (5, .int x5), (6, .int x6)]) C.1 C.2.1 dX15_isPassBy_84 hl (by decide) rfl (fun ls hl => ?_)
  exact bX15_isPassBy_86 C F k_x0 k_x1 hkm hW hZ _ (lv_sub hl [1, 2, 3, 4, 0] rfl) hE
set_option maxRecDepth 20000 in
theorem ct_X15_isPassBy (l : Launch) (X : Ec) (F : Nat) {h : Hp} {x0 : Nat} {x1 : Nat} {x2 : Int32} {x3 : Int32} {x4 : Int32} {o : Int32 × Hp} (k_x0 : hK h x0 = 15) (k_x1 : hK h x1 = 12) (hE : sX15_isPassBy F h x0 x1 x2 x3 x4 = some o) : MetI l yX15_isPassBy cX15_isPassBy 8 (some .boolean) 1 24 X [.ref x0, .ref x1, .int x2, .int x3, .int x4] h o := by
  refine x_met (by decide) (Nat.le_of_ble_eq_true rfl) ?_
  intro p e s m below meth c ls C hl hW hZ
  have hl : lv_has ls 8 [(0, .ref x0), (1, .ref x1), (2, .int x2), (3, .int x3), (4, .int x4)] := hl
  have hkm : Km h h := Km.rf h
  refine lv_aload_n C.1 C.2.1 dX15_isPassBy_0 rfl (lv_at hl 1 rfl) ?_
  refine gf_X15_441 C hW k_x1 dX15_isPassBy_1 ?_
  obtain ⟨v_1, ev_1, hE⟩ := nm_e2 hE
  refine x_nmI ev_1 ?_
  refine lv_istore (lv' := [(5, .int v_1), (0, .ref x0), (1, .ref x1), (2, .int x2), (3, .int x3), (4, .int x4)]) C.1 C.2.1 dX15_isPassBy_4 hl (by decide) rfl (fun ls hl => ?_)
  refine lv_iload C.1 C.2.1 dX15_isPassBy_6 (lv_at hl 0 rfl) ?_
  refine lv_aload_n C.1 C.2.1 dX15_isPassBy_8 rfl (lv_at hl 1 rfl) ?_
  obtain ⟨r_2, er_2, hE⟩ := cl_e hE
  refine gf_X15_252 C hW k_x0 er_2 dX15_isPassBy_9 (fun k_r_2 => ?_)
  obtain ⟨r_3, er_3, hE⟩ := cl_e hE
  refine gf_X15_207 C hW k_r_2 er_3 dX15_isPassBy_12 (fun k_r_3 => ?_)
  refine lv_iload_n C.1 C.2.1 dX15_isPassBy_15 rfl (lv_at hl 4 rfl) ?_
  obtain ⟨g_4, hE⟩ := gd_e hE
  refine y_iald C hW k_r_3 g_4 dX15_isPassBy_16 ?_
  refine lv_icmp_le (tgt := 22) C.1 C.2.1 dX15_isPassBy_17 (by decide) (fun c_5 => ?_) (fun c_5 => ?_)
  · have hE := br_p hE c_5
    refine lv_aload_n C.1 C.2.1 dX15_isPassBy_22 rfl (lv_at hl 1 rfl) ?_
    refine lv_iload_n C.1 C.2.1 dX15_isPassBy_23 rfl (lv_at hl 3 rfl) ?_
    refine lv_iconst (v := (0 : Int32)) C.1 C.2.1 dX15_isPassBy_24 (by decide) ?_
    refine lv_iload C.1 C.2.1 dX15_isPassBy_25 (lv_at hl 0 rfl) ?_
    refine lv_isub C.1 C.2.1 dX15_isPassBy_27 ?_
    obtain ⟨o_6, eo_6, hE⟩ := cl_e hE
    refine x_kI (o := o_6) (z_runV (As := [.int x2, .int ((0 : Int32) - v_1)]) (rest := []) C (ct_X15_onward l X k_x0 eo_6) cw_X15_524 hW hZ k_x0 (by decide) rfl rfl rfl hl.1 (Nat.le_of_ble_eq_true rfl) rfl dX15_isPassBy_28 ⟨Nat.le_of_ble_eq_true rfl, Nat.le_of_ble_eq_true rfl⟩ ⟨Nat.le_refl _, Nat.le_refl _⟩) hZ (fun _ _ hW km hZ => ?_)
    replace hkm := hkm.tr km
    replace k_x0 := km.at k_x0 (by decide)
    replace k_x1 := km.at k_x1 (by decide)
    refine lv_istore (lv' := [(6, .int o_6.1), (5, .int v_1), (0, .ref x0), (1, .ref x1), (2, .int x2), (3, .int x3), (4, .int x4)]) C.1 C.2.1 dX15_isPassBy_31 hl (by decide) rfl (fun ls hl => ?_)
    refine lv_iload C.1 C.2.1 dX15_isPassBy_33 (lv_at hl 0 rfl) ?_
    refine lv_iconst (v := (-1 : Int32)) C.1 C.2.1 dX15_isPassBy_35 (by decide) ?_
    refine lv_icmp_eq (tgt := 81) C.1 C.2.1 dX15_isPassBy_36 (by decide) (fun c_7 => ?_) (fun c_7 => ?_)
    · have hE := br_p hE c_7
      exact bX15_isPassBy_81 C hkm hW hZ _ (lv_sub hl [] rfl) hE
    · have hE := br_n hE c_7
      refine lv_aload_n C.1 C.2.1 dX15_isPassBy_39 rfl (lv_at hl 3 rfl) ?_
      obtain ⟨r_8, er_8, hE⟩ := cl_e hE
      refine gf_X15_396 C hW k_x1 er_8 dX15_isPassBy_40 (fun k_r_8 => ?_)
      refine lv_iload C.1 C.2.1 dX15_isPassBy_43 (lv_at hl 0 rfl) ?_
      obtain ⟨g_9, hE⟩ := gd_e hE
      refine y_iald C hW k_r_8 g_9 dX15_isPassBy_45 ?_
      refine lv_if_gt (tgt := 81) C.1 C.2.1 dX15_isPassBy_46 (by decide) (fun c_10 => ?_) (fun c_10 => ?_)
      · have hE := br_p hE c_10
        exact bX15_isPassBy_81 C hkm hW hZ _ (lv_sub hl [] rfl) hE
      · have hE := br_n hE c_10
        refine lv_aload_n C.1 C.2.1 dX15_isPassBy_49 rfl (lv_at hl 2 rfl) ?_
        obtain ⟨r_11, er_11, hE⟩ := cl_e hE
        refine gf_X15_252 C hW k_x0 er_11 dX15_isPassBy_50 (fun k_r_11 => ?_)
        obtain ⟨r_12, er_12, hE⟩ := cl_e hE
        refine gf_X15_210 C hW k_r_11 er_12 dX15_isPassBy_53 (fun k_r_12 => ?_)
        refine lv_iload_n C.1 C.2.1 dX15_isPassBy_56 rfl (lv_at hl 5 rfl) ?_
        obtain ⟨g_13, hE⟩ := gd_e hE
        refine y_iald C hW k_r_12 g_13 dX15_isPassBy_57 ?_
        refine lv_if_le (tgt := 83) C.1 C.2.1 dX15_isPassBy_58 (by decide) (fun c_14 => ?_) (fun c_14 => ?_)
        · have hE := br_p hE c_14
          exact bX15_isPassBy_83 C k_x0 k_x1 hkm hW hZ _ (lv_sub hl [2, 3, 1, 0] rfl) hE
        · have hE := br_n hE c_14
          refine lv_aload_n C.1 C.2.1 dX15_isPassBy_61 rfl (lv_at hl 2 rfl) ?_
          refine lv_iload C.1 C.2.1 dX15_isPassBy_62 (lv_at hl 0 rfl) ?_
          refine lv_iload C.1 C.2.1 dX15_isPassBy_64 (lv_at hl 6 rfl) ?_
          obtain ⟨o_15, eo_15, hE⟩ := cl_e hE
          refine x_kI (o := o_15) (z_runV (As := [.int o_6.1, .int x4]) (rest := []) C (ct_X15_rankFor l X k_x0 eo_15) cw_X15_498 hW hZ k_x0 (by decide) rfl rfl rfl hl.1 (Nat.le_of_ble_eq_true rfl) rfl dX15_isPassBy_66 ⟨Nat.le_of_ble_eq_true rfl, Nat.le_of_ble_eq_true rfl⟩ ⟨Nat.le_refl _, Nat.le_refl _⟩) hZ (fun _ _ hW km hZ => ?_)
          replace hkm := hkm.tr km
          replace k_x0 := km.at k_x0 (by decide)
          replace k_x1 := km.at k_x1 (by decide)
          refine lv_aload_n C.1 C.2.1 dX15_isPassBy_69 rfl (lv_at hl 2 rfl) ?_
          obtain ⟨r_16, er_16, hE⟩ := cl_e hE
          refine gf_X15_252 C hW k_x0 er_16 dX15_isPassBy_70 (fun k_r_16 => ?_)
          obtain ⟨r_17, er_17, hE⟩ := cl_e hE
          refine gf_X15_210 C hW k_r_16 er_17 dX15_isPassBy_73 (fun k_r_17 => ?_)
          refine lv_iload_n C.1 C.2.1 dX15_isPassBy_76 rfl (lv_at hl 5 rfl) ?_
          obtain ⟨g_18, hE⟩ := gd_e hE
          refine y_iald C hW k_r_17 g_18 dX15_isPassBy_77 ?_
          refine lv_icmp_eq (tgt := 83) C.1 C.2.1 dX15_isPassBy_78 (by decide) (fun c_19 => ?_) (fun c_19 => ?_)
          · have hE := br_p hE c_19
            exact bX15_isPassBy_83 C k_x0 k_x1 hkm hW hZ _ (lv_sub hl [2, 3, 1, 0] rfl) hE
          · have hE := br_n hE c_19
            exact bX15_isPassBy_81 C hkm hW hZ _ (lv_sub hl [] rfl) hE
  · have hE := br_n hE c_5
    refine lv_iconst (v := (0 : Int32)) C.1 C.2.1 dX15_isPassBy_20 (by decide) ?_
    exact x_iret C rfl (by decide) hW hZ hkm hE dX15_isPassBy_21
set_option maxRecDepth 100000 in
theorem ms_153 : Cond.selects RX15 yX15_isPassBy yX15_isPassBy ∈ W0 := w0_in (List.mem_append_left _ (List.mem_of_getElem? (i := 153) rfl)) rfl
set_option maxRecDepth 100000 in
theorem ms_152 : Cond.selects RX15 yX15_hasVector yX15_hasVector ∈ W0 := w0_in (List.mem_append_left _ (List.mem_of_getElem? (i := 152) rfl)) rfl
set_option maxRecDepth 100000 in
theorem m_2422 : Cond.methodLink RX15 516 yX15_hasVector ∈ W0 := w0_in (List.mem_append_right _ (List.mem_of_getElem? (i := 2422) rfl)) rfl
set_option maxRecDepth 100000 in
theorem m_2424 : Cond.instanceMethod yX15_hasVector ∈ W0 := w0_in (List.mem_append_right _ (List.mem_of_getElem? (i := 2424) rfl)) rfl
set_option maxRecDepth 100000 in
theorem m_2425 : Cond.code yX15_hasVector cX15_hasVector 9 (some .boolean) ∈ W0 := w0_in (List.mem_append_right _ (List.mem_of_getElem? (i := 2425) rfl)) rfl
set_option maxRecDepth 100000 in
theorem m_2427 : Cond.methodLink RX15 520 yX15_isPassBy ∈ W0 := w0_in (List.mem_append_right _ (List.mem_of_getElem? (i := 2427) rfl)) rfl
set_option maxRecDepth 100000 in
theorem m_2429 : Cond.instanceMethod yX15_isPassBy ∈ W0 := w0_in (List.mem_append_right _ (List.mem_of_getElem? (i := 2429) rfl)) rfl
set_option maxRecDepth 100000 in
theorem m_2430 : Cond.code yX15_isPassBy cX15_isPassBy 8 (some .boolean) ∈ W0 := w0_in (List.mem_append_right _ (List.mem_of_getElem? (i := 2430) rfl)) rfl
section
variable {p : Program} {l : Launch} {e : Env} {R : Room} {s : State} {m : MethodId} {args : Array Value} {below : List Frame} {meth : Method} {c : Code} {H : Heap} {locs : List Loc} {cells slots : Nat} {Q : State → Prop}
variable {cc : ByteArray} {pc : Nat} {ls : Array Slot} {rest : List Value} {X : Ec} {h h1 : Hp} {nL : Nat} {rt : Option FieldType} {mn : String}
theorem gf_X15_452 {a : Nat} (C : Cx X p s m args meth c RX15 cc nL rt mn) (hW : Wx X h H) (ha : hK h a = 12) (hdg : decode cc pc = .ok (.getfield 452, 3)) (kk : W p l e R s m args below meth c H locs cells slots Q (F0 m (pc + 3) ls (.int (hI h a 1) :: rest))) : W p l e R s m args below meth c H locs cells slots Q (F0 m pc ls (.ref a :: rest)) :=
  y_getiN C hW ha i_X12 (by decide) rfl (by decide) n_1911 rfl hdg kk
end
theorem cw_X15_516 : cwd RX15 516 yX15_hasVector cX15_hasVector 9 (some .boolean) false 3 := ⟨m_2425, m_2422, m_19, ⟨m_2424, ms_152⟩, by decide, by decide, by decide +kernel⟩
theorem cw_X15_520 : cwd RX15 520 yX15_isPassBy cX15_isPassBy 8 (some .boolean) false 4 := ⟨m_2430, m_2427, m_19, ⟨m_2429, ms_153⟩, by decide, by decide, by decide +kernel⟩
theorem dX15_isPass_0 : decode cX15_isPass 0 = .ok (.aload_n 1, 1) := by decide +kernel
theorem dX15_isPass_1 : decode cX15_isPass 1 = .ok (.getfield 439, 3) := by decide +kernel
theorem dX15_isPass_4 : decode cX15_isPass 4 = .ok (.iconst 0, 1) := by decide +kernel
theorem dX15_isPass_5 : decode cX15_isPass 5 = .ok (.iaload, 1) := by decide +kernel
theorem dX15_isPass_6 : decode cX15_isPass 6 = .ok (.istore_n 2, 1) := by decide +kernel
theorem dX15_isPass_7 : decode cX15_isPass 7 = .ok (.aload_n 1, 1) := by decide +kernel
theorem dX15_isPass_8 : decode cX15_isPass 8 = .ok (.getfield 396, 3) := by decide +kernel
theorem dX15_isPass_11 : decode cX15_isPass 11 = .ok (.iload_n 2, 1) := by decide +kernel
theorem dX15_isPass_12 : decode cX15_isPass 12 = .ok (.iaload, 1) := by decide +kernel
theorem dX15_isPass_13 : decode cX15_isPass 13 = .ok (.istore_n 3, 1) := by decide +kernel
theorem dX15_isPass_14 : decode cX15_isPass 14 = .ok (.iload_n 3, 1) := by decide +kernel
theorem dX15_isPass_15 : decode cX15_isPass 15 = .ok (.ifCond .eq 14, 3) := by decide +kernel
theorem dX15_isPass_18 : decode cX15_isPass 18 = .ok (.iload_n 3, 1) := by decide +kernel
theorem dX15_isPass_19 : decode cX15_isPass 19 = .ok (.invokestatic 489, 3) := by decide +kernel
theorem dX15_isPass_22 : decode cX15_isPass 22 = .ok (.aload_n 1, 1) := by decide +kernel
theorem dX15_isPass_23 : decode cX15_isPass 23 = .ok (.getfield 452, 3) := by decide +kernel
theorem dX15_isPass_26 : decode cX15_isPass 26 = .ok (.if_icmp .ne 5, 3) := by decide +kernel
theorem dX15_isPass_29 : decode cX15_isPass 29 = .ok (.iconst 0, 1) := by decide +kernel
theorem dX15_isPass_30 : decode cX15_isPass 30 = .ok (.ireturn, 1) := by decide +kernel
theorem dX15_isPass_31 : decode cX15_isPass 31 = .ok (.iconst 1, 1) := by decide +kernel
theorem dX15_isPass_32 : decode cX15_isPass 32 = .ok (.istore 4, 2) := by decide +kernel
theorem dX15_isPass_34 : decode cX15_isPass 34 = .ok (.iload 4, 2) := by decide +kernel
theorem dX15_isPass_36 : decode cX15_isPass 36 = .ok (.aload_n 1, 1) := by decide +kernel
theorem dX15_isPass_37 : decode cX15_isPass 37 = .ok (.getfield 441, 3) := by decide +kernel
theorem dX15_isPass_40 : decode cX15_isPass 40 = .ok (.if_icmp .ge 26, 3) := by decide +kernel
theorem dX15_isPass_43 : decode cX15_isPass 43 = .ok (.aload_n 1, 1) := by decide +kernel
theorem dX15_isPass_44 : decode cX15_isPass 44 = .ok (.getfield 396, 3) := by decide +kernel
theorem dX15_isPass_47 : decode cX15_isPass 47 = .ok (.aload_n 1, 1) := by decide +kernel
theorem dX15_isPass_48 : decode cX15_isPass 48 = .ok (.getfield 439, 3) := by decide +kernel
theorem dX15_isPass_51 : decode cX15_isPass 51 = .ok (.iload 4, 2) := by decide +kernel
theorem dX15_isPass_53 : decode cX15_isPass 53 = .ok (.iaload, 1) := by decide +kernel
theorem dX15_isPass_54 : decode cX15_isPass 54 = .ok (.iaload, 1) := by decide +kernel
theorem dX15_isPass_55 : decode cX15_isPass 55 = .ok (.ifCond .le 5, 3) := by decide +kernel
theorem dX15_isPass_58 : decode cX15_isPass 58 = .ok (.iconst 0, 1) := by decide +kernel
theorem dX15_isPass_59 : decode cX15_isPass 59 = .ok (.ireturn, 1) := by decide +kernel
theorem dX15_isPass_60 : decode cX15_isPass 60 = .ok (.iinc 4 1, 3) := by decide +kernel
theorem dX15_isPass_63 : decode cX15_isPass 63 = .ok (.goto (-29), 3) := by decide +kernel
theorem dX15_isPass_66 : decode cX15_isPass 66 = .ok (.iload_n 3, 1) := by decide +kernel
theorem dX15_isPass_67 : decode cX15_isPass 67 = .ok (.invokestatic 489, 3) := by decide +kernel
theorem dX15_isPass_70 : decode cX15_isPass 70 = .ok (.istore 4, 2) := by decide +kernel
theorem dX15_isPass_72 : decode cX15_isPass 72 = .ok (.iconst 0, 1) := by decide +kernel
theorem dX15_isPass_73 : decode cX15_isPass 73 = .ok (.istore 5, 2) := by decide +kernel
theorem dX15_isPass_75 : decode cX15_isPass 75 = .ok (.iload 5, 2) := by decide +kernel
theorem dX15_isPass_77 : decode cX15_isPass 77 = .ok (.aload_n 0, 1) := by decide +kernel
theorem dX15_isPass_78 : decode cX15_isPass 78 = .ok (.getfield 252, 3) := by decide +kernel
theorem dX15_isPass_81 : decode cX15_isPass 81 = .ok (.getfield 176, 3) := by decide +kernel
theorem dX15_isPass_84 : decode cX15_isPass 84 = .ok (.iload_n 3, 1) := by decide +kernel
theorem dX15_isPass_85 : decode cX15_isPass 85 = .ok (.invokestatic 492, 3) := by decide +kernel
theorem dX15_isPass_88 : decode cX15_isPass 88 = .ok (.iaload, 1) := by decide +kernel
theorem dX15_isPass_89 : decode cX15_isPass 89 = .ok (.if_icmp .ge 81, 3) := by decide +kernel
theorem dX15_isPass_92 : decode cX15_isPass 92 = .ok (.bipush 8, 2) := by decide +kernel
theorem dX15_isPass_94 : decode cX15_isPass 94 = .ok (.iload_n 3, 1) := by decide +kernel
theorem dX15_isPass_95 : decode cX15_isPass 95 = .ok (.invokestatic 492, 3) := by decide +kernel
theorem dX15_isPass_98 : decode cX15_isPass 98 = .ok (.imul, 1) := by decide +kernel
theorem dX15_isPass_99 : decode cX15_isPass 99 = .ok (.iload 5, 2) := by decide +kernel
theorem dX15_isPass_101 : decode cX15_isPass 101 = .ok (.iadd, 1) := by decide +kernel
theorem dX15_isPass_102 : decode cX15_isPass 102 = .ok (.istore 6, 2) := by decide +kernel
theorem dX15_isPass_104 : decode cX15_isPass 104 = .ok (.iconst 0, 1) := by decide +kernel
theorem dX15_isPass_105 : decode cX15_isPass 105 = .ok (.istore 7, 2) := by decide +kernel
theorem dX15_isPass_107 : decode cX15_isPass 107 = .ok (.iload 7, 2) := by decide +kernel
theorem dX15_isPass_109 : decode cX15_isPass 109 = .ok (.bipush 8, 2) := by decide +kernel
theorem dX15_isPass_111 : decode cX15_isPass 111 = .ok (.if_icmp .ge 53, 3) := by decide +kernel
theorem dX15_isPass_114 : decode cX15_isPass 114 = .ok (.aload_n 0, 1) := by decide +kernel
theorem dX15_isPass_115 : decode cX15_isPass 115 = .ok (.getfield 252, 3) := by decide +kernel
theorem dX15_isPass_118 : decode cX15_isPass 118 = .ok (.getfield 198, 3) := by decide +kernel
theorem dX15_isPass_121 : decode cX15_isPass 121 = .ok (.iload 6, 2) := by decide +kernel
theorem dX15_isPass_123 : decode cX15_isPass 123 = .ok (.iaload, 1) := by decide +kernel
theorem dX15_isPass_124 : decode cX15_isPass 124 = .ok (.bipush 16, 2) := by decide +kernel
theorem dX15_isPass_126 : decode cX15_isPass 126 = .ok (.iand, 1) := by decide +kernel
theorem dX15_isPass_127 : decode cX15_isPass 127 = .ok (.ifCond .eq 37, 3) := by decide +kernel
theorem dX15_isPass_130 : decode cX15_isPass 130 = .ok (.aload_n 0, 1) := by decide +kernel
theorem dX15_isPass_131 : decode cX15_isPass 131 = .ok (.iload 6, 2) := by decide +kernel
theorem dX15_isPass_133 : decode cX15_isPass 133 = .ok (.iload 7, 2) := by decide +kernel
theorem dX15_isPass_135 : decode cX15_isPass 135 = .ok (.iload 4, 2) := by decide +kernel
theorem dX15_isPass_137 : decode cX15_isPass 137 = .ok (.invokevirtual 516, 3) := by decide +kernel
theorem dX15_isPass_140 : decode cX15_isPass 140 = .ok (.ifCond .eq 18, 3) := by decide +kernel
theorem dX15_isPass_143 : decode cX15_isPass 143 = .ok (.aload_n 0, 1) := by decide +kernel
theorem dX15_isPass_144 : decode cX15_isPass 144 = .ok (.aload_n 1, 1) := by decide +kernel
theorem dX15_isPass_145 : decode cX15_isPass 145 = .ok (.iload_n 2, 1) := by decide +kernel
theorem dX15_isPass_146 : decode cX15_isPass 146 = .ok (.iload 6, 2) := by decide +kernel
theorem dX15_isPass_148 : decode cX15_isPass 148 = .ok (.iload 4, 2) := by decide +kernel
theorem dX15_isPass_150 : decode cX15_isPass 150 = .ok (.invokevirtual 520, 3) := by decide +kernel
theorem dX15_isPass_153 : decode cX15_isPass 153 = .ok (.ifCond .eq 5, 3) := by decide +kernel
theorem dX15_isPass_156 : decode cX15_isPass 156 = .ok (.iconst 1, 1) := by decide +kernel
theorem dX15_isPass_157 : decode cX15_isPass 157 = .ok (.ireturn, 1) := by decide +kernel
theorem dX15_isPass_158 : decode cX15_isPass 158 = .ok (.iinc 7 1, 3) := by decide +kernel
theorem dX15_isPass_161 : decode cX15_isPass 161 = .ok (.goto (-54), 3) := by decide +kernel
theorem dX15_isPass_164 : decode cX15_isPass 164 = .ok (.iinc 5 1, 3) := by decide +kernel
theorem dX15_isPass_167 : decode cX15_isPass 167 = .ok (.goto (-92), 3) := by decide +kernel
theorem dX15_isPass_170 : decode cX15_isPass 170 = .ok (.iconst 0, 1) := by decide +kernel
theorem dX15_isPass_171 : decode cX15_isPass 171 = .ok (.ireturn, 1) := by decide +kernel
set_option maxRecDepth 20000 in
theorem moX15_isPass_29 {o : Int32 × Hp} {F : Nat} {h : Hp} (hE : sX15_isPass_29 F h  = some o) : Le h o.2 := by
  exact le_some2 hE
set_option maxRecDepth 20000 in
theorem moX15_isPass_164 {o : Int32 × Hp} {k_75 : Hp → Nat → Nat → Int32 → Int32 → Int32 → Int32 → Option (Int32 × Hp)} {F : Nat} (mk_75 : ∀ (h : Hp) (x0 : Nat) (x1 : Nat) (x2 : Int32) (x3 : Int32) (x4 : Int32) (x5 : Int32), k_75 h x0 x1 x2 x3 x4 x5 = some o → Le h o.2) {h : Hp} {x0 : Nat} {x1 : Nat} {x2 : Int32} {x3 : Int32} {x4 : Int32} {x5 : Int32} (hE : sX15_isPass_164 F k_75 h x0 x1 x2 x3 x4 x5 = some o) : Le h o.2 := by
  obtain ⟨v_1, ev_1, hE⟩ := nm_e2 hE
  exact mk_75 _ _ _ _ _ _ _ hE
set_option maxRecDepth 20000 in
theorem moX15_isPass_158 {o : Int32 × Hp} {k_75 : Hp → Nat → Nat → Int32 → Int32 → Int32 → Int32 → Option (Int32 × Hp)} {k_107 : Hp → Nat → Nat → Int32 → Int32 → Int32 → Int32 → Int32 → Int32 → Option (Int32 × Hp)} {F : Nat} (mk_75 : ∀ (h : Hp) (x0 : Nat) (x1 : Nat) (x2 : Int32) (x3 : Int32) (x4 : Int32) (x5 : Int32), k_75 h x0 x1 x2 x3 x4 x5 = some o → Le h o.2) (mk_107 : ∀ (h : Hp) (x0 : Nat) (x1 : Nat) (x2 : Int32) (x3 : Int32) (x4 : Int32) (x5 : Int32) (x6 : Int32) (x7 : Int32), k_107 h x0 x1 x2 x3 x4 x5 x6 x7 = some o → Le h o.2) {h : Hp} {x0 : Nat} {x1 : Nat} {x2 : Int32} {x3 : Int32} {x4 : Int32} {x5 : Int32} {x6 : Int32} {x7 : Int32} (hE : sX15_isPass_158 F k_75 k_107 h x0 x1 x2 x3 x4 x5 x6 x7 = some o) : Le h o.2 := by
  obtain ⟨v_1, ev_1, hE⟩ := nm_e2 hE
  exact mk_107 _ _ _ _ _ _ _ _ _ hE
set_option maxRecDepth 20000 in
theorem moX15_isPass_107 {o : Int32 × Hp} {k_75 : Hp → Nat → Nat → Int32 → Int32 → Int32 → Int32 → Option (Int32 × Hp)} {F : Nat} (mk_75 : ∀ (h : Hp) (x0 : Nat) (x1 : Nat) (x2 : Int32) (x3 : Int32) (x4 : Int32) (x5 : Int32), k_75 h x0 x1 x2 x3 x4 x5 = some o → Le h o.2) : ∀ (f : Nat) {h : Hp} {x0 : Nat} {x1 : Nat} {x2 : Int32} {x3 : Int32} {x4 : Int32} {x5 : Int32} {x6 : Int32} {x7 : Int32}, sX15_isPass_107 F k_75 f h x0 x1 x2 x3 x4 x5 x6 x7 = some o → Le h o.2 := by
  intro f
  induction f with
  | zero =>
    intro h x0 x1 x2 x3 x4 x5 x6 x7 hE
    rw [sX15_isPass_107] at hE
    cases hE
  | succ f ih =>
    intro h x0 x1 x2 x3 x4 x5 x6 x7 hE
    rw [sX15_isPass_107] at hE
    have mk_107 : ∀ (h : Hp) (x0 : Nat) (x1 : Nat) (x2 : Int32) (x3 : Int32) (x4 : Int32) (x5 : Int32) (x6 : Int32) (x7 : Int32), sX15_isPass_107 F k_75 f h x0 x1 x2 x3 x4 x5 x6 x7 = some o → Le h o.2 := fun h x0 x1 x2 x3 x4 x5 x6 x7 hE => ih hE
    rcases br_e hE with ⟨_, hE⟩ | ⟨_, hE⟩
    · exact moX15_isPass_164 mk_75 hE
    · obtain ⟨r_2, er_2, hE⟩ := cl_e hE
      obtain ⟨r_3, er_3, hE⟩ := cl_e hE
      obtain ⟨g_4, hE⟩ := gd_e hE
      rcases br_e hE with ⟨_, hE⟩ | ⟨_, hE⟩
      · exact moX15_isPass_164 mk_75 hE
      · obtain ⟨o_6, eo_6, hE⟩ := cl_e hE
        refine (moX15_hasVector eo_6).tr ?_
        rcases br_e hE with ⟨_, hE⟩ | ⟨_, hE⟩
        · exact moX15_isPass_158 mk_75 mk_107 hE
        · obtain ⟨o_8, eo_8, hE⟩ := cl_e hE
          refine (moX15_isPassBy eo_8).tr ?_
          rcases br_e hE with ⟨_, hE⟩ | ⟨_, hE⟩
          · exact moX15_isPass_158 mk_75 mk_107 hE
          · exact le_some2 hE
set_option maxRecDepth 20000 in
theorem moX15_isPass_75 {o : Int32 × Hp} {F : Nat} : ∀ (f : Nat) {h : Hp} {x0 : Nat} {x1 : Nat} {x2 : Int32} {x3 : Int32} {x4 : Int32} {x5 : Int32}, sX15_isPass_75 F f h x0 x1 x2 x3 x4 x5 = some o → Le h o.2 := by
  intro f
  induction f with
  | zero =>
    intro h x0 x1 x2 x3 x4 x5 hE
    rw [sX15_isPass_75] at hE
    cases hE
  | succ f ih =>
    intro h x0 x1 x2 x3 x4 x5 hE
    rw [sX15_isPass_75] at hE
    have mk_75 : ∀ (h : Hp) (x0 : Nat) (x1 : Nat) (x2 : Int32) (x3 : Int32) (x4 : Int32) (x5 : Int32), sX15_isPass_75 F f h x0 x1 x2 x3 x4 x5 = some o → Le h o.2 := fun h x0 x1 x2 x3 x4 x5 hE => ih hE
    obtain ⟨r_1, er_1, hE⟩ := cl_e hE
    obtain ⟨r_2, er_2, hE⟩ := cl_e hE
    obtain ⟨o_3, eo_3, hE⟩ := cl_e hE
    refine (moX15_manOf eo_3).tr ?_
    obtain ⟨g_4, hE⟩ := gd_e hE
    rcases br_e hE with ⟨_, hE⟩ | ⟨_, hE⟩
    · exact le_some2 hE
    · obtain ⟨o_6, eo_6, hE⟩ := cl_e hE
      refine (moX15_manOf eo_6).tr ?_
      obtain ⟨v_7, ev_7, hE⟩ := nm_e2 hE
      exact moX15_isPass_107 mk_75 _ hE
set_option maxRecDepth 20000 in
theorem moX15_isPass_34 {o : Int32 × Hp} {F : Nat} : ∀ (f : Nat) {h : Hp} {x0 : Nat} {x1 : Nat} {x2 : Int32} {x3 : Int32} {x4 : Int32}, sX15_isPass_34 F f h x0 x1 x2 x3 x4 = some o → Le h o.2 := by
  intro f
  induction f with
  | zero =>
    intro h x0 x1 x2 x3 x4 hE
    rw [sX15_isPass_34] at hE
    cases hE
  | succ f ih =>
    intro h x0 x1 x2 x3 x4 hE
    rw [sX15_isPass_34] at hE
    have mk_34 : ∀ (h : Hp) (x0 : Nat) (x1 : Nat) (x2 : Int32) (x3 : Int32) (x4 : Int32), sX15_isPass_34 F f h x0 x1 x2 x3 x4 = some o → Le h o.2 := fun h x0 x1 x2 x3 x4 hE => ih hE
    rcases br_e hE with ⟨_, hE⟩ | ⟨_, hE⟩
    · obtain ⟨o_2, eo_2, hE⟩ := cl_e hE
      refine (moX15_sideOf eo_2).tr ?_
      exact moX15_isPass_75 _ hE
    · obtain ⟨r_3, er_3, hE⟩ := cl_e hE
      obtain ⟨r_4, er_4, hE⟩ := cl_e hE
      obtain ⟨g_5, hE⟩ := gd_e hE
      obtain ⟨g_6, hE⟩ := gd_e hE
      rcases br_e hE with ⟨_, hE⟩ | ⟨_, hE⟩
      · obtain ⟨v_8, ev_8, hE⟩ := nm_e2 hE
        exact mk_34 _ _ _ _ _ _ hE
      · exact le_some2 hE
set_option maxRecDepth 20000 in
theorem moX15_isPass {o : Int32 × Hp} {F : Nat} {h : Hp} {x0 : Nat} {x1 : Nat} (hE : sX15_isPass F h x0 x1 = some o) : Le h o.2 := by
  obtain ⟨r_1, er_1, hE⟩ := cl_e hE
  obtain ⟨g_2, hE⟩ := gd_e hE
  obtain ⟨v_3, ev_3, hE⟩ := nm_e2 hE
  obtain ⟨r_4, er_4, hE⟩ := cl_e hE
  obtain ⟨g_5, hE⟩ := gd_e hE
  obtain ⟨v_6, ev_6, hE⟩ := nm_e2 hE
  rcases br_e hE with ⟨_, hE⟩ | ⟨_, hE⟩
  · exact moX15_isPass_29 hE
  · obtain ⟨o_8, eo_8, hE⟩ := cl_e hE
    refine (moX15_sideOf eo_8).tr ?_
    rcases br_e hE with ⟨_, hE⟩ | ⟨_, hE⟩
    · exact moX15_isPass_29 hE
    · exact moX15_isPass_34 _ hE
set_option maxRecDepth 20000 in
theorem bX15_isPass_29 {p : Program} {l : Launch} {e : Env} {s : State} {m : MethodId} {args : Array Value} {below : List Frame} {meth : Method} {c : Code} {X : Ec} {h0 : Hp} {o : Int32 × Hp} {F : Nat} (C : Cx X p s m args meth c RX15 cX15_isPass 8 (some .boolean) "isPass") {h : Hp} {H : Heap} {locs : List Loc} (hkm : Km h0 h) (hW : Wx X h H) (hZ : va_S (aA (eB X)) s.heap H locs) (ls : Array Slot) (hl : lv_has ls 8 []) (hE : sX15_isPass_29 F h  = some o) : W p l e (rm 2 52) s m args below meth c H locs 0 0 (MQ below (QI X h0 o.1 o.2) args s 0 0 (aA (eB X))) (F0 m 29 ls []) := by
  refine lv_iconst (v := (0 : Int32)) C.1 C.2.1 dX15_isPass_29 (by decide) ?_
  exact x_iret C rfl (by decide) hW hZ hkm hE dX15_isPass_30
set_option maxRecDepth 20000 in
theorem bX15_isPass_164 {p : Program} {l : Launch} {e : Env} {s : State} {m : MethodId} {args : Array Value} {below : List Frame} {meth : Method} {c : Code} {X : Ec} {h0 : Hp} {o : Int32 × Hp} {k_75 : Hp → Nat → Nat → Int32 → Int32 → Int32 → Int32 → Option (Int32 × Hp)} {F : Nat} (C : Cx X p s m args meth c RX15 cX15_isPass 8 (some .boolean) "isPass") (hk_75 : ∀ (h : Hp) (x0 : Nat) (x1 : Nat) (x2 : Int32) (x3 : Int32) (x4 : Int32) (x5 : Int32) (H : Heap) (locs : List Loc), hK h x0 = 15 → hK h x1 = 12 → Km h0 h → Wx X h H → va_S (aA (eB X)) s.heap H locs → ∀ (ls : Array Slot), lv_has ls 8 [(0, .ref x0), (1, .ref x1), (2, .int x2), (3, .int x3), (4, .int x4), (5, .int x5)] → k_75 h x0 x1 x2 x3 x4 x5 = some o → W p l e (rm 2 52) s m args below meth c H locs 0 0 (MQ below (QI X h0 o.1 o.2) args s 0 0 (aA (eB X))) (F0 m 75 ls [])) {h : Hp} {x0 : Nat} {x1 : Nat} {x2 : Int32} {x3 : Int32} {x4 : Int32} {x5 : Int32} {H : Heap} {locs : List Loc} (k_x0 : hK h x0 = 15) (k_x1 : hK h x1 = 12) (hkm : Km h0 h) (hW : Wx X h H) (hZ : va_S (aA (eB X)) s.heap H locs) (ls : Array Slot) (hl : lv_has ls 8 [(0, .ref x0), (1, .ref x1), (2, .int x2), (3, .int x3), (4, .int x4), (5, .int x5)]) (hE : sX15_isPass_164 F k_75 h x0 x1 x2 x3 x4 x5 = some o) : W p l e (rm 2 52) s m args below meth c H locs 0 0 (MQ below (QI X h0 o.1 o.2) args s 0 0 (aA (eB X))) (F0 m 164 ls []) := by
  obtain ⟨v_1, ev_1, hE⟩ := nm_e2 hE
  refine lv_iinc (v := v_1) (lv' := [(5, .int v_1), (0, .ref x0), (1, .ref x1), (2, .int x2), (3, .int x3), (4, .int x4)]) C.1 C.2.1 dX15_isPass_164 hl (k := 5) rfl (by rw [ev_1]; rfl) (by decide) rfl (fun ls hl => ?_)
  refine lv_goto (tgt := 75) C.1 C.2.1 dX15_isPass_167 (by decide) ?_
  exact hk_75 _ _ _ _ _ _ _ _ _ k_x0 k_x1 hkm hW hZ _ (lv_sub hl [1, 2, 3, 4, 5, 0] rfl) hE
set_option maxRecDepth 20000 in
theorem bX15_isPass_158 {p : Program} {l : Launch} {e : Env} {s : State} {m : MethodId} {args : Array Value} {below : List Frame} {meth : Method} {c : Code} {X : Ec} {h0 : Hp} {o : Int32 × Hp} {k_75 : Hp → Nat → Nat → Int32 → Int32 → Int32 → Int32 → Option (Int32 × Hp)} {k_107 : Hp → Nat → Nat → Int32 → Int32 → Int32 → Int32 → Int32 → Int32 → Option (Int32 × Hp)} {F : Nat} (C : Cx X p s m args meth c RX15 cX15_isPass 8 (some .boolean) "isPass") (hk_75 : ∀ (h : Hp) (x0 : Nat) (x1 : Nat) (x2 : Int32) (x3 : Int32) (x4 : Int32) (x5 : Int32) (H : Heap) (locs : List Loc), hK h x0 = 15 → hK h x1 = 12 → Km h0 h → Wx X h H → va_S (aA (eB X)) s.heap H locs → ∀ (ls : Array Slot), lv_has ls 8 [(0, .ref x0), (1, .ref x1), (2, .int x2), (3, .int x3), (4, .int x4), (5, .int x5)] → k_75 h x0 x1 x2 x3 x4 x5 = some o → W p l e (rm 2 52) s m args below meth c H locs 0 0 (MQ below (QI X h0 o.1 o.2) args s 0 0 (aA (eB X))) (F0 m 75 ls [])) (hk_107 : ∀ (h : Hp) (x0 : Nat) (x1 : Nat) (x2 : Int32) (x3 : Int32) (x4 : Int32) (x5 : Int32) (x6 : Int32) (x7 : Int32) (H : Heap) (locs : List Loc), hK h x0 = 15 → hK h x1 = 12 → Km h0 h → Wx X h H → va_S (aA (eB X)) s.heap H locs → ∀ (ls : Array Slot), lv_has ls 8 [(0, .ref x0), (1, .ref x1), (2, .int x2), (3, .int x3), (4, .int x4), (5, .int x5), (6, .int x6), (7, .int x7)] → k_107 h x0 x1 x2 x3 x4 x5 x6 x7 = some o → W p l e (rm 2 52) s m args below meth c H locs 0 0 (MQ below (QI X h0 o.1 o.2) args s 0 0 (aA (eB X))) (F0 m 107 ls [])) {h : Hp} {x0 : Nat} {x1 : Nat} {x2 : Int32} {x3 : Int32} {x4 : Int32} {x5 : Int32} {x6 : Int32} {x7 : Int32} {H : Heap} {locs : List Loc} (k_x0 : hK h x0 = 15) (k_x1 : hK h x1 = 12) (hkm : Km h0 h) (hW : Wx X h H) (hZ : va_S (aA (eB X)) s.heap H locs) (ls : Array Slot) (hl : lv_has ls 8 [(0, .ref x0), (1, .ref x1), (2, .int x2), (3, .int x3), (4, .int x4), (5, .int x5), (6, .int x6), (7, .int x7)]) (hE : sX15_isPass_158 F k_75 k_107 h x0 x1 x2 x3 x4 x5 x6 x7 = some o) : W p l e (rm 2 52) s m args below meth c H locs 0 0 (MQ below (QI X h0 o.1 o.2) args s 0 0 (aA (eB X))) (F0 m 158 ls []) := by
  obtain ⟨v_1, ev_1, hE⟩ := nm_e2 hE
  refine lv_iinc (v := v_1) (lv' := [(7, .int v_1), (0, .ref x0), (1, .ref x1), (2, .int x2), (3, .int x3), (4, .int x4), (5, .int x5), (6, .int x6)]) C.1 C.2.1 dX15_isPass_158 hl (k := 7) rfl (by rw [ev_1]; rfl) (by decide) rfl (fun ls hl => ?_)
  refine lv_goto (tgt := 107) C.1 C.2.1 dX15_isPass_161 (by decide) ?_
  exact hk_107 _ _ _ _ _ _ _ _ _ _ _ k_x0 k_x1 hkm hW hZ _ (lv_sub hl [1, 2, 3, 4, 5, 6, 7, 0] rfl) hE
set_option maxRecDepth 20000 in
theorem bX15_isPass_107 {p : Program} {l : Launch} {e : Env} {s : State} {m : MethodId} {args : Array Value} {below : List Frame} {meth : Method} {c : Code} {X : Ec} {h0 : Hp} {o : Int32 × Hp} {k_75 : Hp → Nat → Nat → Int32 → Int32 → Int32 → Int32 → Option (Int32 × Hp)} {F : Nat} (C : Cx X p s m args meth c RX15 cX15_isPass 8 (some .boolean) "isPass") (hk_75 : ∀ (h : Hp) (x0 : Nat) (x1 : Nat) (x2 : Int32) (x3 : Int32) (x4 : Int32) (x5 : Int32) (H : Heap) (locs : List Loc), hK h x0 = 15 → hK h x1 = 12 → Km h0 h → Wx X h H → va_S (aA (eB X)) s.heap H locs → ∀ (ls : Array Slot), lv_has ls 8 [(0, .ref x0), (1, .ref x1), (2, .int x2), (3, .int x3), (4, .int x4), (5, .int x5)] → k_75 h x0 x1 x2 x3 x4 x5 = some o → W p l e (rm 2 52) s m args below meth c H locs 0 0 (MQ below (QI X h0 o.1 o.2) args s 0 0 (aA (eB X))) (F0 m 75 ls [])) : ∀ (f : Nat) {h : Hp} {x0 : Nat} {x1 : Nat} {x2 : Int32} {x3 : Int32} {x4 : Int32} {x5 : Int32} {x6 : Int32} {x7 : Int32} {H : Heap} {locs : List Loc} (k_x0 : hK h x0 = 15) (k_x1 : hK h x1 = 12), Km h0 h → Wx X h H → va_S (aA (eB X)) s.heap H locs → ∀ (ls : Array Slot), lv_has ls 8 [(0, .ref x0), (1, .ref x1), (2, .int x2), (3, .int x3), (4, .int x4), (5, .int x5), (6, .int x6), (7, .int x7)] → sX15_isPass_107 F k_75 f h x0 x1 x2 x3 x4 x5 x6 x7 = some o → W p l e (rm 2 52) s m args below meth c H locs 0 0 (MQ below (QI X h0 o.1 o.2) args s 0 0 (aA (eB X))) (F0 m 107 ls []) := by
  intro f
  induction f with
  | zero =>
    intro h x0 x1 x2 x3 x4 x5 x6 x7 H locs k_x0 k_x1 hkm hW hZ ls hl hE
    rw [sX15_isPass_107] at hE
    cases hE
  | succ f ih =>
    intro h x0 x1 x2 x3 x4 x5 x6 x7 H locs k_x0 k_x1 hkm hW hZ ls hl hE
    rw [sX15_isPass_107] at hE
    have hk_107 : ∀ (h : Hp) (x0 : Nat) (x1 : Nat) (x2 : Int32) (x3 : Int32) (x4 : Int32) (x5 : Int32) (x6 : Int32) (x7 : Int32) (H : Heap) (locs : List Loc), hK h x0 = 15 → hK h x1 = 12 → Km h0 h → Wx X h H → va_S (aA (eB X)) s.heap H locs → ∀ (ls : Array Slot), lv_has ls 8 [(0, .ref x0), (1, .ref x1), (2, .int x2), (3, .int x3), (4, .int x4), (5, .int x5), (6, .int x6), (7, .int x7)] → sX15_isPass_107 F k_75 f h x0 x1 x2 x3 x4 x5 x6 x7 = some o → W p l e (rm 2 52) s m args below meth c H locs 0 0 (MQ below (QI X h0 o.1 o.2) args s 0 0 (aA (eB X))) (F0 m 107 ls []) := fun h x0 x1 x2 x3 x4 x5 x6 x7 H locs k_x0 k_x1 a b c ls hl hE => ih k_x0 k_x1 a b c ls hl hE
    refine lv_iload C.1 C.2.1 dX15_isPass_107 (lv_at hl 7 rfl) ?_
    refine lv_bipush (v := (8 : Int32)) C.1 C.2.1 dX15_isPass_109 (by decide) ?_
    refine lv_icmp_ge (tgt := 164) C.1 C.2.1 dX15_isPass_111 (by decide) (fun c_1 => ?_) (fun c_1 => ?_)
    · have hE := br_p hE c_1
      exact bX15_isPass_164 C hk_75 k_x0 k_x1 hkm hW hZ _ (lv_sub hl [0, 1, 2, 3, 4, 5] rfl) hE
    · have hE := br_n hE c_1
      refine lv_aload_n C.1 C.2.1 dX15_isPass_114 rfl (lv_at hl 0 rfl) ?_
      obtain ⟨r_2, er_2, hE⟩ := cl_e hE
      refine gf_X15_252 C hW k_x0 er_2 dX15_isPass_115 (fun k_r_2 => ?_)
      obtain ⟨r_3, er_3, hE⟩ := cl_e hE
      refine gf_X15_198 C hW k_r_2 er_3 dX15_isPass_118 (fun k_r_3 => ?_)
      refine lv_iload C.1 C.2.1 dX15_isPass_121 (lv_at hl 6 rfl) ?_
      obtain ⟨g_4, hE⟩ := gd_e hE
      refine y_iald C hW k_r_3 g_4 dX15_isPass_123 ?_
      refine lv_bipush (v := (16 : Int32)) C.1 C.2.1 dX15_isPass_124 (by decide) ?_
      refine lv_iand C.1 C.2.1 dX15_isPass_126 ?_
      refine lv_if_eq (tgt := 164) C.1 C.2.1 dX15_isPass_127 (by decide) (fun c_5 => ?_) (fun c_5 => ?_)
      · have hE := br_p hE c_5
        exact bX15_isPass_164 C hk_75 k_x0 k_x1 hkm hW hZ _ (lv_sub hl [0, 1, 2, 3, 4, 5] rfl) hE
      · have hE := br_n hE c_5
        refine lv_aload_n C.1 C.2.1 dX15_isPass_130 rfl (lv_at hl 0 rfl) ?_
        refine lv_iload C.1 C.2.1 dX15_isPass_131 (lv_at hl 6 rfl) ?_
        refine lv_iload C.1 C.2.1 dX15_isPass_133 (lv_at hl 7 rfl) ?_
        refine lv_iload C.1 C.2.1 dX15_isPass_135 (lv_at hl 4 rfl) ?_
        obtain ⟨o_6, eo_6, hE⟩ := cl_e hE
        refine x_kI (o := o_6) (z_runV (As := [.int x6, .int x7, .int x4]) (rest := []) C (ct_X15_hasVector l X k_x0 eo_6) cw_X15_516 hW hZ k_x0 (by decide) rfl rfl rfl hl.1 (Nat.le_of_ble_eq_true rfl) rfl dX15_isPass_137 ⟨Nat.le_of_ble_eq_true rfl, Nat.le_of_ble_eq_true rfl⟩ ⟨Nat.le_refl _, Nat.le_refl _⟩) hZ (fun _ _ hW km hZ => ?_)
        replace hkm := hkm.tr km
        replace k_x0 := km.at k_x0 (by decide)
        replace k_x1 := km.at k_x1 (by decide)
        refine lv_if_eq (tgt := 158) C.1 C.2.1 dX15_isPass_140 (by decide) (fun c_7 => ?_) (fun c_7 => ?_)
        · have hE := br_p hE c_7
          exact bX15_isPass_158 C hk_75 hk_107 k_x0 k_x1 hkm hW hZ _ (lv_sub hl [0, 1, 2, 3, 4, 5, 6, 7] rfl) hE
        · have hE := br_n hE c_7
          refine lv_aload_n C.1 C.2.1 dX15_isPass_143 rfl (lv_at hl 0 rfl) ?_
          refine lv_aload_n C.1 C.2.1 dX15_isPass_144 rfl (lv_at hl 1 rfl) ?_
          refine lv_iload_n C.1 C.2.1 dX15_isPass_145 rfl (lv_at hl 2 rfl) ?_
          refine lv_iload C.1 C.2.1 dX15_isPass_146 (lv_at hl 6 rfl) ?_
          refine lv_iload C.1 C.2.1 dX15_isPass_148 (lv_at hl 4 rfl) ?_
          obtain ⟨o_8, eo_8, hE⟩ := cl_e hE
          refine x_kI (o := o_8) (z_runV (As := [.ref x1, .int x2, .int x6, .int x4]) (rest := []) C (ct_X15_isPassBy l X F k_x0 k_x1 eo_8) cw_X15_520 hW hZ k_x0 (by decide) rfl rfl rfl hl.1 (Nat.le_of_ble_eq_true rfl) rfl dX15_isPass_150 ⟨Nat.le_of_ble_eq_true rfl, Nat.le_of_ble_eq_true rfl⟩ ⟨Nat.le_refl _, Nat.le_refl _⟩) hZ (fun _ _ hW km hZ => ?_)
          replace hkm := hkm.tr km
          replace k_x0 := km.at k_x0 (by decide)
          replace k_x1 := km.at k_x1 (by decide)
          refine lv_if_eq (tgt := 158) C.1 C.2.1 dX15_isPass_153 (by decide) (fun c_9 => ?_) (fun c_9 => ?_)
          · have hE := br_p hE c_9
            exact bX15_isPass_158 C hk_75 hk_107 k_x0 k_x1 hkm hW hZ _ (lv_sub hl [0, 1, 2, 3, 4, 5, 6, 7] rfl) hE
          · have hE := br_n hE c_9
            refine lv_iconst (v := (1 : Int32)) C.1 C.2.1 dX15_isPass_156 (by decide) ?_
            exact x_iret C rfl (by decide) hW hZ hkm hE dX15_isPass_157
set_option maxRecDepth 20000 in
theorem bX15_isPass_75 {p : Program} {l : Launch} {e : Env} {s : State} {m : MethodId} {args : Array Value} {below : List Frame} {meth : Method} {c : Code} {X : Ec} {h0 : Hp} {o : Int32 × Hp} {F : Nat} (C : Cx X p s m args meth c RX15 cX15_isPass 8 (some .boolean) "isPass") : ∀ (f : Nat) {h : Hp} {x0 : Nat} {x1 : Nat} {x2 : Int32} {x3 : Int32} {x4 : Int32} {x5 : Int32} {H : Heap} {locs : List Loc} (k_x0 : hK h x0 = 15) (k_x1 : hK h x1 = 12), Km h0 h → Wx X h H → va_S (aA (eB X)) s.heap H locs → ∀ (ls : Array Slot), lv_has ls 8 [(0, .ref x0), (1, .ref x1), (2, .int x2), (3, .int x3), (4, .int x4), (5, .int x5)] → sX15_isPass_75 F f h x0 x1 x2 x3 x4 x5 = some o → W p l e (rm 2 52) s m args below meth c H locs 0 0 (MQ below (QI X h0 o.1 o.2) args s 0 0 (aA (eB X))) (F0 m 75 ls []) := by
  intro f
  induction f with
  | zero =>
    intro h x0 x1 x2 x3 x4 x5 H locs k_x0 k_x1 hkm hW hZ ls hl hE
    rw [sX15_isPass_75] at hE
    cases hE
  | succ f ih =>
    intro h x0 x1 x2 x3 x4 x5 H locs k_x0 k_x1 hkm hW hZ ls hl hE
    rw [sX15_isPass_75] at hE
    have hk_75 : ∀ (h : Hp) (x0 : Nat) (x1 : Nat) (x2 : Int32) (x3 : Int32) (x4 : Int32) (x5 : Int32) (H : Heap) (locs : List Loc), hK h x0 = 15 → hK h x1 = 12 → Km h0 h → Wx X h H → va_S (aA (eB X)) s.heap H locs → ∀ (ls : Array Slot), lv_has ls 8 [(0, .ref x0), (1, .ref x1), (2, .int x2), (3, .int x3), (4, .int x4), (5, .int x5)] → sX15_isPass_75 F f h x0 x1 x2 x3 x4 x5 = some o → W p l e (rm 2 52) s m args below meth c H locs 0 0 (MQ below (QI X h0 o.1 o.2) args s 0 0 (aA (eB X))) (F0 m 75 ls []) := fun h x0 x1 x2 x3 x4 x5 H locs k_x0 k_x1 a b c ls hl hE => ih k_x0 k_x1 a b c ls hl hE
    refine lv_iload C.1 C.2.1 dX15_isPass_75 (lv_at hl 5 rfl) ?_
    refine lv_aload_n C.1 C.2.1 dX15_isPass_77 rfl (lv_at hl 0 rfl) ?_
    obtain ⟨r_1, er_1, hE⟩ := cl_e hE
    refine gf_X15_252 C hW k_x0 er_1 dX15_isPass_78 (fun k_r_1 => ?_)
    obtain ⟨r_2, er_2, hE⟩ := cl_e hE
    refine gf_X15_176 C hW k_r_1 er_2 dX15_isPass_81 (fun k_r_2 => ?_)
    refine lv_iload_n C.1 C.2.1 dX15_isPass_84 rfl (lv_at hl 3 rfl) ?_
    obtain ⟨o_3, eo_3, hE⟩ := cl_e hE
    refine x_kI (o := o_3) (z_runS (As := [.int x3]) (rest := [.ref r_2, .int x5]) C (ct_X15_manOf l X eo_3) cw_X15_492 hW hZ rfl hl.1 (Nat.le_of_ble_eq_true rfl) rfl dX15_isPass_85 ⟨Nat.le_of_ble_eq_true rfl, Nat.le_of_ble_eq_true rfl⟩ ⟨Nat.le_refl _, Nat.le_refl _⟩) hZ (fun _ _ hW km hZ => ?_)
    replace hkm := hkm.tr km
    replace k_x0 := km.at k_x0 (by decide)
    replace k_x1 := km.at k_x1 (by decide)
    replace k_r_2 := km.at k_r_2 (by decide)
    obtain ⟨g_4, hE⟩ := gd_e hE
    refine y_iald C hW k_r_2 g_4 dX15_isPass_88 ?_
    refine lv_icmp_ge (tgt := 170) C.1 C.2.1 dX15_isPass_89 (by decide) (fun c_5 => ?_) (fun c_5 => ?_)
    · have hE := br_p hE c_5
      refine lv_iconst (v := (0 : Int32)) C.1 C.2.1 dX15_isPass_170 (by decide) ?_
      exact x_iret C rfl (by decide) hW hZ hkm hE dX15_isPass_171
    · have hE := br_n hE c_5
      refine lv_bipush (v := (8 : Int32)) C.1 C.2.1 dX15_isPass_92 (by decide) ?_
      refine lv_iload_n C.1 C.2.1 dX15_isPass_94 rfl (lv_at hl 3 rfl) ?_
      obtain ⟨o_6, eo_6, hE⟩ := cl_e hE
      refine x_kI (o := o_6) (z_runS (As := [.int x3]) (rest := [.int (8 : Int32)]) C (ct_X15_manOf l X eo_6) cw_X15_492 hW hZ rfl hl.1 (Nat.le_of_ble_eq_true rfl) rfl dX15_isPass_95 ⟨Nat.le_of_ble_eq_true rfl, Nat.le_of_ble_eq_true rfl⟩ ⟨Nat.le_refl _, Nat.le_refl _⟩) hZ (fun _ _ hW km hZ => ?_)
      replace hkm := hkm.tr km
      replace k_x0 := km.at k_x0 (by decide)
      replace k_x1 := km.at k_x1 (by decide)
      refine lv_imul C.1 C.2.1 dX15_isPass_98 ?_
      refine lv_iload C.1 C.2.1 dX15_isPass_99 (lv_at hl 5 rfl) ?_
      refine lv_iadd C.1 C.2.1 dX15_isPass_101 ?_
      obtain ⟨v_7, ev_7, hE⟩ := nm_e2 hE
      refine x_nmI ev_7 ?_
      refine lv_istore (lv' := [(6, .int v_7), (0, .ref x0), (1, .ref x1), (2, .int x2), (3, .int x3), (4, .int x4), (5, .int x5)]) C.1 C.2.1 dX15_isPass_102 hl (by decide) rfl (fun ls hl => ?_)
      refine lv_iconst (v := (0 : Int32)) C.1 C.2.1 dX15_isPass_104 (by decide) ?_
      refine lv_istore (lv' := [(7, .int (0 : Int32)), (6, .int v_7), (0, .ref x0), (1, .ref x1), (2, .int x2), (3, .int x3), (4, .int x4), (5, .int x5)]) C.1 C.2.1 dX15_isPass_105 hl (by decide) rfl (fun ls hl => ?_)
      exact bX15_isPass_107 C hk_75 F k_x0 k_x1 hkm hW hZ _ (lv_sub hl [2, 3, 4, 5, 6, 7, 1, 0] rfl) hE
set_option maxRecDepth 20000 in
theorem bX15_isPass_34 {p : Program} {l : Launch} {e : Env} {s : State} {m : MethodId} {args : Array Value} {below : List Frame} {meth : Method} {c : Code} {X : Ec} {h0 : Hp} {o : Int32 × Hp} {F : Nat} (C : Cx X p s m args meth c RX15 cX15_isPass 8 (some .boolean) "isPass") : ∀ (f : Nat) {h : Hp} {x0 : Nat} {x1 : Nat} {x2 : Int32} {x3 : Int32} {x4 : Int32} {H : Heap} {locs : List Loc} (k_x0 : hK h x0 = 15) (k_x1 : hK h x1 = 12), Km h0 h → Wx X h H → va_S (aA (eB X)) s.heap H locs → ∀ (ls : Array Slot), lv_has ls 8 [(0, .ref x0), (1, .ref x1), (2, .int x2), (3, .int x3), (4, .int x4)] → sX15_isPass_34 F f h x0 x1 x2 x3 x4 = some o → W p l e (rm 2 52) s m args below meth c H locs 0 0 (MQ below (QI X h0 o.1 o.2) args s 0 0 (aA (eB X))) (F0 m 34 ls []) := by
  intro f
  induction f with
  | zero =>
    intro h x0 x1 x2 x3 x4 H locs k_x0 k_x1 hkm hW hZ ls hl hE
    rw [sX15_isPass_34] at hE
    cases hE
  | succ f ih =>
    intro h x0 x1 x2 x3 x4 H locs k_x0 k_x1 hkm hW hZ ls hl hE
    rw [sX15_isPass_34] at hE
    have hk_34 : ∀ (h : Hp) (x0 : Nat) (x1 : Nat) (x2 : Int32) (x3 : Int32) (x4 : Int32) (H : Heap) (locs : List Loc), hK h x0 = 15 → hK h x1 = 12 → Km h0 h → Wx X h H → va_S (aA (eB X)) s.heap H locs → ∀ (ls : Array Slot), lv_has ls 8 [(0, .ref x0), (1, .ref x1), (2, .int x2), (3, .int x3), (4, .int x4)] → sX15_isPass_34 F f h x0 x1 x2 x3 x4 = some o → W p l e (rm 2 52) s m args below meth c H locs 0 0 (MQ below (QI X h0 o.1 o.2) args s 0 0 (aA (eB X))) (F0 m 34 ls []) := fun h x0 x1 x2 x3 x4 H locs k_x0 k_x1 a b c ls hl hE => ih k_x0 k_x1 a b c ls hl hE
    refine lv_iload C.1 C.2.1 dX15_isPass_34 (lv_at hl 4 rfl) ?_
    refine lv_aload_n C.1 C.2.1 dX15_isPass_36 rfl (lv_at hl 1 rfl) ?_
    refine gf_X15_441 C hW k_x1 dX15_isPass_37 ?_
    refine lv_icmp_ge (tgt := 66) C.1 C.2.1 dX15_isPass_40 (by decide) (fun c_1 => ?_) (fun c_1 => ?_)
    · have hE := br_p hE c_1
      refine lv_iload_n C.1 C.2.1 dX15_isPass_66 rfl (lv_at hl 3 rfl) ?_
      obtain ⟨o_2, eo_2, hE⟩ := cl_e hE
      refine x_kI (o := o_2) (z_runS (As := [.int x3]) (rest := []) C (ct_X15_sideOf l X eo_2) cw_X15_489 hW hZ rfl hl.1 (Nat.le_of_ble_eq_true rfl) rfl dX15_isPass_67 ⟨Nat.le_of_ble_eq_true rfl, Nat.le_of_ble_eq_true rfl⟩ ⟨Nat.le_refl _, Nat.le_refl _⟩) hZ (fun _ _ hW km hZ => ?_)
      replace hkm := hkm.tr km
      replace k_x0 := km.at k_x0 (by decide)
      replace k_x1 := km.at k_x1 (by decide)
      refine lv_istore (lv' := [(4, .int o_2.1), (0, .ref x0), (1, .ref x1), (2, .int x2), (3, .int x3)]) C.1 C.2.1 dX15_isPass_70 hl (by decide) rfl (fun ls hl => ?_)
      refine lv_iconst (v := (0 : Int32)) C.1 C.2.1 dX15_isPass_72 (by decide) ?_
      refine lv_istore (lv' := [(5, .int (0 : Int32)), (4, .int o_2.1), (0, .ref x0), (1, .ref x1), (2, .int x2), (3, .int x3)]) C.1 C.2.1 dX15_isPass_73 hl (by decide) rfl (fun ls hl => ?_)
      exact bX15_isPass_75 C F k_x0 k_x1 hkm hW hZ _ (lv_sub hl [2, 3, 4, 5, 1, 0] rfl) hE
    · have hE := br_n hE c_1
      refine lv_aload_n C.1 C.2.1 dX15_isPass_43 rfl (lv_at hl 1 rfl) ?_
      obtain ⟨r_3, er_3, hE⟩ := cl_e hE
      refine gf_X15_396 C hW k_x1 er_3 dX15_isPass_44 (fun k_r_3 => ?_)
      refine lv_aload_n C.1 C.2.1 dX15_isPass_47 rfl (lv_at hl 1 rfl) ?_
      obtain ⟨r_4, er_4, hE⟩ := cl_e hE
      refine gf_X15_439 C hW k_x1 er_4 dX15_isPass_48 (fun k_r_4 => ?_)
      refine lv_iload C.1 C.2.1 dX15_isPass_51 (lv_at hl 4 rfl) ?_
      obtain ⟨g_5, hE⟩ := gd_e hE
      refine y_iald C hW k_r_4 g_5 dX15_isPass_53 ?_
      obtain ⟨g_6, hE⟩ := gd_e hE
      refine y_iald C hW k_r_3 g_6 dX15_isPass_54 ?_
      refine lv_if_le (tgt := 60) C.1 C.2.1 dX15_isPass_55 (by decide) (fun c_7 => ?_) (fun c_7 => ?_)
      · have hE := br_p hE c_7
        obtain ⟨v_8, ev_8, hE⟩ := nm_e2 hE
        refine lv_iinc (v := v_8) (lv' := [(4, .int v_8), (0, .ref x0), (1, .ref x1), (2, .int x2), (3, .int x3)]) C.1 C.2.1 dX15_isPass_60 hl (k := 4) rfl (by rw [ev_8]; rfl) (by decide) rfl (fun ls hl => ?_)
        refine lv_goto (tgt := 34) C.1 C.2.1 dX15_isPass_63 (by decide) ?_
        exact hk_34 _ _ _ _ _ _ _ _ k_x0 k_x1 hkm hW hZ _ (lv_sub hl [1, 2, 3, 4, 0] rfl) hE
      · have hE := br_n hE c_7
        refine lv_iconst (v := (0 : Int32)) C.1 C.2.1 dX15_isPass_58 (by decide) ?_
        exact x_iret C rfl (by decide) hW hZ hkm hE dX15_isPass_59
set_option maxRecDepth 20000 in
theorem ct_X15_isPass (l : Launch) (X : Ec) (F : Nat) {h : Hp} {x0 : Nat} {x1 : Nat} {o : Int32 × Hp} (k_x0 : hK h x0 = 15) (k_x1 : hK h x1 = 12) (hE : sX15_isPass F h x0 x1 = some o) : MetI l yX15_isPass cX15_isPass 8 (some .boolean) 2 52 X [.ref x0, .ref x1] h o := by
  refine x_met (by decide) (Nat.le_of_ble_eq_true rfl) ?_
  intro p e s m below meth c ls C hl hW hZ
  have hl : lv_has ls 8 [(0, .ref x0), (1, .ref x1)] := hl
  have hkm : Km h h := Km.rf h
  refine lv_aload_n C.1 C.2.1 dX15_isPass_0 rfl (lv_at hl 1 rfl) ?_
  obtain ⟨r_1, er_1, hE⟩ := cl_e hE
  refine gf_X15_439 C hW k_x1 er_1 dX15_isPass_1 (fun k_r_1 => ?_)
  refine lv_iconst (v := (0 : Int32)) C.1 C.2.1 dX15_isPass_4 (by decide) ?_
  obtain ⟨g_2, hE⟩ := gd_e hE
  refine y_iald C hW k_r_1 g_2 dX15_isPass_5 ?_
  obtain ⟨v_3, ev_3, hE⟩ := nm_e2 hE
  refine x_nmI ev_3 ?_
  refine lv_istore_n (lv' := [(2, .int v_3), (0, .ref x0), (1, .ref x1)]) C.1 C.2.1 dX15_isPass_6 rfl hl (by decide) rfl (fun ls hl => ?_)
  refine lv_aload_n C.1 C.2.1 dX15_isPass_7 rfl (lv_at hl 2 rfl) ?_
  obtain ⟨r_4, er_4, hE⟩ := cl_e hE
  refine gf_X15_396 C hW k_x1 er_4 dX15_isPass_8 (fun k_r_4 => ?_)
  refine lv_iload_n C.1 C.2.1 dX15_isPass_11 rfl (lv_at hl 0 rfl) ?_
  obtain ⟨g_5, hE⟩ := gd_e hE
  refine y_iald C hW k_r_4 g_5 dX15_isPass_12 ?_
  obtain ⟨v_6, ev_6, hE⟩ := nm_e2 hE
  refine x_nmI ev_6 ?_
  refine lv_istore_n (lv' := [(3, .int v_6), (2, .int v_3), (0, .ref x0), (1, .ref x1)]) C.1 C.2.1 dX15_isPass_13 rfl hl (by decide) rfl (fun ls hl => ?_)
  refine lv_iload_n C.1 C.2.1 dX15_isPass_14 rfl (lv_at hl 0 rfl) ?_
  refine lv_if_eq (tgt := 29) C.1 C.2.1 dX15_isPass_15 (by decide) (fun c_7 => ?_) (fun c_7 => ?_)
  · have hE := br_p hE c_7
    exact bX15_isPass_29 C hkm hW hZ _ (lv_sub hl [] rfl) hE
  · have hE := br_n hE c_7
    refine lv_iload_n C.1 C.2.1 dX15_isPass_18 rfl (lv_at hl 0 rfl) ?_
    obtain ⟨o_8, eo_8, hE⟩ := cl_e hE
    refine x_kI (o := o_8) (z_runS (As := [.int v_6]) (rest := []) C (ct_X15_sideOf l X eo_8) cw_X15_489 hW hZ rfl hl.1 (Nat.le_of_ble_eq_true rfl) rfl dX15_isPass_19 ⟨Nat.le_of_ble_eq_true rfl, Nat.le_of_ble_eq_true rfl⟩ ⟨Nat.le_refl _, Nat.le_refl _⟩) hZ (fun _ _ hW km hZ => ?_)
    replace hkm := hkm.tr km
    replace k_x0 := km.at k_x0 (by decide)
    replace k_x1 := km.at k_x1 (by decide)
    refine lv_aload_n C.1 C.2.1 dX15_isPass_22 rfl (lv_at hl 3 rfl) ?_
    refine gf_X15_452 C hW k_x1 dX15_isPass_23 ?_
    refine lv_icmp_ne (tgt := 31) C.1 C.2.1 dX15_isPass_26 (by decide) (fun c_9 => ?_) (fun c_9 => ?_)
    · have hE := br_n hE c_9
      refine lv_iconst (v := (1 : Int32)) C.1 C.2.1 dX15_isPass_31 (by decide) ?_
      refine lv_istore (lv' := [(4, .int (1 : Int32)), (3, .int v_6), (2, .int v_3), (0, .ref x0), (1, .ref x1)]) C.1 C.2.1 dX15_isPass_32 hl (by decide) rfl (fun ls hl => ?_)
      exact bX15_isPass_34 C F k_x0 k_x1 hkm hW hZ _ (lv_sub hl [3, 4, 2, 1, 0] rfl) hE
    · have hE := br_p hE c_9
      exact bX15_isPass_29 C hkm hW hZ _ (lv_sub hl [] rfl) hE
theorem dX15_isFrom_0 : decode cX15_isFrom 0 = .ok (.aload_n 0, 1) := by decide +kernel
theorem dX15_isFrom_1 : decode cX15_isFrom 1 = .ok (.getfield 252, 3) := by decide +kernel
theorem dX15_isFrom_4 : decode cX15_isFrom 4 = .ok (.getfield 210, 3) := by decide +kernel
theorem dX15_isFrom_7 : decode cX15_isFrom 7 = .ok (.iload_n 1, 1) := by decide +kernel
theorem dX15_isFrom_8 : decode cX15_isFrom 8 = .ok (.iaload, 1) := by decide +kernel
theorem dX15_isFrom_9 : decode cX15_isFrom 9 = .ok (.ifCond .eq 21, 3) := by decide +kernel
theorem dX15_isFrom_12 : decode cX15_isFrom 12 = .ok (.aload_n 0, 1) := by decide +kernel
theorem dX15_isFrom_13 : decode cX15_isFrom 13 = .ok (.getfield 252, 3) := by decide +kernel
theorem dX15_isFrom_16 : decode cX15_isFrom 16 = .ok (.getfield 210, 3) := by decide +kernel
theorem dX15_isFrom_19 : decode cX15_isFrom 19 = .ok (.iload_n 1, 1) := by decide +kernel
theorem dX15_isFrom_20 : decode cX15_isFrom 20 = .ok (.iaload, 1) := by decide +kernel
theorem dX15_isFrom_21 : decode cX15_isFrom 21 = .ok (.aload_n 0, 1) := by decide +kernel
theorem dX15_isFrom_22 : decode cX15_isFrom 22 = .ok (.iload_n 2, 1) := by decide +kernel
theorem dX15_isFrom_23 : decode cX15_isFrom 23 = .ok (.iload_n 3, 1) := by decide +kernel
theorem dX15_isFrom_24 : decode cX15_isFrom 24 = .ok (.invokevirtual 498, 3) := by decide +kernel
theorem dX15_isFrom_27 : decode cX15_isFrom 27 = .ok (.if_icmp .ne 7, 3) := by decide +kernel
theorem dX15_isFrom_30 : decode cX15_isFrom 30 = .ok (.iconst 1, 1) := by decide +kernel
theorem dX15_isFrom_31 : decode cX15_isFrom 31 = .ok (.goto 4, 3) := by decide +kernel
theorem dX15_isFrom_34 : decode cX15_isFrom 34 = .ok (.iconst 0, 1) := by decide +kernel
theorem dX15_isFrom_35 : decode cX15_isFrom 35 = .ok (.ireturn, 1) := by decide +kernel
set_option maxRecDepth 20000 in
theorem moX15_isFrom_35 {o : Int32 × Hp} {h : Hp} {t0 : Int32} (hE : sX15_isFrom_35 h  t0 = some o) : Le h o.2 := by
  obtain ⟨g_1, hE⟩ := gd_e hE
  exact le_some2 hE
set_option maxRecDepth 20000 in
theorem moX15_isFrom_30 {o : Int32 × Hp} {h : Hp} (hE : sX15_isFrom_30 h  = some o) : Le h o.2 := by
  exact moX15_isFrom_35 hE
set_option maxRecDepth 20000 in
theorem moX15_isFrom {o : Int32 × Hp} {h : Hp} {x0 : Nat} {x1 : Int32} {x2 : Int32} {x3 : Int32} (hE : sX15_isFrom h x0 x1 x2 x3 = some o) : Le h o.2 := by
  obtain ⟨r_1, er_1, hE⟩ := cl_e hE
  obtain ⟨r_2, er_2, hE⟩ := cl_e hE
  obtain ⟨g_3, hE⟩ := gd_e hE
  rcases br_e hE with ⟨_, hE⟩ | ⟨_, hE⟩
  · exact moX15_isFrom_30 hE
  · obtain ⟨r_5, er_5, hE⟩ := cl_e hE
    obtain ⟨r_6, er_6, hE⟩ := cl_e hE
    obtain ⟨g_7, hE⟩ := gd_e hE
    obtain ⟨o_8, eo_8, hE⟩ := cl_e hE
    refine (moX15_rankFor eo_8).tr ?_
    rcases br_e hE with ⟨_, hE⟩ | ⟨_, hE⟩
    · exact moX15_isFrom_30 hE
    · exact moX15_isFrom_35 hE
set_option maxRecDepth 20000 in
theorem bX15_isFrom_35 {p : Program} {l : Launch} {e : Env} {s : State} {m : MethodId} {args : Array Value} {below : List Frame} {meth : Method} {c : Code} {X : Ec} {h0 : Hp} {o : Int32 × Hp} (C : Cx X p s m args meth c RX15 cX15_isFrom 4 (some .boolean) "isFrom") {h : Hp} {t0 : Int32} {H : Heap} {locs : List Loc} (hkm : Km h0 h) (hW : Wx X h H) (hZ : va_S (aA (eB X)) s.heap H locs) (ls : Array Slot) (hl : lv_has ls 4 []) (hE : sX15_isFrom_35 h  t0 = some o) : W p l e (rm 1 22) s m args below meth c H locs 0 0 (MQ below (QI X h0 o.1 o.2) args s 0 0 (aA (eB X))) (F0 m 35 ls [.int t0]) := by
  obtain ⟨g_1, hE⟩ := gd_e hE
  exact x_iret C rfl (narB g_1) hW hZ hkm hE dX15_isFrom_35
set_option maxRecDepth 20000 in
theorem bX15_isFrom_30 {p : Program} {l : Launch} {e : Env} {s : State} {m : MethodId} {args : Array Value} {below : List Frame} {meth : Method} {c : Code} {X : Ec} {h0 : Hp} {o : Int32 × Hp} (C : Cx X p s m args meth c RX15 cX15_isFrom 4 (some .boolean) "isFrom") {h : Hp} {H : Heap} {locs : List Loc} (hkm : Km h0 h) (hW : Wx X h H) (hZ : va_S (aA (eB X)) s.heap H locs) (ls : Array Slot) (hl : lv_has ls 4 []) (hE : sX15_isFrom_30 h  = some o) : W p l e (rm 1 22) s m args below meth c H locs 0 0 (MQ below (QI X h0 o.1 o.2) args s 0 0 (aA (eB X))) (F0 m 30 ls []) := by
  refine lv_iconst (v := (1 : Int32)) C.1 C.2.1 dX15_isFrom_30 (by decide) ?_
  refine lv_goto (tgt := 35) C.1 C.2.1 dX15_isFrom_31 (by decide) ?_
  exact bX15_isFrom_35 C hkm hW hZ _ (lv_sub hl [] rfl) hE
set_option maxRecDepth 20000 in
theorem ct_X15_isFrom (l : Launch) (X : Ec) {h : Hp} {x0 : Nat} {x1 : Int32} {x2 : Int32} {x3 : Int32} {o : Int32 × Hp} (k_x0 : hK h x0 = 15) (hE : sX15_isFrom h x0 x1 x2 x3 = some o) : MetI l yX15_isFrom cX15_isFrom 4 (some .boolean) 1 22 X [.ref x0, .int x1, .int x2, .int x3] h o := by
  refine x_met (by decide) (Nat.le_of_ble_eq_true rfl) ?_
  intro p e s m below meth c ls C hl hW hZ
  have hl : lv_has ls 4 [(0, .ref x0), (1, .int x1), (2, .int x2), (3, .int x3)] := hl
  have hkm : Km h h := Km.rf h
  refine lv_aload_n C.1 C.2.1 dX15_isFrom_0 rfl (lv_at hl 0 rfl) ?_
  obtain ⟨r_1, er_1, hE⟩ := cl_e hE
  refine gf_X15_252 C hW k_x0 er_1 dX15_isFrom_1 (fun k_r_1 => ?_)
  obtain ⟨r_2, er_2, hE⟩ := cl_e hE
  refine gf_X15_210 C hW k_r_1 er_2 dX15_isFrom_4 (fun k_r_2 => ?_)
  refine lv_iload_n C.1 C.2.1 dX15_isFrom_7 rfl (lv_at hl 1 rfl) ?_
  obtain ⟨g_3, hE⟩ := gd_e hE
  refine y_iald C hW k_r_2 g_3 dX15_isFrom_8 ?_
  refine lv_if_eq (tgt := 30) C.1 C.2.1 dX15_isFrom_9 (by decide) (fun c_4 => ?_) (fun c_4 => ?_)
  · have hE := br_p hE c_4
    exact bX15_isFrom_30 C hkm hW hZ _ (lv_sub hl [] rfl) hE
  · have hE := br_n hE c_4
    refine lv_aload_n C.1 C.2.1 dX15_isFrom_12 rfl (lv_at hl 0 rfl) ?_
    obtain ⟨r_5, er_5, hE⟩ := cl_e hE
    refine gf_X15_252 C hW k_x0 er_5 dX15_isFrom_13 (fun k_r_5 => ?_)
    obtain ⟨r_6, er_6, hE⟩ := cl_e hE
    refine gf_X15_210 C hW k_r_5 er_6 dX15_isFrom_16 (fun k_r_6 => ?_)
    refine lv_iload_n C.1 C.2.1 dX15_isFrom_19 rfl (lv_at hl 1 rfl) ?_
    obtain ⟨g_7, hE⟩ := gd_e hE
    refine y_iald C hW k_r_6 g_7 dX15_isFrom_20 ?_
    refine lv_aload_n C.1 C.2.1 dX15_isFrom_21 rfl (lv_at hl 0 rfl) ?_
    refine lv_iload_n C.1 C.2.1 dX15_isFrom_22 rfl (lv_at hl 2 rfl) ?_
    refine lv_iload_n C.1 C.2.1 dX15_isFrom_23 rfl (lv_at hl 3 rfl) ?_
    obtain ⟨o_8, eo_8, hE⟩ := cl_e hE
    refine x_kI (o := o_8) (z_runV (As := [.int x2, .int x3]) (rest := [.int (hI h r_6 x1.toNatClampNeg)]) C (ct_X15_rankFor l X k_x0 eo_8) cw_X15_498 hW hZ k_x0 (by decide) rfl rfl rfl hl.1 (Nat.le_of_ble_eq_true rfl) rfl dX15_isFrom_24 ⟨Nat.le_of_ble_eq_true rfl, Nat.le_of_ble_eq_true rfl⟩ ⟨Nat.le_refl _, Nat.le_refl _⟩) hZ (fun _ _ hW km hZ => ?_)
    replace hkm := hkm.tr km
    replace k_x0 := km.at k_x0 (by decide)
    refine lv_icmp_ne (tgt := 34) C.1 C.2.1 dX15_isFrom_27 (by decide) (fun c_9 => ?_) (fun c_9 => ?_)
    · have hE := br_n hE c_9
      refine lv_iconst (v := (0 : Int32)) C.1 C.2.1 dX15_isFrom_34 (by decide) ?_
      exact bX15_isFrom_35 C hkm hW hZ _ (lv_sub hl [] rfl) hE
    · have hE := br_p hE c_9
      exact bX15_isFrom_30 C hkm hW hZ _ (lv_sub hl [] rfl) hE
theorem dX15_isFree_0 : decode cX15_isFree 0 = .ok (.iload_n 0, 1) := by decide +kernel
theorem dX15_isFree_1 : decode cX15_isFree 1 = .ok (.bipush 8, 2) := by decide +kernel
theorem dX15_isFree_3 : decode cX15_isFree 3 = .ok (.iand, 1) := by decide +kernel
theorem dX15_isFree_4 : decode cX15_isFree 4 = .ok (.ifCond .eq 16, 3) := by decide +kernel
theorem dX15_isFree_7 : decode cX15_isFree 7 = .ok (.iload_n 1, 1) := by decide +kernel
theorem dX15_isFree_8 : decode cX15_isFree 8 = .ok (.iconst 1, 1) := by decide +kernel
theorem dX15_isFree_9 : decode cX15_isFree 9 = .ok (.if_icmp .ne 7, 3) := by decide +kernel
theorem dX15_isFree_12 : decode cX15_isFree 12 = .ok (.iconst 1, 1) := by decide +kernel
theorem dX15_isFree_13 : decode cX15_isFree 13 = .ok (.goto 16, 3) := by decide +kernel
theorem dX15_isFree_16 : decode cX15_isFree 16 = .ok (.iconst 0, 1) := by decide +kernel
theorem dX15_isFree_17 : decode cX15_isFree 17 = .ok (.goto 12, 3) := by decide +kernel
theorem dX15_isFree_20 : decode cX15_isFree 20 = .ok (.iload_n 1, 1) := by decide +kernel
theorem dX15_isFree_21 : decode cX15_isFree 21 = .ok (.ifCond .ne 7, 3) := by decide +kernel
theorem dX15_isFree_24 : decode cX15_isFree 24 = .ok (.iconst 1, 1) := by decide +kernel
theorem dX15_isFree_25 : decode cX15_isFree 25 = .ok (.goto 4, 3) := by decide +kernel
theorem dX15_isFree_28 : decode cX15_isFree 28 = .ok (.iconst 0, 1) := by decide +kernel
theorem dX15_isFree_29 : decode cX15_isFree 29 = .ok (.ireturn, 1) := by decide +kernel
set_option maxRecDepth 20000 in
theorem moX15_isFree_29 {o : Int32 × Hp} {h : Hp} {t0 : Int32} (hE : sX15_isFree_29 h  t0 = some o) : Le h o.2 := by
  obtain ⟨g_1, hE⟩ := gd_e hE
  exact le_some2 hE
set_option maxRecDepth 20000 in
theorem moX15_isFree {o : Int32 × Hp} {h : Hp} {x0 : Int32} {x1 : Int32} (hE : sX15_isFree h x0 x1 = some o) : Le h o.2 := by
  rcases br_e hE with ⟨_, hE⟩ | ⟨_, hE⟩
  · rcases br_e hE with ⟨_, hE⟩ | ⟨_, hE⟩
    · exact moX15_isFree_29 hE
    · exact moX15_isFree_29 hE
  · rcases br_e hE with ⟨_, hE⟩ | ⟨_, hE⟩
    · exact moX15_isFree_29 hE
    · exact moX15_isFree_29 hE
set_option maxRecDepth 20000 in
theorem bX15_isFree_29 {p : Program} {l : Launch} {e : Env} {s : State} {m : MethodId} {args : Array Value} {below : List Frame} {meth : Method} {c : Code} {X : Ec} {h0 : Hp} {o : Int32 × Hp} (C : Cx X p s m args meth c RX15 cX15_isFree 2 (some .boolean) "isFree") {h : Hp} {t0 : Int32} {H : Heap} {locs : List Loc} (hkm : Km h0 h) (hW : Wx X h H) (hZ : va_S (aA (eB X)) s.heap H locs) (ls : Array Slot) (hl : lv_has ls 2 []) (hE : sX15_isFree_29 h  t0 = some o) : W p l e (rm 0 0) s m args below meth c H locs 0 0 (MQ below (QI X h0 o.1 o.2) args s 0 0 (aA (eB X))) (F0 m 29 ls [.int t0]) := by
  obtain ⟨g_1, hE⟩ := gd_e hE
  exact x_iret C rfl (narB g_1) hW hZ hkm hE dX15_isFree_29
set_option maxRecDepth 20000 in
theorem ct_X15_isFree (l : Launch) (X : Ec) {h : Hp} {x0 : Int32} {x1 : Int32} {o : Int32 × Hp} (hE : sX15_isFree h x0 x1 = some o) : MetI l yX15_isFree cX15_isFree 2 (some .boolean) 0 0 X [.int x0, .int x1] h o := by
  refine x_met (by decide) (Nat.le_of_ble_eq_true rfl) ?_
  intro p e s m below meth c ls C hl hW hZ
  have hl : lv_has ls 2 [(0, .int x0), (1, .int x1)] := hl
  have hkm : Km h h := Km.rf h
  refine lv_iload_n C.1 C.2.1 dX15_isFree_0 rfl (lv_at hl 0 rfl) ?_
  refine lv_bipush (v := (8 : Int32)) C.1 C.2.1 dX15_isFree_1 (by decide) ?_
  refine lv_iand C.1 C.2.1 dX15_isFree_3 ?_
  refine lv_if_eq (tgt := 20) C.1 C.2.1 dX15_isFree_4 (by decide) (fun c_1 => ?_) (fun c_1 => ?_)
  · have hE := br_p hE c_1
    refine lv_iload_n C.1 C.2.1 dX15_isFree_20 rfl (lv_at hl 1 rfl) ?_
    refine lv_if_ne (tgt := 28) C.1 C.2.1 dX15_isFree_21 (by decide) (fun c_2 => ?_) (fun c_2 => ?_)
    · have hE := br_n hE c_2
      refine lv_iconst (v := (0 : Int32)) C.1 C.2.1 dX15_isFree_28 (by decide) ?_
      exact bX15_isFree_29 C hkm hW hZ _ (lv_sub hl [] rfl) hE
    · have hE := br_p hE c_2
      refine lv_iconst (v := (1 : Int32)) C.1 C.2.1 dX15_isFree_24 (by decide) ?_
      refine lv_goto (tgt := 29) C.1 C.2.1 dX15_isFree_25 (by decide) ?_
      exact bX15_isFree_29 C hkm hW hZ _ (lv_sub hl [] rfl) hE
  · have hE := br_n hE c_1
    refine lv_iload_n C.1 C.2.1 dX15_isFree_7 rfl (lv_at hl 1 rfl) ?_
    refine lv_iconst (v := (1 : Int32)) C.1 C.2.1 dX15_isFree_8 (by decide) ?_
    refine lv_icmp_ne (tgt := 16) C.1 C.2.1 dX15_isFree_9 (by decide) (fun c_3 => ?_) (fun c_3 => ?_)
    · have hE := br_n hE c_3
      refine lv_iconst (v := (0 : Int32)) C.1 C.2.1 dX15_isFree_16 (by decide) ?_
      refine lv_goto (tgt := 29) C.1 C.2.1 dX15_isFree_17 (by decide) ?_
      exact bX15_isFree_29 C hkm hW hZ _ (lv_sub hl [] rfl) hE
    · have hE := br_p hE c_3
      refine lv_iconst (v := (1 : Int32)) C.1 C.2.1 dX15_isFree_12 (by decide) ?_
      refine lv_goto (tgt := 29) C.1 C.2.1 dX15_isFree_13 (by decide) ?_
      exact bX15_isFree_29 C hkm hW hZ _ (lv_sub hl [] rfl) hE
set_option maxRecDepth 100000 in
theorem m_2451 : Cond.methodLink RX15 565 yX15_isFree ∈ W0 := w0_in (List.mem_append_right _ (List.mem_of_getElem? (i := 2451) rfl)) rfl
set_option maxRecDepth 100000 in
theorem m_2452 : Cond.static yX15_isFree ∈ W0 := w0_in (List.mem_append_right _ (List.mem_of_getElem? (i := 2452) rfl)) rfl
set_option maxRecDepth 100000 in
theorem m_2453 : Cond.code yX15_isFree cX15_isFree 2 (some .boolean) ∈ W0 := w0_in (List.mem_append_right _ (List.mem_of_getElem? (i := 2453) rfl)) rfl
theorem cw_X15_565 : cwd RX15 565 yX15_isFree cX15_isFree 2 (some .boolean) true 2 := ⟨m_2453, m_2451, m_19, m_2452, by decide, by decide, by decide +kernel⟩
theorem dX15_reaches_0 : decode cX15_reaches 0 = .ok (.iconst 0, 1) := by decide +kernel
theorem dX15_reaches_1 : decode cX15_reaches 1 = .ok (.istore 5, 2) := by decide +kernel
theorem dX15_reaches_3 : decode cX15_reaches 3 = .ok (.iconst 1, 1) := by decide +kernel
theorem dX15_reaches_4 : decode cX15_reaches 4 = .ok (.istore 6, 2) := by decide +kernel
theorem dX15_reaches_6 : decode cX15_reaches 6 = .ok (.iload 6, 2) := by decide +kernel
theorem dX15_reaches_8 : decode cX15_reaches 8 = .ok (.aload_n 0, 1) := by decide +kernel
theorem dX15_reaches_9 : decode cX15_reaches 9 = .ok (.getfield 252, 3) := by decide +kernel
theorem dX15_reaches_12 : decode cX15_reaches 12 = .ok (.getfield 207, 3) := by decide +kernel
theorem dX15_reaches_15 : decode cX15_reaches 15 = .ok (.iload 4, 2) := by decide +kernel
theorem dX15_reaches_17 : decode cX15_reaches 17 = .ok (.iaload, 1) := by decide +kernel
theorem dX15_reaches_18 : decode cX15_reaches 18 = .ok (.if_icmp .gt 74, 3) := by decide +kernel
theorem dX15_reaches_21 : decode cX15_reaches 21 = .ok (.aload_n 0, 1) := by decide +kernel
theorem dX15_reaches_22 : decode cX15_reaches 22 = .ok (.iload_n 2, 1) := by decide +kernel
theorem dX15_reaches_23 : decode cX15_reaches 23 = .ok (.iload 6, 2) := by decide +kernel
theorem dX15_reaches_25 : decode cX15_reaches 25 = .ok (.invokevirtual 524, 3) := by decide +kernel
theorem dX15_reaches_28 : decode cX15_reaches 28 = .ok (.istore 7, 2) := by decide +kernel
theorem dX15_reaches_30 : decode cX15_reaches 30 = .ok (.iload 7, 2) := by decide +kernel
theorem dX15_reaches_32 : decode cX15_reaches 32 = .ok (.iconst (-1), 1) := by decide +kernel
theorem dX15_reaches_33 : decode cX15_reaches 33 = .ok (.if_icmp .eq 9, 3) := by decide +kernel
theorem dX15_reaches_36 : decode cX15_reaches 36 = .ok (.iload 5, 2) := by decide +kernel
theorem dX15_reaches_38 : decode cX15_reaches 38 = .ok (.iconst 1, 1) := by decide +kernel
theorem dX15_reaches_39 : decode cX15_reaches 39 = .ok (.if_icmp .le 5, 3) := by decide +kernel
theorem dX15_reaches_42 : decode cX15_reaches 42 = .ok (.iconst 0, 1) := by decide +kernel
theorem dX15_reaches_43 : decode cX15_reaches 43 = .ok (.ireturn, 1) := by decide +kernel
theorem dX15_reaches_44 : decode cX15_reaches 44 = .ok (.iload 7, 2) := by decide +kernel
theorem dX15_reaches_46 : decode cX15_reaches 46 = .ok (.iload_n 3, 1) := by decide +kernel
theorem dX15_reaches_47 : decode cX15_reaches 47 = .ok (.if_icmp .ne 19, 3) := by decide +kernel
theorem dX15_reaches_50 : decode cX15_reaches 50 = .ok (.aload_n 0, 1) := by decide +kernel
theorem dX15_reaches_51 : decode cX15_reaches 51 = .ok (.getfield 252, 3) := by decide +kernel
theorem dX15_reaches_54 : decode cX15_reaches 54 = .ok (.getfield 198, 3) := by decide +kernel
theorem dX15_reaches_57 : decode cX15_reaches 57 = .ok (.iload 4, 2) := by decide +kernel
theorem dX15_reaches_59 : decode cX15_reaches 59 = .ok (.iaload, 1) := by decide +kernel
theorem dX15_reaches_60 : decode cX15_reaches 60 = .ok (.iload 5, 2) := by decide +kernel
theorem dX15_reaches_62 : decode cX15_reaches 62 = .ok (.invokestatic 565, 3) := by decide +kernel
theorem dX15_reaches_65 : decode cX15_reaches 65 = .ok (.ireturn, 1) := by decide +kernel
theorem dX15_reaches_66 : decode cX15_reaches 66 = .ok (.iload 5, 2) := by decide +kernel
theorem dX15_reaches_68 : decode cX15_reaches 68 = .ok (.aload_n 1, 1) := by decide +kernel
theorem dX15_reaches_69 : decode cX15_reaches 69 = .ok (.getfield 396, 3) := by decide +kernel
theorem dX15_reaches_72 : decode cX15_reaches 72 = .ok (.iload 7, 2) := by decide +kernel
theorem dX15_reaches_74 : decode cX15_reaches 74 = .ok (.iaload, 1) := by decide +kernel
theorem dX15_reaches_75 : decode cX15_reaches 75 = .ok (.ifCond .le 7, 3) := by decide +kernel
theorem dX15_reaches_78 : decode cX15_reaches 78 = .ok (.iconst 1, 1) := by decide +kernel
theorem dX15_reaches_79 : decode cX15_reaches 79 = .ok (.goto 4, 3) := by decide +kernel
theorem dX15_reaches_82 : decode cX15_reaches 82 = .ok (.iconst 0, 1) := by decide +kernel
theorem dX15_reaches_83 : decode cX15_reaches 83 = .ok (.iadd, 1) := by decide +kernel
theorem dX15_reaches_84 : decode cX15_reaches 84 = .ok (.istore 5, 2) := by decide +kernel
theorem dX15_reaches_86 : decode cX15_reaches 86 = .ok (.iinc 6 1, 3) := by decide +kernel
theorem dX15_reaches_89 : decode cX15_reaches 89 = .ok (.goto (-83), 3) := by decide +kernel
theorem dX15_reaches_92 : decode cX15_reaches 92 = .ok (.iconst 0, 1) := by decide +kernel
theorem dX15_reaches_93 : decode cX15_reaches 93 = .ok (.ireturn, 1) := by decide +kernel
set_option maxRecDepth 20000 in
theorem moX15_reaches_42 {o : Int32 × Hp} {F : Nat} {h : Hp} (hE : sX15_reaches_42 F h  = some o) : Le h o.2 := by
  exact le_some2 hE
set_option maxRecDepth 20000 in
theorem moX15_reaches_83 {o : Int32 × Hp} {k_6 : Hp → Nat → Nat → Int32 → Int32 → Int32 → Int32 → Int32 → Option (Int32 × Hp)} {F : Nat} (mk_6 : ∀ (h : Hp) (x0 : Nat) (x1 : Nat) (x2 : Int32) (x3 : Int32) (x4 : Int32) (x5 : Int32) (x6 : Int32), k_6 h x0 x1 x2 x3 x4 x5 x6 = some o → Le h o.2) {h : Hp} {x0 : Nat} {x1 : Nat} {x2 : Int32} {x3 : Int32} {x4 : Int32} {x6 : Int32} {t0 : Int32} {t1 : Int32} (hE : sX15_reaches_83 F k_6 h x0 x1 x2 x3 x4 x6 t0 t1 = some o) : Le h o.2 := by
  obtain ⟨v_1, ev_1, hE⟩ := nm_e2 hE
  obtain ⟨v_2, ev_2, hE⟩ := nm_e2 hE
  exact mk_6 _ _ _ _ _ _ _ _ hE
set_option maxRecDepth 20000 in
theorem moX15_reaches_6 {o : Int32 × Hp} {F : Nat} : ∀ (f : Nat) {h : Hp} {x0 : Nat} {x1 : Nat} {x2 : Int32} {x3 : Int32} {x4 : Int32} {x5 : Int32} {x6 : Int32}, sX15_reaches_6 F f h x0 x1 x2 x3 x4 x5 x6 = some o → Le h o.2 := by
  intro f
  induction f with
  | zero =>
    intro h x0 x1 x2 x3 x4 x5 x6 hE
    rw [sX15_reaches_6] at hE
    cases hE
  | succ f ih =>
    intro h x0 x1 x2 x3 x4 x5 x6 hE
    rw [sX15_reaches_6] at hE
    have mk_6 : ∀ (h : Hp) (x0 : Nat) (x1 : Nat) (x2 : Int32) (x3 : Int32) (x4 : Int32) (x5 : Int32) (x6 : Int32), sX15_reaches_6 F f h x0 x1 x2 x3 x4 x5 x6 = some o → Le h o.2 := fun h x0 x1 x2 x3 x4 x5 x6 hE => ih hE
    obtain ⟨r_1, er_1, hE⟩ := cl_e hE
    obtain ⟨r_2, er_2, hE⟩ := cl_e hE
    obtain ⟨g_3, hE⟩ := gd_e hE
    rcases br_e hE with ⟨_, hE⟩ | ⟨_, hE⟩
    · exact le_some2 hE
    · obtain ⟨o_5, eo_5, hE⟩ := cl_e hE
      refine (moX15_onward eo_5).tr ?_
      rcases br_e hE with ⟨_, hE⟩ | ⟨_, hE⟩
      · exact moX15_reaches_42 hE
      · rcases br_e hE with ⟨_, hE⟩ | ⟨_, hE⟩
        · rcases br_e hE with ⟨_, hE⟩ | ⟨_, hE⟩
          · obtain ⟨r_12, er_12, hE⟩ := cl_e hE
            obtain ⟨r_13, er_13, hE⟩ := cl_e hE
            obtain ⟨g_14, hE⟩ := gd_e hE
            obtain ⟨o_15, eo_15, hE⟩ := cl_e hE
            refine (moX15_isFree eo_15).tr ?_
            obtain ⟨g_16, hE⟩ := gd_e hE
            exact le_some2 hE
          · obtain ⟨r_9, er_9, hE⟩ := cl_e hE
            obtain ⟨g_10, hE⟩ := gd_e hE
            rcases br_e hE with ⟨_, hE⟩ | ⟨_, hE⟩
            · exact moX15_reaches_83 mk_6 hE
            · exact moX15_reaches_83 mk_6 hE
        · exact moX15_reaches_42 hE
set_option maxRecDepth 20000 in
theorem moX15_reaches {o : Int32 × Hp} {F : Nat} {h : Hp} {x0 : Nat} {x1 : Nat} {x2 : Int32} {x3 : Int32} {x4 : Int32} (hE : sX15_reaches F h x0 x1 x2 x3 x4 = some o) : Le h o.2 := by
  exact moX15_reaches_6 _ hE
set_option maxRecDepth 20000 in
theorem bX15_reaches_42 {p : Program} {l : Launch} {e : Env} {s : State} {m : MethodId} {args : Array Value} {below : List Frame} {meth : Method} {c : Code} {X : Ec} {h0 : Hp} {o : Int32 × Hp} {F : Nat} (C : Cx X p s m args meth c RX15 cX15_reaches 8 (some .boolean) "reaches") {h : Hp} {H : Heap} {locs : List Loc} (hkm : Km h0 h) (hW : Wx X h H) (hZ : va_S (aA (eB X)) s.heap H locs) (ls : Array Slot) (hl : lv_has ls 8 []) (hE : sX15_reaches_42 F h  = some o) : W p l e (rm 1 24) s m args below meth c H locs 0 0 (MQ below (QI X h0 o.1 o.2) args s 0 0 (aA (eB X))) (F0 m 42 ls []) := by
  refine lv_iconst (v := (0 : Int32)) C.1 C.2.1 dX15_reaches_42 (by decide) ?_
  exact x_iret C rfl (by decide) hW hZ hkm hE dX15_reaches_43
set_option maxRecDepth 20000 in
theorem bX15_reaches_83 {p : Program} {l : Launch} {e : Env} {s : State} {m : MethodId} {args : Array Value} {below : List Frame} {meth : Method} {c : Code} {X : Ec} {h0 : Hp} {o : Int32 × Hp} {k_6 : Hp → Nat → Nat → Int32 → Int32 → Int32 → Int32 → Int32 → Option (Int32 × Hp)} {F : Nat} (C : Cx X p s m args meth c RX15 cX15_reaches 8 (some .boolean) "reaches") (hk_6 : ∀ (h : Hp) (x0 : Nat) (x1 : Nat) (x2 : Int32) (x3 : Int32) (x4 : Int32) (x5 : Int32) (x6 : Int32) (H : Heap) (locs : List Loc), hK h x0 = 15 → hK h x1 = 12 → Km h0 h → Wx X h H → va_S (aA (eB X)) s.heap H locs → ∀ (ls : Array Slot), lv_has ls 8 [(0, .ref x0), (1, .ref x1), (2, .int x2), (3, .int x3), (4, .int x4), (5, .int x5), (6, .int x6)] → k_6 h x0 x1 x2 x3 x4 x5 x6 = some o → W p l e (rm 1 24) s m args below meth c H locs 0 0 (MQ below (QI X h0 o.1 o.2) args s 0 0 (aA (eB X))) (F0 m 6 ls [])) {h : Hp} {x0 : Nat} {x1 : Nat} {x2 : Int32} {x3 : Int32} {x4 : Int32} {x6 : Int32} {t0 : Int32} {t1 : Int32} {H : Heap} {locs : List Loc} (k_x0 : hK h x0 = 15) (k_x1 : hK h x1 = 12) (hkm : Km h0 h) (hW : Wx X h H) (hZ : va_S (aA (eB X)) s.heap H locs) (ls : Array Slot) (hl : lv_has ls 8 [(0, .ref x0), (1, .ref x1), (2, .int x2), (3, .int x3), (4, .int x4), (6, .int x6)]) (hE : sX15_reaches_83 F k_6 h x0 x1 x2 x3 x4 x6 t0 t1 = some o) : W p l e (rm 1 24) s m args below meth c H locs 0 0 (MQ below (QI X h0 o.1 o.2) args s 0 0 (aA (eB X))) (F0 m 83 ls [.int t0, .int t1]) := by
  refine lv_iadd C.1 C.2.1 dX15_reaches_83 ?_
  obtain ⟨v_1, ev_1, hE⟩ := nm_e2 hE
  refine x_nmI ev_1 ?_
  refine lv_istore (lv' := [(5, .int v_1), (0, .ref x0), (1, .ref x1), (2, .int x2), (3, .int x3), (4, .int x4), (6, .int x6)]) C.1 C.2.1 dX15_reaches_84 hl (by decide) rfl (fun ls hl => ?_)
  obtain ⟨v_2, ev_2, hE⟩ := nm_e2 hE
  refine lv_iinc (v := v_2) (lv' := [(6, .int v_2), (5, .int v_1), (0, .ref x0), (1, .ref x1), (2, .int x2), (3, .int x3), (4, .int x4)]) C.1 C.2.1 dX15_reaches_86 hl (k := 6) rfl (by rw [ev_2]; rfl) (by decide) rfl (fun ls hl => ?_)
  refine lv_goto (tgt := 6) C.1 C.2.1 dX15_reaches_89 (by decide) ?_
  exact hk_6 _ _ _ _ _ _ _ _ _ _ k_x0 k_x1 hkm hW hZ _ (lv_sub hl [2, 3, 4, 5, 6, 1, 0] rfl) hE
set_option maxRecDepth 20000 in
theorem bX15_reaches_6 {p : Program} {l : Launch} {e : Env} {s : State} {m : MethodId} {args : Array Value} {below : List Frame} {meth : Method} {c : Code} {X : Ec} {h0 : Hp} {o : Int32 × Hp} {F : Nat} (C : Cx X p s m args meth c RX15 cX15_reaches 8 (some .boolean) "reaches") : ∀ (f : Nat) {h : Hp} {x0 : Nat} {x1 : Nat} {x2 : Int32} {x3 : Int32} {x4 : Int32} {x5 : Int32} {x6 : Int32} {H : Heap} {locs : List Loc} (k_x0 : hK h x0 = 15) (k_x1 : hK h x1 = 12), Km h0 h → Wx X h H → va_S (aA (eB X)) s.heap H locs → ∀ (ls : Array Slot), lv_has ls 8 [(0, .ref x0), (1, .ref x1), (2, .int x2), (3, .int x3), (4, .int x4), (5, .int x5), (6, .int x6)] → sX15_reaches_6 F f h x0 x1 x2 x3 x4 x5 x6 = some o → W p l e (rm 1 24) s m args below meth c H locs 0 0 (MQ below (QI X h0 o.1 o.2) args s 0 0 (aA (eB X))) (F0 m 6 ls []) := by
  intro f
  induction f with
  | zero =>
    intro h x0 x1 x2 x3 x4 x5 x6 H locs k_x0 k_x1 hkm hW hZ ls hl hE
    rw [sX15_reaches_6] at hE
    cases hE
  | succ f ih =>
    intro h x0 x1 x2 x3 x4 x5 x6 H locs k_x0 k_x1 hkm hW hZ ls hl hE
    rw [sX15_reaches_6] at hE
    have hk_6 : ∀ (h : Hp) (x0 : Nat) (x1 : Nat) (x2 : Int32) (x3 : Int32) (x4 : Int32) (x5 : Int32) (x6 : Int32) (H : Heap) (locs : List Loc), hK h x0 = 15 → hK h x1 = 12 → Km h0 h → Wx X h H → va_S (aA (eB X)) s.heap H locs → ∀ (ls : Array Slot), lv_has ls 8 [(0, .ref x0), (1, .ref x1), (2, .int x2), (3, .int x3), (4, .int x4), (5, .int x5), (6, .int x6)] → sX15_reaches_6 F f h x0 x1 x2 x3 x4 x5 x6 = some o → W p l e (rm 1 24) s m args below meth c H locs 0 0 (MQ below (QI X h0 o.1 o.2) args s 0 0 (aA (eB X))) (F0 m 6 ls []) := fun h x0 x1 x2 x3 x4 x5 x6 H locs k_x0 k_x1 a b c ls hl hE => ih k_x0 k_x1 a b c ls hl hE
    refine lv_iload C.1 C.2.1 dX15_reaches_6 (lv_at hl 6 rfl) ?_
    refine lv_aload_n C.1 C.2.1 dX15_reaches_8 rfl (lv_at hl 0 rfl) ?_
    obtain ⟨r_1, er_1, hE⟩ := cl_e hE
    refine gf_X15_252 C hW k_x0 er_1 dX15_reaches_9 (fun k_r_1 => ?_)
    obtain ⟨r_2, er_2, hE⟩ := cl_e hE
    refine gf_X15_207 C hW k_r_1 er_2 dX15_reaches_12 (fun k_r_2 => ?_)
    refine lv_iload C.1 C.2.1 dX15_reaches_15 (lv_at hl 4 rfl) ?_
    obtain ⟨g_3, hE⟩ := gd_e hE
    refine y_iald C hW k_r_2 g_3 dX15_reaches_17 ?_
    refine lv_icmp_gt (tgt := 92) C.1 C.2.1 dX15_reaches_18 (by decide) (fun c_4 => ?_) (fun c_4 => ?_)
    · have hE := br_p hE c_4
      refine lv_iconst (v := (0 : Int32)) C.1 C.2.1 dX15_reaches_92 (by decide) ?_
      exact x_iret C rfl (by decide) hW hZ hkm hE dX15_reaches_93
    · have hE := br_n hE c_4
      refine lv_aload_n C.1 C.2.1 dX15_reaches_21 rfl (lv_at hl 0 rfl) ?_
      refine lv_iload_n C.1 C.2.1 dX15_reaches_22 rfl (lv_at hl 2 rfl) ?_
      refine lv_iload C.1 C.2.1 dX15_reaches_23 (lv_at hl 6 rfl) ?_
      obtain ⟨o_5, eo_5, hE⟩ := cl_e hE
      refine x_kI (o := o_5) (z_runV (As := [.int x2, .int x6]) (rest := []) C (ct_X15_onward l X k_x0 eo_5) cw_X15_524 hW hZ k_x0 (by decide) rfl rfl rfl hl.1 (Nat.le_of_ble_eq_true rfl) rfl dX15_reaches_25 ⟨Nat.le_of_ble_eq_true rfl, Nat.le_of_ble_eq_true rfl⟩ ⟨Nat.le_refl _, Nat.le_refl _⟩) hZ (fun _ _ hW km hZ => ?_)
      replace hkm := hkm.tr km
      replace k_x0 := km.at k_x0 (by decide)
      replace k_x1 := km.at k_x1 (by decide)
      refine lv_istore (lv' := [(7, .int o_5.1), (0, .ref x0), (1, .ref x1), (2, .int x2), (3, .int x3), (4, .int x4), (5, .int x5), (6, .int x6)]) C.1 C.2.1 dX15_reaches_28 hl (by decide) rfl (fun ls hl => ?_)
      refine lv_iload C.1 C.2.1 dX15_reaches_30 (lv_at hl 0 rfl) ?_
      refine lv_iconst (v := (-1 : Int32)) C.1 C.2.1 dX15_reaches_32 (by decide) ?_
      refine lv_icmp_eq (tgt := 42) C.1 C.2.1 dX15_reaches_33 (by decide) (fun c_6 => ?_) (fun c_6 => ?_)
      · have hE := br_p hE c_6
        exact bX15_reaches_42 C hkm hW hZ _ (lv_sub hl [] rfl) hE
      · have hE := br_n hE c_6
        refine lv_iload C.1 C.2.1 dX15_reaches_36 (lv_at hl 6 rfl) ?_
        refine lv_iconst (v := (1 : Int32)) C.1 C.2.1 dX15_reaches_38 (by decide) ?_
        refine lv_icmp_le (tgt := 44) C.1 C.2.1 dX15_reaches_39 (by decide) (fun c_7 => ?_) (fun c_7 => ?_)
        · have hE := br_p hE c_7
          refine lv_iload C.1 C.2.1 dX15_reaches_44 (lv_at hl 0 rfl) ?_
          refine lv_iload_n C.1 C.2.1 dX15_reaches_46 rfl (lv_at hl 4 rfl) ?_
          refine lv_icmp_ne (tgt := 66) C.1 C.2.1 dX15_reaches_47 (by decide) (fun c_8 => ?_) (fun c_8 => ?_)
          · have hE := br_n hE c_8
            refine lv_iload C.1 C.2.1 dX15_reaches_66 (lv_at hl 6 rfl) ?_
            refine lv_aload_n C.1 C.2.1 dX15_reaches_68 rfl (lv_at hl 2 rfl) ?_
            obtain ⟨r_9, er_9, hE⟩ := cl_e hE
            refine gf_X15_396 C hW k_x1 er_9 dX15_reaches_69 (fun k_r_9 => ?_)
            refine lv_iload C.1 C.2.1 dX15_reaches_72 (lv_at hl 0 rfl) ?_
            obtain ⟨g_10, hE⟩ := gd_e hE
            refine y_iald C hW k_r_9 g_10 dX15_reaches_74 ?_
            refine lv_if_le (tgt := 82) C.1 C.2.1 dX15_reaches_75 (by decide) (fun c_11 => ?_) (fun c_11 => ?_)
            · have hE := br_p hE c_11
              refine lv_iconst (v := (0 : Int32)) C.1 C.2.1 dX15_reaches_82 (by decide) ?_
              exact bX15_reaches_83 C hk_6 k_x0 k_x1 hkm hW hZ _ (lv_sub hl [1, 2, 3, 4, 5, 7] rfl) hE
            · have hE := br_n hE c_11
              refine lv_iconst (v := (1 : Int32)) C.1 C.2.1 dX15_reaches_78 (by decide) ?_
              refine lv_goto (tgt := 83) C.1 C.2.1 dX15_reaches_79 (by decide) ?_
              exact bX15_reaches_83 C hk_6 k_x0 k_x1 hkm hW hZ _ (lv_sub hl [1, 2, 3, 4, 5, 7] rfl) hE
          · have hE := br_p hE c_8
            refine lv_aload_n C.1 C.2.1 dX15_reaches_50 rfl (lv_at hl 1 rfl) ?_
            obtain ⟨r_12, er_12, hE⟩ := cl_e hE
            refine gf_X15_252 C hW k_x0 er_12 dX15_reaches_51 (fun k_r_12 => ?_)
            obtain ⟨r_13, er_13, hE⟩ := cl_e hE
            refine gf_X15_198 C hW k_r_12 er_13 dX15_reaches_54 (fun k_r_13 => ?_)
            refine lv_iload C.1 C.2.1 dX15_reaches_57 (lv_at hl 5 rfl) ?_
            obtain ⟨g_14, hE⟩ := gd_e hE
            refine y_iald C hW k_r_13 g_14 dX15_reaches_59 ?_
            refine lv_iload C.1 C.2.1 dX15_reaches_60 (lv_at hl 6 rfl) ?_
            obtain ⟨o_15, eo_15, hE⟩ := cl_e hE
            refine x_kI (o := o_15) (z_runS (As := [.int (hI o_5.2 r_13 x4.toNatClampNeg), .int x5]) (rest := []) C (ct_X15_isFree l X eo_15) cw_X15_565 hW hZ rfl hl.1 (Nat.le_of_ble_eq_true rfl) rfl dX15_reaches_62 ⟨Nat.le_of_ble_eq_true rfl, Nat.le_of_ble_eq_true rfl⟩ ⟨Nat.le_refl _, Nat.le_refl _⟩) hZ (fun _ _ hW km hZ => ?_)
            replace hkm := hkm.tr km
            replace k_x0 := km.at k_x0 (by decide)
            replace k_x1 := km.at k_x1 (by decide)
            obtain ⟨g_16, hE⟩ := gd_e hE
            exact x_iret C rfl (narB g_16) hW hZ hkm hE dX15_reaches_65
        · have hE := br_n hE c_7
          exact bX15_reaches_42 C hkm hW hZ _ (lv_sub hl [] rfl) hE
set_option maxRecDepth 20000 in
theorem ct_X15_reaches (l : Launch) (X : Ec) (F : Nat) {h : Hp} {x0 : Nat} {x1 : Nat} {x2 : Int32} {x3 : Int32} {x4 : Int32} {o : Int32 × Hp} (k_x0 : hK h x0 = 15) (k_x1 : hK h x1 = 12) (hE : sX15_reaches F h x0 x1 x2 x3 x4 = some o) : MetI l yX15_reaches cX15_reaches 8 (some .boolean) 1 24 X [.ref x0, .ref x1, .int x2, .int x3, .int x4] h o := by
  refine x_met (by decide) (Nat.le_of_ble_eq_true rfl) ?_
  intro p e s m below meth c ls C hl hW hZ
  have hl : lv_has ls 8 [(0, .ref x0), (1, .ref x1), (2, .int x2), (3, .int x3), (4, .int x4)] := hl
  have hkm : Km h h := Km.rf h
  refine lv_iconst (v := (0 : Int32)) C.1 C.2.1 dX15_reaches_0 (by decide) ?_
  refine lv_istore (lv' := [(5, .int (0 : Int32)), (0, .ref x0), (1, .ref x1), (2, .int x2), (3, .int x3), (4, .int x4)]) C.1 C.2.1 dX15_reaches_1 hl (by decide) rfl (fun ls hl => ?_)
  refine lv_iconst (v := (1 : Int32)) C.1 C.2.1 dX15_reaches_3 (by decide) ?_
  refine lv_istore (lv' := [(6, .int (1 : Int32)), (5, .int (0 : Int32)), (0, .ref x0), (1, .ref x1), (2, .int x2), (3, .int x3), (4, .int x4)]) C.1 C.2.1 dX15_reaches_4 hl (by decide) rfl (fun ls hl => ?_)
  exact bX15_reaches_6 C F k_x0 k_x1 hkm hW hZ _ (lv_sub hl [2, 3, 4, 5, 6, 1, 0] rfl) hE
set_option maxRecDepth 100000 in
theorem ms_158 : Cond.selects RX15 yX15_reaches yX15_reaches ∈ W0 := w0_in (List.mem_append_left _ (List.mem_of_getElem? (i := 158) rfl)) rfl
set_option maxRecDepth 100000 in
theorem ms_157 : Cond.selects RX15 yX15_isFrom yX15_isFrom ∈ W0 := w0_in (List.mem_append_left _ (List.mem_of_getElem? (i := 157) rfl)) rfl
set_option maxRecDepth 100000 in
theorem m_2443 : Cond.methodLink RX15 559 yX15_isFrom ∈ W0 := w0_in (List.mem_append_right _ (List.mem_of_getElem? (i := 2443) rfl)) rfl
set_option maxRecDepth 100000 in
theorem m_2445 : Cond.instanceMethod yX15_isFrom ∈ W0 := w0_in (List.mem_append_right _ (List.mem_of_getElem? (i := 2445) rfl)) rfl
set_option maxRecDepth 100000 in
theorem m_2446 : Cond.code yX15_isFrom cX15_isFrom 4 (some .boolean) ∈ W0 := w0_in (List.mem_append_right _ (List.mem_of_getElem? (i := 2446) rfl)) rfl
set_option maxRecDepth 100000 in
theorem m_2447 : Cond.methodLink RX15 562 yX15_reaches ∈ W0 := w0_in (List.mem_append_right _ (List.mem_of_getElem? (i := 2447) rfl)) rfl
set_option maxRecDepth 100000 in
theorem m_2449 : Cond.instanceMethod yX15_reaches ∈ W0 := w0_in (List.mem_append_right _ (List.mem_of_getElem? (i := 2449) rfl)) rfl
set_option maxRecDepth 100000 in
theorem m_2450 : Cond.code yX15_reaches cX15_reaches 8 (some .boolean) ∈ W0 := w0_in (List.mem_append_right _ (List.mem_of_getElem? (i := 2450) rfl)) rfl
theorem cw_X15_562 : cwd RX15 562 yX15_reaches cX15_reaches 8 (some .boolean) false 4 := ⟨m_2450, m_2447, m_19, ⟨m_2449, ms_158⟩, by decide, by decide, by decide +kernel⟩
theorem cw_X15_559 : cwd RX15 559 yX15_isFrom cX15_isFrom 4 (some .boolean) false 3 := ⟨m_2446, m_2443, m_19, ⟨m_2445, ms_157⟩, by decide, by decide, by decide +kernel⟩
theorem dX15_attacks_0 : decode cX15_attacks 0 = .ok (.iload_n 3, 1) := by decide +kernel
theorem dX15_attacks_1 : decode cX15_attacks 1 = .ok (.invokestatic 492, 3) := by decide +kernel
theorem dX15_attacks_4 : decode cX15_attacks 4 = .ok (.istore 5, 2) := by decide +kernel
theorem dX15_attacks_6 : decode cX15_attacks 6 = .ok (.iconst 0, 1) := by decide +kernel
theorem dX15_attacks_7 : decode cX15_attacks 7 = .ok (.istore 6, 2) := by decide +kernel
theorem dX15_attacks_9 : decode cX15_attacks 9 = .ok (.iload 6, 2) := by decide +kernel
theorem dX15_attacks_11 : decode cX15_attacks 11 = .ok (.aload_n 0, 1) := by decide +kernel
theorem dX15_attacks_12 : decode cX15_attacks 12 = .ok (.getfield 252, 3) := by decide +kernel
theorem dX15_attacks_15 : decode cX15_attacks 15 = .ok (.getfield 176, 3) := by decide +kernel
theorem dX15_attacks_18 : decode cX15_attacks 18 = .ok (.iload 5, 2) := by decide +kernel
theorem dX15_attacks_20 : decode cX15_attacks 20 = .ok (.iaload, 1) := by decide +kernel
theorem dX15_attacks_21 : decode cX15_attacks 21 = .ok (.if_icmp .ge 98, 3) := by decide +kernel
theorem dX15_attacks_24 : decode cX15_attacks 24 = .ok (.bipush 8, 2) := by decide +kernel
theorem dX15_attacks_26 : decode cX15_attacks 26 = .ok (.iload 5, 2) := by decide +kernel
theorem dX15_attacks_28 : decode cX15_attacks 28 = .ok (.imul, 1) := by decide +kernel
theorem dX15_attacks_29 : decode cX15_attacks 29 = .ok (.iload 6, 2) := by decide +kernel
theorem dX15_attacks_31 : decode cX15_attacks 31 = .ok (.iadd, 1) := by decide +kernel
theorem dX15_attacks_32 : decode cX15_attacks 32 = .ok (.istore 7, 2) := by decide +kernel
theorem dX15_attacks_34 : decode cX15_attacks 34 = .ok (.aload_n 0, 1) := by decide +kernel
theorem dX15_attacks_35 : decode cX15_attacks 35 = .ok (.getfield 252, 3) := by decide +kernel
theorem dX15_attacks_38 : decode cX15_attacks 38 = .ok (.getfield 198, 3) := by decide +kernel
theorem dX15_attacks_41 : decode cX15_attacks 41 = .ok (.iload 7, 2) := by decide +kernel
theorem dX15_attacks_43 : decode cX15_attacks 43 = .ok (.iaload, 1) := by decide +kernel
theorem dX15_attacks_44 : decode cX15_attacks 44 = .ok (.istore 8, 2) := by decide +kernel
theorem dX15_attacks_46 : decode cX15_attacks 46 = .ok (.iload 8, 2) := by decide +kernel
theorem dX15_attacks_48 : decode cX15_attacks 48 = .ok (.iconst 1, 1) := by decide +kernel
theorem dX15_attacks_49 : decode cX15_attacks 49 = .ok (.iand, 1) := by decide +kernel
theorem dX15_attacks_50 : decode cX15_attacks 50 = .ok (.ifCond .ne 63, 3) := by decide +kernel
theorem dX15_attacks_53 : decode cX15_attacks 53 = .ok (.aload_n 0, 1) := by decide +kernel
theorem dX15_attacks_54 : decode cX15_attacks 54 = .ok (.iload 7, 2) := by decide +kernel
theorem dX15_attacks_56 : decode cX15_attacks 56 = .ok (.iload_n 2, 1) := by decide +kernel
theorem dX15_attacks_57 : decode cX15_attacks 57 = .ok (.iload_n 3, 1) := by decide +kernel
theorem dX15_attacks_58 : decode cX15_attacks 58 = .ok (.invokestatic 489, 3) := by decide +kernel
theorem dX15_attacks_61 : decode cX15_attacks 61 = .ok (.invokevirtual 559, 3) := by decide +kernel
theorem dX15_attacks_64 : decode cX15_attacks 64 = .ok (.ifCond .eq 49, 3) := by decide +kernel
theorem dX15_attacks_67 : decode cX15_attacks 67 = .ok (.iconst 0, 1) := by decide +kernel
theorem dX15_attacks_68 : decode cX15_attacks 68 = .ok (.istore 9, 2) := by decide +kernel
theorem dX15_attacks_70 : decode cX15_attacks 70 = .ok (.iload 9, 2) := by decide +kernel
theorem dX15_attacks_72 : decode cX15_attacks 72 = .ok (.bipush 8, 2) := by decide +kernel
theorem dX15_attacks_74 : decode cX15_attacks 74 = .ok (.if_icmp .ge 39, 3) := by decide +kernel
theorem dX15_attacks_77 : decode cX15_attacks 77 = .ok (.aload_n 0, 1) := by decide +kernel
theorem dX15_attacks_78 : decode cX15_attacks 78 = .ok (.iload 7, 2) := by decide +kernel
theorem dX15_attacks_80 : decode cX15_attacks 80 = .ok (.iload 9, 2) := by decide +kernel
theorem dX15_attacks_82 : decode cX15_attacks 82 = .ok (.iload_n 3, 1) := by decide +kernel
theorem dX15_attacks_83 : decode cX15_attacks 83 = .ok (.invokestatic 489, 3) := by decide +kernel
theorem dX15_attacks_86 : decode cX15_attacks 86 = .ok (.invokevirtual 516, 3) := by decide +kernel
theorem dX15_attacks_89 : decode cX15_attacks 89 = .ok (.ifCond .eq 18, 3) := by decide +kernel
theorem dX15_attacks_92 : decode cX15_attacks 92 = .ok (.aload_n 0, 1) := by decide +kernel
theorem dX15_attacks_93 : decode cX15_attacks 93 = .ok (.aload_n 1, 1) := by decide +kernel
theorem dX15_attacks_94 : decode cX15_attacks 94 = .ok (.iload_n 2, 1) := by decide +kernel
theorem dX15_attacks_95 : decode cX15_attacks 95 = .ok (.iload 4, 2) := by decide +kernel
theorem dX15_attacks_97 : decode cX15_attacks 97 = .ok (.iload 7, 2) := by decide +kernel
theorem dX15_attacks_99 : decode cX15_attacks 99 = .ok (.invokevirtual 562, 3) := by decide +kernel
theorem dX15_attacks_102 : decode cX15_attacks 102 = .ok (.ifCond .eq 5, 3) := by decide +kernel
theorem dX15_attacks_105 : decode cX15_attacks 105 = .ok (.iconst 1, 1) := by decide +kernel
theorem dX15_attacks_106 : decode cX15_attacks 106 = .ok (.ireturn, 1) := by decide +kernel
theorem dX15_attacks_107 : decode cX15_attacks 107 = .ok (.iinc 9 1, 3) := by decide +kernel
theorem dX15_attacks_110 : decode cX15_attacks 110 = .ok (.goto (-40), 3) := by decide +kernel
theorem dX15_attacks_113 : decode cX15_attacks 113 = .ok (.iinc 6 1, 3) := by decide +kernel
theorem dX15_attacks_116 : decode cX15_attacks 116 = .ok (.goto (-107), 3) := by decide +kernel
theorem dX15_attacks_119 : decode cX15_attacks 119 = .ok (.iconst 0, 1) := by decide +kernel
theorem dX15_attacks_120 : decode cX15_attacks 120 = .ok (.ireturn, 1) := by decide +kernel
set_option maxRecDepth 20000 in
theorem moX15_attacks_113 {o : Int32 × Hp} {k_9 : Hp → Nat → Nat → Int32 → Int32 → Int32 → Int32 → Int32 → Option (Int32 × Hp)} {F : Nat} (mk_9 : ∀ (h : Hp) (x0 : Nat) (x1 : Nat) (x2 : Int32) (x3 : Int32) (x4 : Int32) (x5 : Int32) (x6 : Int32), k_9 h x0 x1 x2 x3 x4 x5 x6 = some o → Le h o.2) {h : Hp} {x0 : Nat} {x1 : Nat} {x2 : Int32} {x3 : Int32} {x4 : Int32} {x5 : Int32} {x6 : Int32} (hE : sX15_attacks_113 F k_9 h x0 x1 x2 x3 x4 x5 x6 = some o) : Le h o.2 := by
  obtain ⟨v_1, ev_1, hE⟩ := nm_e2 hE
  exact mk_9 _ _ _ _ _ _ _ _ hE
set_option maxRecDepth 20000 in
theorem moX15_attacks_107 {o : Int32 × Hp} {k_9 : Hp → Nat → Nat → Int32 → Int32 → Int32 → Int32 → Int32 → Option (Int32 × Hp)} {k_70 : Hp → Nat → Nat → Int32 → Int32 → Int32 → Int32 → Int32 → Int32 → Int32 → Option (Int32 × Hp)} {F : Nat} (mk_9 : ∀ (h : Hp) (x0 : Nat) (x1 : Nat) (x2 : Int32) (x3 : Int32) (x4 : Int32) (x5 : Int32) (x6 : Int32), k_9 h x0 x1 x2 x3 x4 x5 x6 = some o → Le h o.2) (mk_70 : ∀ (h : Hp) (x0 : Nat) (x1 : Nat) (x2 : Int32) (x3 : Int32) (x4 : Int32) (x5 : Int32) (x6 : Int32) (x7 : Int32) (x9 : Int32), k_70 h x0 x1 x2 x3 x4 x5 x6 x7 x9 = some o → Le h o.2) {h : Hp} {x0 : Nat} {x1 : Nat} {x2 : Int32} {x3 : Int32} {x4 : Int32} {x5 : Int32} {x6 : Int32} {x7 : Int32} {x9 : Int32} (hE : sX15_attacks_107 F k_9 k_70 h x0 x1 x2 x3 x4 x5 x6 x7 x9 = some o) : Le h o.2 := by
  obtain ⟨v_1, ev_1, hE⟩ := nm_e2 hE
  exact mk_70 _ _ _ _ _ _ _ _ _ _ hE
set_option maxRecDepth 20000 in
theorem moX15_attacks_70 {o : Int32 × Hp} {k_9 : Hp → Nat → Nat → Int32 → Int32 → Int32 → Int32 → Int32 → Option (Int32 × Hp)} {F : Nat} (mk_9 : ∀ (h : Hp) (x0 : Nat) (x1 : Nat) (x2 : Int32) (x3 : Int32) (x4 : Int32) (x5 : Int32) (x6 : Int32), k_9 h x0 x1 x2 x3 x4 x5 x6 = some o → Le h o.2) : ∀ (f : Nat) {h : Hp} {x0 : Nat} {x1 : Nat} {x2 : Int32} {x3 : Int32} {x4 : Int32} {x5 : Int32} {x6 : Int32} {x7 : Int32} {x9 : Int32}, sX15_attacks_70 F k_9 f h x0 x1 x2 x3 x4 x5 x6 x7 x9 = some o → Le h o.2 := by
  intro f
  induction f with
  | zero =>
    intro h x0 x1 x2 x3 x4 x5 x6 x7 x9 hE
    rw [sX15_attacks_70] at hE
    cases hE
  | succ f ih =>
    intro h x0 x1 x2 x3 x4 x5 x6 x7 x9 hE
    rw [sX15_attacks_70] at hE
    have mk_70 : ∀ (h : Hp) (x0 : Nat) (x1 : Nat) (x2 : Int32) (x3 : Int32) (x4 : Int32) (x5 : Int32) (x6 : Int32) (x7 : Int32) (x9 : Int32), sX15_attacks_70 F k_9 f h x0 x1 x2 x3 x4 x5 x6 x7 x9 = some o → Le h o.2 := fun h x0 x1 x2 x3 x4 x5 x6 x7 x9 hE => ih hE
    rcases br_e hE with ⟨_, hE⟩ | ⟨_, hE⟩
    · exact moX15_attacks_113 mk_9 hE
    · obtain ⟨o_2, eo_2, hE⟩ := cl_e hE
      refine (moX15_sideOf eo_2).tr ?_
      obtain ⟨o_3, eo_3, hE⟩ := cl_e hE
      refine (moX15_hasVector eo_3).tr ?_
      rcases br_e hE with ⟨_, hE⟩ | ⟨_, hE⟩
      · exact moX15_attacks_107 mk_9 mk_70 hE
      · obtain ⟨o_5, eo_5, hE⟩ := cl_e hE
        refine (moX15_reaches eo_5).tr ?_
        rcases br_e hE with ⟨_, hE⟩ | ⟨_, hE⟩
        · exact moX15_attacks_107 mk_9 mk_70 hE
        · exact le_some2 hE
set_option maxRecDepth 20000 in
theorem moX15_attacks_9 {o : Int32 × Hp} {F : Nat} : ∀ (f : Nat) {h : Hp} {x0 : Nat} {x1 : Nat} {x2 : Int32} {x3 : Int32} {x4 : Int32} {x5 : Int32} {x6 : Int32}, sX15_attacks_9 F f h x0 x1 x2 x3 x4 x5 x6 = some o → Le h o.2 := by
  intro f
  induction f with
  | zero =>
    intro h x0 x1 x2 x3 x4 x5 x6 hE
    rw [sX15_attacks_9] at hE
    cases hE
  | succ f ih =>
    intro h x0 x1 x2 x3 x4 x5 x6 hE
    rw [sX15_attacks_9] at hE
    have mk_9 : ∀ (h : Hp) (x0 : Nat) (x1 : Nat) (x2 : Int32) (x3 : Int32) (x4 : Int32) (x5 : Int32) (x6 : Int32), sX15_attacks_9 F f h x0 x1 x2 x3 x4 x5 x6 = some o → Le h o.2 := fun h x0 x1 x2 x3 x4 x5 x6 hE => ih hE
    obtain ⟨r_1, er_1, hE⟩ := cl_e hE
    obtain ⟨r_2, er_2, hE⟩ := cl_e hE
    obtain ⟨g_3, hE⟩ := gd_e hE
    rcases br_e hE with ⟨_, hE⟩ | ⟨_, hE⟩
    · exact le_some2 hE
    · obtain ⟨v_5, ev_5, hE⟩ := nm_e2 hE
      obtain ⟨r_6, er_6, hE⟩ := cl_e hE
      obtain ⟨r_7, er_7, hE⟩ := cl_e hE
      obtain ⟨g_8, hE⟩ := gd_e hE
      obtain ⟨v_9, ev_9, hE⟩ := nm_e2 hE
      rcases br_e hE with ⟨_, hE⟩ | ⟨_, hE⟩
      · obtain ⟨o_11, eo_11, hE⟩ := cl_e hE
        refine (moX15_sideOf eo_11).tr ?_
        obtain ⟨o_12, eo_12, hE⟩ := cl_e hE
        refine (moX15_isFrom eo_12).tr ?_
        rcases br_e hE with ⟨_, hE⟩ | ⟨_, hE⟩
        · exact moX15_attacks_113 mk_9 hE
        · exact moX15_attacks_70 mk_9 _ hE
      · exact moX15_attacks_113 mk_9 hE
set_option maxRecDepth 20000 in
theorem moX15_attacks {o : Int32 × Hp} {F : Nat} {h : Hp} {x0 : Nat} {x1 : Nat} {x2 : Int32} {x3 : Int32} {x4 : Int32} (hE : sX15_attacks F h x0 x1 x2 x3 x4 = some o) : Le h o.2 := by
  obtain ⟨o_1, eo_1, hE⟩ := cl_e hE
  refine (moX15_manOf eo_1).tr ?_
  exact moX15_attacks_9 _ hE
set_option maxRecDepth 20000 in
theorem bX15_attacks_113 {p : Program} {l : Launch} {e : Env} {s : State} {m : MethodId} {args : Array Value} {below : List Frame} {meth : Method} {c : Code} {X : Ec} {h0 : Hp} {o : Int32 × Hp} {k_9 : Hp → Nat → Nat → Int32 → Int32 → Int32 → Int32 → Int32 → Option (Int32 × Hp)} {F : Nat} (C : Cx X p s m args meth c RX15 cX15_attacks 10 (some .boolean) "attacks") (hk_9 : ∀ (h : Hp) (x0 : Nat) (x1 : Nat) (x2 : Int32) (x3 : Int32) (x4 : Int32) (x5 : Int32) (x6 : Int32) (H : Heap) (locs : List Loc), hK h x0 = 15 → hK h x1 = 12 → Km h0 h → Wx X h H → va_S (aA (eB X)) s.heap H locs → ∀ (ls : Array Slot), lv_has ls 10 [(0, .ref x0), (1, .ref x1), (2, .int x2), (3, .int x3), (4, .int x4), (5, .int x5), (6, .int x6)] → k_9 h x0 x1 x2 x3 x4 x5 x6 = some o → W p l e (rm 2 52) s m args below meth c H locs 0 0 (MQ below (QI X h0 o.1 o.2) args s 0 0 (aA (eB X))) (F0 m 9 ls [])) {h : Hp} {x0 : Nat} {x1 : Nat} {x2 : Int32} {x3 : Int32} {x4 : Int32} {x5 : Int32} {x6 : Int32} {H : Heap} {locs : List Loc} (k_x0 : hK h x0 = 15) (k_x1 : hK h x1 = 12) (hkm : Km h0 h) (hW : Wx X h H) (hZ : va_S (aA (eB X)) s.heap H locs) (ls : Array Slot) (hl : lv_has ls 10 [(0, .ref x0), (1, .ref x1), (2, .int x2), (3, .int x3), (4, .int x4), (5, .int x5), (6, .int x6)]) (hE : sX15_attacks_113 F k_9 h x0 x1 x2 x3 x4 x5 x6 = some o) : W p l e (rm 2 52) s m args below meth c H locs 0 0 (MQ below (QI X h0 o.1 o.2) args s 0 0 (aA (eB X))) (F0 m 113 ls []) := by
  obtain ⟨v_1, ev_1, hE⟩ := nm_e2 hE
  refine lv_iinc (v := v_1) (lv' := [(6, .int v_1), (0, .ref x0), (1, .ref x1), (2, .int x2), (3, .int x3), (4, .int x4), (5, .int x5)]) C.1 C.2.1 dX15_attacks_113 hl (k := 6) rfl (by rw [ev_1]; rfl) (by decide) rfl (fun ls hl => ?_)
  refine lv_goto (tgt := 9) C.1 C.2.1 dX15_attacks_116 (by decide) ?_
  exact hk_9 _ _ _ _ _ _ _ _ _ _ k_x0 k_x1 hkm hW hZ _ (lv_sub hl [1, 2, 3, 4, 5, 6, 0] rfl) hE
set_option maxRecDepth 20000 in
theorem bX15_attacks_107 {p : Program} {l : Launch} {e : Env} {s : State} {m : MethodId} {args : Array Value} {below : List Frame} {meth : Method} {c : Code} {X : Ec} {h0 : Hp} {o : Int32 × Hp} {k_9 : Hp → Nat → Nat → Int32 → Int32 → Int32 → Int32 → Int32 → Option (Int32 × Hp)} {k_70 : Hp → Nat → Nat → Int32 → Int32 → Int32 → Int32 → Int32 → Int32 → Int32 → Option (Int32 × Hp)} {F : Nat} (C : Cx X p s m args meth c RX15 cX15_attacks 10 (some .boolean) "attacks") (hk_9 : ∀ (h : Hp) (x0 : Nat) (x1 : Nat) (x2 : Int32) (x3 : Int32) (x4 : Int32) (x5 : Int32) (x6 : Int32) (H : Heap) (locs : List Loc), hK h x0 = 15 → hK h x1 = 12 → Km h0 h → Wx X h H → va_S (aA (eB X)) s.heap H locs → ∀ (ls : Array Slot), lv_has ls 10 [(0, .ref x0), (1, .ref x1), (2, .int x2), (3, .int x3), (4, .int x4), (5, .int x5), (6, .int x6)] → k_9 h x0 x1 x2 x3 x4 x5 x6 = some o → W p l e (rm 2 52) s m args below meth c H locs 0 0 (MQ below (QI X h0 o.1 o.2) args s 0 0 (aA (eB X))) (F0 m 9 ls [])) (hk_70 : ∀ (h : Hp) (x0 : Nat) (x1 : Nat) (x2 : Int32) (x3 : Int32) (x4 : Int32) (x5 : Int32) (x6 : Int32) (x7 : Int32) (x9 : Int32) (H : Heap) (locs : List Loc), hK h x0 = 15 → hK h x1 = 12 → Km h0 h → Wx X h H → va_S (aA (eB X)) s.heap H locs → ∀ (ls : Array Slot), lv_has ls 10 [(0, .ref x0), (1, .ref x1), (2, .int x2), (3, .int x3), (4, .int x4), (5, .int x5), (6, .int x6), (7, .int x7), (9, .int x9)] → k_70 h x0 x1 x2 x3 x4 x5 x6 x7 x9 = some o → W p l e (rm 2 52) s m args below meth c H locs 0 0 (MQ below (QI X h0 o.1 o.2) args s 0 0 (aA (eB X))) (F0 m 70 ls [])) {h : Hp} {x0 : Nat} {x1 : Nat} {x2 : Int32} {x3 : Int32} {x4 : Int32} {x5 : Int32} {x6 : Int32} {x7 : Int32} {x9 : Int32} {H : Heap} {locs : List Loc} (k_x0 : hK h x0 = 15) (k_x1 : hK h x1 = 12) (hkm : Km h0 h) (hW : Wx X h H) (hZ : va_S (aA (eB X)) s.heap H locs) (ls : Array Slot) (hl : lv_has ls 10 [(0, .ref x0), (1, .ref x1), (2, .int x2), (3, .int x3), (4, .int x4), (5, .int x5), (6, .int x6), (7, .int x7), (9, .int x9)]) (hE : sX15_attacks_107 F k_9 k_70 h x0 x1 x2 x3 x4 x5 x6 x7 x9 = some o) : W p l e (rm 2 52) s m args below meth c H locs 0 0 (MQ below (QI X h0 o.1 o.2) args s 0 0 (aA (eB X))) (F0 m 107 ls []) := by
  obtain ⟨v_1, ev_1, hE⟩ := nm_e2 hE
  refine lv_iinc (v := v_1) (lv' := [(9, .int v_1), (0, .ref x0), (1, .ref x1), (2, .int x2), (3, .int x3), (4, .int x4), (5, .int x5), (6, .int x6), (7, .int x7)]) C.1 C.2.1 dX15_attacks_107 hl (k := 8) rfl (by rw [ev_1]; rfl) (by decide) rfl (fun ls hl => ?_)
  refine lv_goto (tgt := 70) C.1 C.2.1 dX15_attacks_110 (by decide) ?_
  exact hk_70 _ _ _ _ _ _ _ _ _ _ _ _ k_x0 k_x1 hkm hW hZ _ (lv_sub hl [1, 2, 3, 4, 5, 6, 7, 8, 0] rfl) hE
set_option maxRecDepth 20000 in
theorem bX15_attacks_70 {p : Program} {l : Launch} {e : Env} {s : State} {m : MethodId} {args : Array Value} {below : List Frame} {meth : Method} {c : Code} {X : Ec} {h0 : Hp} {o : Int32 × Hp} {k_9 : Hp → Nat → Nat → Int32 → Int32 → Int32 → Int32 → Int32 → Option (Int32 × Hp)} {F : Nat} (C : Cx X p s m args meth c RX15 cX15_attacks 10 (some .boolean) "attacks") (hk_9 : ∀ (h : Hp) (x0 : Nat) (x1 : Nat) (x2 : Int32) (x3 : Int32) (x4 : Int32) (x5 : Int32) (x6 : Int32) (H : Heap) (locs : List Loc), hK h x0 = 15 → hK h x1 = 12 → Km h0 h → Wx X h H → va_S (aA (eB X)) s.heap H locs → ∀ (ls : Array Slot), lv_has ls 10 [(0, .ref x0), (1, .ref x1), (2, .int x2), (3, .int x3), (4, .int x4), (5, .int x5), (6, .int x6)] → k_9 h x0 x1 x2 x3 x4 x5 x6 = some o → W p l e (rm 2 52) s m args below meth c H locs 0 0 (MQ below (QI X h0 o.1 o.2) args s 0 0 (aA (eB X))) (F0 m 9 ls [])) : ∀ (f : Nat) {h : Hp} {x0 : Nat} {x1 : Nat} {x2 : Int32} {x3 : Int32} {x4 : Int32} {x5 : Int32} {x6 : Int32} {x7 : Int32} {x9 : Int32} {H : Heap} {locs : List Loc} (k_x0 : hK h x0 = 15) (k_x1 : hK h x1 = 12), Km h0 h → Wx X h H → va_S (aA (eB X)) s.heap H locs → ∀ (ls : Array Slot), lv_has ls 10 [(0, .ref x0), (1, .ref x1), (2, .int x2), (3, .int x3), (4, .int x4), (5, .int x5), (6, .int x6), (7, .int x7), (9, .int x9)] → sX15_attacks_70 F k_9 f h x0 x1 x2 x3 x4 x5 x6 x7 x9 = some o → W p l e (rm 2 52) s m args below meth c H locs 0 0 (MQ below (QI X h0 o.1 o.2) args s 0 0 (aA (eB X))) (F0 m 70 ls []) := by
  intro f
  induction f with
  | zero =>
    intro h x0 x1 x2 x3 x4 x5 x6 x7 x9 H locs k_x0 k_x1 hkm hW hZ ls hl hE
    rw [sX15_attacks_70] at hE
    cases hE
  | succ f ih =>
    intro h x0 x1 x2 x3 x4 x5 x6 x7 x9 H locs k_x0 k_x1 hkm hW hZ ls hl hE
    rw [sX15_attacks_70] at hE
    have hk_70 : ∀ (h : Hp) (x0 : Nat) (x1 : Nat) (x2 : Int32) (x3 : Int32) (x4 : Int32) (x5 : Int32) (x6 : Int32) (x7 : Int32) (x9 : Int32) (H : Heap) (locs : List Loc), hK h x0 = 15 → hK h x1 = 12 → Km h0 h → Wx X h H → va_S (aA (eB X)) s.heap H locs → ∀ (ls : Array Slot), lv_has ls 10 [(0, .ref x0), (1, .ref x1), (2, .int x2), (3, .int x3), (4, .int x4), (5, .int x5), (6, .int x6), (7, .int x7), (9, .int x9)] → sX15_attacks_70 F k_9 f h x0 x1 x2 x3 x4 x5 x6 x7 x9 = some o → W p l e (rm 2 52) s m args below meth c H locs 0 0 (MQ below (QI X h0 o.1 o.2) args s 0 0 (aA (eB X))) (F0 m 70 ls []) := fun h x0 x1 x2 x3 x4 x5 x6 x7 x9 H locs k_x0 k_x1 a b c ls hl hE => ih k_x0 k_x1 a b c ls hl hE
    refine lv_iload C.1 C.2.1 dX15_attacks_70 (lv_at hl 8 rfl) ?_
    refine lv_bipush (v := (8 : Int32)) C.1 C.2.1 dX15_attacks_72 (by decide) ?_
    refine lv_icmp_ge (tgt := 113) C.1 C.2.1 dX15_attacks_74 (by decide) (fun c_1 => ?_) (fun c_1 => ?_)
    · have hE := br_p hE c_1
      exact bX15_attacks_113 C hk_9 k_x0 k_x1 hkm hW hZ _ (lv_sub hl [0, 1, 2, 3, 4, 5, 6] rfl) hE
    · have hE := br_n hE c_1
      refine lv_aload_n C.1 C.2.1 dX15_attacks_77 rfl (lv_at hl 0 rfl) ?_
      refine lv_iload C.1 C.2.1 dX15_attacks_78 (lv_at hl 7 rfl) ?_
      refine lv_iload C.1 C.2.1 dX15_attacks_80 (lv_at hl 8 rfl) ?_
      refine lv_iload_n C.1 C.2.1 dX15_attacks_82 rfl (lv_at hl 3 rfl) ?_
      obtain ⟨o_2, eo_2, hE⟩ := cl_e hE
      refine x_kI (o := o_2) (z_runS (As := [.int x3]) (rest := [.int x9, .int x7, .ref x0]) C (ct_X15_sideOf l X eo_2) cw_X15_489 hW hZ rfl hl.1 (Nat.le_of_ble_eq_true rfl) rfl dX15_attacks_83 ⟨Nat.le_of_ble_eq_true rfl, Nat.le_of_ble_eq_true rfl⟩ ⟨Nat.le_refl _, Nat.le_refl _⟩) hZ (fun _ _ hW km hZ => ?_)
      replace hkm := hkm.tr km
      replace k_x0 := km.at k_x0 (by decide)
      replace k_x1 := km.at k_x1 (by decide)
      obtain ⟨o_3, eo_3, hE⟩ := cl_e hE
      refine x_kI (o := o_3) (z_runV (As := [.int x7, .int x9, .int o_2.1]) (rest := []) C (ct_X15_hasVector l X k_x0 eo_3) cw_X15_516 hW hZ k_x0 (by decide) rfl rfl rfl hl.1 (Nat.le_of_ble_eq_true rfl) rfl dX15_attacks_86 ⟨Nat.le_of_ble_eq_true rfl, Nat.le_of_ble_eq_true rfl⟩ ⟨Nat.le_refl _, Nat.le_refl _⟩) hZ (fun _ _ hW km hZ => ?_)
      replace hkm := hkm.tr km
      replace k_x0 := km.at k_x0 (by decide)
      replace k_x1 := km.at k_x1 (by decide)
      refine lv_if_eq (tgt := 107) C.1 C.2.1 dX15_attacks_89 (by decide) (fun c_4 => ?_) (fun c_4 => ?_)
      · have hE := br_p hE c_4
        exact bX15_attacks_107 C hk_9 hk_70 k_x0 k_x1 hkm hW hZ _ (lv_sub hl [0, 1, 2, 3, 4, 5, 6, 7, 8] rfl) hE
      · have hE := br_n hE c_4
        refine lv_aload_n C.1 C.2.1 dX15_attacks_92 rfl (lv_at hl 0 rfl) ?_
        refine lv_aload_n C.1 C.2.1 dX15_attacks_93 rfl (lv_at hl 1 rfl) ?_
        refine lv_iload_n C.1 C.2.1 dX15_attacks_94 rfl (lv_at hl 2 rfl) ?_
        refine lv_iload C.1 C.2.1 dX15_attacks_95 (lv_at hl 4 rfl) ?_
        refine lv_iload C.1 C.2.1 dX15_attacks_97 (lv_at hl 7 rfl) ?_
        obtain ⟨o_5, eo_5, hE⟩ := cl_e hE
        refine x_kI (o := o_5) (z_runV (As := [.ref x1, .int x2, .int x4, .int x7]) (rest := []) C (ct_X15_reaches l X F k_x0 k_x1 eo_5) cw_X15_562 hW hZ k_x0 (by decide) rfl rfl rfl hl.1 (Nat.le_of_ble_eq_true rfl) rfl dX15_attacks_99 ⟨Nat.le_of_ble_eq_true rfl, Nat.le_of_ble_eq_true rfl⟩ ⟨Nat.le_refl _, Nat.le_refl _⟩) hZ (fun _ _ hW km hZ => ?_)
        replace hkm := hkm.tr km
        replace k_x0 := km.at k_x0 (by decide)
        replace k_x1 := km.at k_x1 (by decide)
        refine lv_if_eq (tgt := 107) C.1 C.2.1 dX15_attacks_102 (by decide) (fun c_6 => ?_) (fun c_6 => ?_)
        · have hE := br_p hE c_6
          exact bX15_attacks_107 C hk_9 hk_70 k_x0 k_x1 hkm hW hZ _ (lv_sub hl [0, 1, 2, 3, 4, 5, 6, 7, 8] rfl) hE
        · have hE := br_n hE c_6
          refine lv_iconst (v := (1 : Int32)) C.1 C.2.1 dX15_attacks_105 (by decide) ?_
          exact x_iret C rfl (by decide) hW hZ hkm hE dX15_attacks_106
set_option maxRecDepth 20000 in
theorem bX15_attacks_9 {p : Program} {l : Launch} {e : Env} {s : State} {m : MethodId} {args : Array Value} {below : List Frame} {meth : Method} {c : Code} {X : Ec} {h0 : Hp} {o : Int32 × Hp} {F : Nat} (C : Cx X p s m args meth c RX15 cX15_attacks 10 (some .boolean) "attacks") : ∀ (f : Nat) {h : Hp} {x0 : Nat} {x1 : Nat} {x2 : Int32} {x3 : Int32} {x4 : Int32} {x5 : Int32} {x6 : Int32} {H : Heap} {locs : List Loc} (k_x0 : hK h x0 = 15) (k_x1 : hK h x1 = 12), Km h0 h → Wx X h H → va_S (aA (eB X)) s.heap H locs → ∀ (ls : Array Slot), lv_has ls 10 [(0, .ref x0), (1, .ref x1), (2, .int x2), (3, .int x3), (4, .int x4), (5, .int x5), (6, .int x6)] → sX15_attacks_9 F f h x0 x1 x2 x3 x4 x5 x6 = some o → W p l e (rm 2 52) s m args below meth c H locs 0 0 (MQ below (QI X h0 o.1 o.2) args s 0 0 (aA (eB X))) (F0 m 9 ls []) := by
  intro f
  induction f with
  | zero =>
    intro h x0 x1 x2 x3 x4 x5 x6 H locs k_x0 k_x1 hkm hW hZ ls hl hE
    rw [sX15_attacks_9] at hE
    cases hE
  | succ f ih =>
    intro h x0 x1 x2 x3 x4 x5 x6 H locs k_x0 k_x1 hkm hW hZ ls hl hE
    rw [sX15_attacks_9] at hE
    have hk_9 : ∀ (h : Hp) (x0 : Nat) (x1 : Nat) (x2 : Int32) (x3 : Int32) (x4 : Int32) (x5 : Int32) (x6 : Int32) (H : Heap) (locs : List Loc), hK h x0 = 15 → hK h x1 = 12 → Km h0 h → Wx X h H → va_S (aA (eB X)) s.heap H locs → ∀ (ls : Array Slot), lv_has ls 10 [(0, .ref x0), (1, .ref x1), (2, .int x2), (3, .int x3), (4, .int x4), (5, .int x5), (6, .int x6)] → sX15_attacks_9 F f h x0 x1 x2 x3 x4 x5 x6 = some o → W p l e (rm 2 52) s m args below meth c H locs 0 0 (MQ below (QI X h0 o.1 o.2) args s 0 0 (aA (eB X))) (F0 m 9 ls []) := fun h x0 x1 x2 x3 x4 x5 x6 H locs k_x0 k_x1 a b c ls hl hE => ih k_x0 k_x1 a b c ls hl hE
    refine lv_iload C.1 C.2.1 dX15_attacks_9 (lv_at hl 6 rfl) ?_
    refine lv_aload_n C.1 C.2.1 dX15_attacks_11 rfl (lv_at hl 0 rfl) ?_
    obtain ⟨r_1, er_1, hE⟩ := cl_e hE
    refine gf_X15_252 C hW k_x0 er_1 dX15_attacks_12 (fun k_r_1 => ?_)
    obtain ⟨r_2, er_2, hE⟩ := cl_e hE
    refine gf_X15_176 C hW k_r_1 er_2 dX15_attacks_15 (fun k_r_2 => ?_)
    refine lv_iload C.1 C.2.1 dX15_attacks_18 (lv_at hl 5 rfl) ?_
    obtain ⟨g_3, hE⟩ := gd_e hE
    refine y_iald C hW k_r_2 g_3 dX15_attacks_20 ?_
    refine lv_icmp_ge (tgt := 119) C.1 C.2.1 dX15_attacks_21 (by decide) (fun c_4 => ?_) (fun c_4 => ?_)
    · have hE := br_p hE c_4
      refine lv_iconst (v := (0 : Int32)) C.1 C.2.1 dX15_attacks_119 (by decide) ?_
      exact x_iret C rfl (by decide) hW hZ hkm hE dX15_attacks_120
    · have hE := br_n hE c_4
      refine lv_bipush (v := (8 : Int32)) C.1 C.2.1 dX15_attacks_24 (by decide) ?_
      refine lv_iload C.1 C.2.1 dX15_attacks_26 (lv_at hl 5 rfl) ?_
      refine lv_imul C.1 C.2.1 dX15_attacks_28 ?_
      refine lv_iload C.1 C.2.1 dX15_attacks_29 (lv_at hl 6 rfl) ?_
      refine lv_iadd C.1 C.2.1 dX15_attacks_31 ?_
      obtain ⟨v_5, ev_5, hE⟩ := nm_e2 hE
      refine x_nmI ev_5 ?_
      refine lv_istore (lv' := [(7, .int v_5), (0, .ref x0), (1, .ref x1), (2, .int x2), (3, .int x3), (4, .int x4), (5, .int x5), (6, .int x6)]) C.1 C.2.1 dX15_attacks_32 hl (by decide) rfl (fun ls hl => ?_)
      refine lv_aload_n C.1 C.2.1 dX15_attacks_34 rfl (lv_at hl 1 rfl) ?_
      obtain ⟨r_6, er_6, hE⟩ := cl_e hE
      refine gf_X15_252 C hW k_x0 er_6 dX15_attacks_35 (fun k_r_6 => ?_)
      obtain ⟨r_7, er_7, hE⟩ := cl_e hE
      refine gf_X15_198 C hW k_r_6 er_7 dX15_attacks_38 (fun k_r_7 => ?_)
      refine lv_iload C.1 C.2.1 dX15_attacks_41 (lv_at hl 0 rfl) ?_
      obtain ⟨g_8, hE⟩ := gd_e hE
      refine y_iald C hW k_r_7 g_8 dX15_attacks_43 ?_
      obtain ⟨v_9, ev_9, hE⟩ := nm_e2 hE
      refine x_nmI ev_9 ?_
      refine lv_istore (lv' := [(8, .int v_9), (7, .int v_5), (0, .ref x0), (1, .ref x1), (2, .int x2), (3, .int x3), (4, .int x4), (5, .int x5), (6, .int x6)]) C.1 C.2.1 dX15_attacks_44 hl (by decide) rfl (fun ls hl => ?_)
      refine lv_iload C.1 C.2.1 dX15_attacks_46 (lv_at hl 0 rfl) ?_
      refine lv_iconst (v := (1 : Int32)) C.1 C.2.1 dX15_attacks_48 (by decide) ?_
      refine lv_iand C.1 C.2.1 dX15_attacks_49 ?_
      refine lv_if_ne (tgt := 113) C.1 C.2.1 dX15_attacks_50 (by decide) (fun c_10 => ?_) (fun c_10 => ?_)
      · have hE := br_n hE c_10
        exact bX15_attacks_113 C hk_9 k_x0 k_x1 hkm hW hZ _ (lv_sub hl [2, 3, 4, 5, 6, 7, 8] rfl) hE
      · have hE := br_p hE c_10
        refine lv_aload_n C.1 C.2.1 dX15_attacks_53 rfl (lv_at hl 2 rfl) ?_
        refine lv_iload C.1 C.2.1 dX15_attacks_54 (lv_at hl 1 rfl) ?_
        refine lv_iload_n C.1 C.2.1 dX15_attacks_56 rfl (lv_at hl 4 rfl) ?_
        refine lv_iload_n C.1 C.2.1 dX15_attacks_57 rfl (lv_at hl 5 rfl) ?_
        obtain ⟨o_11, eo_11, hE⟩ := cl_e hE
        refine x_kI (o := o_11) (z_runS (As := [.int x3]) (rest := [.int x2, .int v_5, .ref x0]) C (ct_X15_sideOf l X eo_11) cw_X15_489 hW hZ rfl hl.1 (Nat.le_of_ble_eq_true rfl) rfl dX15_attacks_58 ⟨Nat.le_of_ble_eq_true rfl, Nat.le_of_ble_eq_true rfl⟩ ⟨Nat.le_refl _, Nat.le_refl _⟩) hZ (fun _ _ hW km hZ => ?_)
        replace hkm := hkm.tr km
        replace k_x0 := km.at k_x0 (by decide)
        replace k_x1 := km.at k_x1 (by decide)
        obtain ⟨o_12, eo_12, hE⟩ := cl_e hE
        refine x_kI (o := o_12) (z_runV (As := [.int v_5, .int x2, .int o_11.1]) (rest := []) C (ct_X15_isFrom l X k_x0 eo_12) cw_X15_559 hW hZ k_x0 (by decide) rfl rfl rfl hl.1 (Nat.le_of_ble_eq_true rfl) rfl dX15_attacks_61 ⟨Nat.le_of_ble_eq_true rfl, Nat.le_of_ble_eq_true rfl⟩ ⟨Nat.le_refl _, Nat.le_refl _⟩) hZ (fun _ _ hW km hZ => ?_)
        replace hkm := hkm.tr km
        replace k_x0 := km.at k_x0 (by decide)
        replace k_x1 := km.at k_x1 (by decide)
        refine lv_if_eq (tgt := 113) C.1 C.2.1 dX15_attacks_64 (by decide) (fun c_13 => ?_) (fun c_13 => ?_)
        · have hE := br_p hE c_13
          exact bX15_attacks_113 C hk_9 k_x0 k_x1 hkm hW hZ _ (lv_sub hl [2, 3, 4, 5, 6, 7, 8] rfl) hE
        · have hE := br_n hE c_13
          refine lv_iconst (v := (0 : Int32)) C.1 C.2.1 dX15_attacks_67 (by decide) ?_
          refine lv_istore (lv' := [(9, .int (0 : Int32)), (8, .int v_9), (7, .int v_5), (0, .ref x0), (1, .ref x1), (2, .int x2), (3, .int x3), (4, .int x4), (5, .int x5), (6, .int x6)]) C.1 C.2.1 dX15_attacks_68 hl (by decide) rfl (fun ls hl => ?_)
          exact bX15_attacks_70 C hk_9 F k_x0 k_x1 hkm hW hZ _ (lv_sub hl [3, 4, 5, 6, 7, 8, 9, 2, 0] rfl) hE
set_option maxRecDepth 20000 in
theorem ct_X15_attacks (l : Launch) (X : Ec) (F : Nat) {h : Hp} {x0 : Nat} {x1 : Nat} {x2 : Int32} {x3 : Int32} {x4 : Int32} {o : Int32 × Hp} (k_x0 : hK h x0 = 15) (k_x1 : hK h x1 = 12) (hE : sX15_attacks F h x0 x1 x2 x3 x4 = some o) : MetI l yX15_attacks cX15_attacks 10 (some .boolean) 2 52 X [.ref x0, .ref x1, .int x2, .int x3, .int x4] h o := by
  refine x_met (by decide) (Nat.le_of_ble_eq_true rfl) ?_
  intro p e s m below meth c ls C hl hW hZ
  have hl : lv_has ls 10 [(0, .ref x0), (1, .ref x1), (2, .int x2), (3, .int x3), (4, .int x4)] := hl
  have hkm : Km h h := Km.rf h
  refine lv_iload_n C.1 C.2.1 dX15_attacks_0 rfl (lv_at hl 3 rfl) ?_
  obtain ⟨o_1, eo_1, hE⟩ := cl_e hE
  refine x_kI (o := o_1) (z_runS (As := [.int x3]) (rest := []) C (ct_X15_manOf l X eo_1) cw_X15_492 hW hZ rfl hl.1 (Nat.le_of_ble_eq_true rfl) rfl dX15_attacks_1 ⟨Nat.le_of_ble_eq_true rfl, Nat.le_of_ble_eq_true rfl⟩ ⟨Nat.le_refl _, Nat.le_refl _⟩) hZ (fun _ _ hW km hZ => ?_)
  replace hkm := hkm.tr km
  replace k_x0 := km.at k_x0 (by decide)
  replace k_x1 := km.at k_x1 (by decide)
  refine lv_istore (lv' := [(5, .int o_1.1), (0, .ref x0), (1, .ref x1), (2, .int x2), (3, .int x3), (4, .int x4)]) C.1 C.2.1 dX15_attacks_4 hl (by decide) rfl (fun ls hl => ?_)
  refine lv_iconst (v := (0 : Int32)) C.1 C.2.1 dX15_attacks_6 (by decide) ?_
  refine lv_istore (lv' := [(6, .int (0 : Int32)), (5, .int o_1.1), (0, .ref x0), (1, .ref x1), (2, .int x2), (3, .int x3), (4, .int x4)]) C.1 C.2.1 dX15_attacks_7 hl (by decide) rfl (fun ls hl => ?_)
  exact bX15_attacks_9 C F k_x0 k_x1 hkm hW hZ _ (lv_sub hl [2, 3, 4, 5, 6, 1, 0] rfl) hE
