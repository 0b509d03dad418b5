set_option maxRecDepth 100000 in
theorem m_995 : Cond.methodLink RX7 93 yX3_inHand ∈ W0 := w0_in (List.mem_append_right _ (List.mem_of_getElem? (i := 995) rfl)) rfl
set_option maxRecDepth 100000 in
theorem m_999 : Cond.methodLink RX7 97 yX3_addToHand ∈ W0 := w0_in (List.mem_append_right _ (List.mem_of_getElem? (i := 999) rfl)) rfl
set_option maxRecDepth 100000 in
theorem m_1000 : Cond.instanceMethod yX3_addToHand ∈ W0 := w0_in (List.mem_append_right _ (List.mem_of_getElem? (i := 1000) rfl)) rfl
set_option maxRecDepth 100000 in
theorem m_1001 : Cond.selects RX3 yX3_addToHand yX3_addToHand ∈ W0 := w0_in (List.mem_append_right _ (List.mem_of_getElem? (i := 1001) rfl)) rfl
set_option maxRecDepth 100000 in
theorem m_1002 : Cond.code yX3_addToHand cX3_addToHand 4 none ∈ W0 := w0_in (List.mem_append_right _ (List.mem_of_getElem? (i := 1002) rfl)) rfl
theorem cw_X7_93 : cwd RX7 93 yX3_inHand cX3_inHand 3 (some .int) false 2 := ⟨m_998, m_995, m_8, ⟨m_996, m_997⟩, by decide, by decide, by decide +kernel⟩
theorem cw_X7_97 : cwd RX7 97 yX3_addToHand cX3_addToHand 4 none false 3 := ⟨m_1002, m_999, m_8, ⟨m_1000, m_1001⟩, by decide, by decide, by decide +kernel⟩
theorem dX7_readHands_0 : decode cX7_readHands 0 = .ok (.aload_n 0, 1) := by decide +kernel
theorem dX7_readHands_1 : decode cX7_readHands 1 = .ok (.bipush 45, 2) := by decide +kernel
theorem dX7_readHands_3 : decode cX7_readHands 3 = .ok (.invokevirtual 32, 3) := by decide +kernel
theorem dX7_readHands_6 : decode cX7_readHands 6 = .ok (.ifCond .eq 5, 3) := by decide +kernel
theorem dX7_readHands_9 : decode cX7_readHands 9 = .ok (.iconst 1, 1) := by decide +kernel
theorem dX7_readHands_10 : decode cX7_readHands 10 = .ok (.ireturn, 1) := by decide +kernel
theorem dX7_readHands_11 : decode cX7_readHands 11 = .ok (.iconst 0, 1) := by decide +kernel
theorem dX7_readHands_12 : decode cX7_readHands 12 = .ok (.istore_n 2, 1) := by decide +kernel
theorem dX7_readHands_13 : decode cX7_readHands 13 = .ok (.iload_n 2, 1) := by decide +kernel
theorem dX7_readHands_14 : decode cX7_readHands 14 = .ok (.bipush 32, 2) := by decide +kernel
theorem dX7_readHands_16 : decode cX7_readHands 16 = .ok (.if_icmp .ge 91, 3) := by decide +kernel
theorem dX7_readHands_19 : decode cX7_readHands 19 = .ok (.iload_n 2, 1) := by decide +kernel
theorem dX7_readHands_20 : decode cX7_readHands 20 = .ok (.ifCond .eq 19, 3) := by decide +kernel
theorem dX7_readHands_23 : decode cX7_readHands 23 = .ok (.aload_n 0, 1) := by decide +kernel
theorem dX7_readHands_24 : decode cX7_readHands 24 = .ok (.getfield 15, 3) := by decide +kernel
theorem dX7_readHands_27 : decode cX7_readHands 27 = .ok (.aload_n 0, 1) := by decide +kernel
theorem dX7_readHands_28 : decode cX7_readHands 28 = .ok (.getfield 19, 3) := by decide +kernel
theorem dX7_readHands_31 : decode cX7_readHands 31 = .ok (.invokevirtual 54, 3) := by decide +kernel
theorem dX7_readHands_34 : decode cX7_readHands 34 = .ok (.bipush 32, 2) := by decide +kernel
theorem dX7_readHands_36 : decode cX7_readHands 36 = .ok (.if_icmp .eq 71, 3) := by decide +kernel
theorem dX7_readHands_39 : decode cX7_readHands 39 = .ok (.aload_n 0, 1) := by decide +kernel
theorem dX7_readHands_40 : decode cX7_readHands 40 = .ok (.getfield 9, 3) := by decide +kernel
theorem dX7_readHands_43 : decode cX7_readHands 43 = .ok (.aload_n 0, 1) := by decide +kernel
theorem dX7_readHands_44 : decode cX7_readHands 44 = .ok (.getfield 15, 3) := by decide +kernel
theorem dX7_readHands_47 : decode cX7_readHands 47 = .ok (.aload_n 0, 1) := by decide +kernel
theorem dX7_readHands_48 : decode cX7_readHands 48 = .ok (.getfield 19, 3) := by decide +kernel
theorem dX7_readHands_51 : decode cX7_readHands 51 = .ok (.invokevirtual 54, 3) := by decide +kernel
theorem dX7_readHands_54 : decode cX7_readHands 54 = .ok (.invokevirtual 68, 3) := by decide +kernel
theorem dX7_readHands_57 : decode cX7_readHands 57 = .ok (.istore_n 3, 1) := by decide +kernel
theorem dX7_readHands_58 : decode cX7_readHands 58 = .ok (.iload_n 3, 1) := by decide +kernel
theorem dX7_readHands_59 : decode cX7_readHands 59 = .ok (.iconst (-1), 1) := by decide +kernel
theorem dX7_readHands_60 : decode cX7_readHands 60 = .ok (.if_icmp .eq 18, 3) := by decide +kernel
theorem dX7_readHands_63 : decode cX7_readHands 63 = .ok (.aload_n 1, 1) := by decide +kernel
theorem dX7_readHands_64 : decode cX7_readHands 64 = .ok (.iload_n 3, 1) := by decide +kernel
theorem dX7_readHands_65 : decode cX7_readHands 65 = .ok (.iconst 1, 1) := by decide +kernel
theorem dX7_readHands_66 : decode cX7_readHands 66 = .ok (.iand, 1) := by decide +kernel
theorem dX7_readHands_67 : decode cX7_readHands 67 = .ok (.iload_n 3, 1) := by decide +kernel
theorem dX7_readHands_68 : decode cX7_readHands 68 = .ok (.iconst 1, 1) := by decide +kernel
theorem dX7_readHands_69 : decode cX7_readHands 69 = .ok (.ishr, 1) := by decide +kernel
theorem dX7_readHands_70 : decode cX7_readHands 70 = .ok (.invokevirtual 93, 3) := by decide +kernel
theorem dX7_readHands_73 : decode cX7_readHands 73 = .ok (.bipush 16, 2) := by decide +kernel
theorem dX7_readHands_75 : decode cX7_readHands 75 = .ok (.if_icmp .lt 5, 3) := by decide +kernel
theorem dX7_readHands_78 : decode cX7_readHands 78 = .ok (.iconst 0, 1) := by decide +kernel
theorem dX7_readHands_79 : decode cX7_readHands 79 = .ok (.ireturn, 1) := by decide +kernel
theorem dX7_readHands_80 : decode cX7_readHands 80 = .ok (.aload_n 1, 1) := by decide +kernel
theorem dX7_readHands_81 : decode cX7_readHands 81 = .ok (.iload_n 3, 1) := by decide +kernel
theorem dX7_readHands_82 : decode cX7_readHands 82 = .ok (.iconst 1, 1) := by decide +kernel
theorem dX7_readHands_83 : decode cX7_readHands 83 = .ok (.iand, 1) := by decide +kernel
theorem dX7_readHands_84 : decode cX7_readHands 84 = .ok (.iload_n 3, 1) := by decide +kernel
theorem dX7_readHands_85 : decode cX7_readHands 85 = .ok (.iconst 1, 1) := by decide +kernel
theorem dX7_readHands_86 : decode cX7_readHands 86 = .ok (.ishr, 1) := by decide +kernel
theorem dX7_readHands_87 : decode cX7_readHands 87 = .ok (.iconst 1, 1) := by decide +kernel
theorem dX7_readHands_88 : decode cX7_readHands 88 = .ok (.invokevirtual 97, 3) := by decide +kernel
theorem dX7_readHands_91 : decode cX7_readHands 91 = .ok (.aload_n 0, 1) := by decide +kernel
theorem dX7_readHands_92 : decode cX7_readHands 92 = .ok (.dup, 1) := by decide +kernel
theorem dX7_readHands_93 : decode cX7_readHands 93 = .ok (.getfield 19, 3) := by decide +kernel
theorem dX7_readHands_96 : decode cX7_readHands 96 = .ok (.iconst 1, 1) := by decide +kernel
theorem dX7_readHands_97 : decode cX7_readHands 97 = .ok (.iadd, 1) := by decide +kernel
theorem dX7_readHands_98 : decode cX7_readHands 98 = .ok (.putfield 19, 3) := by decide +kernel
theorem dX7_readHands_101 : decode cX7_readHands 101 = .ok (.iinc 2 1, 3) := by decide +kernel
theorem dX7_readHands_104 : decode cX7_readHands 104 = .ok (.goto (-91), 3) := by decide +kernel
theorem dX7_readHands_107 : decode cX7_readHands 107 = .ok (.iconst 1, 1) := by decide +kernel
theorem dX7_readHands_108 : decode cX7_readHands 108 = .ok (.ireturn, 1) := by decide +kernel
set_option maxRecDepth 20000 in
theorem moX7_readHands_107 {o : Int32 × Hp} {F : Nat} {h : Hp} (hE : sX7_readHands_107 F h  = some o) : Le h o.2 := by
  exact le_some2 hE
set_option maxRecDepth 20000 in
theorem moX7_readHands_78 {o : Int32 × Hp} {F : Nat} {h : Hp} (hE : sX7_readHands_78 F h  = some o) : Le h o.2 := by
  exact le_some2 hE
set_option maxRecDepth 20000 in
theorem moX7_readHands_39 {o : Int32 × Hp} {k_13 : Hp → Nat → Nat → Int32 → Option (Int32 × Hp)} {F : Nat} (mk_13 : ∀ (h : Hp) (x0 : Nat) (x1 : Nat) (x2 : Int32), k_13 h x0 x1 x2 = some o → Le h o.2) {h : Hp} {x0 : Nat} {x1 : Nat} {x2 : Int32} (hE : sX7_readHands_39 F k_13 h x0 x1 x2 = some o) : Le h o.2 := by
  obtain ⟨r_1, er_1, hE⟩ := cl_e hE
  obtain ⟨r_2, er_2, hE⟩ := cl_e hE
  obtain ⟨o_3, eo_3, hE⟩ := cl_e hE
  refine (moX9_byteAt eo_3).tr ?_
  obtain ⟨o_4, eo_4, hE⟩ := cl_e hE
  refine (moX1_codeOf eo_4).tr ?_
  rcases br_e hE with ⟨_, hE⟩ | ⟨_, hE⟩
  · exact moX7_readHands_78 hE
  · obtain ⟨o_6, eo_6, hE⟩ := cl_e hE
    refine (moX3_inHand eo_6).tr ?_
    rcases br_e hE with ⟨_, hE⟩ | ⟨_, hE⟩
    · obtain ⟨o_8, eo_8, hE⟩ := cl_e hE
      refine (moX3_addToHand eo_8).tr ?_
      obtain ⟨h_9, eh_9, hE⟩ := nm_e2 hE
      refine (le_I eh_9).tr ?_
      obtain ⟨v_10, ev_10, hE⟩ := nm_e2 hE
      exact mk_13 _ _ _ _ hE
    · exact moX7_readHands_78 hE
set_option maxRecDepth 20000 in
theorem moX7_readHands_13 {o : Int32 × Hp} {F : Nat} : ∀ (f : Nat) {h : Hp} {x0 : Nat} {x1 : Nat} {x2 : Int32}, sX7_readHands_13 F f h x0 x1 x2 = some o → Le h o.2 := by
  intro f
  induction f with
  | zero =>
    intro h x0 x1 x2 hE
    rw [sX7_readHands_13] at hE
    cases hE
  | succ f ih =>
    intro h x0 x1 x2 hE
    rw [sX7_readHands_13] at hE
    have mk_13 : ∀ (h : Hp) (x0 : Nat) (x1 : Nat) (x2 : Int32), sX7_readHands_13 F f h x0 x1 x2 = some o → Le h o.2 := fun h x0 x1 x2 hE => ih hE
    rcases br_e hE with ⟨_, hE⟩ | ⟨_, hE⟩
    · exact moX7_readHands_107 hE
    · rcases br_e hE with ⟨_, hE⟩ | ⟨_, hE⟩
      · exact moX7_readHands_39 mk_13 hE
      · obtain ⟨r_3, er_3, hE⟩ := cl_e hE
        obtain ⟨o_4, eo_4, hE⟩ := cl_e hE
        refine (moX9_byteAt eo_4).tr ?_
        rcases br_e hE with ⟨_, hE⟩ | ⟨_, hE⟩
        · exact moX7_readHands_107 hE
        · exact moX7_readHands_39 mk_13 hE
set_option maxRecDepth 20000 in
theorem moX7_readHands {o : Int32 × Hp} {F : Nat} {h : Hp} {x0 : Nat} {x1 : Nat} (hE : sX7_readHands F h x0 x1 = some o) : Le h o.2 := by
  obtain ⟨o_1, eo_1, hE⟩ := cl_e hE
  refine (moX7_takeByte eo_1).tr ?_
  rcases br_e hE with ⟨_, hE⟩ | ⟨_, hE⟩
  · exact moX7_readHands_13 _ hE
  · exact le_some2 hE
set_option maxRecDepth 20000 in
theorem bX7_readHands_107 {p : Program} {l : Launch} {e : Env} {s : State} {m : MethodId} {args : Array Value} {below : List Frame} {meth : Method} {c : Code} {X : Ec} {h0 : Hp} {o : Int32 × Hp} {F : Nat} (C : Cx X p s m args meth c RX7 cX7_readHands 4 (some .boolean) "readHands") {h : Hp} {H : Heap} {locs : List Loc} (hkm : Km h0 h) (hW : Wx X h H) (hZ : va_S (aA (eB X)) s.heap H locs) (ls : Array Slot) (hl : lv_has ls 4 []) (hE : sX7_readHands_107 F h  = some o) : W p l e (rm 2 45) s m args below meth c H locs 0 0 (MQ below (QI X h0 o.1 o.2) args s 0 0 (aA (eB X))) (F0 m 107 ls []) := by
  refine lv_iconst (v := (1 : Int32)) C.1 C.2.1 dX7_readHands_107 (by decide) ?_
  exact x_iret C rfl (by decide) hW hZ hkm hE dX7_readHands_108
set_option maxRecDepth 20000 in
theorem bX7_readHands_78 {p : Program} {l : Launch} {e : Env} {s : State} {m : MethodId} {args : Array Value} {below : List Frame} {meth : Method} {c : Code} {X : Ec} {h0 : Hp} {o : Int32 × Hp} {F : Nat} (C : Cx X p s m args meth c RX7 cX7_readHands 4 (some .boolean) "readHands") {h : Hp} {H : Heap} {locs : List Loc} (hkm : Km h0 h) (hW : Wx X h H) (hZ : va_S (aA (eB X)) s.heap H locs) (ls : Array Slot) (hl : lv_has ls 4 []) (hE : sX7_readHands_78 F h  = some o) : W p l e (rm 2 45) s m args below meth c H locs 0 0 (MQ below (QI X h0 o.1 o.2) args s 0 0 (aA (eB X))) (F0 m 78 ls []) := by
  refine lv_iconst (v := (0 : Int32)) C.1 C.2.1 dX7_readHands_78 (by decide) ?_
  exact x_iret C rfl (by decide) hW hZ hkm hE dX7_readHands_79
set_option maxRecDepth 20000 in
theorem bX7_readHands_39 {p : Program} {l : Launch} {e : Env} {s : State} {m : MethodId} {args : Array Value} {below : List Frame} {meth : Method} {c : Code} {X : Ec} {h0 : Hp} {o : Int32 × Hp} {k_13 : Hp → Nat → Nat → Int32 → Option (Int32 × Hp)} {F : Nat} (C : Cx X p s m args meth c RX7 cX7_readHands 4 (some .boolean) "readHands") (hk_13 : ∀ (h : Hp) (x0 : Nat) (x1 : Nat) (x2 : Int32) (H : Heap) (locs : List Loc), hK h x0 = 7 → hK h x1 = 3 → Km h0 h → Wx X h H → va_S (aA (eB X)) s.heap H locs → ∀ (ls : Array Slot), lv_has ls 4 [(0, .ref x0), (1, .ref x1), (2, .int x2)] → k_13 h x0 x1 x2 = some o → W p l e (rm 2 45) s m args below meth c H locs 0 0 (MQ below (QI X h0 o.1 o.2) args s 0 0 (aA (eB X))) (F0 m 13 ls [])) {h : Hp} {x0 : Nat} {x1 : Nat} {x2 : Int32} {H : Heap} {locs : List Loc} (k_x0 : hK h x0 = 7) (k_x1 : hK h x1 = 3) (hkm : Km h0 h) (hW : Wx X h H) (hZ : va_S (aA (eB X)) s.heap H locs) (ls : Array Slot) (hl : lv_has ls 4 [(0, .ref x0), (1, .ref x1), (2, .int x2)]) (hE : sX7_readHands_39 F k_13 h x0 x1 x2 = some o) : W p l e (rm 2 45) s m args below meth c H locs 0 0 (MQ below (QI X h0 o.1 o.2) args s 0 0 (aA (eB X))) (F0 m 39 ls []) := by
  refine lv_aload_n C.1 C.2.1 dX7_readHands_39 rfl (lv_at hl 0 rfl) ?_
  obtain ⟨r_1, er_1, hE⟩ := cl_e hE
  refine gf_X7_9 C hW k_x0 er_1 dX7_readHands_40 (fun k_r_1 => ?_)
  refine lv_aload_n C.1 C.2.1 dX7_readHands_43 rfl (lv_at hl 0 rfl) ?_
  obtain ⟨r_2, er_2, hE⟩ := cl_e hE
  refine gf_X7_15 C hW k_x0 er_2 dX7_readHands_44 (fun k_r_2 => ?_)
  refine lv_aload_n C.1 C.2.1 dX7_readHands_47 rfl (lv_at hl 0 rfl) ?_
  refine gf_X7_19 C hW k_x0 dX7_readHands_48 ?_
  obtain ⟨o_3, eo_3, hE⟩ := cl_e hE
  refine x_kI (o := o_3) (z_runV (As := [.int (hI h x0 2)]) (rest := [.ref r_1]) C (ct_X9_byteAt l X k_r_2 eo_3) cw_X7_54 hW hZ k_r_2 (by decide) rfl rfl rfl hl.1 (Nat.le_of_ble_eq_true rfl) rfl dX7_readHands_51 ⟨Nat.le_of_ble_eq_true rfl, Nat.le_of_ble_eq_true rfl⟩ ⟨Nat.le_refl _, Nat.le_refl _⟩) hZ (fun _ _ hW km hZ => ?_)
  replace hkm := hkm.tr km
  replace k_x0 := km.at k_x0 (by decide)
  replace k_x1 := km.at k_x1 (by decide)
  replace k_r_1 := km.at k_r_1 (by decide)
  obtain ⟨o_4, eo_4, hE⟩ := cl_e hE
  refine x_kI (o := o_4) (z_runV (As := [.int o_3.1]) (rest := []) C (ct_X1_codeOf l X F k_r_1 eo_4) cw_X7_68 hW hZ k_r_1 (by decide) rfl rfl rfl hl.1 (Nat.le_of_ble_eq_true rfl) rfl dX7_readHands_54 ⟨Nat.le_of_ble_eq_true rfl, Nat.le_of_ble_eq_true rfl⟩ ⟨Nat.le_refl _, Nat.le_refl _⟩) hZ (fun _ _ hW km hZ => ?_)
  replace hkm := hkm.tr km
  replace k_x0 := km.at k_x0 (by decide)
  replace k_x1 := km.at k_x1 (by decide)
  refine lv_istore_n (lv' := [(3, .int o_4.1), (0, .ref x0), (1, .ref x1), (2, .int x2)]) C.1 C.2.1 dX7_readHands_57 rfl hl (by decide) rfl (fun ls hl => ?_)
  refine lv_iload_n C.1 C.2.1 dX7_readHands_58 rfl (lv_at hl 0 rfl) ?_
  refine lv_iconst (v := (-1 : Int32)) C.1 C.2.1 dX7_readHands_59 (by decide) ?_
  refine lv_icmp_eq (tgt := 78) C.1 C.2.1 dX7_readHands_60 (by decide) (fun c_5 => ?_) (fun c_5 => ?_)
  · have hE := br_p hE c_5
    exact bX7_readHands_78 C hkm hW hZ _ (lv_sub hl [] rfl) hE
  · have hE := br_n hE c_5
    refine lv_aload_n C.1 C.2.1 dX7_readHands_63 rfl (lv_at hl 2 rfl) ?_
    refine lv_iload_n C.1 C.2.1 dX7_readHands_64 rfl (lv_at hl 0 rfl) ?_
    refine lv_iconst (v := (1 : Int32)) C.1 C.2.1 dX7_readHands_65 (by decide) ?_
    refine lv_iand C.1 C.2.1 dX7_readHands_66 ?_
    refine lv_iload_n C.1 C.2.1 dX7_readHands_67 rfl (lv_at hl 0 rfl) ?_
    refine lv_iconst (v := (1 : Int32)) C.1 C.2.1 dX7_readHands_68 (by decide) ?_
    refine lv_ishr C.1 C.2.1 dX7_readHands_69 ?_
    obtain ⟨o_6, eo_6, hE⟩ := cl_e hE
    refine x_kI (o := o_6) (z_runV (As := [.int (o_4.1 &&& (1 : Int32)), .int (o_4.1 >>> ((1 : Int32) &&& 31))]) (rest := []) C (ct_X3_inHand l X k_x1 eo_6) cw_X7_93 hW hZ k_x1 (by decide) rfl rfl rfl hl.1 (Nat.le_of_ble_eq_true rfl) rfl dX7_readHands_70 ⟨Nat.le_of_ble_eq_true rfl, Nat.le_of_ble_eq_true rfl⟩ ⟨Nat.le_refl _, Nat.le_refl _⟩) hZ (fun _ _ hW km hZ => ?_)
    replace hkm := hkm.tr km
    replace k_x0 := km.at k_x0 (by decide)
    replace k_x1 := km.at k_x1 (by decide)
    refine lv_bipush (v := (16 : Int32)) C.1 C.2.1 dX7_readHands_73 (by decide) ?_
    refine lv_icmp_lt (tgt := 80) C.1 C.2.1 dX7_readHands_75 (by decide) (fun c_7 => ?_) (fun c_7 => ?_)
    · have hE := br_p hE c_7
      refine lv_aload_n C.1 C.2.1 dX7_readHands_80 rfl (lv_at hl 2 rfl) ?_
      refine lv_iload_n C.1 C.2.1 dX7_readHands_81 rfl (lv_at hl 0 rfl) ?_
      refine lv_iconst (v := (1 : Int32)) C.1 C.2.1 dX7_readHands_82 (by decide) ?_
      refine lv_iand C.1 C.2.1 dX7_readHands_83 ?_
      refine lv_iload_n C.1 C.2.1 dX7_readHands_84 rfl (lv_at hl 0 rfl) ?_
      refine lv_iconst (v := (1 : Int32)) C.1 C.2.1 dX7_readHands_85 (by decide) ?_
      refine lv_ishr C.1 C.2.1 dX7_readHands_86 ?_
      refine lv_iconst (v := (1 : Int32)) C.1 C.2.1 dX7_readHands_87 (by decide) ?_
      obtain ⟨o_8, eo_8, hE⟩ := cl_e hE
      refine x_kV (o := o_8) (z_runV (As := [.int (o_4.1 &&& (1 : Int32)), .int (o_4.1 >>> ((1 : Int32) &&& 31)), .int (1 : Int32)]) (rest := []) C (ct_X3_addToHand l X k_x1 eo_8) cw_X7_97 hW hZ k_x1 (by decide) rfl rfl rfl hl.1 (Nat.le_of_ble_eq_true rfl) rfl dX7_readHands_88 ⟨Nat.le_of_ble_eq_true rfl, Nat.le_of_ble_eq_true rfl⟩ ⟨Nat.le_refl _, Nat.le_refl _⟩) hZ (fun _ _ hW km hZ => ?_)
      replace hkm := hkm.tr km
      replace k_x0 := km.at k_x0 (by decide)
      replace k_x1 := km.at k_x1 (by decide)
      refine lv_aload_n C.1 C.2.1 dX7_readHands_91 rfl (lv_at hl 1 rfl) ?_
      refine lv_dup C.1 C.2.1 dX7_readHands_92 rfl ?_
      refine gf_X7_19 C hW k_x0 dX7_readHands_93 ?_
      refine lv_iconst (v := (1 : Int32)) C.1 C.2.1 dX7_readHands_96 (by decide) ?_
      refine lv_iadd C.1 C.2.1 dX7_readHands_97 ?_
      obtain ⟨h_9, eh_9, hE⟩ := nm_e2 hE
      refine pf_X7_19 C hW hZ k_x0 eh_9 dX7_readHands_98 (fun _ _ hW km hZ => ?_)
      replace hkm := hkm.tr km
      replace k_x0 := km.at k_x0 (by decide)
      replace k_x1 := km.at k_x1 (by decide)
      obtain ⟨v_10, ev_10, hE⟩ := nm_e2 hE
      refine lv_iinc (v := v_10) (lv' := [(2, .int v_10), (3, .int o_4.1), (0, .ref x0), (1, .ref x1)]) C.1 C.2.1 dX7_readHands_101 hl (k := 3) rfl (by rw [ev_10]; rfl) (by decide) rfl (fun ls hl => ?_)
      refine lv_goto (tgt := 13) C.1 C.2.1 dX7_readHands_104 (by decide) ?_
      exact hk_13 _ _ _ _ _ _ k_x0 k_x1 hkm hW hZ _ (lv_sub hl [2, 3, 0] rfl) hE
    · have hE := br_n hE c_7
      exact bX7_readHands_78 C hkm hW hZ _ (lv_sub hl [] rfl) hE
set_option maxRecDepth 20000 in
theorem bX7_readHands_13 {p : Program} {l : Launch} {e : Env} {s : State} {m : MethodId} {args : Array Value} {below : List Frame} {meth : Method} {c : Code} {X : Ec} {h0 : Hp} {o : Int32 × Hp} {F : Nat} (C : Cx X p s m args meth c RX7 cX7_readHands 4 (some .boolean) "readHands") : ∀ (f : Nat) {h : Hp} {x0 : Nat} {x1 : Nat} {x2 : Int32} {H : Heap} {locs : List Loc} (k_x0 : hK h x0 = 7) (k_x1 : hK h x1 = 3), Km h0 h → Wx X h H → va_S (aA (eB X)) s.heap H locs → ∀ (ls : Array Slot), lv_has ls 4 [(0, .ref x0), (1, .ref x1), (2, .int x2)] → sX7_readHands_13 F f h x0 x1 x2 = some o → W p l e (rm 2 45) s m args below meth c H locs 0 0 (MQ below (QI X h0 o.1 o.2) args s 0 0 (aA (eB X))) (F0 m 13 ls []) := by
  intro f
  induction f with
  | zero =>
    intro h x0 x1 x2 H locs k_x0 k_x1 hkm hW hZ ls hl hE
    rw [sX7_readHands_13] at hE
    cases hE
  | succ f ih =>
    intro h x0 x1 x2 H locs k_x0 k_x1 hkm hW hZ ls hl hE
    rw [sX7_readHands_13] at hE
    have hk_13 : ∀ (h : Hp) (x0 : Nat) (x1 : Nat) (x2 : Int32) (H : Heap) (locs : List Loc), hK h x0 = 7 → hK h x1 = 3 → Km h0 h → Wx X h H → va_S (aA (eB X)) s.heap H locs → ∀ (ls : Array Slot), lv_has ls 4 [(0, .ref x0), (1, .ref x1), (2, .int x2)] → sX7_readHands_13 F f h x0 x1 x2 = some o → W p l e (rm 2 45) s m args below meth c H locs 0 0 (MQ below (QI X h0 o.1 o.2) args s 0 0 (aA (eB X))) (F0 m 13 ls []) := fun h x0 x1 x2 H locs k_x0 k_x1 a b c ls hl hE => ih k_x0 k_x1 a b c ls hl hE
    refine lv_iload_n C.1 C.2.1 dX7_readHands_13 rfl (lv_at hl 2 rfl) ?_
    refine lv_bipush (v := (32 : Int32)) C.1 C.2.1 dX7_readHands_14 (by decide) ?_
    refine lv_icmp_ge (tgt := 107) C.1 C.2.1 dX7_readHands_16 (by decide) (fun c_1 => ?_) (fun c_1 => ?_)
    · have hE := br_p hE c_1
      exact bX7_readHands_107 C hkm hW hZ _ (lv_sub hl [] rfl) hE
    · have hE := br_n hE c_1
      refine lv_iload_n C.1 C.2.1 dX7_readHands_19 rfl (lv_at hl 2 rfl) ?_
      refine lv_if_eq (tgt := 39) C.1 C.2.1 dX7_readHands_20 (by decide) (fun c_2 => ?_) (fun c_2 => ?_)
      · have hE := br_p hE c_2
        exact bX7_readHands_39 C hk_13 k_x0 k_x1 hkm hW hZ _ (lv_sub hl [0, 1, 2] rfl) hE
      · have hE := br_n hE c_2
        refine lv_aload_n C.1 C.2.1 dX7_readHands_23 rfl (lv_at hl 0 rfl) ?_
        obtain ⟨r_3, er_3, hE⟩ := cl_e hE
        refine gf_X7_15 C hW k_x0 er_3 dX7_readHands_24 (fun k_r_3 => ?_)
        refine lv_aload_n C.1 C.2.1 dX7_readHands_27 rfl (lv_at hl 0 rfl) ?_
        refine gf_X7_19 C hW k_x0 dX7_readHands_28 ?_
        obtain ⟨o_4, eo_4, hE⟩ := cl_e hE
        refine x_kI (o := o_4) (z_runV (As := [.int (hI h x0 2)]) (rest := []) C (ct_X9_byteAt l X k_r_3 eo_4) cw_X7_54 hW hZ k_r_3 (by decide) rfl rfl rfl hl.1 (Nat.le_of_ble_eq_true rfl) rfl dX7_readHands_31 ⟨Nat.le_of_ble_eq_true rfl, Nat.le_of_ble_eq_true rfl⟩ ⟨Nat.le_refl _, Nat.le_refl _⟩) hZ (fun _ _ hW km hZ => ?_)
        replace hkm := hkm.tr km
        replace k_x0 := km.at k_x0 (by decide)
        replace k_x1 := km.at k_x1 (by decide)
        refine lv_bipush (v := (32 : Int32)) C.1 C.2.1 dX7_readHands_34 (by decide) ?_
        refine lv_icmp_eq (tgt := 107) C.1 C.2.1 dX7_readHands_36 (by decide) (fun c_5 => ?_) (fun c_5 => ?_)
        · have hE := br_p hE c_5
          exact bX7_readHands_107 C hkm hW hZ _ (lv_sub hl [] rfl) hE
        · have hE := br_n hE c_5
          exact bX7_readHands_39 C hk_13 k_x0 k_x1 hkm hW hZ _ (lv_sub hl [0, 1, 2] rfl) hE
set_option maxRecDepth 20000 in
theorem ct_X7_readHands (l : Launch) (X : Ec) (F : Nat) {h : Hp} {x0 : Nat} {x1 : Nat} {o : Int32 × Hp} (k_x0 : hK h x0 = 7) (k_x1 : hK h x1 = 3) (hE : sX7_readHands F h x0 x1 = some o) : MetI l yX7_readHands cX7_readHands 4 (some .boolean) 2 45 X [.ref x0, .ref x1] h o := by
  refine x_met (by decide) (Nat.le_of_ble_eq_true rfl) ?_
  intro p e s m below meth c ls C hl hW hZ
  have hl : lv_has ls 4 [(0, .ref x0), (1, .ref x1)] := hl
  have hkm : Km h h := Km.rf h
  refine lv_aload_n C.1 C.2.1 dX7_readHands_0 rfl (lv_at hl 0 rfl) ?_
  refine lv_bipush (v := (45 : Int32)) C.1 C.2.1 dX7_readHands_1 (by decide) ?_
  obtain ⟨o_1, eo_1, hE⟩ := cl_e hE
  refine x_kI (o := o_1) (z_runV (As := [.int (45 : Int32)]) (rest := []) C (ct_X7_takeByte l X k_x0 eo_1) cw_X7_32 hW hZ k_x0 (by decide) rfl rfl rfl hl.1 (Nat.le_of_ble_eq_true rfl) rfl dX7_readHands_3 ⟨Nat.le_of_ble_eq_true rfl, Nat.le_of_ble_eq_true rfl⟩ ⟨Nat.le_refl _, Nat.le_refl _⟩) hZ (fun _ _ hW km hZ => ?_)
  replace hkm := hkm.tr km
  replace k_x0 := km.at k_x0 (by decide)
  replace k_x1 := km.at k_x1 (by decide)
  refine lv_if_eq (tgt := 11) C.1 C.2.1 dX7_readHands_6 (by decide) (fun c_2 => ?_) (fun c_2 => ?_)
  · have hE := br_p hE c_2
    refine lv_iconst (v := (0 : Int32)) C.1 C.2.1 dX7_readHands_11 (by decide) ?_
    refine lv_istore_n (lv' := [(2, .int (0 : Int32)), (0, .ref x0), (1, .ref x1)]) C.1 C.2.1 dX7_readHands_12 rfl hl (by decide) rfl (fun ls hl => ?_)
    exact bX7_readHands_13 C F k_x0 k_x1 hkm hW hZ _ (lv_sub hl [1, 2, 0] rfl) hE
  · have hE := br_n hE c_2
    refine lv_iconst (v := (1 : Int32)) C.1 C.2.1 dX7_readHands_9 (by decide) ?_
    exact x_iret C rfl (by decide) hW hZ hkm hE dX7_readHands_10
set_option maxRecDepth 100000 in
theorem m_293 : Cond.fieldLink RX7 105 (TX3 4).1 (TX3 4).2.1 (TX3 4).2.2.1 ∈ W0 := w0_in (List.mem_append_right _ (List.mem_of_getElem? (i := 293) rfl)) rfl
set_option maxRecDepth 100000 in
theorem n_1007 : Cond.methodLinkNest RX7 100 yX2_isDigit "GameRules" ∈ tables_1 := List.mem_of_getElem? (i := 1007) rfl
section
variable {p : Program} {l : Launch} {e : Env} {R : Room} {s : State} {m : MethodId} {args : Array Value} {below : List Frame} {meth : Method} {c : Code} {H : Heap} {locs : List Loc} {cells slots : Nat} {Q : State → Prop}
variable {cc : ByteArray} {pc : Nat} {ls : Array Slot} {rest : List Value} {X : Ec} {h h1 : Hp} {nL : Nat} {rt : Option FieldType} {mn : String}
theorem gf_X7_105 {a r : Nat} (C : Cx X p s m args meth c RX7 cc nL rt mn) (hW : Wx X h H) (ha : hK h a = 3) (hr : hR h a 4 = some r) (hdg : decode cc pc = .ok (.getfield 105, 3)) (kk : hK h r = 17 → W p l e R s m args below meth c H locs cells slots Q (F0 m (pc + 3) ls (.ref r :: rest))) : W p l e R s m args below meth c H locs cells slots Q (F0 m pc ls (.ref a :: rest)) :=
  y_getr C hW ha i_X3 (by decide) rfl (by decide) m_293 rfl rfl hr hdg kk
end
theorem cn_X7_100 : cwn RX7 100 "GameRules" yX2_isDigit cX2_isDigit 1 (some .boolean) true 1 := ⟨m_666, n_1007, m_5, m_665, by decide, by decide, by decide +kernel⟩
theorem dX7_readChecks_0 : decode cX7_readChecks 0 = .ok (.iconst 0, 1) := by decide +kernel
theorem dX7_readChecks_1 : decode cX7_readChecks 1 = .ok (.istore_n 2, 1) := by decide +kernel
theorem dX7_readChecks_2 : decode cX7_readChecks 2 = .ok (.iload_n 2, 1) := by decide +kernel
theorem dX7_readChecks_3 : decode cX7_readChecks 3 = .ok (.iconst 2, 1) := by decide +kernel
theorem dX7_readChecks_4 : decode cX7_readChecks 4 = .ok (.if_icmp .ge 58, 3) := by decide +kernel
theorem dX7_readChecks_7 : decode cX7_readChecks 7 = .ok (.aload_n 0, 1) := by decide +kernel
theorem dX7_readChecks_8 : decode cX7_readChecks 8 = .ok (.getfield 15, 3) := by decide +kernel
theorem dX7_readChecks_11 : decode cX7_readChecks 11 = .ok (.aload_n 0, 1) := by decide +kernel
theorem dX7_readChecks_12 : decode cX7_readChecks 12 = .ok (.getfield 19, 3) := by decide +kernel
theorem dX7_readChecks_15 : decode cX7_readChecks 15 = .ok (.invokevirtual 54, 3) := by decide +kernel
theorem dX7_readChecks_18 : decode cX7_readChecks 18 = .ok (.invokestatic 100, 3) := by decide +kernel
theorem dX7_readChecks_21 : decode cX7_readChecks 21 = .ok (.ifCond .ne 5, 3) := by decide +kernel
theorem dX7_readChecks_24 : decode cX7_readChecks 24 = .ok (.iconst 0, 1) := by decide +kernel
theorem dX7_readChecks_25 : decode cX7_readChecks 25 = .ok (.ireturn, 1) := by decide +kernel
theorem dX7_readChecks_26 : decode cX7_readChecks 26 = .ok (.aload_n 1, 1) := by decide +kernel
theorem dX7_readChecks_27 : decode cX7_readChecks 27 = .ok (.getfield 105, 3) := by decide +kernel
theorem dX7_readChecks_30 : decode cX7_readChecks 30 = .ok (.iload_n 2, 1) := by decide +kernel
theorem dX7_readChecks_31 : decode cX7_readChecks 31 = .ok (.aload_n 0, 1) := by decide +kernel
theorem dX7_readChecks_32 : decode cX7_readChecks 32 = .ok (.getfield 15, 3) := by decide +kernel
theorem dX7_readChecks_35 : decode cX7_readChecks 35 = .ok (.aload_n 0, 1) := by decide +kernel
theorem dX7_readChecks_36 : decode cX7_readChecks 36 = .ok (.getfield 19, 3) := by decide +kernel
theorem dX7_readChecks_39 : decode cX7_readChecks 39 = .ok (.invokevirtual 54, 3) := by decide +kernel
theorem dX7_readChecks_42 : decode cX7_readChecks 42 = .ok (.bipush 48, 2) := by decide +kernel
theorem dX7_readChecks_44 : decode cX7_readChecks 44 = .ok (.isub, 1) := by decide +kernel
theorem dX7_readChecks_45 : decode cX7_readChecks 45 = .ok (.iastore, 1) := by decide +kernel
theorem dX7_readChecks_46 : decode cX7_readChecks 46 = .ok (.aload_n 0, 1) := by decide +kernel
theorem dX7_readChecks_47 : decode cX7_readChecks 47 = .ok (.dup, 1) := by decide +kernel
theorem dX7_readChecks_48 : decode cX7_readChecks 48 = .ok (.getfield 19, 3) := by decide +kernel
theorem dX7_readChecks_51 : decode cX7_readChecks 51 = .ok (.iconst 1, 1) := by decide +kernel
theorem dX7_readChecks_52 : decode cX7_readChecks 52 = .ok (.iadd, 1) := by decide +kernel
theorem dX7_readChecks_53 : decode cX7_readChecks 53 = .ok (.putfield 19, 3) := by decide +kernel
theorem dX7_readChecks_56 : decode cX7_readChecks 56 = .ok (.iinc 2 1, 3) := by decide +kernel
theorem dX7_readChecks_59 : decode cX7_readChecks 59 = .ok (.goto (-57), 3) := by decide +kernel
theorem dX7_readChecks_62 : decode cX7_readChecks 62 = .ok (.iconst 1, 1) := by decide +kernel
theorem dX7_readChecks_63 : decode cX7_readChecks 63 = .ok (.ireturn, 1) := by decide +kernel
set_option maxRecDepth 20000 in
theorem moX7_readChecks_2 {o : Int32 × Hp} {F : Nat} : ∀ (f : Nat) {h : Hp} {x0 : Nat} {x1 : Nat} {x2 : Int32}, sX7_readChecks_2 F f h x0 x1 x2 = some o → Le h o.2 := by
  intro f
  induction f with
  | zero =>
    intro h x0 x1 x2 hE
    rw [sX7_readChecks_2] at hE
    cases hE
  | succ f ih =>
    intro h x0 x1 x2 hE
    rw [sX7_readChecks_2] at hE
    have mk_2 : ∀ (h : Hp) (x0 : Nat) (x1 : Nat) (x2 : Int32), sX7_readChecks_2 F f h x0 x1 x2 = some o → Le h o.2 := fun h x0 x1 x2 hE => ih hE
    rcases br_e hE with ⟨_, hE⟩ | ⟨_, hE⟩
    · exact le_some2 hE
    · obtain ⟨r_2, er_2, hE⟩ := cl_e hE
      obtain ⟨o_3, eo_3, hE⟩ := cl_e hE
      refine (moX9_byteAt eo_3).tr ?_
      obtain ⟨o_4, eo_4, hE⟩ := cl_e hE
      refine (moX2_isDigit eo_4).tr ?_
      rcases br_e hE with ⟨_, hE⟩ | ⟨_, hE⟩
      · exact le_some2 hE
      · obtain ⟨r_6, er_6, hE⟩ := cl_e hE
        obtain ⟨r_7, er_7, hE⟩ := cl_e hE
        obtain ⟨o_8, eo_8, hE⟩ := cl_e hE
        refine (moX9_byteAt eo_8).tr ?_
        obtain ⟨g_9, hE⟩ := gd_e hE
        obtain ⟨h_10, eh_10, hE⟩ := nm_e2 hE
        refine (le_I eh_10).tr ?_
        obtain ⟨h_11, eh_11, hE⟩ := nm_e2 hE
        refine (le_I eh_11).tr ?_
        obtain ⟨v_12, ev_12, hE⟩ := nm_e2 hE
        exact mk_2 _ _ _ _ hE
set_option maxRecDepth 20000 in
theorem moX7_readChecks {o : Int32 × Hp} {F : Nat} {h : Hp} {x0 : Nat} {x1 : Nat} (hE : sX7_readChecks F h x0 x1 = some o) : Le h o.2 := by
  exact moX7_readChecks_2 _ hE
set_option maxRecDepth 20000 in
theorem bX7_readChecks_2 {p : Program} {l : Launch} {e : Env} {s : State} {m : MethodId} {args : Array Value} {below : List Frame} {meth : Method} {c : Code} {X : Ec} {h0 : Hp} {o : Int32 × Hp} {F : Nat} (C : Cx X p s m args meth c RX7 cX7_readChecks 3 (some .boolean) "readChecks") : ∀ (f : Nat) {h : Hp} {x0 : Nat} {x1 : Nat} {x2 : Int32} {H : Heap} {locs : List Loc} (k_x0 : hK h x0 = 7) (k_x1 : hK h x1 = 3), Km h0 h → Wx X h H → va_S (aA (eB X)) s.heap H locs → ∀ (ls : Array Slot), lv_has ls 3 [(0, .ref x0), (1, .ref x1), (2, .int x2)] → sX7_readChecks_2 F f h x0 x1 x2 = some o → W p l e (rm 1 21) s m args below meth c H locs 0 0 (MQ below (QI X h0 o.1 o.2) args s 0 0 (aA (eB X))) (F0 m 2 ls []) := by
  intro f
  induction f with
  | zero =>
    intro h x0 x1 x2 H locs k_x0 k_x1 hkm hW hZ ls hl hE
    rw [sX7_readChecks_2] at hE
    cases hE
  | succ f ih =>
    intro h x0 x1 x2 H locs k_x0 k_x1 hkm hW hZ ls hl hE
    rw [sX7_readChecks_2] at hE
    have hk_2 : ∀ (h : Hp) (x0 : Nat) (x1 : Nat) (x2 : Int32) (H : Heap) (locs : List Loc), hK h x0 = 7 → hK h x1 = 3 → Km h0 h → Wx X h H → va_S (aA (eB X)) s.heap H locs → ∀ (ls : Array Slot), lv_has ls 3 [(0, .ref x0), (1, .ref x1), (2, .int x2)] → sX7_readChecks_2 F f h x0 x1 x2 = some o → W p l e (rm 1 21) s m args below meth c H locs 0 0 (MQ below (QI X h0 o.1 o.2) args s 0 0 (aA (eB X))) (F0 m 2 ls []) := fun h x0 x1 x2 H locs k_x0 k_x1 a b c ls hl hE => ih k_x0 k_x1 a b c ls hl hE
    refine lv_iload_n C.1 C.2.1 dX7_readChecks_2 rfl (lv_at hl 2 rfl) ?_
    refine lv_iconst (v := (2 : Int32)) C.1 C.2.1 dX7_readChecks_3 (by decide) ?_
    refine lv_icmp_ge (tgt := 62) C.1 C.2.1 dX7_readChecks_4 (by decide) (fun c_1 => ?_) (fun c_1 => ?_)
    · have hE := br_p hE c_1
      refine lv_iconst (v := (1 : Int32)) C.1 C.2.1 dX7_readChecks_62 (by decide) ?_
      exact x_iret C rfl (by decide) hW hZ hkm hE dX7_readChecks_63
    · have hE := br_n hE c_1
      refine lv_aload_n C.1 C.2.1 dX7_readChecks_7 rfl (lv_at hl 0 rfl) ?_
      obtain ⟨r_2, er_2, hE⟩ := cl_e hE
      refine gf_X7_15 C hW k_x0 er_2 dX7_readChecks_8 (fun k_r_2 => ?_)
      refine lv_aload_n C.1 C.2.1 dX7_readChecks_11 rfl (lv_at hl 0 rfl) ?_
      refine gf_X7_19 C hW k_x0 dX7_readChecks_12 ?_
      obtain ⟨o_3, eo_3, hE⟩ := cl_e hE
      refine x_kI (o := o_3) (z_runV (As := [.int (hI h x0 2)]) (rest := []) C (ct_X9_byteAt l X k_r_2 eo_3) cw_X7_54 hW hZ k_r_2 (by decide) rfl rfl rfl hl.1 (Nat.le_of_ble_eq_true rfl) rfl dX7_readChecks_15 ⟨Nat.le_of_ble_eq_true rfl, Nat.le_of_ble_eq_true rfl⟩ ⟨Nat.le_refl _, Nat.le_refl _⟩) hZ (fun _ _ hW km hZ => ?_)
      replace hkm := hkm.tr km
      replace k_x0 := km.at k_x0 (by decide)
      replace k_x1 := km.at k_x1 (by decide)
      obtain ⟨o_4, eo_4, hE⟩ := cl_e hE
      refine x_kI (o := o_4) (x_runSN (As := [.int o_3.1]) (rest := []) C (ct_X2_isDigit l X eo_4) cn_X7_100 hW hZ rfl hl.1 (Nat.le_of_ble_eq_true rfl) rfl dX7_readChecks_18 ⟨Nat.le_of_ble_eq_true rfl, Nat.le_of_ble_eq_true rfl⟩ ⟨Nat.le_refl _, Nat.le_refl _⟩) hZ (fun _ _ hW km hZ => ?_)
      replace hkm := hkm.tr km
      replace k_x0 := km.at k_x0 (by decide)
      replace k_x1 := km.at k_x1 (by decide)
      refine lv_if_ne (tgt := 26) C.1 C.2.1 dX7_readChecks_21 (by decide) (fun c_5 => ?_) (fun c_5 => ?_)
      · have hE := br_n hE c_5
        refine lv_aload_n C.1 C.2.1 dX7_readChecks_26 rfl (lv_at hl 1 rfl) ?_
        obtain ⟨r_6, er_6, hE⟩ := cl_e hE
        refine gf_X7_105 C hW k_x1 er_6 dX7_readChecks_27 (fun k_r_6 => ?_)
        refine lv_iload_n C.1 C.2.1 dX7_readChecks_30 rfl (lv_at hl 2 rfl) ?_
        refine lv_aload_n C.1 C.2.1 dX7_readChecks_31 rfl (lv_at hl 0 rfl) ?_
        obtain ⟨r_7, er_7, hE⟩ := cl_e hE
        refine gf_X7_15 C hW k_x0 er_7 dX7_readChecks_32 (fun k_r_7 => ?_)
        refine lv_aload_n C.1 C.2.1 dX7_readChecks_35 rfl (lv_at hl 0 rfl) ?_
        refine gf_X7_19 C hW k_x0 dX7_readChecks_36 ?_
        obtain ⟨o_8, eo_8, hE⟩ := cl_e hE
        refine x_kI (o := o_8) (z_runV (As := [.int (hI o_4.2 x0 2)]) (rest := [.int x2, .ref r_6]) C (ct_X9_byteAt l X k_r_7 eo_8) cw_X7_54 hW hZ k_r_7 (by decide) rfl rfl rfl hl.1 (Nat.le_of_ble_eq_true rfl) rfl dX7_readChecks_39 ⟨Nat.le_of_ble_eq_true rfl, Nat.le_of_ble_eq_true rfl⟩ ⟨Nat.le_refl _, Nat.le_refl _⟩) hZ (fun _ _ hW km hZ => ?_)
        replace hkm := hkm.tr km
        replace k_x0 := km.at k_x0 (by decide)
        replace k_x1 := km.at k_x1 (by decide)
        replace k_r_6 := km.at k_r_6 (by decide)
        refine lv_bipush (v := (48 : Int32)) C.1 C.2.1 dX7_readChecks_42 (by decide) ?_
        refine lv_isub C.1 C.2.1 dX7_readChecks_44 ?_
        obtain ⟨g_9, hE⟩ := gd_e hE
        obtain ⟨h_10, eh_10, hE⟩ := nm_e2 hE
        refine y_iast C hW hZ k_r_6 g_9 eh_10 dX7_readChecks_45 (fun _ _ hW km hZ => ?_)
        replace hkm := hkm.tr km
        replace k_x0 := km.at k_x0 (by decide)
        replace k_x1 := km.at k_x1 (by decide)
        refine lv_aload_n C.1 C.2.1 dX7_readChecks_46 rfl (lv_at hl 0 rfl) ?_
        refine lv_dup C.1 C.2.1 dX7_readChecks_47 rfl ?_
        refine gf_X7_19 C hW k_x0 dX7_readChecks_48 ?_
        refine lv_iconst (v := (1 : Int32)) C.1 C.2.1 dX7_readChecks_51 (by decide) ?_
        refine lv_iadd C.1 C.2.1 dX7_readChecks_52 ?_
        obtain ⟨h_11, eh_11, hE⟩ := nm_e2 hE
        refine pf_X7_19 C hW hZ k_x0 eh_11 dX7_readChecks_53 (fun _ _ hW km hZ => ?_)
        replace hkm := hkm.tr km
        replace k_x0 := km.at k_x0 (by decide)
        replace k_x1 := km.at k_x1 (by decide)
        obtain ⟨v_12, ev_12, hE⟩ := nm_e2 hE
        refine lv_iinc (v := v_12) (lv' := [(2, .int v_12), (0, .ref x0), (1, .ref x1)]) C.1 C.2.1 dX7_readChecks_56 hl (k := 2) rfl (by rw [ev_12]; rfl) (by decide) rfl (fun ls hl => ?_)
        refine lv_goto (tgt := 2) C.1 C.2.1 dX7_readChecks_59 (by decide) ?_
        exact hk_2 _ _ _ _ _ _ k_x0 k_x1 hkm hW hZ _ (lv_sub hl [1, 2, 0] rfl) hE
      · have hE := br_p hE c_5
        refine lv_iconst (v := (0 : Int32)) C.1 C.2.1 dX7_readChecks_24 (by decide) ?_
        exact x_iret C rfl (by decide) hW hZ hkm hE dX7_readChecks_25
set_option maxRecDepth 20000 in
theorem ct_X7_readChecks (l : Launch) (X : Ec) (F : Nat) {h : Hp} {x0 : Nat} {x1 : Nat} {o : Int32 × Hp} (k_x0 : hK h x0 = 7) (k_x1 : hK h x1 = 3) (hE : sX7_readChecks F h x0 x1 = some o) : MetI l yX7_readChecks cX7_readChecks 3 (some .boolean) 1 21 X [.ref x0, .ref x1] h o := by
  refine x_met (by decide) (Nat.le_of_ble_eq_true rfl) ?_
  intro p e s m below meth c ls C hl hW hZ
  have hl : lv_has ls 3 [(0, .ref x0), (1, .ref x1)] := hl
  have hkm : Km h h := Km.rf h
  refine lv_iconst (v := (0 : Int32)) C.1 C.2.1 dX7_readChecks_0 (by decide) ?_
  refine lv_istore_n (lv' := [(2, .int (0 : Int32)), (0, .ref x0), (1, .ref x1)]) C.1 C.2.1 dX7_readChecks_1 rfl hl (by decide) rfl (fun ls hl => ?_)
  exact bX7_readChecks_2 C F k_x0 k_x1 hkm hW hZ _ (lv_sub hl [1, 2, 0] rfl) hE
set_option maxRecDepth 100000 in
theorem m_305 : Cond.fieldLink RX7 109 (TX3 6).1 (TX3 6).2.1 (TX3 6).2.2.1 ∈ W0 := w0_in (List.mem_append_right _ (List.mem_of_getElem? (i := 305) rfl)) rfl
section
variable {p : Program} {l : Launch} {e : Env} {R : Room} {s : State} {m : MethodId} {args : Array Value} {below : List Frame} {meth : Method} {c : Code} {H : Heap} {locs : List Loc} {cells slots : Nat} {Q : State → Prop}
variable {cc : ByteArray} {pc : Nat} {ls : Array Slot} {rest : List Value} {X : Ec} {h h1 : Hp} {nL : Nat} {rt : Option FieldType} {mn : String}
theorem gf_X7_109 {a : Nat} (C : Cx X p s m args meth c RX7 cc nL rt mn) (hW : Wx X h H) (ha : hK h a = 3) (hdg : decode cc pc = .ok (.getfield 109, 3)) (kk : W p l e R s m args below meth c H locs cells slots Q (F0 m (pc + 3) ls (.int (hI h a 6) :: rest))) : W p l e R s m args below meth c H locs cells slots Q (F0 m pc ls (.ref a :: rest)) :=
  y_geti C hW ha i_X3 (by decide) rfl (by decide) m_305 rfl hdg kk
theorem pf_X7_109 {a : Nat} {v : Int32} (C : Cx X p s m args meth c RX7 cc nL rt mn) (hW : Wx X h H) (hZ : va_S (aA (eB X)) s.heap H locs) (ha : hK h a = 3) (eh : h1 = wI h a 6 v) (hdg : decode cc pc = .ok (.putfield 109, 3)) (kk : ∀ (H1 : Heap) (locs1 : List Loc), Wx X h1 H1 → Km h h1 → va_S (aA (eB X)) s.heap H1 locs1 → W p l e R s m args below meth c H1 locs1 cells slots Q (F0 m (pc + 3) ls rest)) : W p l e R s m args below meth c H locs cells slots Q (F0 m pc ls (.int v :: .ref a :: rest)) :=
  y_puti (ty := .int) C hW hZ ha i_X3 tyX3 tyX3_ok nmX3 (by decide) rfl rfl (by decide) m_305 rfl (by decide +kernel) rfl rfl rfl eh hdg kk
end
theorem dX7_readClock_0 : decode cX7_readClock 0 = .ok (.aload_n 0, 1) := by decide +kernel
theorem dX7_readClock_1 : decode cX7_readClock 1 = .ok (.getfield 19, 3) := by decide +kernel
theorem dX7_readClock_4 : decode cX7_readClock 4 = .ok (.istore_n 2, 1) := by decide +kernel
theorem dX7_readClock_5 : decode cX7_readClock 5 = .ok (.iconst 0, 1) := by decide +kernel
theorem dX7_readClock_6 : decode cX7_readClock 6 = .ok (.istore_n 3, 1) := by decide +kernel
theorem dX7_readClock_7 : decode cX7_readClock 7 = .ok (.iload_n 3, 1) := by decide +kernel
theorem dX7_readClock_8 : decode cX7_readClock 8 = .ok (.iconst 3, 1) := by decide +kernel
theorem dX7_readClock_9 : decode cX7_readClock 9 = .ok (.if_icmp .ge 62, 3) := by decide +kernel
theorem dX7_readClock_12 : decode cX7_readClock 12 = .ok (.aload_n 0, 1) := by decide +kernel
theorem dX7_readClock_13 : decode cX7_readClock 13 = .ok (.getfield 15, 3) := by decide +kernel
theorem dX7_readClock_16 : decode cX7_readClock 16 = .ok (.aload_n 0, 1) := by decide +kernel
theorem dX7_readClock_17 : decode cX7_readClock 17 = .ok (.getfield 19, 3) := by decide +kernel
theorem dX7_readClock_20 : decode cX7_readClock 20 = .ok (.invokevirtual 54, 3) := by decide +kernel
theorem dX7_readClock_23 : decode cX7_readClock 23 = .ok (.invokestatic 100, 3) := by decide +kernel
theorem dX7_readClock_26 : decode cX7_readClock 26 = .ok (.ifCond .eq 45, 3) := by decide +kernel
theorem dX7_readClock_29 : decode cX7_readClock 29 = .ok (.aload_n 1, 1) := by decide +kernel
theorem dX7_readClock_30 : decode cX7_readClock 30 = .ok (.bipush 10, 2) := by decide +kernel
theorem dX7_readClock_32 : decode cX7_readClock 32 = .ok (.aload_n 1, 1) := by decide +kernel
theorem dX7_readClock_33 : decode cX7_readClock 33 = .ok (.getfield 109, 3) := by decide +kernel
theorem dX7_readClock_36 : decode cX7_readClock 36 = .ok (.imul, 1) := by decide +kernel
theorem dX7_readClock_37 : decode cX7_readClock 37 = .ok (.aload_n 0, 1) := by decide +kernel
theorem dX7_readClock_38 : decode cX7_readClock 38 = .ok (.getfield 15, 3) := by decide +kernel
theorem dX7_readClock_41 : decode cX7_readClock 41 = .ok (.aload_n 0, 1) := by decide +kernel
theorem dX7_readClock_42 : decode cX7_readClock 42 = .ok (.getfield 19, 3) := by decide +kernel
theorem dX7_readClock_45 : decode cX7_readClock 45 = .ok (.invokevirtual 54, 3) := by decide +kernel
theorem dX7_readClock_48 : decode cX7_readClock 48 = .ok (.iadd, 1) := by decide +kernel
theorem dX7_readClock_49 : decode cX7_readClock 49 = .ok (.bipush 48, 2) := by decide +kernel
theorem dX7_readClock_51 : decode cX7_readClock 51 = .ok (.isub, 1) := by decide +kernel
theorem dX7_readClock_52 : decode cX7_readClock 52 = .ok (.putfield 109, 3) := by decide +kernel
theorem dX7_readClock_55 : decode cX7_readClock 55 = .ok (.aload_n 0, 1) := by decide +kernel
theorem dX7_readClock_56 : decode cX7_readClock 56 = .ok (.dup, 1) := by decide +kernel
theorem dX7_readClock_57 : decode cX7_readClock 57 = .ok (.getfield 19, 3) := by decide +kernel
theorem dX7_readClock_60 : decode cX7_readClock 60 = .ok (.iconst 1, 1) := by decide +kernel
theorem dX7_readClock_61 : decode cX7_readClock 61 = .ok (.iadd, 1) := by decide +kernel
theorem dX7_readClock_62 : decode cX7_readClock 62 = .ok (.putfield 19, 3) := by decide +kernel
theorem dX7_readClock_65 : decode cX7_readClock 65 = .ok (.iinc 3 1, 3) := by decide +kernel
theorem dX7_readClock_68 : decode cX7_readClock 68 = .ok (.goto (-61), 3) := by decide +kernel
theorem dX7_readClock_71 : decode cX7_readClock 71 = .ok (.aload_n 1, 1) := by decide +kernel
theorem dX7_readClock_72 : decode cX7_readClock 72 = .ok (.getfield 109, 3) := by decide +kernel
theorem dX7_readClock_75 : decode cX7_readClock 75 = .ok (.sipush 200, 3) := by decide +kernel
theorem dX7_readClock_78 : decode cX7_readClock 78 = .ok (.if_icmp .le 8, 3) := by decide +kernel
theorem dX7_readClock_81 : decode cX7_readClock 81 = .ok (.aload_n 0, 1) := by decide +kernel
theorem dX7_readClock_82 : decode cX7_readClock 82 = .ok (.iload_n 2, 1) := by decide +kernel
theorem dX7_readClock_83 : decode cX7_readClock 83 = .ok (.putfield 19, 3) := by decide +kernel
theorem dX7_readClock_86 : decode cX7_readClock 86 = .ok (.aload_n 0, 1) := by decide +kernel
theorem dX7_readClock_87 : decode cX7_readClock 87 = .ok (.getfield 19, 3) := by decide +kernel
theorem dX7_readClock_90 : decode cX7_readClock 90 = .ok (.iload_n 2, 1) := by decide +kernel
theorem dX7_readClock_91 : decode cX7_readClock 91 = .ok (.if_icmp .le 7, 3) := by decide +kernel
theorem dX7_readClock_94 : decode cX7_readClock 94 = .ok (.iconst 1, 1) := by decide +kernel
theorem dX7_readClock_95 : decode cX7_readClock 95 = .ok (.goto 4, 3) := by decide +kernel
theorem dX7_readClock_98 : decode cX7_readClock 98 = .ok (.iconst 0, 1) := by decide +kernel
theorem dX7_readClock_99 : decode cX7_readClock 99 = .ok (.ireturn, 1) := by decide +kernel
set_option maxRecDepth 20000 in
theorem moX7_readClock_99 {o : Int32 × Hp} {F : Nat} {h : Hp} {t0 : Int32} (hE : sX7_readClock_99 F h  t0 = some o) : Le h o.2 := by
  obtain ⟨g_1, hE⟩ := gd_e hE
  exact le_some2 hE
set_option maxRecDepth 20000 in
theorem moX7_readClock_86 {o : Int32 × Hp} {F : Nat} {h : Hp} {x0 : Nat} {x2 : Int32} (hE : sX7_readClock_86 F h x0 x2 = some o) : Le h o.2 := by
  rcases br_e hE with ⟨_, hE⟩ | ⟨_, hE⟩
  · exact moX7_readClock_99 hE
  · exact moX7_readClock_99 hE
set_option maxRecDepth 20000 in
theorem moX7_readClock_71 {o : Int32 × Hp} {F : Nat} {h : Hp} {x0 : Nat} {x1 : Nat} {x2 : Int32} (hE : sX7_readClock_71 F h x0 x1 x2 = some o) : Le h o.2 := by
  rcases br_e hE with ⟨_, hE⟩ | ⟨_, hE⟩
  · exact moX7_readClock_86 hE
  · obtain ⟨h_2, eh_2, hE⟩ := nm_e2 hE
    refine (le_I eh_2).tr ?_
    exact moX7_readClock_86 hE
set_option maxRecDepth 20000 in
theorem moX7_readClock_7 {o : Int32 × Hp} {F : Nat} : ∀ (f : Nat) {h : Hp} {x0 : Nat} {x1 : Nat} {x2 : Int32} {x3 : Int32}, sX7_readClock_7 F f h x0 x1 x2 x3 = some o → Le h o.2 := by
  intro f
  induction f with
  | zero =>
    intro h x0 x1 x2 x3 hE
    rw [sX7_readClock_7] at hE
    cases hE
  | succ f ih =>
    intro h x0 x1 x2 x3 hE
    rw [sX7_readClock_7] at hE
    have mk_7 : ∀ (h : Hp) (x0 : Nat) (x1 : Nat) (x2 : Int32) (x3 : Int32), sX7_readClock_7 F f h x0 x1 x2 x3 = some o → Le h o.2 := fun h x0 x1 x2 x3 hE => ih hE
    rcases br_e hE with ⟨_, hE⟩ | ⟨_, hE⟩
    · exact moX7_readClock_71 hE
    · obtain ⟨r_2, er_2, hE⟩ := cl_e hE
      obtain ⟨o_3, eo_3, hE⟩ := cl_e hE
      refine (moX9_byteAt eo_3).tr ?_
      obtain ⟨o_4, eo_4, hE⟩ := cl_e hE
      refine (moX2_isDigit eo_4).tr ?_
      rcases br_e hE with ⟨_, hE⟩ | ⟨_, hE⟩
      · exact moX7_readClock_71 hE
      · obtain ⟨r_6, er_6, hE⟩ := cl_e hE
        obtain ⟨o_7, eo_7, hE⟩ := cl_e hE
        refine (moX9_byteAt eo_7).tr ?_
        obtain ⟨h_8, eh_8, hE⟩ := nm_e2 hE
        refine (le_I eh_8).tr ?_
        obtain ⟨h_9, eh_9, hE⟩ := nm_e2 hE
        refine (le_I eh_9).tr ?_
        obtain ⟨v_10, ev_10, hE⟩ := nm_e2 hE
        exact mk_7 _ _ _ _ _ hE
set_option maxRecDepth 20000 in
theorem moX7_readClock {o : Int32 × Hp} {F : Nat} {h : Hp} {x0 : Nat} {x1 : Nat} (hE : sX7_readClock F h x0 x1 = some o) : Le h o.2 := by
  obtain ⟨v_1, ev_1, hE⟩ := nm_e2 hE
  exact moX7_readClock_7 _ hE
set_option maxRecDepth 20000 in
theorem bX7_readClock_99 {p : Program} {l : Launch} {e : Env} {s : State} {m : MethodId} {args : Array Value} {below : List Frame} {meth : Method} {c : Code} {X : Ec} {h0 : Hp} {o : Int32 × Hp} {F : Nat} (C : Cx X p s m args meth c RX7 cX7_readClock 4 (some .boolean) "readClock") {h : Hp} {t0 : Int32} {H : Heap} {locs : List Loc} (hkm : Km h0 h) (hW : Wx X h H) (hZ : va_S (aA (eB X)) s.heap H locs) (ls : Array Slot) (hl : lv_has ls 4 []) (hE : sX7_readClock_99 F h  t0 = some o) : W p l e (rm 1 21) s m args below meth c H locs 0 0 (MQ below (QI X h0 o.1 o.2) args s 0 0 (aA (eB X))) (F0 m 99 ls [.int t0]) := by
  obtain ⟨g_1, hE⟩ := gd_e hE
  exact x_iret C rfl (narB g_1) hW hZ hkm hE dX7_readClock_99
set_option maxRecDepth 20000 in
theorem bX7_readClock_86 {p : Program} {l : Launch} {e : Env} {s : State} {m : MethodId} {args : Array Value} {below : List Frame} {meth : Method} {c : Code} {X : Ec} {h0 : Hp} {o : Int32 × Hp} {F : Nat} (C : Cx X p s m args meth c RX7 cX7_readClock 4 (some .boolean) "readClock") {h : Hp} {x0 : Nat} {x2 : Int32} {H : Heap} {locs : List Loc} (k_x0 : hK h x0 = 7) (hkm : Km h0 h) (hW : Wx X h H) (hZ : va_S (aA (eB X)) s.heap H locs) (ls : Array Slot) (hl : lv_has ls 4 [(0, .ref x0), (2, .int x2)]) (hE : sX7_readClock_86 F h x0 x2 = some o) : W p l e (rm 1 21) s m args below meth c H locs 0 0 (MQ below (QI X h0 o.1 o.2) args s 0 0 (aA (eB X))) (F0 m 86 ls []) := by
  refine lv_aload_n C.1 C.2.1 dX7_readClock_86 rfl (lv_at hl 0 rfl) ?_
  refine gf_X7_19 C hW k_x0 dX7_readClock_87 ?_
  refine lv_iload_n C.1 C.2.1 dX7_readClock_90 rfl (lv_at hl 1 rfl) ?_
  refine lv_icmp_le (tgt := 98) C.1 C.2.1 dX7_readClock_91 (by decide) (fun c_1 => ?_) (fun c_1 => ?_)
  · have hE := br_p hE c_1
    refine lv_iconst (v := (0 : Int32)) C.1 C.2.1 dX7_readClock_98 (by decide) ?_
    exact bX7_readClock_99 C hkm hW hZ _ (lv_sub hl [] rfl) hE
  · have hE := br_n hE c_1
    refine lv_iconst (v := (1 : Int32)) C.1 C.2.1 dX7_readClock_94 (by decide) ?_
    refine lv_goto (tgt := 99) C.1 C.2.1 dX7_readClock_95 (by decide) ?_
    exact bX7_readClock_99 C hkm hW hZ _ (lv_sub hl [] rfl) hE
set_option maxRecDepth 20000 in
theorem bX7_readClock_71 {p : Program} {l : Launch} {e : Env} {s : State} {m : MethodId} {args : Array Value} {below : List Frame} {meth : Method} {c : Code} {X : Ec} {h0 : Hp} {o : Int32 × Hp} {F : Nat} (C : Cx X p s m args meth c RX7 cX7_readClock 4 (some .boolean) "readClock") {h : Hp} {x0 : Nat} {x1 : Nat} {x2 : Int32} {H : Heap} {locs : List Loc} (k_x0 : hK h x0 = 7) (k_x1 : hK h x1 = 3) (hkm : Km h0 h) (hW : Wx X h H) (hZ : va_S (aA (eB X)) s.heap H locs) (ls : Array Slot) (hl : lv_has ls 4 [(0, .ref x0), (1, .ref x1), (2, .int x2)]) (hE : sX7_readClock_71 F h x0 x1 x2 = some o) : W p l e (rm 1 21) s m args below meth c H locs 0 0 (MQ below (QI X h0 o.1 o.2) args s 0 0 (aA (eB X))) (F0 m 71 ls []) := by
  refine lv_aload_n C.1 C.2.1 dX7_readClock_71 rfl (lv_at hl 1 rfl) ?_
  refine gf_X7_109 C hW k_x1 dX7_readClock_72 ?_
  refine lv_sipush (v := (200 : Int32)) C.1 C.2.1 dX7_readClock_75 (by decide) ?_
  refine lv_icmp_le (tgt := 86) C.1 C.2.1 dX7_readClock_78 (by decide) (fun c_1 => ?_) (fun c_1 => ?_)
  · have hE := br_p hE c_1
    exact bX7_readClock_86 C k_x0 hkm hW hZ _ (lv_sub hl [0, 2] rfl) hE
  · have hE := br_n hE c_1
    refine lv_aload_n C.1 C.2.1 dX7_readClock_81 rfl (lv_at hl 0 rfl) ?_
    refine lv_iload_n C.1 C.2.1 dX7_readClock_82 rfl (lv_at hl 2 rfl) ?_
    obtain ⟨h_2, eh_2, hE⟩ := nm_e2 hE
    refine pf_X7_19 C hW hZ k_x0 eh_2 dX7_readClock_83 (fun _ _ hW km hZ => ?_)
    replace hkm := hkm.tr km
    replace k_x0 := km.at k_x0 (by decide)
    replace k_x1 := km.at k_x1 (by decide)
    exact bX7_readClock_86 C k_x0 hkm hW hZ _ (lv_sub hl [0, 2] rfl) hE
set_option maxRecDepth 20000 in
theorem bX7_readClock_7 {p : Program} {l : Launch} {e : Env} {s : State} {m : MethodId} {args : Array Value} {below : List Frame} {meth : Method} {c : Code} {X : Ec} {h0 : Hp} {o : Int32 × Hp} {F : Nat} (C : Cx X p s m args meth c RX7 cX7_readClock 4 (some .boolean) "readClock") : ∀ (f : Nat) {h : Hp} {x0 : Nat} {x1 : Nat} {x2 : Int32} {x3 : Int32} {H : Heap} {locs : List Loc} (k_x0 : hK h x0 = 7) (k_x1 : hK h x1 = 3), Km h0 h → Wx X h H → va_S (aA (eB X)) s.heap H locs → ∀ (ls : Array Slot), lv_has ls 4 [(0, .ref x0), (1, .ref x1), (2, .int x2), (3, .int x3)] → sX7_readClock_7 F f h x0 x1 x2 x3 = some o → W p l e (rm 1 21) s m args below meth c H locs 0 0 (MQ below (QI X h0 o.1 o.2) args s 0 0 (aA (eB X))) (F0 m 7 ls []) := by
  intro f
  induction f with
  | zero =>
    intro h x0 x1 x2 x3 H locs k_x0 k_x1 hkm hW hZ ls hl hE
    rw [sX7_readClock_7] at hE
    cases hE
  | succ f ih =>
    intro h x0 x1 x2 x3 H locs k_x0 k_x1 hkm hW hZ ls hl hE
    rw [sX7_readClock_7] at hE
    have hk_7 : ∀ (h : Hp) (x0 : Nat) (x1 : Nat) (x2 : Int32) (x3 : Int32) (H : Heap) (locs : List Loc), hK h x0 = 7 → hK h x1 = 3 → Km h0 h → Wx X h H → va_S (aA (eB X)) s.heap H locs → ∀ (ls : Array Slot), lv_has ls 4 [(0, .ref x0), (1, .ref x1), (2, .int x2), (3, .int x3)] → sX7_readClock_7 F f h x0 x1 x2 x3 = some o → W p l e (rm 1 21) s m args below meth c H locs 0 0 (MQ below (QI X h0 o.1 o.2) args s 0 0 (aA (eB X))) (F0 m 7 ls []) := fun h x0 x1 x2 x3 H locs k_x0 k_x1 a b c ls hl hE => ih k_x0 k_x1 a b c ls hl hE
    refine lv_iload_n C.1 C.2.1 dX7_readClock_7 rfl (lv_at hl 3 rfl) ?_
    refine lv_iconst (v := (3 : Int32)) C.1 C.2.1 dX7_readClock_8 (by decide) ?_
    refine lv_icmp_ge (tgt := 71) C.1 C.2.1 dX7_readClock_9 (by decide) (fun c_1 => ?_) (fun c_1 => ?_)
    · have hE := br_p hE c_1
      exact bX7_readClock_71 C k_x0 k_x1 hkm hW hZ _ (lv_sub hl [0, 1, 2] rfl) hE
    · have hE := br_n hE c_1
      refine lv_aload_n C.1 C.2.1 dX7_readClock_12 rfl (lv_at hl 0 rfl) ?_
      obtain ⟨r_2, er_2, hE⟩ := cl_e hE
      refine gf_X7_15 C hW k_x0 er_2 dX7_readClock_13 (fun k_r_2 => ?_)
      refine lv_aload_n C.1 C.2.1 dX7_readClock_16 rfl (lv_at hl 0 rfl) ?_
      refine gf_X7_19 C hW k_x0 dX7_readClock_17 ?_
      obtain ⟨o_3, eo_3, hE⟩ := cl_e hE
      refine x_kI (o := o_3) (z_runV (As := [.int (hI h x0 2)]) (rest := []) C (ct_X9_byteAt l X k_r_2 eo_3) cw_X7_54 hW hZ k_r_2 (by decide) rfl rfl rfl hl.1 (Nat.le_of_ble_eq_true rfl) rfl dX7_readClock_20 ⟨Nat.le_of_ble_eq_true rfl, Nat.le_of_ble_eq_true rfl⟩ ⟨Nat.le_refl _, Nat.le_refl _⟩) hZ (fun _ _ hW km hZ => ?_)
      replace hkm := hkm.tr km
      replace k_x0 := km.at k_x0 (by decide)
      replace k_x1 := km.at k_x1 (by decide)
      obtain ⟨o_4, eo_4, hE⟩ := cl_e hE
      refine x_kI (o := o_4) (x_runSN (As := [.int o_3.1]) (rest := []) C (ct_X2_isDigit l X eo_4) cn_X7_100 hW hZ rfl hl.1 (Nat.le_of_ble_eq_true rfl) rfl dX7_readClock_23 ⟨Nat.le_of_ble_eq_true rfl, Nat.le_of_ble_eq_true rfl⟩ ⟨Nat.le_refl _, Nat.le_refl _⟩) hZ (fun _ _ hW km hZ => ?_)
      replace hkm := hkm.tr km
      replace k_x0 := km.at k_x0 (by decide)
      replace k_x1 := km.at k_x1 (by decide)
      refine lv_if_eq (tgt := 71) C.1 C.2.1 dX7_readClock_26 (by decide) (fun c_5 => ?_) (fun c_5 => ?_)
      · have hE := br_p hE c_5
        exact bX7_readClock_71 C k_x0 k_x1 hkm hW hZ _ (lv_sub hl [0, 1, 2] rfl) hE
      · have hE := br_n hE c_5
        refine lv_aload_n C.1 C.2.1 dX7_readClock_29 rfl (lv_at hl 1 rfl) ?_
        refine lv_bipush (v := (10 : Int32)) C.1 C.2.1 dX7_readClock_30 (by decide) ?_
        refine lv_aload_n C.1 C.2.1 dX7_readClock_32 rfl (lv_at hl 1 rfl) ?_
        refine gf_X7_109 C hW k_x1 dX7_readClock_33 ?_
        refine lv_imul C.1 C.2.1 dX7_readClock_36 ?_
        refine lv_aload_n C.1 C.2.1 dX7_readClock_37 rfl (lv_at hl 0 rfl) ?_
        obtain ⟨r_6, er_6, hE⟩ := cl_e hE
        refine gf_X7_15 C hW k_x0 er_6 dX7_readClock_38 (fun k_r_6 => ?_)
        refine lv_aload_n C.1 C.2.1 dX7_readClock_41 rfl (lv_at hl 0 rfl) ?_
        refine gf_X7_19 C hW k_x0 dX7_readClock_42 ?_
        obtain ⟨o_7, eo_7, hE⟩ := cl_e hE
        refine x_kI (o := o_7) (z_runV (As := [.int (hI o_4.2 x0 2)]) (rest := [.int ((10 : Int32) * (hI o_4.2 x1 6)), .ref x1]) C (ct_X9_byteAt l X k_r_6 eo_7) cw_X7_54 hW hZ k_r_6 (by decide) rfl rfl rfl hl.1 (Nat.le_of_ble_eq_true rfl) rfl dX7_readClock_45 ⟨Nat.le_of_ble_eq_true rfl, Nat.le_of_ble_eq_true rfl⟩ ⟨Nat.le_refl _, Nat.le_refl _⟩) hZ (fun _ _ hW km hZ => ?_)
        replace hkm := hkm.tr km
        replace k_x0 := km.at k_x0 (by decide)
        replace k_x1 := km.at k_x1 (by decide)
        refine lv_iadd C.1 C.2.1 dX7_readClock_48 ?_
        refine lv_bipush (v := (48 : Int32)) C.1 C.2.1 dX7_readClock_49 (by decide) ?_
        refine lv_isub C.1 C.2.1 dX7_readClock_51 ?_
        obtain ⟨h_8, eh_8, hE⟩ := nm_e2 hE
        refine pf_X7_109 C hW hZ k_x1 eh_8 dX7_readClock_52 (fun _ _ hW km hZ => ?_)
        replace hkm := hkm.tr km
        replace k_x0 := km.at k_x0 (by decide)
        replace k_x1 := km.at k_x1 (by decide)
        refine lv_aload_n C.1 C.2.1 dX7_readClock_55 rfl (lv_at hl 0 rfl) ?_
        refine lv_dup C.1 C.2.1 dX7_readClock_56 rfl ?_
        refine gf_X7_19 C hW k_x0 dX7_readClock_57 ?_
        refine lv_iconst (v := (1 : Int32)) C.1 C.2.1 dX7_readClock_60 (by decide) ?_
        refine lv_iadd C.1 C.2.1 dX7_readClock_61 ?_
        obtain ⟨h_9, eh_9, hE⟩ := nm_e2 hE
        refine pf_X7_19 C hW hZ k_x0 eh_9 dX7_readClock_62 (fun _ _ hW km hZ => ?_)
        replace hkm := hkm.tr km
        replace k_x0 := km.at k_x0 (by decide)
        replace k_x1 := km.at k_x1 (by decide)
        obtain ⟨v_10, ev_10, hE⟩ := nm_e2 hE
        refine lv_iinc (v := v_10) (lv' := [(3, .int v_10), (0, .ref x0), (1, .ref x1), (2, .int x2)]) C.1 C.2.1 dX7_readClock_65 hl (k := 3) rfl (by rw [ev_10]; rfl) (by decide) rfl (fun ls hl => ?_)
        refine lv_goto (tgt := 7) C.1 C.2.1 dX7_readClock_68 (by decide) ?_
        exact hk_7 _ _ _ _ _ _ _ k_x0 k_x1 hkm hW hZ _ (lv_sub hl [1, 2, 3, 0] rfl) hE
set_option maxRecDepth 20000 in
theorem ct_X7_readClock (l : Launch) (X : Ec) (F : Nat) {h : Hp} {x0 : Nat} {x1 : Nat} {o : Int32 × Hp} (k_x0 : hK h x0 = 7) (k_x1 : hK h x1 = 3) (hE : sX7_readClock F h x0 x1 = some o) : MetI l yX7_readClock cX7_readClock 4 (some .boolean) 1 21 X [.ref x0, .ref x1] h o := by
  refine x_met (by decide) (Nat.le_of_ble_eq_true rfl) ?_
  intro p e s m below meth c ls C hl hW hZ
  have hl : lv_has ls 4 [(0, .ref x0), (1, .ref x1)] := hl
  have hkm : Km h h := Km.rf h
  refine lv_aload_n C.1 C.2.1 dX7_readClock_0 rfl (lv_at hl 0 rfl) ?_
  refine gf_X7_19 C hW k_x0 dX7_readClock_1 ?_
  obtain ⟨v_1, ev_1, hE⟩ := nm_e2 hE
  refine x_nmI ev_1 ?_
  refine lv_istore_n (lv' := [(2, .int v_1), (0, .ref x0), (1, .ref x1)]) C.1 C.2.1 dX7_readClock_4 rfl hl (by decide) rfl (fun ls hl => ?_)
  refine lv_iconst (v := (0 : Int32)) C.1 C.2.1 dX7_readClock_5 (by decide) ?_
  refine lv_istore_n (lv' := [(3, .int (0 : Int32)), (2, .int v_1), (0, .ref x0), (1, .ref x1)]) C.1 C.2.1 dX7_readClock_6 rfl hl (by decide) rfl (fun ls hl => ?_)
  exact bX7_readClock_7 C F k_x0 k_x1 hkm hW hZ _ (lv_sub hl [2, 3, 1, 0] rfl) hE
set_option maxRecDepth 100000 in
theorem ms_39 : Cond.selects RX7 yX7_readClock yX7_readClock ∈ W0 := w0_in (List.mem_append_left _ (List.mem_of_getElem? (i := 39) rfl)) rfl
set_option maxRecDepth 100000 in
theorem ms_38 : Cond.selects RX7 yX7_readChecks yX7_readChecks ∈ W0 := w0_in (List.mem_append_left _ (List.mem_of_getElem? (i := 38) rfl)) rfl
set_option maxRecDepth 100000 in
theorem ms_37 : Cond.selects RX7 yX7_readHands yX7_readHands ∈ W0 := w0_in (List.mem_append_left _ (List.mem_of_getElem? (i := 37) rfl)) rfl
set_option maxRecDepth 100000 in
theorem ms_36 : Cond.selects RX7 yX7_readPass yX7_readPass ∈ W0 := w0_in (List.mem_append_left _ (List.mem_of_getElem? (i := 36) rfl)) rfl
set_option maxRecDepth 100000 in
theorem ms_34 : Cond.selects RX7 yX7_readRights yX7_readRights ∈ W0 := w0_in (List.mem_append_left _ (List.mem_of_getElem? (i := 34) rfl)) rfl
set_option maxRecDepth 100000 in
theorem ms_33 : Cond.selects RX7 yX7_readSide yX7_readSide ∈ W0 := w0_in (List.mem_append_left _ (List.mem_of_getElem? (i := 33) rfl)) rfl
set_option maxRecDepth 100000 in
theorem ms_31 : Cond.selects RX7 yX7_readRanks yX7_readRanks ∈ W0 := w0_in (List.mem_append_left _ (List.mem_of_getElem? (i := 31) rfl)) rfl
set_option maxRecDepth 100000 in
theorem m_938 : Cond.methodLink RX7 23 yX3_clear ∈ W0 := w0_in (List.mem_append_right _ (List.mem_of_getElem? (i := 938) rfl)) rfl
set_option maxRecDepth 100000 in
theorem m_939 : Cond.instanceMethod yX3_clear ∈ W0 := w0_in (List.mem_append_right _ (List.mem_of_getElem? (i := 939) rfl)) rfl
set_option maxRecDepth 100000 in
theorem m_940 : Cond.selects RX3 yX3_clear yX3_clear ∈ W0 := w0_in (List.mem_append_right _ (List.mem_of_getElem? (i := 940) rfl)) rfl
set_option maxRecDepth 100000 in
theorem m_941 : Cond.code yX3_clear cX3_clear 1 none ∈ W0 := w0_in (List.mem_append_right _ (List.mem_of_getElem? (i := 941) rfl)) rfl
set_option maxRecDepth 100000 in
theorem m_947 : Cond.methodLink RX7 28 yX7_readRanks ∈ W0 := w0_in (List.mem_append_right _ (List.mem_of_getElem? (i := 947) rfl)) rfl
set_option maxRecDepth 100000 in
theorem m_949 : Cond.instanceMethod yX7_readRanks ∈ W0 := w0_in (List.mem_append_right _ (List.mem_of_getElem? (i := 949) rfl)) rfl
set_option maxRecDepth 100000 in
theorem m_950 : Cond.code yX7_readRanks cX7_readRanks 7 (some .boolean) ∈ W0 := w0_in (List.mem_append_right _ (List.mem_of_getElem? (i := 950) rfl)) rfl
set_option maxRecDepth 100000 in
theorem m_966 : Cond.methodLink RX7 36 yX7_readSide ∈ W0 := w0_in (List.mem_append_right _ (List.mem_of_getElem? (i := 966) rfl)) rfl
set_option maxRecDepth 100000 in
theorem m_968 : Cond.instanceMethod yX7_readSide ∈ W0 := w0_in (List.mem_append_right _ (List.mem_of_getElem? (i := 968) rfl)) rfl
set_option maxRecDepth 100000 in
theorem m_969 : Cond.code yX7_readSide cX7_readSide 3 (some .boolean) ∈ W0 := w0_in (List.mem_append_right _ (List.mem_of_getElem? (i := 969) rfl)) rfl
set_option maxRecDepth 100000 in
theorem m_970 : Cond.methodLink RX7 39 yX7_readRights ∈ W0 := w0_in (List.mem_append_right _ (List.mem_of_getElem? (i := 970) rfl)) rfl
set_option maxRecDepth 100000 in
theorem m_972 : Cond.instanceMethod yX7_readRights ∈ W0 := w0_in (List.mem_append_right _ (List.mem_of_getElem? (i := 972) rfl)) rfl
set_option maxRecDepth 100000 in
theorem m_973 : Cond.code yX7_readRights cX7_readRights 6 (some .boolean) ∈ W0 := w0_in (List.mem_append_right _ (List.mem_of_getElem? (i := 973) rfl)) rfl
set_option maxRecDepth 100000 in
theorem m_978 : Cond.methodLink RX7 42 yX7_readPass ∈ W0 := w0_in (List.mem_append_right _ (List.mem_of_getElem? (i := 978) rfl)) rfl
set_option maxRecDepth 100000 in
theorem m_980 : Cond.instanceMethod yX7_readPass ∈ W0 := w0_in (List.mem_append_right _ (List.mem_of_getElem? (i := 980) rfl)) rfl
set_option maxRecDepth 100000 in
theorem m_981 : Cond.code yX7_readPass cX7_readPass 4 (some .boolean) ∈ W0 := w0_in (List.mem_append_right _ (List.mem_of_getElem? (i := 981) rfl)) rfl
set_option maxRecDepth 100000 in
theorem m_991 : Cond.methodLink RX7 45 yX7_readHands ∈ W0 := w0_in (List.mem_append_right _ (List.mem_of_getElem? (i := 991) rfl)) rfl
set_option maxRecDepth 100000 in
theorem m_993 : Cond.instanceMethod yX7_readHands ∈ W0 := w0_in (List.mem_append_right _ (List.mem_of_getElem? (i := 993) rfl)) rfl
set_option maxRecDepth 100000 in
theorem m_994 : Cond.code yX7_readHands cX7_readHands 4 (some .boolean) ∈ W0 := w0_in (List.mem_append_right _ (List.mem_of_getElem? (i := 994) rfl)) rfl
set_option maxRecDepth 100000 in
theorem m_1003 : Cond.methodLink RX7 48 yX7_readChecks ∈ W0 := w0_in (List.mem_append_right _ (List.mem_of_getElem? (i := 1003) rfl)) rfl
set_option maxRecDepth 100000 in
theorem m_1005 : Cond.instanceMethod yX7_readChecks ∈ W0 := w0_in (List.mem_append_right _ (List.mem_of_getElem? (i := 1005) rfl)) rfl
set_option maxRecDepth 100000 in
theorem m_1006 : Cond.code yX7_readChecks cX7_readChecks 3 (some .boolean) ∈ W0 := w0_in (List.mem_append_right _ (List.mem_of_getElem? (i := 1006) rfl)) rfl
set_option maxRecDepth 100000 in
theorem m_1008 : Cond.methodLink RX7 51 yX7_readClock ∈ W0 := w0_in (List.mem_append_right _ (List.mem_of_getElem? (i := 1008) rfl)) rfl
set_option maxRecDepth 100000 in
theorem m_1010 : Cond.instanceMethod yX7_readClock ∈ W0 := w0_in (List.mem_append_right _ (List.mem_of_getElem? (i := 1010) rfl)) rfl
set_option maxRecDepth 100000 in
theorem m_1011 : Cond.code yX7_readClock cX7_readClock 4 (some .boolean) ∈ W0 := w0_in (List.mem_append_right _ (List.mem_of_getElem? (i := 1011) rfl)) rfl
section
variable {p : Program} {l : Launch} {e : Env} {R : Room} {s : State} {m : MethodId} {args : Array Value} {below : List Frame} {meth : Method} {c : Code} {H : Heap} {locs : List Loc} {cells slots : Nat} {Q : State → Prop}
variable {cc : ByteArray} {pc : Nat} {ls : Array Slot} {rest : List Value} {X : Ec} {h h1 : Hp} {nL : Nat} {rt : Option FieldType} {mn : String}
theorem pf_X7_15 {a r : Nat} (C : Cx X p s m args meth c RX7 cc nL rt mn) (hW : Wx X h H) (hZ : va_S (aA (eB X)) s.heap H locs) (ha : hK h a = 7) (hr : hK h r = 9) (eh : h1 = wR h a 1 (some r)) (hdg : decode cc pc = .ok (.putfield 15, 3)) (kk : ∀ (H1 : Heap) (locs1 : List Loc), Wx X h1 H1 → Km h h1 → va_S (aA (eB X)) s.heap H1 locs1 → W p l e R s m args below meth c H1 locs1 cells slots Q (F0 m (pc + 3) ls rest)) : W p l e R s m args below meth c H locs cells slots Q (F0 m pc ls (.ref r :: .ref a :: rest)) :=
  y_putr (ty := .object "GameRules$Text") C hW hZ ha i_X7 tyX7 tyX7_ok nmX7 (by decide) rfl rfl (by decide) m_383 rfl (by decide +kernel) rfl rfl rfl hr rfl (by decide) eh hdg kk
end
theorem cw_X7_23 : cwd RX7 23 yX3_clear cX3_clear 1 none false 0 := ⟨m_941, m_938, m_8, ⟨m_939, m_940⟩, by decide, by decide, by decide +kernel⟩
theorem cw_X7_28 : cwd RX7 28 yX7_readRanks cX7_readRanks 7 (some .boolean) false 1 := ⟨m_950, m_947, m_10, ⟨m_949, ms_31⟩, by decide, by decide, by decide +kernel⟩
theorem cw_X7_36 : cwd RX7 36 yX7_readSide cX7_readSide 3 (some .boolean) false 1 := ⟨m_969, m_966, m_10, ⟨m_968, ms_33⟩, by decide, by decide, by decide +kernel⟩
theorem cw_X7_39 : cwd RX7 39 yX7_readRights cX7_readRights 6 (some .boolean) false 1 := ⟨m_973, m_970, m_10, ⟨m_972, ms_34⟩, by decide, by decide, by decide +kernel⟩
theorem cw_X7_42 : cwd RX7 42 yX7_readPass cX7_readPass 4 (some .boolean) false 1 := ⟨m_981, m_978, m_10, ⟨m_980, ms_36⟩, by decide, by decide, by decide +kernel⟩
theorem cw_X7_45 : cwd RX7 45 yX7_readHands cX7_readHands 4 (some .boolean) false 1 := ⟨m_994, m_991, m_10, ⟨m_993, ms_37⟩, by decide, by decide, by decide +kernel⟩
theorem cw_X7_48 : cwd RX7 48 yX7_readChecks cX7_readChecks 3 (some .boolean) false 1 := ⟨m_1006, m_1003, m_10, ⟨m_1005, ms_38⟩, by decide, by decide, by decide +kernel⟩
theorem cw_X7_51 : cwd RX7 51 yX7_readClock cX7_readClock 4 (some .boolean) false 1 := ⟨m_1011, m_1008, m_10, ⟨m_1010, ms_39⟩, by decide, by decide, by decide +kernel⟩
theorem dX7_read_0 : decode cX7_read 0 = .ok (.aload_n 0, 1) := by decide +kernel
theorem dX7_read_1 : decode cX7_read 1 = .ok (.aload_n 1, 1) := by decide +kernel
theorem dX7_read_2 : decode cX7_read 2 = .ok (.putfield 15, 3) := by decide +kernel
theorem dX7_read_5 : decode cX7_read 5 = .ok (.aload_n 0, 1) := by decide +kernel
theorem dX7_read_6 : decode cX7_read 6 = .ok (.iconst 0, 1) := by decide +kernel
theorem dX7_read_7 : decode cX7_read 7 = .ok (.putfield 19, 3) := by decide +kernel
theorem dX7_read_10 : decode cX7_read 10 = .ok (.aload_n 2, 1) := by decide +kernel
theorem dX7_read_11 : decode cX7_read 11 = .ok (.invokevirtual 23, 3) := by decide +kernel
theorem dX7_read_14 : decode cX7_read 14 = .ok (.aload_n 0, 1) := by decide +kernel
theorem dX7_read_15 : decode cX7_read 15 = .ok (.aload_n 2, 1) := by decide +kernel
theorem dX7_read_16 : decode cX7_read 16 = .ok (.invokevirtual 28, 3) := by decide +kernel
theorem dX7_read_19 : decode cX7_read 19 = .ok (.ifCond .eq 124, 3) := by decide +kernel
theorem dX7_read_22 : decode cX7_read 22 = .ok (.aload_n 0, 1) := by decide +kernel
theorem dX7_read_23 : decode cX7_read 23 = .ok (.bipush 32, 2) := by decide +kernel
theorem dX7_read_25 : decode cX7_read 25 = .ok (.invokevirtual 32, 3) := by decide +kernel
theorem dX7_read_28 : decode cX7_read 28 = .ok (.ifCond .eq 115, 3) := by decide +kernel
theorem dX7_read_31 : decode cX7_read 31 = .ok (.aload_n 0, 1) := by decide +kernel
theorem dX7_read_32 : decode cX7_read 32 = .ok (.aload_n 2, 1) := by decide +kernel
theorem dX7_read_33 : decode cX7_read 33 = .ok (.invokevirtual 36, 3) := by decide +kernel
theorem dX7_read_36 : decode cX7_read 36 = .ok (.ifCond .eq 107, 3) := by decide +kernel
theorem dX7_read_39 : decode cX7_read 39 = .ok (.aload_n 0, 1) := by decide +kernel
theorem dX7_read_40 : decode cX7_read 40 = .ok (.bipush 32, 2) := by decide +kernel
theorem dX7_read_42 : decode cX7_read 42 = .ok (.invokevirtual 32, 3) := by decide +kernel
theorem dX7_read_45 : decode cX7_read 45 = .ok (.ifCond .eq 98, 3) := by decide +kernel
theorem dX7_read_48 : decode cX7_read 48 = .ok (.aload_n 0, 1) := by decide +kernel
theorem dX7_read_49 : decode cX7_read 49 = .ok (.aload_n 2, 1) := by decide +kernel
theorem dX7_read_50 : decode cX7_read 50 = .ok (.invokevirtual 39, 3) := by decide +kernel
theorem dX7_read_53 : decode cX7_read 53 = .ok (.ifCond .eq 90, 3) := by decide +kernel
theorem dX7_read_56 : decode cX7_read 56 = .ok (.aload_n 0, 1) := by decide +kernel
theorem dX7_read_57 : decode cX7_read 57 = .ok (.bipush 32, 2) := by decide +kernel
theorem dX7_read_59 : decode cX7_read 59 = .ok (.invokevirtual 32, 3) := by decide +kernel
theorem dX7_read_62 : decode cX7_read 62 = .ok (.ifCond .eq 81, 3) := by decide +kernel
theorem dX7_read_65 : decode cX7_read 65 = .ok (.aload_n 0, 1) := by decide +kernel
theorem dX7_read_66 : decode cX7_read 66 = .ok (.aload_n 2, 1) := by decide +kernel
theorem dX7_read_67 : decode cX7_read 67 = .ok (.invokevirtual 42, 3) := by decide +kernel
theorem dX7_read_70 : decode cX7_read 70 = .ok (.ifCond .eq 73, 3) := by decide +kernel
theorem dX7_read_73 : decode cX7_read 73 = .ok (.aload_n 0, 1) := by decide +kernel
theorem dX7_read_74 : decode cX7_read 74 = .ok (.bipush 32, 2) := by decide +kernel
theorem dX7_read_76 : decode cX7_read 76 = .ok (.invokevirtual 32, 3) := by decide +kernel
theorem dX7_read_79 : decode cX7_read 79 = .ok (.ifCond .eq 64, 3) := by decide +kernel
theorem dX7_read_82 : decode cX7_read 82 = .ok (.aload_n 0, 1) := by decide +kernel
theorem dX7_read_83 : decode cX7_read 83 = .ok (.aload_n 2, 1) := by decide +kernel
theorem dX7_read_84 : decode cX7_read 84 = .ok (.invokevirtual 45, 3) := by decide +kernel
theorem dX7_read_87 : decode cX7_read 87 = .ok (.ifCond .eq 56, 3) := by decide +kernel
theorem dX7_read_90 : decode cX7_read 90 = .ok (.aload_n 0, 1) := by decide +kernel
theorem dX7_read_91 : decode cX7_read 91 = .ok (.bipush 32, 2) := by decide +kernel
theorem dX7_read_93 : decode cX7_read 93 = .ok (.invokevirtual 32, 3) := by decide +kernel
theorem dX7_read_96 : decode cX7_read 96 = .ok (.ifCond .eq 47, 3) := by decide +kernel
theorem dX7_read_99 : decode cX7_read 99 = .ok (.aload_n 0, 1) := by decide +kernel
theorem dX7_read_100 : decode cX7_read 100 = .ok (.aload_n 2, 1) := by decide +kernel
theorem dX7_read_101 : decode cX7_read 101 = .ok (.invokevirtual 48, 3) := by decide +kernel
theorem dX7_read_104 : decode cX7_read 104 = .ok (.ifCond .eq 39, 3) := by decide +kernel
theorem dX7_read_107 : decode cX7_read 107 = .ok (.aload_n 0, 1) := by decide +kernel
theorem dX7_read_108 : decode cX7_read 108 = .ok (.bipush 32, 2) := by decide +kernel
theorem dX7_read_110 : decode cX7_read 110 = .ok (.invokevirtual 32, 3) := by decide +kernel
theorem dX7_read_113 : decode cX7_read 113 = .ok (.ifCond .eq 30, 3) := by decide +kernel
theorem dX7_read_116 : decode cX7_read 116 = .ok (.aload_n 0, 1) := by decide +kernel
theorem dX7_read_117 : decode cX7_read 117 = .ok (.aload_n 2, 1) := by decide +kernel
theorem dX7_read_118 : decode cX7_read 118 = .ok (.invokevirtual 51, 3) := by decide +kernel
theorem dX7_read_121 : decode cX7_read 121 = .ok (.ifCond .eq 22, 3) := by decide +kernel
theorem dX7_read_124 : decode cX7_read 124 = .ok (.aload_n 0, 1) := by decide +kernel
theorem dX7_read_125 : decode cX7_read 125 = .ok (.getfield 15, 3) := by decide +kernel
theorem dX7_read_128 : decode cX7_read 128 = .ok (.aload_n 0, 1) := by decide +kernel
theorem dX7_read_129 : decode cX7_read 129 = .ok (.getfield 19, 3) := by decide +kernel
theorem dX7_read_132 : decode cX7_read 132 = .ok (.invokevirtual 54, 3) := by decide +kernel
theorem dX7_read_135 : decode cX7_read 135 = .ok (.iconst (-1), 1) := by decide +kernel
theorem dX7_read_136 : decode cX7_read 136 = .ok (.if_icmp .ne 7, 3) := by decide +kernel
theorem dX7_read_139 : decode cX7_read 139 = .ok (.iconst 1, 1) := by decide +kernel
theorem dX7_read_140 : decode cX7_read 140 = .ok (.goto 4, 3) := by decide +kernel
theorem dX7_read_143 : decode cX7_read 143 = .ok (.iconst 0, 1) := by decide +kernel
theorem dX7_read_144 : decode cX7_read 144 = .ok (.istore_n 3, 1) := by decide +kernel
theorem dX7_read_145 : decode cX7_read 145 = .ok (.iload_n 3, 1) := by decide +kernel
theorem dX7_read_146 : decode cX7_read 146 = .ok (.ifCond .eq 7, 3) := by decide +kernel
theorem dX7_read_149 : decode cX7_read 149 = .ok (.iconst (-1), 1) := by decide +kernel
theorem dX7_read_150 : decode cX7_read 150 = .ok (.goto 7, 3) := by decide +kernel
theorem dX7_read_153 : decode cX7_read 153 = .ok (.aload_n 0, 1) := by decide +kernel
theorem dX7_read_154 : decode cX7_read 154 = .ok (.getfield 19, 3) := by decide +kernel
theorem dX7_read_157 : decode cX7_read 157 = .ok (.ireturn, 1) := by decide +kernel
set_option maxRecDepth 20000 in
theorem moX7_read_157 {o : Int32 × Hp} {F : Nat} {h : Hp} {t0 : Int32} (hE : sX7_read_157 F h  t0 = some o) : Le h o.2 := by
  exact le_some2 hE
set_option maxRecDepth 20000 in
theorem moX7_read_144 {o : Int32 × Hp} {F : Nat} {h : Hp} {x0 : Nat} {t0 : Int32} (hE : sX7_read_144 F h x0 t0 = some o) : Le h o.2 := by
  rcases br_e hE with ⟨_, hE⟩ | ⟨_, hE⟩
  · exact moX7_read_157 hE
  · exact moX7_read_157 hE
set_option maxRecDepth 20000 in
theorem moX7_read_143 {o : Int32 × Hp} {F : Nat} {h : Hp} {x0 : Nat} (hE : sX7_read_143 F h x0 = some o) : Le h o.2 := by
  exact moX7_read_144 hE
set_option maxRecDepth 20000 in
theorem moX7_read {o : Int32 × Hp} {F : Nat} {h : Hp} {x0 : Nat} {x1 : Nat} {x2 : Nat} (hE : sX7_read F h x0 x1 x2 = some o) : Le h o.2 := by
  obtain ⟨h_1, eh_1, hE⟩ := nm_e2 hE
  refine (le_R eh_1).tr ?_
  obtain ⟨h_2, eh_2, hE⟩ := nm_e2 hE
  refine (le_I eh_2).tr ?_
  obtain ⟨o_3, eo_3, hE⟩ := cl_e hE
  refine (moX3_clear eo_3).tr ?_
  obtain ⟨o_4, eo_4, hE⟩ := cl_e hE
  refine (moX7_readRanks eo_4).tr ?_
  rcases br_e hE with ⟨_, hE⟩ | ⟨_, hE⟩
  · exact moX7_read_143 hE
  · obtain ⟨o_6, eo_6, hE⟩ := cl_e hE
    refine (moX7_takeByte eo_6).tr ?_
    rcases br_e hE with ⟨_, hE⟩ | ⟨_, hE⟩
    · exact moX7_read_143 hE
    · obtain ⟨o_8, eo_8, hE⟩ := cl_e hE
      refine (moX7_readSide eo_8).tr ?_
      rcases br_e hE with ⟨_, hE⟩ | ⟨_, hE⟩
      · exact moX7_read_143 hE
      · obtain ⟨o_10, eo_10, hE⟩ := cl_e hE
        refine (moX7_takeByte eo_10).tr ?_
        rcases br_e hE with ⟨_, hE⟩ | ⟨_, hE⟩
        · exact moX7_read_143 hE
        · obtain ⟨o_12, eo_12, hE⟩ := cl_e hE
          refine (moX7_readRights eo_12).tr ?_
          rcases br_e hE with ⟨_, hE⟩ | ⟨_, hE⟩
          · exact moX7_read_143 hE
          · obtain ⟨o_14, eo_14, hE⟩ := cl_e hE
            refine (moX7_takeByte eo_14).tr ?_
            rcases br_e hE with ⟨_, hE⟩ | ⟨_, hE⟩
            · exact moX7_read_143 hE
            · obtain ⟨o_16, eo_16, hE⟩ := cl_e hE
              refine (moX7_readPass eo_16).tr ?_
              rcases br_e hE with ⟨_, hE⟩ | ⟨_, hE⟩
              · exact moX7_read_143 hE
              · obtain ⟨o_18, eo_18, hE⟩ := cl_e hE
                refine (moX7_takeByte eo_18).tr ?_
                rcases br_e hE with ⟨_, hE⟩ | ⟨_, hE⟩
                · exact moX7_read_143 hE
                · obtain ⟨o_20, eo_20, hE⟩ := cl_e hE
                  refine (moX7_readHands eo_20).tr ?_
                  rcases br_e hE with ⟨_, hE⟩ | ⟨_, hE⟩
                  · exact moX7_read_143 hE
                  · obtain ⟨o_22, eo_22, hE⟩ := cl_e hE
                    refine (moX7_takeByte eo_22).tr ?_
                    rcases br_e hE with ⟨_, hE⟩ | ⟨_, hE⟩
                    · exact moX7_read_143 hE
                    · obtain ⟨o_24, eo_24, hE⟩ := cl_e hE
                      refine (moX7_readChecks eo_24).tr ?_
                      rcases br_e hE with ⟨_, hE⟩ | ⟨_, hE⟩
                      · exact moX7_read_143 hE
                      · obtain ⟨o_26, eo_26, hE⟩ := cl_e hE
                        refine (moX7_takeByte eo_26).tr ?_
                        rcases br_e hE with ⟨_, hE⟩ | ⟨_, hE⟩
                        · exact moX7_read_143 hE
                        · obtain ⟨o_28, eo_28, hE⟩ := cl_e hE
                          refine (moX7_readClock eo_28).tr ?_
                          rcases br_e hE with ⟨_, hE⟩ | ⟨_, hE⟩
                          · exact moX7_read_143 hE
                          · obtain ⟨r_30, er_30, hE⟩ := cl_e hE
                            obtain ⟨o_31, eo_31, hE⟩ := cl_e hE
                            refine (moX9_byteAt eo_31).tr ?_
                            rcases br_e hE with ⟨_, hE⟩ | ⟨_, hE⟩
                            · exact moX7_read_144 hE
                            · exact moX7_read_143 hE
set_option maxRecDepth 20000 in
theorem bX7_read_157 {p : Program} {l : Launch} {e : Env} {s : State} {m : MethodId} {args : Array Value} {below : List Frame} {meth : Method} {c : Code} {X : Ec} {h0 : Hp} {o : Int32 × Hp} {F : Nat} (C : Cx X p s m args meth c RX7 cX7_read 4 (some .int) "read") {h : Hp} {t0 : Int32} {H : Heap} {locs : List Loc} (hkm : Km h0 h) (hW : Wx X h H) (hZ : va_S (aA (eB X)) s.heap H locs) (ls : Array Slot) (hl : lv_has ls 4 []) (hE : sX7_read_157 F h  t0 = some o) : W p l e (rm 3 71) s m args below meth c H locs 0 0 (MQ below (QI X h0 o.1 o.2) args s 0 0 (aA (eB X))) (F0 m 157 ls [.int t0]) := by
  exact x_iret C rfl rfl hW hZ hkm hE dX7_read_157
set_option maxRecDepth 20000 in
theorem bX7_read_144 {p : Program} {l : Launch} {e : Env} {s : State} {m : MethodId} {args : Array Value} {below : List Frame} {meth : Method} {c : Code} {X : Ec} {h0 : Hp} {o : Int32 × Hp} {F : Nat} (C : Cx X p s m args meth c RX7 cX7_read 4 (some .int) "read") {h : Hp} {x0 : Nat} {t0 : Int32} {H : Heap} {locs : List Loc} (k_x0 : hK h x0 = 7) (hkm : Km h0 h) (hW : Wx X h H) (hZ : va_S (aA (eB X)) s.heap H locs) (ls : Array Slot) (hl : lv_has ls 4 [(0, .ref x0)]) (hE : sX7_read_144 F h x0 t0 = some o) : W p l e (rm 3 71) s m args below meth c H locs 0 0 (MQ below (QI X h0 o.1 o.2) args s 0 0 (aA (eB X))) (F0 m 144 ls [.int t0]) := by
  refine lv_istore_n (lv' := [(3, .int t0), (0, .ref x0)]) C.1 C.2.1 dX7_read_144 rfl hl (by decide) rfl (fun ls hl => ?_)
  refine lv_iload_n C.1 C.2.1 dX7_read_145 rfl (lv_at hl 0 rfl) ?_
  refine lv_if_eq (tgt := 153) C.1 C.2.1 dX7_read_146 (by decide) (fun c_1 => ?_) (fun c_1 => ?_)
  · have hE := br_p hE c_1
    refine lv_aload_n C.1 C.2.1 dX7_read_153 rfl (lv_at hl 1 rfl) ?_
    refine gf_X7_19 C hW k_x0 dX7_read_154 ?_
    exact bX7_read_157 C hkm hW hZ _ (lv_sub hl [] rfl) hE
  · have hE := br_n hE c_1
    refine lv_iconst (v := (-1 : Int32)) C.1 C.2.1 dX7_read_149 (by decide) ?_
    refine lv_goto (tgt := 157) C.1 C.2.1 dX7_read_150 (by decide) ?_
    exact bX7_read_157 C hkm hW hZ _ (lv_sub hl [] rfl) hE
set_option maxRecDepth 20000 in
theorem bX7_read_143 {p : Program} {l : Launch} {e : Env} {s : State} {m : MethodId} {args : Array Value} {below : List Frame} {meth : Method} {c : Code} {X : Ec} {h0 : Hp} {o : Int32 × Hp} {F : Nat} (C : Cx X p s m args meth c RX7 cX7_read 4 (some .int) "read") {h : Hp} {x0 : Nat} {H : Heap} {locs : List Loc} (k_x0 : hK h x0 = 7) (hkm : Km h0 h) (hW : Wx X h H) (hZ : va_S (aA (eB X)) s.heap H locs) (ls : Array Slot) (hl : lv_has ls 4 [(0, .ref x0)]) (hE : sX7_read_143 F h x0 = some o) : W p l e (rm 3 71) s m args below meth c H locs 0 0 (MQ below (QI X h0 o.1 o.2) args s 0 0 (aA (eB X))) (F0 m 143 ls []) := by
  refine lv_iconst (v := (0 : Int32)) C.1 C.2.1 dX7_read_143 (by decide) ?_
  exact bX7_read_144 C k_x0 hkm hW hZ _ (lv_sub hl [0] rfl) hE
set_option maxRecDepth 20000 in
theorem ct_X7_read (l : Launch) (X : Ec) (F : Nat) {h : Hp} {x0 : Nat} {x1 : Nat} {x2 : Nat} {o : Int32 × Hp} (k_x0 : hK h x0 = 7) (k_x1 : hK h x1 = 9) (k_x2 : hK h x2 = 3) (hE : sX7_read F h x0 x1 x2 = some o) : MetI l yX7_read cX7_read 4 (some .int) 3 71 X [.ref x0, .ref x1, .ref x2] h o := by
  refine x_met (by decide) (Nat.le_of_ble_eq_true rfl) ?_
  intro p e s m below meth c ls C hl hW hZ
  have hl : lv_has ls 4 [(0, .ref x0), (1, .ref x1), (2, .ref x2)] := hl
  have hkm : Km h h := Km.rf h
  refine lv_aload_n C.1 C.2.1 dX7_read_0 rfl (lv_at hl 0 rfl) ?_
  refine lv_aload_n C.1 C.2.1 dX7_read_1 rfl (lv_at hl 1 rfl) ?_
  obtain ⟨h_1, eh_1, hE⟩ := nm_e2 hE
  refine pf_X7_15 C hW hZ k_x0 k_x1 eh_1 dX7_read_2 (fun _ _ hW km hZ => ?_)
  replace hkm := hkm.tr km
  replace k_x0 := km.at k_x0 (by decide)
  replace k_x1 := km.at k_x1 (by decide)
  replace k_x2 := km.at k_x2 (by decide)
  refine lv_aload_n C.1 C.2.1 dX7_read_5 rfl (lv_at hl 0 rfl) ?_
  refine lv_iconst (v := (0 : Int32)) C.1 C.2.1 dX7_read_6 (by decide) ?_
  obtain ⟨h_2, eh_2, hE⟩ := nm_e2 hE
  refine pf_X7_19 C hW hZ k_x0 eh_2 dX7_read_7 (fun _ _ hW km hZ => ?_)
  replace hkm := hkm.tr km
  replace k_x0 := km.at k_x0 (by decide)
  replace k_x1 := km.at k_x1 (by decide)
  replace k_x2 := km.at k_x2 (by decide)
  refine lv_aload_n C.1 C.2.1 dX7_read_10 rfl (lv_at hl 2 rfl) ?_
  obtain ⟨o_3, eo_3, hE⟩ := cl_e hE
  refine x_kV (o := o_3) (z_runV (As := []) (rest := []) C (ct_X3_clear l X F k_x2 eo_3) cw_X7_23 hW hZ k_x2 (by decide) rfl rfl rfl hl.1 (Nat.le_of_ble_eq_true rfl) rfl dX7_read_11 ⟨Nat.le_of_ble_eq_true rfl, Nat.le_of_ble_eq_true rfl⟩ ⟨Nat.le_refl _, Nat.le_refl _⟩) hZ (fun _ _ hW km hZ => ?_)
  replace hkm := hkm.tr km
  replace k_x0 := km.at k_x0 (by decide)
  replace k_x1 := km.at k_x1 (by decide)
  replace k_x2 := km.at k_x2 (by decide)
  refine lv_aload_n C.1 C.2.1 dX7_read_14 rfl (lv_at hl 0 rfl) ?_
  refine lv_aload_n C.1 C.2.1 dX7_read_15 rfl (lv_at hl 2 rfl) ?_
  obtain ⟨o_4, eo_4, hE⟩ := cl_e hE
  refine x_kI (o := o_4) (z_runV (As := [.ref x2]) (rest := []) C (ct_X7_readRanks l X F k_x0 k_x2 eo_4) cw_X7_28 hW hZ k_x0 (by decide) rfl rfl rfl hl.1 (Nat.le_of_ble_eq_true rfl) rfl dX7_read_16 ⟨Nat.le_of_ble_eq_true rfl, Nat.le_of_ble_eq_true rfl⟩ ⟨Nat.le_refl _, Nat.le_refl _⟩) hZ (fun _ _ hW km hZ => ?_)
  replace hkm := hkm.tr km
  replace k_x0 := km.at k_x0 (by decide)
  replace k_x1 := km.at k_x1 (by decide)
  replace k_x2 := km.at k_x2 (by decide)
  refine lv_if_eq (tgt := 143) C.1 C.2.1 dX7_read_19 (by decide) (fun c_5 => ?_) (fun c_5 => ?_)
  · have hE := br_p hE c_5
    exact bX7_read_143 C k_x0 hkm hW hZ _ (lv_sub hl [0] rfl) hE
  · have hE := br_n hE c_5
    refine lv_aload_n C.1 C.2.1 dX7_read_22 rfl (lv_at hl 0 rfl) ?_
    refine lv_bipush (v := (32 : Int32)) C.1 C.2.1 dX7_read_23 (by decide) ?_
    obtain ⟨o_6, eo_6, hE⟩ := cl_e hE
    refine x_kI (o := o_6) (z_runV (As := [.int (32 : Int32)]) (rest := []) C (ct_X7_takeByte l X k_x0 eo_6) cw_X7_32 hW hZ k_x0 (by decide) rfl rfl rfl hl.1 (Nat.le_of_ble_eq_true rfl) rfl dX7_read_25 ⟨Nat.le_of_ble_eq_true rfl, Nat.le_of_ble_eq_true rfl⟩ ⟨Nat.le_refl _, Nat.le_refl _⟩) hZ (fun _ _ hW km hZ => ?_)
    replace hkm := hkm.tr km
    replace k_x0 := km.at k_x0 (by decide)
    replace k_x1 := km.at k_x1 (by decide)
    replace k_x2 := km.at k_x2 (by decide)
    refine lv_if_eq (tgt := 143) C.1 C.2.1 dX7_read_28 (by decide) (fun c_7 => ?_) (fun c_7 => ?_)
    · have hE := br_p hE c_7
      exact bX7_read_143 C k_x0 hkm hW hZ _ (lv_sub hl [0] rfl) hE
    · have hE := br_n hE c_7
      refine lv_aload_n C.1 C.2.1 dX7_read_31 rfl (lv_at hl 0 rfl) ?_
      refine lv_aload_n C.1 C.2.1 dX7_read_32 rfl (lv_at hl 2 rfl) ?_
      obtain ⟨o_8, eo_8, hE⟩ := cl_e hE
      refine x_kI (o := o_8) (z_runV (As := [.ref x2]) (rest := []) C (ct_X7_readSide l X k_x0 k_x2 eo_8) cw_X7_36 hW hZ k_x0 (by decide) rfl rfl rfl hl.1 (Nat.le_of_ble_eq_true rfl) rfl dX7_read_33 ⟨Nat.le_of_ble_eq_true rfl, Nat.le_of_ble_eq_true rfl⟩ ⟨Nat.le_refl _, Nat.le_refl _⟩) hZ (fun _ _ hW km hZ => ?_)
      replace hkm := hkm.tr km
      replace k_x0 := km.at k_x0 (by decide)
      replace k_x1 := km.at k_x1 (by decide)
      replace k_x2 := km.at k_x2 (by decide)
      refine lv_if_eq (tgt := 143) C.1 C.2.1 dX7_read_36 (by decide) (fun c_9 => ?_) (fun c_9 => ?_)
      · have hE := br_p hE c_9
        exact bX7_read_143 C k_x0 hkm hW hZ _ (lv_sub hl [0] rfl) hE
      · have hE := br_n hE c_9
        refine lv_aload_n C.1 C.2.1 dX7_read_39 rfl (lv_at hl 0 rfl) ?_
        refine lv_bipush (v := (32 : Int32)) C.1 C.2.1 dX7_read_40 (by decide) ?_
        obtain ⟨o_10, eo_10, hE⟩ := cl_e hE
        refine x_kI (o := o_10) (z_runV (As := [.int (32 : Int32)]) (rest := []) C (ct_X7_takeByte l X k_x0 eo_10) cw_X7_32 hW hZ k_x0 (by decide) rfl rfl rfl hl.1 (Nat.le_of_ble_eq_true rfl) rfl dX7_read_42 ⟨Nat.le_of_ble_eq_true rfl, Nat.le_of_ble_eq_true rfl⟩ ⟨Nat.le_refl _, Nat.le_refl _⟩) hZ (fun _ _ hW km hZ => ?_)
        replace hkm := hkm.tr km
        replace k_x0 := km.at k_x0 (by decide)
        replace k_x1 := km.at k_x1 (by decide)
        replace k_x2 := km.at k_x2 (by decide)
        refine lv_if_eq (tgt := 143) C.1 C.2.1 dX7_read_45 (by decide) (fun c_11 => ?_) (fun c_11 => ?_)
        · have hE := br_p hE c_11
          exact bX7_read_143 C k_x0 hkm hW hZ _ (lv_sub hl [0] rfl) hE
        · have hE := br_n hE c_11
          refine lv_aload_n C.1 C.2.1 dX7_read_48 rfl (lv_at hl 0 rfl) ?_
          refine lv_aload_n C.1 C.2.1 dX7_read_49 rfl (lv_at hl 2 rfl) ?_
          obtain ⟨o_12, eo_12, hE⟩ := cl_e hE
          refine x_kI (o := o_12) (z_runV (As := [.ref x2]) (rest := []) C (ct_X7_readRights l X F k_x0 k_x2 eo_12) cw_X7_39 hW hZ k_x0 (by decide) rfl rfl rfl hl.1 (Nat.le_of_ble_eq_true rfl) rfl dX7_read_50 ⟨Nat.le_of_ble_eq_true rfl, Nat.le_of_ble_eq_true rfl⟩ ⟨Nat.le_refl _, Nat.le_refl _⟩) hZ (fun _ _ hW km hZ => ?_)
          replace hkm := hkm.tr km
          replace k_x0 := km.at k_x0 (by decide)
          replace k_x1 := km.at k_x1 (by decide)
          replace k_x2 := km.at k_x2 (by decide)
          refine lv_if_eq (tgt := 143) C.1 C.2.1 dX7_read_53 (by decide) (fun c_13 => ?_) (fun c_13 => ?_)
          · have hE := br_p hE c_13
            exact bX7_read_143 C k_x0 hkm hW hZ _ (lv_sub hl [0] rfl) hE
          · have hE := br_n hE c_13
            refine lv_aload_n C.1 C.2.1 dX7_read_56 rfl (lv_at hl 0 rfl) ?_
            refine lv_bipush (v := (32 : Int32)) C.1 C.2.1 dX7_read_57 (by decide) ?_
            obtain ⟨o_14, eo_14, hE⟩ := cl_e hE
            refine x_kI (o := o_14) (z_runV (As := [.int (32 : Int32)]) (rest := []) C (ct_X7_takeByte l X k_x0 eo_14) cw_X7_32 hW hZ k_x0 (by decide) rfl rfl rfl hl.1 (Nat.le_of_ble_eq_true rfl) rfl dX7_read_59 ⟨Nat.le_of_ble_eq_true rfl, Nat.le_of_ble_eq_true rfl⟩ ⟨Nat.le_refl _, Nat.le_refl _⟩) hZ (fun _ _ hW km hZ => ?_)
            replace hkm := hkm.tr km
            replace k_x0 := km.at k_x0 (by decide)
            replace k_x1 := km.at k_x1 (by decide)
            replace k_x2 := km.at k_x2 (by decide)
            refine lv_if_eq (tgt := 143) C.1 C.2.1 dX7_read_62 (by decide) (fun c_15 => ?_) (fun c_15 => ?_)
            · have hE := br_p hE c_15
              exact bX7_read_143 C k_x0 hkm hW hZ _ (lv_sub hl [0] rfl) hE
            · have hE := br_n hE c_15
              refine lv_aload_n C.1 C.2.1 dX7_read_65 rfl (lv_at hl 0 rfl) ?_
              refine lv_aload_n C.1 C.2.1 dX7_read_66 rfl (lv_at hl 2 rfl) ?_
              obtain ⟨o_16, eo_16, hE⟩ := cl_e hE
              refine x_kI (o := o_16) (z_runV (As := [.ref x2]) (rest := []) C (ct_X7_readPass l X F k_x0 k_x2 eo_16) cw_X7_42 hW hZ k_x0 (by decide) rfl rfl rfl hl.1 (Nat.le_of_ble_eq_true rfl) rfl dX7_read_67 ⟨Nat.le_of_ble_eq_true rfl, Nat.le_of_ble_eq_true rfl⟩ ⟨Nat.le_refl _, Nat.le_refl _⟩) hZ (fun _ _ hW km hZ => ?_)
              replace hkm := hkm.tr km
              replace k_x0 := km.at k_x0 (by decide)
              replace k_x1 := km.at k_x1 (by decide)
              replace k_x2 := km.at k_x2 (by decide)
              refine lv_if_eq (tgt := 143) C.1 C.2.1 dX7_read_70 (by decide) (fun c_17 => ?_) (fun c_17 => ?_)
              · have hE := br_p hE c_17
                exact bX7_read_143 C k_x0 hkm hW hZ _ (lv_sub hl [0] rfl) hE
              · have hE := br_n hE c_17
                refine lv_aload_n C.1 C.2.1 dX7_read_73 rfl (lv_at hl 0 rfl) ?_
                refine lv_bipush (v := (32 : Int32)) C.1 C.2.1 dX7_read_74 (by decide) ?_
                obtain ⟨o_18, eo_18, hE⟩ := cl_e hE
                refine x_kI (o := o_18) (z_runV (As := [.int (32 : Int32)]) (rest := []) C (ct_X7_takeByte l X k_x0 eo_18) cw_X7_32 hW hZ k_x0 (by decide) rfl rfl rfl hl.1 (Nat.le_of_ble_eq_true rfl) rfl dX7_read_76 ⟨Nat.le_of_ble_eq_true rfl, Nat.le_of_ble_eq_true rfl⟩ ⟨Nat.le_refl _, Nat.le_refl _⟩) hZ (fun _ _ hW km hZ => ?_)
                replace hkm := hkm.tr km
                replace k_x0 := km.at k_x0 (by decide)
                replace k_x1 := km.at k_x1 (by decide)
                replace k_x2 := km.at k_x2 (by decide)
                refine lv_if_eq (tgt := 143) C.1 C.2.1 dX7_read_79 (by decide) (fun c_19 => ?_) (fun c_19 => ?_)
                · have hE := br_p hE c_19
                  exact bX7_read_143 C k_x0 hkm hW hZ _ (lv_sub hl [0] rfl) hE
                · have hE := br_n hE c_19
                  refine lv_aload_n C.1 C.2.1 dX7_read_82 rfl (lv_at hl 0 rfl) ?_
                  refine lv_aload_n C.1 C.2.1 dX7_read_83 rfl (lv_at hl 2 rfl) ?_
                  obtain ⟨o_20, eo_20, hE⟩ := cl_e hE
                  refine x_kI (o := o_20) (z_runV (As := [.ref x2]) (rest := []) C (ct_X7_readHands l X F k_x0 k_x2 eo_20) cw_X7_45 hW hZ k_x0 (by decide) rfl rfl rfl hl.1 (Nat.le_of_ble_eq_true rfl) rfl dX7_read_84 ⟨Nat.le_of_ble_eq_true rfl, Nat.le_of_ble_eq_true rfl⟩ ⟨Nat.le_refl _, Nat.le_refl _⟩) hZ (fun _ _ hW km hZ => ?_)
                  replace hkm := hkm.tr km
                  replace k_x0 := km.at k_x0 (by decide)
                  replace k_x1 := km.at k_x1 (by decide)
                  replace k_x2 := km.at k_x2 (by decide)
                  refine lv_if_eq (tgt := 143) C.1 C.2.1 dX7_read_87 (by decide) (fun c_21 => ?_) (fun c_21 => ?_)
                  · have hE := br_p hE c_21
                    exact bX7_read_143 C k_x0 hkm hW hZ _ (lv_sub hl [0] rfl) hE
                  · have hE := br_n hE c_21
                    refine lv_aload_n C.1 C.2.1 dX7_read_90 rfl (lv_at hl 0 rfl) ?_
                    refine lv_bipush (v := (32 : Int32)) C.1 C.2.1 dX7_read_91 (by decide) ?_
                    obtain ⟨o_22, eo_22, hE⟩ := cl_e hE
                    refine x_kI (o := o_22) (z_runV (As := [.int (32 : Int32)]) (rest := []) C (ct_X7_takeByte l X k_x0 eo_22) cw_X7_32 hW hZ k_x0 (by decide) rfl rfl rfl hl.1 (Nat.le_of_ble_eq_true rfl) rfl dX7_read_93 ⟨Nat.le_of_ble_eq_true rfl, Nat.le_of_ble_eq_true rfl⟩ ⟨Nat.le_refl _, Nat.le_refl _⟩) hZ (fun _ _ hW km hZ => ?_)
                    replace hkm := hkm.tr km
                    replace k_x0 := km.at k_x0 (by decide)
                    replace k_x1 := km.at k_x1 (by decide)
                    replace k_x2 := km.at k_x2 (by decide)
                    refine lv_if_eq (tgt := 143) C.1 C.2.1 dX7_read_96 (by decide) (fun c_23 => ?_) (fun c_23 => ?_)
                    · have hE := br_p hE c_23
                      exact bX7_read_143 C k_x0 hkm hW hZ _ (lv_sub hl [0] rfl) hE
                    · have hE := br_n hE c_23
                      refine lv_aload_n C.1 C.2.1 dX7_read_99 rfl (lv_at hl 0 rfl) ?_
                      refine lv_aload_n C.1 C.2.1 dX7_read_100 rfl (lv_at hl 2 rfl) ?_
                      obtain ⟨o_24, eo_24, hE⟩ := cl_e hE
                      refine x_kI (o := o_24) (z_runV (As := [.ref x2]) (rest := []) C (ct_X7_readChecks l X F k_x0 k_x2 eo_24) cw_X7_48 hW hZ k_x0 (by decide) rfl rfl rfl hl.1 (Nat.le_of_ble_eq_true rfl) rfl dX7_read_101 ⟨Nat.le_of_ble_eq_true rfl, Nat.le_of_ble_eq_true rfl⟩ ⟨Nat.le_refl _, Nat.le_refl _⟩) hZ (fun _ _ hW km hZ => ?_)
                      replace hkm := hkm.tr km
                      replace k_x0 := km.at k_x0 (by decide)
                      replace k_x1 := km.at k_x1 (by decide)
                      replace k_x2 := km.at k_x2 (by decide)
                      refine lv_if_eq (tgt := 143) C.1 C.2.1 dX7_read_104 (by decide) (fun c_25 => ?_) (fun c_25 => ?_)
                      · have hE := br_p hE c_25
                        exact bX7_read_143 C k_x0 hkm hW hZ _ (lv_sub hl [0] rfl) hE
                      · have hE := br_n hE c_25
                        refine lv_aload_n C.1 C.2.1 dX7_read_107 rfl (lv_at hl 0 rfl) ?_
                        refine lv_bipush (v := (32 : Int32)) C.1 C.2.1 dX7_read_108 (by decide) ?_
                        obtain ⟨o_26, eo_26, hE⟩ := cl_e hE
                        refine x_kI (o := o_26) (z_runV (As := [.int (32 : Int32)]) (rest := []) C (ct_X7_takeByte l X k_x0 eo_26) cw_X7_32 hW hZ k_x0 (by decide) rfl rfl rfl hl.1 (Nat.le_of_ble_eq_true rfl) rfl dX7_read_110 ⟨Nat.le_of_ble_eq_true rfl, Nat.le_of_ble_eq_true rfl⟩ ⟨Nat.le_refl _, Nat.le_refl _⟩) hZ (fun _ _ hW km hZ => ?_)
                        replace hkm := hkm.tr km
                        replace k_x0 := km.at k_x0 (by decide)
                        replace k_x1 := km.at k_x1 (by decide)
                        replace k_x2 := km.at k_x2 (by decide)
                        refine lv_if_eq (tgt := 143) C.1 C.2.1 dX7_read_113 (by decide) (fun c_27 => ?_) (fun c_27 => ?_)
                        · have hE := br_p hE c_27
                          exact bX7_read_143 C k_x0 hkm hW hZ _ (lv_sub hl [0] rfl) hE
                        · have hE := br_n hE c_27
                          refine lv_aload_n C.1 C.2.1 dX7_read_116 rfl (lv_at hl 0 rfl) ?_
                          refine lv_aload_n C.1 C.2.1 dX7_read_117 rfl (lv_at hl 2 rfl) ?_
                          obtain ⟨o_28, eo_28, hE⟩ := cl_e hE
                          refine x_kI (o := o_28) (z_runV (As := [.ref x2]) (rest := []) C (ct_X7_readClock l X F k_x0 k_x2 eo_28) cw_X7_51 hW hZ k_x0 (by decide) rfl rfl rfl hl.1 (Nat.le_of_ble_eq_true rfl) rfl dX7_read_118 ⟨Nat.le_of_ble_eq_true rfl, Nat.le_of_ble_eq_true rfl⟩ ⟨Nat.le_refl _, Nat.le_refl _⟩) hZ (fun _ _ hW km hZ => ?_)
                          replace hkm := hkm.tr km
                          replace k_x0 := km.at k_x0 (by decide)
                          replace k_x1 := km.at k_x1 (by decide)
                          replace k_x2 := km.at k_x2 (by decide)
                          refine lv_if_eq (tgt := 143) C.1 C.2.1 dX7_read_121 (by decide) (fun c_29 => ?_) (fun c_29 => ?_)
                          · have hE := br_p hE c_29
                            exact bX7_read_143 C k_x0 hkm hW hZ _ (lv_sub hl [0] rfl) hE
                          · have hE := br_n hE c_29
                            refine lv_aload_n C.1 C.2.1 dX7_read_124 rfl (lv_at hl 0 rfl) ?_
                            obtain ⟨r_30, er_30, hE⟩ := cl_e hE
                            refine gf_X7_15 C hW k_x0 er_30 dX7_read_125 (fun k_r_30 => ?_)
                            refine lv_aload_n C.1 C.2.1 dX7_read_128 rfl (lv_at hl 0 rfl) ?_
                            refine gf_X7_19 C hW k_x0 dX7_read_129 ?_
                            obtain ⟨o_31, eo_31, hE⟩ := cl_e hE
                            refine x_kI (o := o_31) (z_runV (As := [.int (hI o_28.2 x0 2)]) (rest := []) C (ct_X9_byteAt l X k_r_30 eo_31) cw_X7_54 hW hZ k_r_30 (by decide) rfl rfl rfl hl.1 (Nat.le_of_ble_eq_true rfl) rfl dX7_read_132 ⟨Nat.le_of_ble_eq_true rfl, Nat.le_of_ble_eq_true rfl⟩ ⟨Nat.le_refl _, Nat.le_refl _⟩) hZ (fun _ _ hW km hZ => ?_)
                            replace hkm := hkm.tr km
                            replace k_x0 := km.at k_x0 (by decide)
                            replace k_x1 := km.at k_x1 (by decide)
                            replace k_x2 := km.at k_x2 (by decide)
                            refine lv_iconst (v := (-1 : Int32)) C.1 C.2.1 dX7_read_135 (by decide) ?_
                            refine lv_icmp_ne (tgt := 143) C.1 C.2.1 dX7_read_136 (by decide) (fun c_32 => ?_) (fun c_32 => ?_)
                            · have hE := br_n hE c_32
                              exact bX7_read_143 C k_x0 hkm hW hZ _ (lv_sub hl [0] rfl) hE
                            · have hE := br_p hE c_32
                              refine lv_iconst (v := (1 : Int32)) C.1 C.2.1 dX7_read_139 (by decide) ?_
                              refine lv_goto (tgt := 144) C.1 C.2.1 dX7_read_140 (by decide) ?_
                              exact bX7_read_144 C k_x0 hkm hW hZ _ (lv_sub hl [0] rfl) hE
set_option maxRecDepth 100000 in
theorem m_1100 : Cond.methodLink RX7 118 yX9_append ∈ W0 := w0_in (List.mem_append_right _ (List.mem_of_getElem? (i := 1100) rfl)) rfl
theorem cw_X7_118 : cwd RX7 118 yX9_append cX9_append 2 none false 1 := ⟨m_641, m_1100, m_2, ⟨m_639, m_640⟩, by decide, by decide, by decide +kernel⟩
theorem dX7_writeEmpty_0 : decode cX7_writeEmpty 0 = .ok (.iload_n 0, 1) := by decide +kernel
theorem dX7_writeEmpty_1 : decode cX7_writeEmpty 1 = .ok (.ifCond .le 11, 3) := by decide +kernel
theorem dX7_writeEmpty_4 : decode cX7_writeEmpty 4 = .ok (.aload_n 1, 1) := by decide +kernel
theorem dX7_writeEmpty_5 : decode cX7_writeEmpty 5 = .ok (.bipush 48, 2) := by decide +kernel
theorem dX7_writeEmpty_7 : decode cX7_writeEmpty 7 = .ok (.iload_n 0, 1) := by decide +kernel
theorem dX7_writeEmpty_8 : decode cX7_writeEmpty 8 = .ok (.iadd, 1) := by decide +kernel
theorem dX7_writeEmpty_9 : decode cX7_writeEmpty 9 = .ok (.invokevirtual 118, 3) := by decide +kernel
theorem dX7_writeEmpty_12 : decode cX7_writeEmpty 12 = .ok (.return_, 1) := by decide +kernel
set_option maxRecDepth 20000 in
theorem moX7_writeEmpty_12 {o : Hp} {h : Hp} (hE : sX7_writeEmpty_12 h  = some o) : Le h o := by
  exact le_some1 hE
set_option maxRecDepth 20000 in
theorem moX7_writeEmpty {o : Hp} {h : Hp} {x0 : Int32} {x1 : Nat} (hE : sX7_writeEmpty h x0 x1 = some o) : Le h o := by
  rcases br_e hE with ⟨_, hE⟩ | ⟨_, hE⟩
  · exact moX7_writeEmpty_12 hE
  · obtain ⟨o_2, eo_2, hE⟩ := cl_e hE
    refine (moX9_append eo_2).tr ?_
    exact moX7_writeEmpty_12 hE
set_option maxRecDepth 20000 in
theorem bX7_writeEmpty_12 {p : Program} {l : Launch} {e : Env} {s : State} {m : MethodId} {args : Array Value} {below : List Frame} {meth : Method} {c : Code} {X : Ec} {h0 : Hp} {o : Hp} (C : Cx X p s m args meth c RX7 cX7_writeEmpty 2 none "writeEmpty") {h : Hp} {H : Heap} {locs : List Loc} (hkm : Km h0 h) (hW : Wx X h H) (hZ : va_S (aA (eB X)) s.heap H locs) (ls : Array Slot) (hl : lv_has ls 2 []) (hE : sX7_writeEmpty_12 h  = some o) : W p l e (rm 1 21) s m args below meth c H locs 0 0 (MQ below (QV X h0 o) args s 0 0 (aA (eB X))) (F0 m 12 ls []) := by
  exact x_vret C rfl hW hZ hkm hE dX7_writeEmpty_12
set_option maxRecDepth 20000 in
theorem ct_X7_writeEmpty (l : Launch) (X : Ec) {h : Hp} {x0 : Int32} {x1 : Nat} {o : Hp} (k_x1 : hK h x1 = 9) (hE : sX7_writeEmpty h x0 x1 = some o) : MetV l yX7_writeEmpty cX7_writeEmpty 2 none 1 21 X [.int x0, .ref x1] h o := by
  refine x_met (by decide) (Nat.le_of_ble_eq_true rfl) ?_
  intro p e s m below meth c ls C hl hW hZ
  have hl : lv_has ls 2 [(0, .int x0), (1, .ref x1)] := hl
  have hkm : Km h h := Km.rf h
  refine lv_iload_n C.1 C.2.1 dX7_writeEmpty_0 rfl (lv_at hl 0 rfl) ?_
  refine lv_if_le (tgt := 12) C.1 C.2.1 dX7_writeEmpty_1 (by decide) (fun c_1 => ?_) (fun c_1 => ?_)
  · have hE := br_p hE c_1
    exact bX7_writeEmpty_12 C hkm hW hZ _ (lv_sub hl [] rfl) hE
  · have hE := br_n hE c_1
    refine lv_aload_n C.1 C.2.1 dX7_writeEmpty_4 rfl (lv_at hl 1 rfl) ?_
    refine lv_bipush (v := (48 : Int32)) C.1 C.2.1 dX7_writeEmpty_5 (by decide) ?_
    refine lv_iload_n C.1 C.2.1 dX7_writeEmpty_7 rfl (lv_at hl 0 rfl) ?_
    refine lv_iadd C.1 C.2.1 dX7_writeEmpty_8 ?_
    obtain ⟨o_2, eo_2, hE⟩ := cl_e hE
    refine x_kV (o := o_2) (z_runV (As := [.int ((48 : Int32) + x0)]) (rest := []) C (ct_X9_append l X k_x1 eo_2) cw_X7_118 hW hZ k_x1 (by decide) rfl rfl rfl hl.1 (Nat.le_of_ble_eq_true rfl) rfl dX7_writeEmpty_9 ⟨Nat.le_of_ble_eq_true rfl, Nat.le_of_ble_eq_true rfl⟩ ⟨Nat.le_refl _, Nat.le_refl _⟩) hZ (fun _ _ hW km hZ => ?_)
    replace hkm := hkm.tr km
    replace k_x1 := km.at k_x1 (by decide)
    exact bX7_writeEmpty_12 C hkm hW hZ _ (lv_sub hl [] rfl) hE
set_option maxRecDepth 100000 in
theorem m_281 : Cond.fieldLink RX7 134 (TX3 0).1 (TX3 0).2.1 (TX3 0).2.2.1 ∈ W0 := w0_in (List.mem_append_right _ (List.mem_of_getElem? (i := 281) rfl)) rfl
set_option maxRecDepth 100000 in
theorem m_1097 : Cond.methodLink RX7 138 yX7_writeEmpty ∈ W0 := w0_in (List.mem_append_right _ (List.mem_of_getElem? (i := 1097) rfl)) rfl
set_option maxRecDepth 100000 in
theorem m_1098 : Cond.static yX7_writeEmpty ∈ W0 := w0_in (List.mem_append_right _ (List.mem_of_getElem? (i := 1098) rfl)) rfl
set_option maxRecDepth 100000 in
theorem m_1099 : Cond.code yX7_writeEmpty cX7_writeEmpty 2 none ∈ W0 := w0_in (List.mem_append_right _ (List.mem_of_getElem? (i := 1099) rfl)) rfl
set_option maxRecDepth 100000 in
theorem m_1101 : Cond.methodLink RX7 142 yX1_letterOf ∈ W0 := w0_in (List.mem_append_right _ (List.mem_of_getElem? (i := 1101) rfl)) rfl
set_option maxRecDepth 100000 in
theorem m_1102 : Cond.instanceMethod yX1_letterOf ∈ W0 := w0_in (List.mem_append_right _ (List.mem_of_getElem? (i := 1102) rfl)) rfl
set_option maxRecDepth 100000 in
theorem m_1103 : Cond.selects RX1 yX1_letterOf yX1_letterOf ∈ W0 := w0_in (List.mem_append_right _ (List.mem_of_getElem? (i := 1103) rfl)) rfl
set_option maxRecDepth 100000 in
theorem m_1104 : Cond.code yX1_letterOf cX1_letterOf 3 (some .int) ∈ W0 := w0_in (List.mem_append_right _ (List.mem_of_getElem? (i := 1104) rfl)) rfl
section
variable {p : Program} {l : Launch} {e : Env} {R : Room} {s : State} {m : MethodId} {args : Array Value} {below : List Frame} {meth : Method} {c : Code} {H : Heap} {locs : List Loc} {cells slots : Nat} {Q : State → Prop}
variable {cc : ByteArray} {pc : Nat} {ls : Array Slot} {rest : List Value} {X : Ec} {h h1 : Hp} {nL : Nat} {rt : Option FieldType} {mn : String}
theorem gf_X7_134 {a r : Nat} (C : Cx X p s m args meth c RX7 cc nL rt mn) (hW : Wx X h H) (ha : hK h a = 3) (hr : hR h a 0 = some r) (hdg : decode cc pc = .ok (.getfield 134, 3)) (kk : hK h r = 16 → W p l e R s m args below meth c H locs cells slots Q (F0 m (pc + 3) ls (.ref r :: rest))) : W p l e R s m args below meth c H locs cells slots Q (F0 m pc ls (.ref a :: rest)) :=
  y_getr C hW ha i_X3 (by decide) rfl (by decide) m_281 rfl rfl hr hdg kk
end
theorem cw_X7_138 : cwd RX7 138 yX7_writeEmpty cX7_writeEmpty 2 none true 2 := ⟨m_1099, m_1097, m_10, m_1098, by decide, by decide, by decide +kernel⟩
theorem cw_X7_142 : cwd RX7 142 yX1_letterOf cX1_letterOf 3 (some .int) false 1 := ⟨m_1104, m_1101, m_4, ⟨m_1102, m_1103⟩, by decide, by decide, by decide +kernel⟩
theorem dX7_writeRanks_0 : decode cX7_writeRanks 0 = .ok (.aload_n 0, 1) := by decide +kernel
theorem dX7_writeRanks_1 : decode cX7_writeRanks 1 = .ok (.getfield 9, 3) := by decide +kernel
theorem dX7_writeRanks_4 : decode cX7_writeRanks 4 = .ok (.getfield 60, 3) := by decide +kernel
theorem dX7_writeRanks_7 : decode cX7_writeRanks 7 = .ok (.iconst 1, 1) := by decide +kernel
theorem dX7_writeRanks_8 : decode cX7_writeRanks 8 = .ok (.isub, 1) := by decide +kernel
theorem dX7_writeRanks_9 : decode cX7_writeRanks 9 = .ok (.istore 5, 2) := by decide +kernel
theorem dX7_writeRanks_11 : decode cX7_writeRanks 11 = .ok (.iload 5, 2) := by decide +kernel
theorem dX7_writeRanks_13 : decode cX7_writeRanks 13 = .ok (.ifCond .lt 146, 3) := by decide +kernel
theorem dX7_writeRanks_16 : decode cX7_writeRanks 16 = .ok (.iconst 0, 1) := by decide +kernel
theorem dX7_writeRanks_17 : decode cX7_writeRanks 17 = .ok (.istore 6, 2) := by decide +kernel
theorem dX7_writeRanks_19 : decode cX7_writeRanks 19 = .ok (.iconst 0, 1) := by decide +kernel
theorem dX7_writeRanks_20 : decode cX7_writeRanks 20 = .ok (.istore 7, 2) := by decide +kernel
theorem dX7_writeRanks_22 : decode cX7_writeRanks 22 = .ok (.iload 7, 2) := by decide +kernel
theorem dX7_writeRanks_24 : decode cX7_writeRanks 24 = .ok (.aload_n 0, 1) := by decide +kernel
theorem dX7_writeRanks_25 : decode cX7_writeRanks 25 = .ok (.getfield 9, 3) := by decide +kernel
theorem dX7_writeRanks_28 : decode cX7_writeRanks 28 = .ok (.getfield 65, 3) := by decide +kernel
theorem dX7_writeRanks_31 : decode cX7_writeRanks 31 = .ok (.if_icmp .ge 103, 3) := by decide +kernel
theorem dX7_writeRanks_34 : decode cX7_writeRanks 34 = .ok (.iload 5, 2) := by decide +kernel
theorem dX7_writeRanks_36 : decode cX7_writeRanks 36 = .ok (.aload_n 0, 1) := by decide +kernel
theorem dX7_writeRanks_37 : decode cX7_writeRanks 37 = .ok (.getfield 9, 3) := by decide +kernel
theorem dX7_writeRanks_40 : decode cX7_writeRanks 40 = .ok (.getfield 65, 3) := by decide +kernel
theorem dX7_writeRanks_43 : decode cX7_writeRanks 43 = .ok (.imul, 1) := by decide +kernel
theorem dX7_writeRanks_44 : decode cX7_writeRanks 44 = .ok (.iload 7, 2) := by decide +kernel
theorem dX7_writeRanks_46 : decode cX7_writeRanks 46 = .ok (.iadd, 1) := by decide +kernel
theorem dX7_writeRanks_47 : decode cX7_writeRanks 47 = .ok (.istore 8, 2) := by decide +kernel
theorem dX7_writeRanks_49 : decode cX7_writeRanks 49 = .ok (.lload_n 2, 1) := by decide +kernel
theorem dX7_writeRanks_50 : decode cX7_writeRanks 50 = .ok (.iload 8, 2) := by decide +kernel
theorem dX7_writeRanks_52 : decode cX7_writeRanks 52 = .ok (.lushr, 1) := by decide +kernel
theorem dX7_writeRanks_53 : decode cX7_writeRanks 53 = .ok (.lconst 1, 1) := by decide +kernel
theorem dX7_writeRanks_54 : decode cX7_writeRanks 54 = .ok (.land, 1) := by decide +kernel
theorem dX7_writeRanks_55 : decode cX7_writeRanks 55 = .ok (.lconst 0, 1) := by decide +kernel
theorem dX7_writeRanks_56 : decode cX7_writeRanks 56 = .ok (.lcmp, 1) := by decide +kernel
theorem dX7_writeRanks_57 : decode cX7_writeRanks 57 = .ok (.ifCond .ne 7, 3) := by decide +kernel
theorem dX7_writeRanks_60 : decode cX7_writeRanks 60 = .ok (.iconst 1, 1) := by decide +kernel
theorem dX7_writeRanks_61 : decode cX7_writeRanks 61 = .ok (.goto 4, 3) := by decide +kernel
theorem dX7_writeRanks_64 : decode cX7_writeRanks 64 = .ok (.iconst 0, 1) := by decide +kernel
theorem dX7_writeRanks_65 : decode cX7_writeRanks 65 = .ok (.istore 9, 2) := by decide +kernel
theorem dX7_writeRanks_67 : decode cX7_writeRanks 67 = .ok (.iload 9, 2) := by decide +kernel
theorem dX7_writeRanks_69 : decode cX7_writeRanks 69 = .ok (.ifCond .ne 20, 3) := by decide +kernel
theorem dX7_writeRanks_72 : decode cX7_writeRanks 72 = .ok (.aload_n 1, 1) := by decide +kernel
theorem dX7_writeRanks_73 : decode cX7_writeRanks 73 = .ok (.getfield 134, 3) := by decide +kernel
theorem dX7_writeRanks_76 : decode cX7_writeRanks 76 = .ok (.iload 8, 2) := by decide +kernel
theorem dX7_writeRanks_78 : decode cX7_writeRanks 78 = .ok (.baload, 1) := by decide +kernel
theorem dX7_writeRanks_79 : decode cX7_writeRanks 79 = .ok (.iconst (-1), 1) := by decide +kernel
theorem dX7_writeRanks_80 : decode cX7_writeRanks 80 = .ok (.if_icmp .ne 9, 3) := by decide +kernel
theorem dX7_writeRanks_83 : decode cX7_writeRanks 83 = .ok (.iinc 6 1, 3) := by decide +kernel
theorem dX7_writeRanks_86 : decode cX7_writeRanks 86 = .ok (.goto 42, 3) := by decide +kernel
theorem dX7_writeRanks_89 : decode cX7_writeRanks 89 = .ok (.iload 6, 2) := by decide +kernel
theorem dX7_writeRanks_91 : decode cX7_writeRanks 91 = .ok (.aload 4, 2) := by decide +kernel
theorem dX7_writeRanks_93 : decode cX7_writeRanks 93 = .ok (.invokestatic 138, 3) := by decide +kernel
theorem dX7_writeRanks_96 : decode cX7_writeRanks 96 = .ok (.iconst 0, 1) := by decide +kernel
theorem dX7_writeRanks_97 : decode cX7_writeRanks 97 = .ok (.istore 6, 2) := by decide +kernel
theorem dX7_writeRanks_99 : decode cX7_writeRanks 99 = .ok (.aload 4, 2) := by decide +kernel
theorem dX7_writeRanks_101 : decode cX7_writeRanks 101 = .ok (.iload 9, 2) := by decide +kernel
theorem dX7_writeRanks_103 : decode cX7_writeRanks 103 = .ok (.ifCond .eq 8, 3) := by decide +kernel
theorem dX7_writeRanks_106 : decode cX7_writeRanks 106 = .ok (.bipush 63, 2) := by decide +kernel
theorem dX7_writeRanks_108 : decode cX7_writeRanks 108 = .ok (.goto 17, 3) := by decide +kernel
theorem dX7_writeRanks_111 : decode cX7_writeRanks 111 = .ok (.aload_n 0, 1) := by decide +kernel
theorem dX7_writeRanks_112 : decode cX7_writeRanks 112 = .ok (.getfield 9, 3) := by decide +kernel
theorem dX7_writeRanks_115 : decode cX7_writeRanks 115 = .ok (.aload_n 1, 1) := by decide +kernel
theorem dX7_writeRanks_116 : decode cX7_writeRanks 116 = .ok (.getfield 134, 3) := by decide +kernel
theorem dX7_writeRanks_119 : decode cX7_writeRanks 119 = .ok (.iload 8, 2) := by decide +kernel
theorem dX7_writeRanks_121 : decode cX7_writeRanks 121 = .ok (.baload, 1) := by decide +kernel
theorem dX7_writeRanks_122 : decode cX7_writeRanks 122 = .ok (.invokevirtual 142, 3) := by decide +kernel
theorem dX7_writeRanks_125 : decode cX7_writeRanks 125 = .ok (.invokevirtual 118, 3) := by decide +kernel
theorem dX7_writeRanks_128 : decode cX7_writeRanks 128 = .ok (.iinc 7 1, 3) := by decide +kernel
theorem dX7_writeRanks_131 : decode cX7_writeRanks 131 = .ok (.goto (-109), 3) := by decide +kernel
theorem dX7_writeRanks_134 : decode cX7_writeRanks 134 = .ok (.iload 6, 2) := by decide +kernel
theorem dX7_writeRanks_136 : decode cX7_writeRanks 136 = .ok (.aload 4, 2) := by decide +kernel
theorem dX7_writeRanks_138 : decode cX7_writeRanks 138 = .ok (.invokestatic 138, 3) := by decide +kernel
theorem dX7_writeRanks_141 : decode cX7_writeRanks 141 = .ok (.iload 5, 2) := by decide +kernel
theorem dX7_writeRanks_143 : decode cX7_writeRanks 143 = .ok (.ifCond .le 10, 3) := by decide +kernel
theorem dX7_writeRanks_146 : decode cX7_writeRanks 146 = .ok (.aload 4, 2) := by decide +kernel
theorem dX7_writeRanks_148 : decode cX7_writeRanks 148 = .ok (.bipush 47, 2) := by decide +kernel
theorem dX7_writeRanks_150 : decode cX7_writeRanks 150 = .ok (.invokevirtual 118, 3) := by decide +kernel
theorem dX7_writeRanks_153 : decode cX7_writeRanks 153 = .ok (.iinc 5 (-1), 3) := by decide +kernel
theorem dX7_writeRanks_156 : decode cX7_writeRanks 156 = .ok (.goto (-145), 3) := by decide +kernel
theorem dX7_writeRanks_159 : decode cX7_writeRanks 159 = .ok (.return_, 1) := by decide +kernel
set_option maxRecDepth 20000 in
theorem moX7_writeRanks_153 {o : Hp} {k_11 : Hp → Nat → Nat → Int64 → Nat → Int32 → Option (Hp)} {F : Nat} (mk_11 : ∀ (h : Hp) (x0 : Nat) (x1 : Nat) (x2 : Int64) (x4 : Nat) (x5 : Int32), k_11 h x0 x1 x2 x4 x5 = some o → Le h o) {h : Hp} {x0 : Nat} {x1 : Nat} {x2 : Int64} {x4 : Nat} {x5 : Int32} (hE : sX7_writeRanks_153 F k_11 h x0 x1 x2 x4 x5 = some o) : Le h o := by
  obtain ⟨v_1, ev_1, hE⟩ := nm_e2 hE
  exact mk_11 _ _ _ _ _ _ hE
set_option maxRecDepth 20000 in
theorem moX7_writeRanks_128 {o : Hp} {k_11 : Hp → Nat → Nat → Int64 → Nat → Int32 → Option (Hp)} {k_22 : Hp → Nat → Nat → Int64 → Nat → Int32 → Int32 → Int32 → Option (Hp)} {F : Nat} (mk_11 : ∀ (h : Hp) (x0 : Nat) (x1 : Nat) (x2 : Int64) (x4 : Nat) (x5 : Int32), k_11 h x0 x1 x2 x4 x5 = some o → Le h o) (mk_22 : ∀ (h : Hp) (x0 : Nat) (x1 : Nat) (x2 : Int64) (x4 : Nat) (x5 : Int32) (x6 : Int32) (x7 : Int32), k_22 h x0 x1 x2 x4 x5 x6 x7 = some o → Le h o) {h : Hp} {x0 : Nat} {x1 : Nat} {x2 : Int64} {x4 : Nat} {x5 : Int32} {x6 : Int32} {x7 : Int32} (hE : sX7_writeRanks_128 F k_11 k_22 h x0 x1 x2 x4 x5 x6 x7 = some o) : Le h o := by
  obtain ⟨v_1, ev_1, hE⟩ := nm_e2 hE
  exact mk_22 _ _ _ _ _ _ _ _ hE
set_option maxRecDepth 20000 in
theorem moX7_writeRanks_125 {o : Hp} {k_11 : Hp → Nat → Nat → Int64 → Nat → Int32 → Option (Hp)} {k_22 : Hp → Nat → Nat → Int64 → Nat → Int32 → Int32 → Int32 → Option (Hp)} {F : Nat} (mk_11 : ∀ (h : Hp) (x0 : Nat) (x1 : Nat) (x2 : Int64) (x4 : Nat) (x5 : Int32), k_11 h x0 x1 x2 x4 x5 = some o → Le h o) (mk_22 : ∀ (h : Hp) (x0 : Nat) (x1 : Nat) (x2 : Int64) (x4 : Nat) (x5 : Int32) (x6 : Int32) (x7 : Int32), k_22 h x0 x1 x2 x4 x5 x6 x7 = some o → Le h o) {h : Hp} {x0 : Nat} {x1 : Nat} {x2 : Int64} {x4 : Nat} {x5 : Int32} {x6 : Int32} {x7 : Int32} {t0 : Int32} {t1 : Nat} (hE : sX7_writeRanks_125 F k_11 k_22 h x0 x1 x2 x4 x5 x6 x7 t0 t1 = some o) : Le h o := by
  obtain ⟨o_1, eo_1, hE⟩ := cl_e hE
  refine (moX9_append eo_1).tr ?_
  exact moX7_writeRanks_128 mk_11 mk_22 hE
set_option maxRecDepth 20000 in
theorem moX7_writeRanks_89 {o : Hp} {k_11 : Hp → Nat → Nat → Int64 → Nat → Int32 → Option (Hp)} {k_22 : Hp → Nat → Nat → Int64 → Nat → Int32 → Int32 → Int32 → Option (Hp)} {F : Nat} (mk_11 : ∀ (h : Hp) (x0 : Nat) (x1 : Nat) (x2 : Int64) (x4 : Nat) (x5 : Int32), k_11 h x0 x1 x2 x4 x5 = some o → Le h o) (mk_22 : ∀ (h : Hp) (x0 : Nat) (x1 : Nat) (x2 : Int64) (x4 : Nat) (x5 : Int32) (x6 : Int32) (x7 : Int32), k_22 h x0 x1 x2 x4 x5 x6 x7 = some o → Le h o) {h : Hp} {x0 : Nat} {x1 : Nat} {x2 : Int64} {x4 : Nat} {x5 : Int32} {x6 : Int32} {x7 : Int32} {x8 : Int32} {x9 : Int32} (hE : sX7_writeRanks_89 F k_11 k_22 h x0 x1 x2 x4 x5 x6 x7 x8 x9 = some o) : Le h o := by
  obtain ⟨o_1, eo_1, hE⟩ := cl_e hE
  refine (moX7_writeEmpty eo_1).tr ?_
  rcases br_e hE with ⟨_, hE⟩ | ⟨_, hE⟩
  · obtain ⟨r_3, er_3, hE⟩ := cl_e hE
    obtain ⟨r_4, er_4, hE⟩ := cl_e hE
    obtain ⟨g_5, hE⟩ := gd_e hE
    obtain ⟨o_6, eo_6, hE⟩ := cl_e hE
    refine (moX1_letterOf eo_6).tr ?_
    exact moX7_writeRanks_125 mk_11 mk_22 hE
  · exact moX7_writeRanks_125 mk_11 mk_22 hE
set_option maxRecDepth 20000 in
theorem moX7_writeRanks_65 {o : Hp} {k_11 : Hp → Nat → Nat → Int64 → Nat → Int32 → Option (Hp)} {k_22 : Hp → Nat → Nat → Int64 → Nat → Int32 → Int32 → Int32 → Option (Hp)} {F : Nat} (mk_11 : ∀ (h : Hp) (x0 : Nat) (x1 : Nat) (x2 : Int64) (x4 : Nat) (x5 : Int32), k_11 h x0 x1 x2 x4 x5 = some o → Le h o) (mk_22 : ∀ (h : Hp) (x0 : Nat) (x1 : Nat) (x2 : Int64) (x4 : Nat) (x5 : Int32) (x6 : Int32) (x7 : Int32), k_22 h x0 x1 x2 x4 x5 x6 x7 = some o → Le h o) {h : Hp} {x0 : Nat} {x1 : Nat} {x2 : Int64} {x4 : Nat} {x5 : Int32} {x6 : Int32} {x7 : Int32} {x8 : Int32} {t0 : Int32} (hE : sX7_writeRanks_65 F k_11 k_22 h x0 x1 x2 x4 x5 x6 x7 x8 t0 = some o) : Le h o := by
  rcases br_e hE with ⟨_, hE⟩ | ⟨_, hE⟩
  · obtain ⟨r_2, er_2, hE⟩ := cl_e hE
    obtain ⟨g_3, hE⟩ := gd_e hE
    rcases br_e hE with ⟨_, hE⟩ | ⟨_, hE⟩
    · obtain ⟨v_5, ev_5, hE⟩ := nm_e2 hE
      exact moX7_writeRanks_128 mk_11 mk_22 hE
    · exact moX7_writeRanks_89 mk_11 mk_22 hE
  · exact moX7_writeRanks_89 mk_11 mk_22 hE
set_option maxRecDepth 20000 in
theorem moX7_writeRanks_22 {o : Hp} {k_11 : Hp → Nat → Nat → Int64 → Nat → Int32 → Option (Hp)} {F : Nat} (mk_11 : ∀ (h : Hp) (x0 : Nat) (x1 : Nat) (x2 : Int64) (x4 : Nat) (x5 : Int32), k_11 h x0 x1 x2 x4 x5 = some o → Le h o) : ∀ (f : Nat) {h : Hp} {x0 : Nat} {x1 : Nat} {x2 : Int64} {x4 : Nat} {x5 : Int32} {x6 : Int32} {x7 : Int32}, sX7_writeRanks_22 F k_11 f h x0 x1 x2 x4 x5 x6 x7 = some o → Le h o := by
  intro f
  induction f with
  | zero =>
    intro h x0 x1 x2 x4 x5 x6 x7 hE
    rw [sX7_writeRanks_22] at hE
    cases hE
  | succ f ih =>
    intro h x0 x1 x2 x4 x5 x6 x7 hE
    rw [sX7_writeRanks_22] at hE
    have mk_22 : ∀ (h : Hp) (x0 : Nat) (x1 : Nat) (x2 : Int64) (x4 : Nat) (x5 : Int32) (x6 : Int32) (x7 : Int32), sX7_writeRanks_22 F k_11 f h x0 x1 x2 x4 x5 x6 x7 = some o → Le h o := fun h x0 x1 x2 x4 x5 x6 x7 hE => ih hE
    obtain ⟨r_1, er_1, hE⟩ := cl_e hE
    rcases br_e hE with ⟨_, hE⟩ | ⟨_, hE⟩
    · obtain ⟨o_3, eo_3, hE⟩ := cl_e hE
      refine (moX7_writeEmpty eo_3).tr ?_
      rcases br_e hE with ⟨_, hE⟩ | ⟨_, hE⟩
      · exact moX7_writeRanks_153 mk_11 hE
      · obtain ⟨o_5, eo_5, hE⟩ := cl_e hE
        refine (moX9_append eo_5).tr ?_
        exact moX7_writeRanks_153 mk_11 hE
    · obtain ⟨r_6, er_6, hE⟩ := cl_e hE
      obtain ⟨v_7, ev_7, hE⟩ := nm_e2 hE
      rcases br_e hE with ⟨_, hE⟩ | ⟨_, hE⟩
      · exact moX7_writeRanks_65 mk_11 mk_22 hE
      · exact moX7_writeRanks_65 mk_11 mk_22 hE
set_option maxRecDepth 20000 in
theorem moX7_writeRanks_11 {o : Hp} {F : Nat} : ∀ (f : Nat) {h : Hp} {x0 : Nat} {x1 : Nat} {x2 : Int64} {x4 : Nat} {x5 : Int32}, sX7_writeRanks_11 F f h x0 x1 x2 x4 x5 = some o → Le h o := by
  intro f
  induction f with
  | zero =>
    intro h x0 x1 x2 x4 x5 hE
    rw [sX7_writeRanks_11] at hE
    cases hE
  | succ f ih =>
    intro h x0 x1 x2 x4 x5 hE
    rw [sX7_writeRanks_11] at hE
    have mk_11 : ∀ (h : Hp) (x0 : Nat) (x1 : Nat) (x2 : Int64) (x4 : Nat) (x5 : Int32), sX7_writeRanks_11 F f h x0 x1 x2 x4 x5 = some o → Le h o := fun h x0 x1 x2 x4 x5 hE => ih hE
    rcases br_e hE with ⟨_, hE⟩ | ⟨_, hE⟩
    · exact le_some1 hE
    · exact moX7_writeRanks_22 mk_11 _ hE
set_option maxRecDepth 20000 in
theorem moX7_writeRanks {o : Hp} {F : Nat} {h : Hp} {x0 : Nat} {x1 : Nat} {x2 : Int64} {x4 : Nat} (hE : sX7_writeRanks F h x0 x1 x2 x4 = some o) : Le h o := by
  obtain ⟨r_1, er_1, hE⟩ := cl_e hE
  obtain ⟨v_2, ev_2, hE⟩ := nm_e2 hE
  exact moX7_writeRanks_11 _ hE
set_option maxRecDepth 20000 in
theorem bX7_writeRanks_153 {p : Program} {l : Launch} {e : Env} {s : State} {m : MethodId} {args : Array Value} {below : List Frame} {meth : Method} {c : Code} {X : Ec} {h0 : Hp} {o : Hp} {k_11 : Hp → Nat → Nat → Int64 → Nat → Int32 → Option (Hp)} {F : Nat} (C : Cx X p s m args meth c RX7 cX7_writeRanks 10 none "writeRanks") (hk_11 : ∀ (h : Hp) (x0 : Nat) (x1 : Nat) (x2 : Int64) (x4 : Nat) (x5 : Int32) (H : Heap) (locs : List Loc), hK h x0 = 7 → hK h x1 = 3 → hK h x4 = 9 → Km h0 h → Wx X h H → va_S (aA (eB X)) s.heap H locs → ∀ (ls : Array Slot), lv_has ls 10 [(0, .ref x0), (1, .ref x1), (2, .long x2), (4, .ref x4), (5, .int x5)] → k_11 h x0 x1 x2 x4 x5 = some o → W p l e (rm 2 42) s m args below meth c H locs 0 0 (MQ below (QV X h0 o) args s 0 0 (aA (eB X))) (F0 m 11 ls [])) {h : Hp} {x0 : Nat} {x1 : Nat} {x2 : Int64} {x4 : Nat} {x5 : Int32} {H : Heap} {locs : List Loc} (k_x0 : hK h x0 = 7) (k_x1 : hK h x1 = 3) (k_x4 : hK h x4 = 9) (hkm : Km h0 h) (hW : Wx X h H) (hZ : va_S (aA (eB X)) s.heap H locs) (ls : Array Slot) (hl : lv_has ls 10 [(0, .ref x0), (1, .ref x1), (2, .long x2), (4, .ref x4), (5, .int x5)]) (hE : sX7_writeRanks_153 F k_11 h x0 x1 x2 x4 x5 = some o) : W p l e (rm 2 42) s m args below meth c H locs 0 0 (MQ below (QV X h0 o) args s 0 0 (aA (eB X))) (F0 m 153 ls []) := by
  obtain ⟨v_1, ev_1, hE⟩ := nm_e2 hE
  refine lv_iinc (v := v_1) (lv' := [(5, .int v_1), (0, .ref x0), (1, .ref x1), (2, .long x2), (4, .ref x4)]) C.1 C.2.1 dX7_writeRanks_153 hl (k := 4) rfl (by rw [ev_1]; rfl) (by decide) rfl (fun ls hl => ?_)
  refine lv_goto (tgt := 11) C.1 C.2.1 dX7_writeRanks_156 (by decide) ?_
  exact hk_11 _ _ _ _ _ _ _ _ k_x0 k_x1 k_x4 hkm hW hZ _ (lv_sub hl [1, 2, 3, 4, 0] rfl) hE
set_option maxRecDepth 20000 in
theorem bX7_writeRanks_128 {p : Program} {l : Launch} {e : Env} {s : State} {m : MethodId} {args : Array Value} {below : List Frame} {meth : Method} {c : Code} {X : Ec} {h0 : Hp} {o : Hp} {k_11 : Hp → Nat → Nat → Int64 → Nat → Int32 → Option (Hp)} {k_22 : Hp → Nat → Nat → Int64 → Nat → Int32 → Int32 → Int32 → Option (Hp)} {F : Nat} (C : Cx X p s m args meth c RX7 cX7_writeRanks 10 none "writeRanks") (hk_11 : ∀ (h : Hp) (x0 : Nat) (x1 : Nat) (x2 : Int64) (x4 : Nat) (x5 : Int32) (H : Heap) (locs : List Loc), hK h x0 = 7 → hK h x1 = 3 → hK h x4 = 9 → Km h0 h → Wx X h H → va_S (aA (eB X)) s.heap H locs → ∀ (ls : Array Slot), lv_has ls 10 [(0, .ref x0), (1, .ref x1), (2, .long x2), (4, .ref x4), (5, .int x5)] → k_11 h x0 x1 x2 x4 x5 = some o → W p l e (rm 2 42) s m args below meth c H locs 0 0 (MQ below (QV X h0 o) args s 0 0 (aA (eB X))) (F0 m 11 ls [])) (hk_22 : ∀ (h : Hp) (x0 : Nat) (x1 : Nat) (x2 : Int64) (x4 : Nat) (x5 : Int32) (x6 : Int32) (x7 : Int32) (H : Heap) (locs : List Loc), hK h x0 = 7 → hK h x1 = 3 → hK h x4 = 9 → Km h0 h → Wx X h H → va_S (aA (eB X)) s.heap H locs → ∀ (ls : Array Slot), lv_has ls 10 [(0, .ref x0), (1, .ref x1), (2, .long x2), (4, .ref x4), (5, .int x5), (6, .int x6), (7, .int x7)] → k_22 h x0 x1 x2 x4 x5 x6 x7 = some o → W p l e (rm 2 42) s m args below meth c H locs 0 0 (MQ below (QV X h0 o) args s 0 0 (aA (eB X))) (F0 m 22 ls [])) {h : Hp} {x0 : Nat} {x1 : Nat} {x2 : Int64} {x4 : Nat} {x5 : Int32} {x6 : Int32} {x7 : Int32} {H : Heap} {locs : List Loc} (k_x0 : hK h x0 = 7) (k_x1 : hK h x1 = 3) (k_x4 : hK h x4 = 9) (hkm : Km h0 h) (hW : Wx X h H) (hZ : va_S (aA (eB X)) s.heap H locs) (ls : Array Slot) (hl : lv_has ls 10 [(0, .ref x0), (1, .ref x1), (2, .long x2), (4, .ref x4), (5, .int x5), (6, .int x6), (7, .int x7)]) (hE : sX7_writeRanks_128 F k_11 k_22 h x0 x1 x2 x4 x5 x6 x7 = some o) : W p l e (rm 2 42) s m args below meth c H locs 0 0 (MQ below (QV X h0 o) args s 0 0 (aA (eB X))) (F0 m 128 ls []) := by
  obtain ⟨v_1, ev_1, hE⟩ := nm_e2 hE
  refine lv_iinc (v := v_1) (lv' := [(7, .int v_1), (0, .ref x0), (1, .ref x1), (2, .long x2), (4, .ref x4), (5, .int x5), (6, .int x6)]) C.1 C.2.1 dX7_writeRanks_128 hl (k := 6) rfl (by rw [ev_1]; rfl) (by decide) rfl (fun ls hl => ?_)
  refine lv_goto (tgt := 22) C.1 C.2.1 dX7_writeRanks_131 (by decide) ?_
  exact hk_22 _ _ _ _ _ _ _ _ _ _ k_x0 k_x1 k_x4 hkm hW hZ _ (lv_sub hl [1, 2, 3, 4, 5, 6, 0] rfl) hE
set_option maxRecDepth 20000 in
theorem bX7_writeRanks_125 {p : Program} {l : Launch} {e : Env} {s : State} {m : MethodId} {args : Array Value} {below : List Frame} {meth : Method} {c : Code} {X : Ec} {h0 : Hp} {o : Hp} {k_11 : Hp → Nat → Nat → Int64 → Nat → Int32 → Option (Hp)} {k_22 : Hp → Nat → Nat → Int64 → Nat → Int32 → Int32 → Int32 → Option (Hp)} {F : Nat} (C : Cx X p s m args meth c RX7 cX7_writeRanks 10 none "writeRanks") (hk_11 : ∀ (h : Hp) (x0 : Nat) (x1 : Nat) (x2 : Int64) (x4 : Nat) (x5 : Int32) (H : Heap) (locs : List Loc), hK h x0 = 7 → hK h x1 = 3 → hK h x4 = 9 → Km h0 h → Wx X h H → va_S (aA (eB X)) s.heap H locs → ∀ (ls : Array Slot), lv_has ls 10 [(0, .ref x0), (1, .ref x1), (2, .long x2), (4, .ref x4), (5, .int x5)] → k_11 h x0 x1 x2 x4 x5 = some o → W p l e (rm 2 42) s m args below meth c H locs 0 0 (MQ below (QV X h0 o) args s 0 0 (aA (eB X))) (F0 m 11 ls [])) (hk_22 : ∀ (h : Hp) (x0 : Nat) (x1 : Nat) (x2 : Int64) (x4 : Nat) (x5 : Int32) (x6 : Int32) (x7 : Int32) (H : Heap) (locs : List Loc), hK h x0 = 7 → hK h x1 = 3 → hK h x4 = 9 → Km h0 h → Wx X h H → va_S (aA (eB X)) s.heap H locs → ∀ (ls : Array Slot), lv_has ls 10 [(0, .ref x0), (1, .ref x1), (2, .long x2), (4, .ref x4), (5, .int x5), (6, .int x6), (7, .int x7)] → k_22 h x0 x1 x2 x4 x5 x6 x7 = some o → W p l e (rm 2 42) s m args below meth c H locs 0 0 (MQ below (QV X h0 o) args s 0 0 (aA (eB X))) (F0 m 22 ls [])) {h : Hp} {x0 : Nat} {x1 : Nat} {x2 : Int64} {x4 : Nat} {x5 : Int32} {x6 : Int32} {x7 : Int32} {t0 : Int32} {t1 : Nat} {H : Heap} {locs : List Loc} (k_x0 : hK h x0 = 7) (k_x1 : hK h x1 = 3) (k_x4 : hK h x4 = 9) (k_t1 : hK h t1 = 9) (hkm : Km h0 h) (hW : Wx X h H) (hZ : va_S (aA (eB X)) s.heap H locs) (ls : Array Slot) (hl : lv_has ls 10 [(0, .ref x0), (1, .ref x1), (2, .long x2), (4, .ref x4), (5, .int x5), (6, .int x6), (7, .int x7)]) (hE : sX7_writeRanks_125 F k_11 k_22 h x0 x1 x2 x4 x5 x6 x7 t0 t1 = some o) : W p l e (rm 2 42) s m args below meth c H locs 0 0 (MQ below (QV X h0 o) args s 0 0 (aA (eB X))) (F0 m 125 ls [.int t0, .ref t1]) := by
  obtain ⟨o_1, eo_1, hE⟩ := cl_e hE
  refine x_kV (o := o_1) (z_runV (As := [.int t0]) (rest := []) C (ct_X9_append l X k_t1 eo_1) cw_X7_118 hW hZ k_t1 (by decide) rfl rfl rfl hl.1 (Nat.le_of_ble_eq_true rfl) rfl dX7_writeRanks_125 ⟨Nat.le_of_ble_eq_true rfl, Nat.le_of_ble_eq_true rfl⟩ ⟨Nat.le_refl _, Nat.le_refl _⟩) hZ (fun _ _ hW km hZ => ?_)
  replace hkm := hkm.tr km
  replace k_x0 := km.at k_x0 (by decide)
  replace k_x1 := km.at k_x1 (by decide)
  replace k_x4 := km.at k_x4 (by decide)
  exact bX7_writeRanks_128 C hk_11 hk_22 k_x0 k_x1 k_x4 hkm hW hZ _ (lv_sub hl [0, 1, 2, 3, 4, 5, 6] rfl) hE
set_option maxRecDepth 20000 in
theorem bX7_writeRanks_89 {p : Program} {l : Launch} {e : Env} {s : State} {m : MethodId} {args : Array Value} {below : List Frame} {meth : Method} {c : Code} {X : Ec} {h0 : Hp} {o : Hp} {k_11 : Hp → Nat → Nat → Int64 → Nat → Int32 → Option (Hp)} {k_22 : Hp → Nat → Nat → Int64 → Nat → Int32 → Int32 → Int32 → Option (Hp)} {F : Nat} (C : Cx X p s m args meth c RX7 cX7_writeRanks 10 none "writeRanks") (hk_11 : ∀ (h : Hp) (x0 : Nat) (x1 : Nat) (x2 : Int64) (x4 : Nat) (x5 : Int32) (H : Heap) (locs : List Loc), hK h x0 = 7 → hK h x1 = 3 → hK h x4 = 9 → Km h0 h → Wx X h H → va_S (aA (eB X)) s.heap H locs → ∀ (ls : Array Slot), lv_has ls 10 [(0, .ref x0), (1, .ref x1), (2, .long x2), (4, .ref x4), (5, .int x5)] → k_11 h x0 x1 x2 x4 x5 = some o → W p l e (rm 2 42) s m args below meth c H locs 0 0 (MQ below (QV X h0 o) args s 0 0 (aA (eB X))) (F0 m 11 ls [])) (hk_22 : ∀ (h : Hp) (x0 : Nat) (x1 : Nat) (x2 : Int64) (x4 : Nat) (x5 : Int32) (x6 : Int32) (x7 : Int32) (H : Heap) (locs : List Loc), hK h x0 = 7 → hK h x1 = 3 → hK h x4 = 9 → Km h0 h → Wx X h H → va_S (aA (eB X)) s.heap H locs → ∀ (ls : Array Slot), lv_has ls 10 [(0, .ref x0), (1, .ref x1), (2, .long x2), (4, .ref x4), (5, .int x5), (6, .int x6), (7, .int x7)] → k_22 h x0 x1 x2 x4 x5 x6 x7 = some o → W p l e (rm 2 42) s m args below meth c H locs 0 0 (MQ below (QV X h0 o) args s 0 0 (aA (eB X))) (F0 m 22 ls [])) {h : Hp} {x0 : Nat} {x1 : Nat} {x2 : Int64} {x4 : Nat} {x5 : Int32} {x6 : Int32} {x7 : Int32} {x8 : Int32} {x9 : Int32} {H : Heap} {locs : List Loc} (k_x0 : hK h x0 = 7) (k_x1 : hK h x1 = 3) (k_x4 : hK h x4 = 9) (hkm : Km h0 h) (hW : Wx X h H) (hZ : va_S (aA (eB X)) s.heap H locs) (ls : Array Slot) (hl : lv_has ls 10 [(0, .ref x0), (1, .ref x1), (2, .long x2), (4, .ref x4), (5, .int x5), (6, .int x6), (7, .int x7), (8, .int x8), (9, .int x9)]) (hE : sX7_writeRanks_89 F k_11 k_22 h x0 x1 x2 x4 x5 x6 x7 x8 x9 = some o) : W p l e (rm 2 42) s m args below meth c H locs 0 0 (MQ below (QV X h0 o) args s 0 0 (aA (eB X))) (F0 m 89 ls []) := by
  refine lv_iload C.1 C.2.1 dX7_writeRanks_89 (lv_at hl 5 rfl) ?_
  refine lv_aload C.1 C.2.1 dX7_writeRanks_91 (lv_at hl 3 rfl) ?_
  obtain ⟨o_1, eo_1, hE⟩ := cl_e hE
  refine x_kV (o := o_1) (z_runS (As := [.int x6, .ref x4]) (rest := []) C (ct_X7_writeEmpty l X k_x4 eo_1) cw_X7_138 hW hZ rfl hl.1 (Nat.le_of_ble_eq_true rfl) rfl dX7_writeRanks_93 ⟨Nat.le_of_ble_eq_true rfl, Nat.le_of_ble_eq_true rfl⟩ ⟨Nat.le_refl _, Nat.le_refl _⟩) hZ (fun _ _ hW km hZ => ?_)
  replace hkm := hkm.tr km
  replace k_x0 := km.at k_x0 (by decide)
  replace k_x1 := km.at k_x1 (by decide)
  replace k_x4 := km.at k_x4 (by decide)
  refine lv_iconst (v := (0 : Int32)) C.1 C.2.1 dX7_writeRanks_96 (by decide) ?_
  refine lv_istore (lv' := [(6, .int (0 : Int32)), (0, .ref x0), (1, .ref x1), (2, .long x2), (4, .ref x4), (5, .int x5), (7, .int x7), (8, .int x8), (9, .int x9)]) C.1 C.2.1 dX7_writeRanks_97 hl (by decide) rfl (fun ls hl => ?_)
  refine lv_aload C.1 C.2.1 dX7_writeRanks_99 (lv_at hl 4 rfl) ?_
  refine lv_iload C.1 C.2.1 dX7_writeRanks_101 (lv_at hl 8 rfl) ?_
  refine lv_if_eq (tgt := 111) C.1 C.2.1 dX7_writeRanks_103 (by decide) (fun c_2 => ?_) (fun c_2 => ?_)
  · have hE := br_p hE c_2
    refine lv_aload_n C.1 C.2.1 dX7_writeRanks_111 rfl (lv_at hl 1 rfl) ?_
    obtain ⟨r_3, er_3, hE⟩ := cl_e hE
    refine gf_X7_9 C hW k_x0 er_3 dX7_writeRanks_112 (fun k_r_3 => ?_)
    refine lv_aload_n C.1 C.2.1 dX7_writeRanks_115 rfl (lv_at hl 2 rfl) ?_
    obtain ⟨r_4, er_4, hE⟩ := cl_e hE
    refine gf_X7_134 C hW k_x1 er_4 dX7_writeRanks_116 (fun k_r_4 => ?_)
    refine lv_iload C.1 C.2.1 dX7_writeRanks_119 (lv_at hl 7 rfl) ?_
    obtain ⟨g_5, hE⟩ := gd_e hE
    refine y_bald C hW k_r_4 g_5 dX7_writeRanks_121 ?_
    obtain ⟨o_6, eo_6, hE⟩ := cl_e hE
    refine x_kI (o := o_6) (z_runV (As := [.int (hI o_1 r_4 x8.toNatClampNeg)]) (rest := [.ref x4]) C (ct_X1_letterOf l X k_r_3 eo_6) cw_X7_142 hW hZ k_r_3 (by decide) rfl rfl rfl hl.1 (Nat.le_of_ble_eq_true rfl) rfl dX7_writeRanks_122 ⟨Nat.le_of_ble_eq_true rfl, Nat.le_of_ble_eq_true rfl⟩ ⟨Nat.le_refl _, Nat.le_refl _⟩) hZ (fun _ _ hW km hZ => ?_)
    replace hkm := hkm.tr km
    replace k_x0 := km.at k_x0 (by decide)
    replace k_x1 := km.at k_x1 (by decide)
    replace k_x4 := km.at k_x4 (by decide)
    exact bX7_writeRanks_125 C hk_11 hk_22 k_x0 k_x1 k_x4 k_x4 hkm hW hZ _ (lv_sub hl [1, 2, 3, 4, 5, 0, 6] rfl) hE
  · have hE := br_n hE c_2
    refine lv_bipush (v := (63 : Int32)) C.1 C.2.1 dX7_writeRanks_106 (by decide) ?_
    refine lv_goto (tgt := 125) C.1 C.2.1 dX7_writeRanks_108 (by decide) ?_
    exact bX7_writeRanks_125 C hk_11 hk_22 k_x0 k_x1 k_x4 k_x4 hkm hW hZ _ (lv_sub hl [1, 2, 3, 4, 5, 0, 6] rfl) hE
set_option maxRecDepth 20000 in
theorem bX7_writeRanks_65 {p : Program} {l : Launch} {e : Env} {s : State} {m : MethodId} {args : Array Value} {below : List Frame} {meth : Method} {c : Code} {X : Ec} {h0 : Hp} {o : Hp} {k_11 : Hp → Nat → Nat → Int64 → Nat → Int32 → Option (Hp)} {k_22 : Hp → Nat → Nat → Int64 → Nat → Int32 → Int32 → Int32 → Option (Hp)} {F : Nat} (C : Cx X p s m args meth c RX7 cX7_writeRanks 10 none "writeRanks") (hk_11 : ∀ (h : Hp) (x0 : Nat) (x1 : Nat) (x2 : Int64) (x4 : Nat) (x5 : Int32) (H : Heap) (locs : List Loc), hK h x0 = 7 → hK h x1 = 3 → hK h x4 = 9 → Km h0 h → Wx X h H → va_S (aA (eB X)) s.heap H locs → ∀ (ls : Array Slot), lv_has ls 10 [(0, .ref x0), (1, .ref x1), (2, .long x2), (4, .ref x4), (5, .int x5)] → k_11 h x0 x1 x2 x4 x5 = some o → W p l e (rm 2 42) s m args below meth c H locs 0 0 (MQ below (QV X h0 o) args s 0 0 (aA (eB X))) (F0 m 11 ls [])) (hk_22 : ∀ (h : Hp) (x0 : Nat) (x1 : Nat) (x2 : Int64) (x4 : Nat) (x5 : Int32) (x6 : Int32) (x7 : Int32) (H : Heap) (locs : List Loc), hK h x0 = 7 → hK h x1 = 3 → hK h x4 = 9 → Km h0 h → Wx X h H → va_S (aA (eB X)) s.heap H locs → ∀ (ls : Array Slot), lv_has ls 10 [(0, .ref x0), (1, .ref x1), (2, .long x2), (4, .ref x4), (5, .int x5), (6, .int x6), (7, .int x7)] → k_22 h x0 x1 x2 x4 x5 x6 x7 = some o → W p l e (rm 2 42) s m args below meth c H locs 0 0 (MQ below (QV X h0 o) args s 0 0 (aA (eB X))) (F0 m 22 ls [])) {h : Hp} {x0 : Nat} {x1 : Nat} {x2 : Int64} {x4 : Nat} {x5 : Int32} {x6 : Int32} {x7 : Int32} {x8 : Int32} {t0 : Int32} {H : Heap} {locs : List Loc} (k_x0 : hK h x0 = 7) (k_x1 : hK h x1 = 3) (k_x4 : hK h x4 = 9) (hkm : Km h0 h) (hW : Wx X h H) (hZ : va_S (aA (eB X)) s.heap H locs) (ls : Array Slot) (hl : lv_has ls 10 [(0, .ref x0), (1, .ref x1), (2, .long x2), (4, .ref x4), (5, .int x5), (6, .int x6), (7, .int x7), (8, .int x8)]) (hE : sX7_writeRanks_65 F k_11 k_22 h x0 x1 x2 x4 x5 x6 x7 x8 t0 = some o) : W p l e (rm 2 42) s m args below meth c H locs 0 0 (MQ below (QV X h0 o) args s 0 0 (aA (eB X))) (F0 m 65 ls [.int t0]) := by
  refine lv_istore (lv' := [(9, .int t0), (0, .ref x0), (1, .ref x1), (2, .long x2), (4, .ref x4), (5, .int x5), (6, .int x6), (7, .int x7), (8, .int x8)]) C.1 C.2.1 dX7_writeRanks_65 hl (by decide) rfl (fun ls hl => ?_)
  refine lv_iload C.1 C.2.1 dX7_writeRanks_67 (lv_at hl 0 rfl) ?_
  refine lv_if_ne (tgt := 89) C.1 C.2.1 dX7_writeRanks_69 (by decide) (fun c_1 => ?_) (fun c_1 => ?_)
  · have hE := br_n hE c_1
    exact bX7_writeRanks_89 C hk_11 hk_22 k_x0 k_x1 k_x4 hkm hW hZ _ (lv_sub hl [1, 2, 3, 4, 5, 6, 7, 8, 0] rfl) hE
  · have hE := br_p hE c_1
    refine lv_aload_n C.1 C.2.1 dX7_writeRanks_72 rfl (lv_at hl 2 rfl) ?_
    obtain ⟨r_2, er_2, hE⟩ := cl_e hE
    refine gf_X7_134 C hW k_x1 er_2 dX7_writeRanks_73 (fun k_r_2 => ?_)
    refine lv_iload C.1 C.2.1 dX7_writeRanks_76 (lv_at hl 8 rfl) ?_
    obtain ⟨g_3, hE⟩ := gd_e hE
    refine y_bald C hW k_r_2 g_3 dX7_writeRanks_78 ?_
    refine lv_iconst (v := (-1 : Int32)) C.1 C.2.1 dX7_writeRanks_79 (by decide) ?_
    refine lv_icmp_ne (tgt := 89) C.1 C.2.1 dX7_writeRanks_80 (by decide) (fun c_4 => ?_) (fun c_4 => ?_)
    · have hE := br_n hE c_4
      exact bX7_writeRanks_89 C hk_11 hk_22 k_x0 k_x1 k_x4 hkm hW hZ _ (lv_sub hl [1, 2, 3, 4, 5, 6, 7, 8, 0] rfl) hE
    · have hE := br_p hE c_4
      obtain ⟨v_5, ev_5, hE⟩ := nm_e2 hE
      refine lv_iinc (v := v_5) (lv' := [(6, .int v_5), (9, .int t0), (0, .ref x0), (1, .ref x1), (2, .long x2), (4, .ref x4), (5, .int x5), (7, .int x7), (8, .int x8)]) C.1 C.2.1 dX7_writeRanks_83 hl (k := 6) rfl (by rw [ev_5]; rfl) (by decide) rfl (fun ls hl => ?_)
      refine lv_goto (tgt := 128) C.1 C.2.1 dX7_writeRanks_86 (by decide) ?_
      exact bX7_writeRanks_128 C hk_11 hk_22 k_x0 k_x1 k_x4 hkm hW hZ _ (lv_sub hl [2, 3, 4, 5, 6, 0, 7] rfl) hE
set_option maxRecDepth 20000 in
theorem bX7_writeRanks_22 {p : Program} {l : Launch} {e : Env} {s : State} {m : MethodId} {args : Array Value} {below : List Frame} {meth : Method} {c : Code} {X : Ec} {h0 : Hp} {o : Hp} {k_11 : Hp → Nat → Nat → Int64 → Nat → Int32 → Option (Hp)} {F : Nat} (C : Cx X p s m args meth c RX7 cX7_writeRanks 10 none "writeRanks") (hk_11 : ∀ (h : Hp) (x0 : Nat) (x1 : Nat) (x2 : Int64) (x4 : Nat) (x5 : Int32) (H : Heap) (locs : List Loc), hK h x0 = 7 → hK h x1 = 3 → hK h x4 = 9 → Km h0 h → Wx X h H → va_S (aA (eB X)) s.heap H locs → ∀ (ls : Array Slot), lv_has ls 10 [(0, .ref x0), (1, .ref x1), (2, .long x2), (4, .ref x4), (5, .int x5)] → k_11 h x0 x1 x2 x4 x5 = some o → W p l e (rm 2 42) s m args below meth c H locs 0 0 (MQ below (QV X h0 o) args s 0 0 (aA (eB X))) (F0 m 11 ls [])) : ∀ (f : Nat) {h : Hp} {x0 : Nat} {x1 : Nat} {x2 : Int64} {x4 : Nat} {x5 : Int32} {x6 : Int32} {x7 : Int32} {H : Heap} {locs : List Loc} (k_x0 : hK h x0 = 7) (k_x1 : hK h x1 = 3) (k_x4 : hK h x4 = 9), Km h0 h → Wx X h H → va_S (aA (eB X)) s.heap H locs → ∀ (ls : Array Slot), lv_has ls 10 [(0, .ref x0), (1, .ref x1), (2, .long x2), (4, .ref x4), (5, .int x5), (6, .int x6), (7, .int x7)] → sX7_writeRanks_22 F k_11 f h x0 x1 x2 x4 x5 x6 x7 = some o → W p l e (rm 2 42) s m args below meth c H locs 0 0 (MQ below (QV X h0 o) args s 0 0 (aA (eB X))) (F0 m 22 ls []) := by
  intro f
  induction f with
  | zero =>
    intro h x0 x1 x2 x4 x5 x6 x7 H locs k_x0 k_x1 k_x4 hkm hW hZ ls hl hE
    rw [sX7_writeRanks_22] at hE
    cases hE
  | succ f ih =>
    intro h x0 x1 x2 x4 x5 x6 x7 H locs k_x0 k_x1 k_x4 hkm hW hZ ls hl hE
    rw [sX7_writeRanks_22] at hE
    have hk_22 : ∀ (h : Hp) (x0 : Nat) (x1 : Nat) (x2 : Int64) (x4 : Nat) (x5 : Int32) (x6 : Int32) (x7 : Int32) (H : Heap) (locs : List Loc), hK h x0 = 7 → hK h x1 = 3 → hK h x4 = 9 → Km h0 h → Wx X h H → va_S (aA (eB X)) s.heap H locs → ∀ (ls : Array Slot), lv_has ls 10 [(0, .ref x0), (1, .ref x1), (2, .long x2), (4, .ref x4), (5, .int x5), (6, .int x6), (7, .int x7)] → sX7_writeRanks_22 F k_11 f h x0 x1 x2 x4 x5 x6 x7 = some o → W p l e (rm 2 42) s m args below meth c H locs 0 0 (MQ below (QV X h0 o) args s 0 0 (aA (eB X))) (F0 m 22 ls []) := fun h x0 x1 x2 x4 x5 x6 x7 H locs k_x0 k_x1 k_x4 a b c ls hl hE => ih k_x0 k_x1 k_x4 a b c ls hl hE
    refine lv_iload C.1 C.2.1 dX7_writeRanks_22 (lv_at hl 6 rfl) ?_
    refine lv_aload_n C.1 C.2.1 dX7_writeRanks_24 rfl (lv_at hl 0 rfl) ?_
    obtain ⟨r_1, er_1, hE⟩ := cl_e hE
    refine gf_X7_9 C hW k_x0 er_1 dX7_writeRanks_25 (fun k_r_1 => ?_)
    refine gf_X7_65 C hW k_r_1 dX7_writeRanks_28 ?_
    refine lv_icmp_ge (tgt := 134) C.1 C.2.1 dX7_writeRanks_31 (by decide) (fun c_2 => ?_) (fun c_2 => ?_)
    · have hE := br_p hE c_2
      refine lv_iload C.1 C.2.1 dX7_writeRanks_134 (lv_at hl 5 rfl) ?_
      refine lv_aload C.1 C.2.1 dX7_writeRanks_136 (lv_at hl 3 rfl) ?_
      obtain ⟨o_3, eo_3, hE⟩ := cl_e hE
      refine x_kV (o := o_3) (z_runS (As := [.int x6, .ref x4]) (rest := []) C (ct_X7_writeEmpty l X k_x4 eo_3) cw_X7_138 hW hZ rfl hl.1 (Nat.le_of_ble_eq_true rfl) rfl dX7_writeRanks_138 ⟨Nat.le_of_ble_eq_true rfl, Nat.le_of_ble_eq_true rfl⟩ ⟨Nat.le_refl _, Nat.le_refl _⟩) hZ (fun _ _ hW km hZ => ?_)
      replace hkm := hkm.tr km
      replace k_x0 := km.at k_x0 (by decide)
      replace k_x1 := km.at k_x1 (by decide)
      replace k_x4 := km.at k_x4 (by decide)
      refine lv_iload C.1 C.2.1 dX7_writeRanks_141 (lv_at hl 4 rfl) ?_
      refine lv_if_le (tgt := 153) C.1 C.2.1 dX7_writeRanks_143 (by decide) (fun c_4 => ?_) (fun c_4 => ?_)
      · have hE := br_p hE c_4
        exact bX7_writeRanks_153 C hk_11 k_x0 k_x1 k_x4 hkm hW hZ _ (lv_sub hl [0, 1, 2, 3, 4] rfl) hE
      · have hE := br_n hE c_4
        refine lv_aload C.1 C.2.1 dX7_writeRanks_146 (lv_at hl 3 rfl) ?_
        refine lv_bipush (v := (47 : Int32)) C.1 C.2.1 dX7_writeRanks_148 (by decide) ?_
        obtain ⟨o_5, eo_5, hE⟩ := cl_e hE
        refine x_kV (o := o_5) (z_runV (As := [.int (47 : Int32)]) (rest := []) C (ct_X9_append l X k_x4 eo_5) cw_X7_118 hW hZ k_x4 (by decide) rfl rfl rfl hl.1 (Nat.le_of_ble_eq_true rfl) rfl dX7_writeRanks_150 ⟨Nat.le_of_ble_eq_true rfl, Nat.le_of_ble_eq_true rfl⟩ ⟨Nat.le_refl _, Nat.le_refl _⟩) hZ (fun _ _ hW km hZ => ?_)
        replace hkm := hkm.tr km
        replace k_x0 := km.at k_x0 (by decide)
        replace k_x1 := km.at k_x1 (by decide)
        replace k_x4 := km.at k_x4 (by decide)
        exact bX7_writeRanks_153 C hk_11 k_x0 k_x1 k_x4 hkm hW hZ _ (lv_sub hl [0, 1, 2, 3, 4] rfl) hE
    · have hE := br_n hE c_2
      refine lv_iload C.1 C.2.1 dX7_writeRanks_34 (lv_at hl 4 rfl) ?_
      refine lv_aload_n C.1 C.2.1 dX7_writeRanks_36 rfl (lv_at hl 0 rfl) ?_
      obtain ⟨r_6, er_6, hE⟩ := cl_e hE
      refine gf_X7_9 C hW k_x0 er_6 dX7_writeRanks_37 (fun k_r_6 => ?_)
      refine gf_X7_65 C hW k_r_6 dX7_writeRanks_40 ?_
      refine lv_imul C.1 C.2.1 dX7_writeRanks_43 ?_
      refine lv_iload C.1 C.2.1 dX7_writeRanks_44 (lv_at hl 6 rfl) ?_
      refine lv_iadd C.1 C.2.1 dX7_writeRanks_46 ?_
      obtain ⟨v_7, ev_7, hE⟩ := nm_e2 hE
      refine x_nmI ev_7 ?_
      refine lv_istore (lv' := [(8, .int v_7), (0, .ref x0), (1, .ref x1), (2, .long x2), (4, .ref x4), (5, .int x5), (6, .int x6), (7, .int x7)]) C.1 C.2.1 dX7_writeRanks_47 hl (by decide) rfl (fun ls hl => ?_)
      refine lv_lload_n C.1 C.2.1 dX7_writeRanks_49 rfl (lv_at hl 3 rfl) ?_
      refine lv_iload C.1 C.2.1 dX7_writeRanks_50 (lv_at hl 0 rfl) ?_
      refine lv_lushr C.1 C.2.1 dX7_writeRanks_52 rfl ?_
      refine lv_lconst (v := (1 : Int64)) C.1 C.2.1 dX7_writeRanks_53 (by decide) ?_
      refine lv_land C.1 C.2.1 dX7_writeRanks_54 ?_
      refine lv_lconst (v := (0 : Int64)) C.1 C.2.1 dX7_writeRanks_55 (by decide) ?_
      refine W.lcmp C.1 C.2.1 dX7_writeRanks_56 ?_
      refine lv_if_ne (tgt := 64) C.1 C.2.1 dX7_writeRanks_57 (by decide) (fun c_8 => ?_) (fun c_8 => ?_)
      · have hE := br_n hE c_8
        refine lv_iconst (v := (0 : Int32)) C.1 C.2.1 dX7_writeRanks_64 (by decide) ?_
        exact bX7_writeRanks_65 C hk_11 hk_22 k_x0 k_x1 k_x4 hkm hW hZ _ (lv_sub hl [1, 2, 3, 4, 5, 6, 7, 0] rfl) hE
      · have hE := br_p hE c_8
        refine lv_iconst (v := (1 : Int32)) C.1 C.2.1 dX7_writeRanks_60 (by decide) ?_
        refine lv_goto (tgt := 65) C.1 C.2.1 dX7_writeRanks_61 (by decide) ?_
        exact bX7_writeRanks_65 C hk_11 hk_22 k_x0 k_x1 k_x4 hkm hW hZ _ (lv_sub hl [1, 2, 3, 4, 5, 6, 7, 0] rfl) hE
set_option maxRecDepth 20000 in
theorem bX7_writeRanks_11 {p : Program} {l : Launch} {e : Env} {s : State} {m : MethodId} {args : Array Value} {below : List Frame} {meth : Method} {c : Code} {X : Ec} {h0 : Hp} {o : Hp} {F : Nat} (C : Cx X p s m args meth c RX7 cX7_writeRanks 10 none "writeRanks") : ∀ (f : Nat) {h : Hp} {x0 : Nat} {x1 : Nat} {x2 : Int64} {x4 : Nat} {x5 : Int32} {H : Heap} {locs : List Loc} (k_x0 : hK h x0 = 7) (k_x1 : hK h x1 = 3) (k_x4 : hK h x4 = 9), Km h0 h → Wx X h H → va_S (aA (eB X)) s.heap H locs → ∀ (ls : Array Slot), lv_has ls 10 [(0, .ref x0), (1, .ref x1), (2, .long x2), (4, .ref x4), (5, .int x5)] → sX7_writeRanks_11 F f h x0 x1 x2 x4 x5 = some o → W p l e (rm 2 42) s m args below meth c H locs 0 0 (MQ below (QV X h0 o) args s 0 0 (aA (eB X))) (F0 m 11 ls []) := by
  intro f
  induction f with
  | zero =>
    intro h x0 x1 x2 x4 x5 H locs k_x0 k_x1 k_x4 hkm hW hZ ls hl hE
    rw [sX7_writeRanks_11] at hE
    cases hE
  | succ f ih =>
    intro h x0 x1 x2 x4 x5 H locs k_x0 k_x1 k_x4 hkm hW hZ ls hl hE
    rw [sX7_writeRanks_11] at hE
    have hk_11 : ∀ (h : Hp) (x0 : Nat) (x1 : Nat) (x2 : Int64) (x4 : Nat) (x5 : Int32) (H : Heap) (locs : List Loc), hK h x0 = 7 → hK h x1 = 3 → hK h x4 = 9 → Km h0 h → Wx X h H → va_S (aA (eB X)) s.heap H locs → ∀ (ls : Array Slot), lv_has ls 10 [(0, .ref x0), (1, .ref x1), (2, .long x2), (4, .ref x4), (5, .int x5)] → sX7_writeRanks_11 F f h x0 x1 x2 x4 x5 = some o → W p l e (rm 2 42) s m args below meth c H locs 0 0 (MQ below (QV X h0 o) args s 0 0 (aA (eB X))) (F0 m 11 ls []) := fun h x0 x1 x2 x4 x5 H locs k_x0 k_x1 k_x4 a b c ls hl hE => ih k_x0 k_x1 k_x4 a b c ls hl hE
    refine lv_iload C.1 C.2.1 dX7_writeRanks_11 (lv_at hl 4 rfl) ?_
    refine lv_if_lt (tgt := 159) C.1 C.2.1 dX7_writeRanks_13 (by decide) (fun c_1 => ?_) (fun c_1 => ?_)
    · have hE := br_p hE c_1
      exact x_vret C rfl hW hZ hkm hE dX7_writeRanks_159
    · have hE := br_n hE c_1
      refine lv_iconst (v := (0 : Int32)) C.1 C.2.1 dX7_writeRanks_16 (by decide) ?_
      refine lv_istore (lv' := [(6, .int (0 : Int32)), (0, .ref x0), (1, .ref x1), (2, .long x2), (4, .ref x4), (5, .int x5)]) C.1 C.2.1 dX7_writeRanks_17 hl (by decide) rfl (fun ls hl => ?_)
      refine lv_iconst (v := (0 : Int32)) C.1 C.2.1 dX7_writeRanks_19 (by decide) ?_
      refine lv_istore (lv' := [(7, .int (0 : Int32)), (6, .int (0 : Int32)), (0, .ref x0), (1, .ref x1), (2, .long x2), (4, .ref x4), (5, .int x5)]) C.1 C.2.1 dX7_writeRanks_20 hl (by decide) rfl (fun ls hl => ?_)
      exact bX7_writeRanks_22 C hk_11 F k_x0 k_x1 k_x4 hkm hW hZ _ (lv_sub hl [2, 3, 4, 5, 6, 1, 0] rfl) hE
set_option maxRecDepth 20000 in
theorem ct_X7_writeRanks (l : Launch) (X : Ec) (F : Nat) {h : Hp} {x0 : Nat} {x1 : Nat} {x2 : Int64} {x4 : Nat} {o : Hp} (k_x0 : hK h x0 = 7) (k_x1 : hK h x1 = 3) (k_x4 : hK h x4 = 9) (hE : sX7_writeRanks F h x0 x1 x2 x4 = some o) : MetV l yX7_writeRanks cX7_writeRanks 10 none 2 42 X [.ref x0, .ref x1, .long x2, .ref x4] h o := by
  refine x_met (by decide) (Nat.le_of_ble_eq_true rfl) ?_
  intro p e s m below meth c ls C hl hW hZ
  have hl : lv_has ls 10 [(0, .ref x0), (1, .ref x1), (2, .long x2), (4, .ref x4)] := hl
  have hkm : Km h h := Km.rf h
  refine lv_aload_n C.1 C.2.1 dX7_writeRanks_0 rfl (lv_at hl 0 rfl) ?_
  obtain ⟨r_1, er_1, hE⟩ := cl_e hE
  refine gf_X7_9 C hW k_x0 er_1 dX7_writeRanks_1 (fun k_r_1 => ?_)
  refine gf_X7_60 C hW k_r_1 dX7_writeRanks_4 ?_
  refine lv_iconst (v := (1 : Int32)) C.1 C.2.1 dX7_writeRanks_7 (by decide) ?_
  refine lv_isub C.1 C.2.1 dX7_writeRanks_8 ?_
  obtain ⟨v_2, ev_2, hE⟩ := nm_e2 hE
  refine x_nmI ev_2 ?_
  refine lv_istore (lv' := [(5, .int v_2), (0, .ref x0), (1, .ref x1), (2, .long x2), (4, .ref x4)]) C.1 C.2.1 dX7_writeRanks_9 hl (by decide) rfl (fun ls hl => ?_)
  exact bX7_writeRanks_11 C F k_x0 k_x1 k_x4 hkm hW hZ _ (lv_sub hl [1, 2, 3, 4, 0] rfl) hE
