set_option maxRecDepth 100000 in
theorem ms_161 : Cond.selects RX15 yX15_writeAll yX15_writeAll ∈ W0 := w0_in (List.mem_append_left _ (List.mem_of_getElem? (i := 161) rfl)) rfl
set_option maxRecDepth 100000 in
theorem m_2475 : Cond.methodLink RX15 542 yX15_writeAll ∈ W0 := w0_in (List.mem_append_right _ (List.mem_of_getElem? (i := 2475) rfl)) rfl
set_option maxRecDepth 100000 in
theorem m_2477 : Cond.instanceMethod yX15_writeAll ∈ W0 := w0_in (List.mem_append_right _ (List.mem_of_getElem? (i := 2477) rfl)) rfl
set_option maxRecDepth 100000 in
theorem m_2478 : Cond.code yX15_writeAll cX15_writeAll 6 none ∈ W0 := w0_in (List.mem_append_right _ (List.mem_of_getElem? (i := 2478) rfl)) rfl
theorem cw_X15_542 : cwd RX15 542 yX15_writeAll cX15_writeAll 6 none false 1 := ⟨m_2478, m_2475, m_19, ⟨m_2477, ms_161⟩, by decide, by decide, by decide +kernel⟩
theorem dX15_write_0 : decode cX15_write 0 = .ok (.aload_n 0, 1) := by decide +kernel
theorem dX15_write_1 : decode cX15_write 1 = .ok (.iload_n 1, 1) := by decide +kernel
theorem dX15_write_2 : decode cX15_write 2 = .ok (.invokevirtual 486, 3) := by decide +kernel
theorem dX15_write_5 : decode cX15_write 5 = .ok (.ifCond .ne 6, 3) := by decide +kernel
theorem dX15_write_8 : decode cX15_write 8 = .ok (.bipush (-102), 2) := by decide +kernel
theorem dX15_write_10 : decode cX15_write 10 = .ok (.ireturn, 1) := by decide +kernel
theorem dX15_write_11 : decode cX15_write 11 = .ok (.aload_n 0, 1) := by decide +kernel
theorem dX15_write_12 : decode cX15_write 12 = .ok (.iconst 0, 1) := by decide +kernel
theorem dX15_write_13 : decode cX15_write 13 = .ok (.putfield 11, 3) := by decide +kernel
theorem dX15_write_16 : decode cX15_write 16 = .ok (.aload_n 0, 1) := by decide +kernel
theorem dX15_write_17 : decode cX15_write 17 = .ok (.aload_n 0, 1) := by decide +kernel
theorem dX15_write_18 : decode cX15_write 18 = .ok (.getfield 257, 3) := by decide +kernel
theorem dX15_write_21 : decode cX15_write 21 = .ok (.iload_n 1, 1) := by decide +kernel
theorem dX15_write_22 : decode cX15_write 22 = .ok (.aaload, 1) := by decide +kernel
theorem dX15_write_23 : decode cX15_write 23 = .ok (.invokevirtual 542, 3) := by decide +kernel
theorem dX15_write_26 : decode cX15_write 26 = .ok (.aload_n 0, 1) := by decide +kernel
theorem dX15_write_27 : decode cX15_write 27 = .ok (.getfield 11, 3) := by decide +kernel
theorem dX15_write_30 : decode cX15_write 30 = .ok (.ireturn, 1) := by decide +kernel
set_option maxRecDepth 20000 in
theorem moX15_write {o : Int32 × Hp} {F : Nat} {h : Hp} {x0 : Nat} {x1 : Int32} (hE : sX15_write F h x0 x1 = some o) : Le h o.2 := by
  obtain ⟨o_1, eo_1, hE⟩ := cl_e hE
  refine (moX15_has eo_1).tr ?_
  rcases br_e hE with ⟨_, hE⟩ | ⟨_, hE⟩
  · exact le_some2 hE
  · obtain ⟨h_3, eh_3, hE⟩ := nm_e2 hE
    refine (le_I eh_3).tr ?_
    obtain ⟨r_4, er_4, hE⟩ := cl_e hE
    obtain ⟨g_5, hE⟩ := gd_e hE
    obtain ⟨r_6, er_6, hE⟩ := cl_e hE
    obtain ⟨o_7, eo_7, hE⟩ := cl_e hE
    refine (moX15_writeAll eo_7).tr ?_
    exact le_some2 hE
set_option maxRecDepth 20000 in
theorem ct_X15_write (l : Launch) (X : Ec) (F : Nat) {h : Hp} {x0 : Nat} {x1 : Int32} {o : Int32 × Hp} (k_x0 : hK h x0 = 15) (hE : sX15_write F h x0 x1 = some o) : MetI l yX15_write cX15_write 2 (some .int) 17 347 X [.ref x0, .int x1] h o := by
  refine x_met (by decide) (Nat.le_of_ble_eq_true rfl) ?_
  intro p e s m below meth c ls C hl hW hZ
  have hl : lv_has ls 2 [(0, .ref x0), (1, .int x1)] := hl
  have hkm : Km h h := Km.rf h
  refine lv_aload_n C.1 C.2.1 dX15_write_0 rfl (lv_at hl 0 rfl) ?_
  refine lv_iload_n C.1 C.2.1 dX15_write_1 rfl (lv_at hl 1 rfl) ?_
  obtain ⟨o_1, eo_1, hE⟩ := cl_e hE
  refine x_kI (o := o_1) (z_runV (As := [.int x1]) (rest := []) C (ct_X15_has l X k_x0 eo_1) cw_X15_486 hW hZ k_x0 (by decide) rfl rfl rfl hl.1 (Nat.le_of_ble_eq_true rfl) rfl dX15_write_2 ⟨Nat.le_of_ble_eq_true rfl, Nat.le_of_ble_eq_true rfl⟩ ⟨Nat.le_refl _, Nat.le_refl _⟩) hZ (fun _ _ hW km hZ => ?_)
  replace hkm := hkm.tr km
  replace k_x0 := km.at k_x0 (by decide)
  refine lv_if_ne (tgt := 11) C.1 C.2.1 dX15_write_5 (by decide) (fun c_2 => ?_) (fun c_2 => ?_)
  · have hE := br_n hE c_2
    refine lv_aload_n C.1 C.2.1 dX15_write_11 rfl (lv_at hl 0 rfl) ?_
    refine lv_iconst (v := (0 : Int32)) C.1 C.2.1 dX15_write_12 (by decide) ?_
    obtain ⟨h_3, eh_3, hE⟩ := nm_e2 hE
    refine pf_X15_11 C hW hZ k_x0 eh_3 dX15_write_13 (fun _ _ hW km hZ => ?_)
    replace hkm := hkm.tr km
    replace k_x0 := km.at k_x0 (by decide)
    refine lv_aload_n C.1 C.2.1 dX15_write_16 rfl (lv_at hl 0 rfl) ?_
    refine lv_aload_n C.1 C.2.1 dX15_write_17 rfl (lv_at hl 0 rfl) ?_
    obtain ⟨r_4, er_4, hE⟩ := cl_e hE
    refine gf_X15_257 C hW k_x0 er_4 dX15_write_18 (fun k_r_4 => ?_)
    refine lv_iload_n C.1 C.2.1 dX15_write_21 rfl (lv_at hl 1 rfl) ?_
    obtain ⟨g_5, hE⟩ := gd_e hE
    obtain ⟨r_6, er_6, hE⟩ := cl_e hE
    refine y_aald (t0 := 5) C hW k_r_4 (by decide) (by decide) rfl rfl rfl (fun _ => rfl) g_5 er_6 dX15_write_22 (fun k_r_6 => ?_)
    obtain ⟨o_7, eo_7, hE⟩ := cl_e hE
    refine x_kV (o := o_7) (z_runV (As := [.ref r_6]) (rest := []) C (ct_X15_writeAll l X F k_x0 k_r_6 eo_7) cw_X15_542 hW hZ k_x0 (by decide) rfl rfl rfl hl.1 (Nat.le_of_ble_eq_true rfl) rfl dX15_write_23 ⟨Nat.le_of_ble_eq_true rfl, Nat.le_of_ble_eq_true rfl⟩ ⟨Nat.le_refl _, Nat.le_refl _⟩) hZ (fun _ _ hW km hZ => ?_)
    replace hkm := hkm.tr km
    replace k_x0 := km.at k_x0 (by decide)
    refine lv_aload_n C.1 C.2.1 dX15_write_26 rfl (lv_at hl 0 rfl) ?_
    refine gf_X15_11 C hW k_x0 dX15_write_27 ?_
    exact x_iret C rfl rfl hW hZ hkm hE dX15_write_30
  · have hE := br_p hE c_2
    refine lv_bipush (v := (-102 : Int32)) C.1 C.2.1 dX15_write_8 (by decide) ?_
    exact x_iret C rfl rfl hW hZ hkm hE dX15_write_10
theorem dX15_hasMen_0 : decode cX15_hasMen 0 = .ok (.iconst 0, 1) := by decide +kernel
theorem dX15_hasMen_1 : decode cX15_hasMen 1 = .ok (.istore_n 3, 1) := by decide +kernel
theorem dX15_hasMen_2 : decode cX15_hasMen 2 = .ok (.iload_n 3, 1) := by decide +kernel
theorem dX15_hasMen_3 : decode cX15_hasMen 3 = .ok (.aload_n 0, 1) := by decide +kernel
theorem dX15_hasMen_4 : decode cX15_hasMen 4 = .ok (.getfield 384, 3) := by decide +kernel
theorem dX15_hasMen_7 : decode cX15_hasMen 7 = .ok (.if_icmp .ge 33, 3) := by decide +kernel
theorem dX15_hasMen_10 : decode cX15_hasMen 10 = .ok (.aload_n 1, 1) := by decide +kernel
theorem dX15_hasMen_11 : decode cX15_hasMen 11 = .ok (.getfield 396, 3) := by decide +kernel
theorem dX15_hasMen_14 : decode cX15_hasMen 14 = .ok (.iload_n 3, 1) := by decide +kernel
theorem dX15_hasMen_15 : decode cX15_hasMen 15 = .ok (.iaload, 1) := by decide +kernel
theorem dX15_hasMen_16 : decode cX15_hasMen 16 = .ok (.ifCond .le 18, 3) := by decide +kernel
theorem dX15_hasMen_19 : decode cX15_hasMen 19 = .ok (.aload_n 1, 1) := by decide +kernel
theorem dX15_hasMen_20 : decode cX15_hasMen 20 = .ok (.getfield 396, 3) := by decide +kernel
theorem dX15_hasMen_23 : decode cX15_hasMen 23 = .ok (.iload_n 3, 1) := by decide +kernel
theorem dX15_hasMen_24 : decode cX15_hasMen 24 = .ok (.iaload, 1) := by decide +kernel
theorem dX15_hasMen_25 : decode cX15_hasMen 25 = .ok (.invokestatic 489, 3) := by decide +kernel
theorem dX15_hasMen_28 : decode cX15_hasMen 28 = .ok (.iload_n 2, 1) := by decide +kernel
theorem dX15_hasMen_29 : decode cX15_hasMen 29 = .ok (.if_icmp .ne 5, 3) := by decide +kernel
theorem dX15_hasMen_32 : decode cX15_hasMen 32 = .ok (.iconst 1, 1) := by decide +kernel
theorem dX15_hasMen_33 : decode cX15_hasMen 33 = .ok (.ireturn, 1) := by decide +kernel
theorem dX15_hasMen_34 : decode cX15_hasMen 34 = .ok (.iinc 3 1, 3) := by decide +kernel
theorem dX15_hasMen_37 : decode cX15_hasMen 37 = .ok (.goto (-35), 3) := by decide +kernel
theorem dX15_hasMen_40 : decode cX15_hasMen 40 = .ok (.iconst 0, 1) := by decide +kernel
theorem dX15_hasMen_41 : decode cX15_hasMen 41 = .ok (.istore_n 3, 1) := by decide +kernel
theorem dX15_hasMen_42 : decode cX15_hasMen 42 = .ok (.iload_n 3, 1) := by decide +kernel
theorem dX15_hasMen_43 : decode cX15_hasMen 43 = .ok (.aload_n 0, 1) := by decide +kernel
theorem dX15_hasMen_44 : decode cX15_hasMen 44 = .ok (.getfield 252, 3) := by decide +kernel
theorem dX15_hasMen_47 : decode cX15_hasMen 47 = .ok (.getfield 169, 3) := by decide +kernel
theorem dX15_hasMen_50 : decode cX15_hasMen 50 = .ok (.if_icmp .ge 24, 3) := by decide +kernel
theorem dX15_hasMen_53 : decode cX15_hasMen 53 = .ok (.aload_n 1, 1) := by decide +kernel
theorem dX15_hasMen_54 : decode cX15_hasMen 54 = .ok (.getfield 444, 3) := by decide +kernel
theorem dX15_hasMen_57 : decode cX15_hasMen 57 = .ok (.iconst 2, 1) := by decide +kernel
theorem dX15_hasMen_58 : decode cX15_hasMen 58 = .ok (.iload_n 3, 1) := by decide +kernel
theorem dX15_hasMen_59 : decode cX15_hasMen 59 = .ok (.imul, 1) := by decide +kernel
theorem dX15_hasMen_60 : decode cX15_hasMen 60 = .ok (.iload_n 2, 1) := by decide +kernel
theorem dX15_hasMen_61 : decode cX15_hasMen 61 = .ok (.iadd, 1) := by decide +kernel
theorem dX15_hasMen_62 : decode cX15_hasMen 62 = .ok (.iaload, 1) := by decide +kernel
theorem dX15_hasMen_63 : decode cX15_hasMen 63 = .ok (.ifCond .le 5, 3) := by decide +kernel
theorem dX15_hasMen_66 : decode cX15_hasMen 66 = .ok (.iconst 1, 1) := by decide +kernel
theorem dX15_hasMen_67 : decode cX15_hasMen 67 = .ok (.ireturn, 1) := by decide +kernel
theorem dX15_hasMen_68 : decode cX15_hasMen 68 = .ok (.iinc 3 1, 3) := by decide +kernel
theorem dX15_hasMen_71 : decode cX15_hasMen 71 = .ok (.goto (-29), 3) := by decide +kernel
theorem dX15_hasMen_74 : decode cX15_hasMen 74 = .ok (.iconst 0, 1) := by decide +kernel
theorem dX15_hasMen_75 : decode cX15_hasMen 75 = .ok (.ireturn, 1) := by decide +kernel
set_option maxRecDepth 20000 in
theorem moX15_hasMen_42 {o : Int32 × Hp} {F : Nat} : ∀ (f : Nat) {h : Hp} {x0 : Nat} {x1 : Nat} {x2 : Int32} {x3 : Int32}, sX15_hasMen_42 F f h x0 x1 x2 x3 = some o → Le h o.2 := by
  intro f
  induction f with
  | zero =>
    intro h x0 x1 x2 x3 hE
    rw [sX15_hasMen_42] at hE
    cases hE
  | succ f ih =>
    intro h x0 x1 x2 x3 hE
    rw [sX15_hasMen_42] at hE
    have mk_42 : ∀ (h : Hp) (x0 : Nat) (x1 : Nat) (x2 : Int32) (x3 : Int32), sX15_hasMen_42 F f h x0 x1 x2 x3 = some o → Le h o.2 := fun h x0 x1 x2 x3 hE => ih hE
    obtain ⟨r_1, er_1, hE⟩ := cl_e hE
    rcases br_e hE with ⟨_, hE⟩ | ⟨_, hE⟩
    · exact le_some2 hE
    · obtain ⟨r_3, er_3, hE⟩ := cl_e hE
      obtain ⟨g_4, hE⟩ := gd_e hE
      rcases br_e hE with ⟨_, hE⟩ | ⟨_, hE⟩
      · obtain ⟨v_6, ev_6, hE⟩ := nm_e2 hE
        exact mk_42 _ _ _ _ _ hE
      · exact le_some2 hE
set_option maxRecDepth 20000 in
theorem moX15_hasMen_34 {o : Int32 × Hp} {k_2 : Hp → Nat → Nat → Int32 → Int32 → Option (Int32 × Hp)} {F : Nat} (mk_2 : ∀ (h : Hp) (x0 : Nat) (x1 : Nat) (x2 : Int32) (x3 : Int32), k_2 h x0 x1 x2 x3 = some o → Le h o.2) {h : Hp} {x0 : Nat} {x1 : Nat} {x2 : Int32} {x3 : Int32} (hE : sX15_hasMen_34 F k_2 h x0 x1 x2 x3 = some o) : Le h o.2 := by
  obtain ⟨v_1, ev_1, hE⟩ := nm_e2 hE
  exact mk_2 _ _ _ _ _ hE
set_option maxRecDepth 20000 in
theorem moX15_hasMen_2 {o : Int32 × Hp} {F : Nat} : ∀ (f : Nat) {h : Hp} {x0 : Nat} {x1 : Nat} {x2 : Int32} {x3 : Int32}, sX15_hasMen_2 F f h x0 x1 x2 x3 = some o → Le h o.2 := by
  intro f
  induction f with
  | zero =>
    intro h x0 x1 x2 x3 hE
    rw [sX15_hasMen_2] at hE
    cases hE
  | succ f ih =>
    intro h x0 x1 x2 x3 hE
    rw [sX15_hasMen_2] at hE
    have mk_2 : ∀ (h : Hp) (x0 : Nat) (x1 : Nat) (x2 : Int32) (x3 : Int32), sX15_hasMen_2 F f h x0 x1 x2 x3 = some o → Le h o.2 := fun h x0 x1 x2 x3 hE => ih hE
    rcases br_e hE with ⟨_, hE⟩ | ⟨_, hE⟩
    · exact moX15_hasMen_42 _ hE
    · obtain ⟨r_2, er_2, hE⟩ := cl_e hE
      obtain ⟨g_3, hE⟩ := gd_e hE
      rcases br_e hE with ⟨_, hE⟩ | ⟨_, hE⟩
      · exact moX15_hasMen_34 mk_2 hE
      · obtain ⟨r_5, er_5, hE⟩ := cl_e hE
        obtain ⟨g_6, hE⟩ := gd_e hE
        obtain ⟨o_7, eo_7, hE⟩ := cl_e hE
        refine (moX15_sideOf eo_7).tr ?_
        rcases br_e hE with ⟨_, hE⟩ | ⟨_, hE⟩
        · exact le_some2 hE
        · exact moX15_hasMen_34 mk_2 hE
set_option maxRecDepth 20000 in
theorem moX15_hasMen {o : Int32 × Hp} {F : Nat} {h : Hp} {x0 : Nat} {x1 : Nat} {x2 : Int32} (hE : sX15_hasMen F h x0 x1 x2 = some o) : Le h o.2 := by
  exact moX15_hasMen_2 _ hE
set_option maxRecDepth 20000 in
theorem bX15_hasMen_42 {p : Program} {l : Launch} {e : Env} {s : State} {m : MethodId} {args : Array Value} {below : List Frame} {meth : Method} {c : Code} {X : Ec} {h0 : Hp} {o : Int32 × Hp} {F : Nat} (C : Cx X p s m args meth c RX15 cX15_hasMen 4 (some .boolean) "hasMen") : ∀ (f : Nat) {h : Hp} {x0 : Nat} {x1 : Nat} {x2 : Int32} {x3 : Int32} {H : Heap} {locs : List Loc} (k_x0 : hK h x0 = 15) (k_x1 : hK h x1 = 12), Km h0 h → Wx X h H → va_S (aA (eB X)) s.heap H locs → ∀ (ls : Array Slot), lv_has ls 4 [(0, .ref x0), (1, .ref x1), (2, .int x2), (3, .int x3)] → sX15_hasMen_42 F f h x0 x1 x2 x3 = some o → W p l e (rm 1 20) s m args below meth c H locs 0 0 (MQ below (QI X h0 o.1 o.2) args s 0 0 (aA (eB X))) (F0 m 42 ls []) := by
  intro f
  induction f with
  | zero =>
    intro h x0 x1 x2 x3 H locs k_x0 k_x1 hkm hW hZ ls hl hE
    rw [sX15_hasMen_42] at hE
    cases hE
  | succ f ih =>
    intro h x0 x1 x2 x3 H locs k_x0 k_x1 hkm hW hZ ls hl hE
    rw [sX15_hasMen_42] at hE
    have hk_42 : ∀ (h : Hp) (x0 : Nat) (x1 : Nat) (x2 : Int32) (x3 : Int32) (H : Heap) (locs : List Loc), hK h x0 = 15 → hK h x1 = 12 → Km h0 h → Wx X h H → va_S (aA (eB X)) s.heap H locs → ∀ (ls : Array Slot), lv_has ls 4 [(0, .ref x0), (1, .ref x1), (2, .int x2), (3, .int x3)] → sX15_hasMen_42 F f h x0 x1 x2 x3 = some o → W p l e (rm 1 20) s m args below meth c H locs 0 0 (MQ below (QI X h0 o.1 o.2) args s 0 0 (aA (eB X))) (F0 m 42 ls []) := fun h x0 x1 x2 x3 H locs k_x0 k_x1 a b c ls hl hE => ih k_x0 k_x1 a b c ls hl hE
    refine lv_iload_n C.1 C.2.1 dX15_hasMen_42 rfl (lv_at hl 3 rfl) ?_
    refine lv_aload_n C.1 C.2.1 dX15_hasMen_43 rfl (lv_at hl 0 rfl) ?_
    obtain ⟨r_1, er_1, hE⟩ := cl_e hE
    refine gf_X15_252 C hW k_x0 er_1 dX15_hasMen_44 (fun k_r_1 => ?_)
    refine gf_X15_169 C hW k_r_1 dX15_hasMen_47 ?_
    refine lv_icmp_ge (tgt := 74) C.1 C.2.1 dX15_hasMen_50 (by decide) (fun c_2 => ?_) (fun c_2 => ?_)
    · have hE := br_p hE c_2
      refine lv_iconst (v := (0 : Int32)) C.1 C.2.1 dX15_hasMen_74 (by decide) ?_
      exact x_iret C rfl (by decide) hW hZ hkm hE dX15_hasMen_75
    · have hE := br_n hE c_2
      refine lv_aload_n C.1 C.2.1 dX15_hasMen_53 rfl (lv_at hl 1 rfl) ?_
      obtain ⟨r_3, er_3, hE⟩ := cl_e hE
      refine gf_X15_444 C hW k_x1 er_3 dX15_hasMen_54 (fun k_r_3 => ?_)
      refine lv_iconst (v := (2 : Int32)) C.1 C.2.1 dX15_hasMen_57 (by decide) ?_
      refine lv_iload_n C.1 C.2.1 dX15_hasMen_58 rfl (lv_at hl 3 rfl) ?_
      refine lv_imul C.1 C.2.1 dX15_hasMen_59 ?_
      refine lv_iload_n C.1 C.2.1 dX15_hasMen_60 rfl (lv_at hl 2 rfl) ?_
      refine lv_iadd C.1 C.2.1 dX15_hasMen_61 ?_
      obtain ⟨g_4, hE⟩ := gd_e hE
      refine y_iald C hW k_r_3 g_4 dX15_hasMen_62 ?_
      refine lv_if_le (tgt := 68) C.1 C.2.1 dX15_hasMen_63 (by decide) (fun c_5 => ?_) (fun c_5 => ?_)
      · have hE := br_p hE c_5
        obtain ⟨v_6, ev_6, hE⟩ := nm_e2 hE
        refine lv_iinc (v := v_6) (lv' := [(3, .int v_6), (0, .ref x0), (1, .ref x1), (2, .int x2)]) C.1 C.2.1 dX15_hasMen_68 hl (k := 3) rfl (by rw [ev_6]; rfl) (by decide) rfl (fun ls hl => ?_)
        refine lv_goto (tgt := 42) C.1 C.2.1 dX15_hasMen_71 (by decide) ?_
        exact hk_42 _ _ _ _ _ _ _ k_x0 k_x1 hkm hW hZ _ (lv_sub hl [1, 2, 3, 0] rfl) hE
      · have hE := br_n hE c_5
        refine lv_iconst (v := (1 : Int32)) C.1 C.2.1 dX15_hasMen_66 (by decide) ?_
        exact x_iret C rfl (by decide) hW hZ hkm hE dX15_hasMen_67
set_option maxRecDepth 20000 in
theorem bX15_hasMen_34 {p : Program} {l : Launch} {e : Env} {s : State} {m : MethodId} {args : Array Value} {below : List Frame} {meth : Method} {c : Code} {X : Ec} {h0 : Hp} {o : Int32 × Hp} {k_2 : Hp → Nat → Nat → Int32 → Int32 → Option (Int32 × Hp)} {F : Nat} (C : Cx X p s m args meth c RX15 cX15_hasMen 4 (some .boolean) "hasMen") (hk_2 : ∀ (h : Hp) (x0 : Nat) (x1 : Nat) (x2 : Int32) (x3 : Int32) (H : Heap) (locs : List Loc), hK h x0 = 15 → hK h x1 = 12 → Km h0 h → Wx X h H → va_S (aA (eB X)) s.heap H locs → ∀ (ls : Array Slot), lv_has ls 4 [(0, .ref x0), (1, .ref x1), (2, .int x2), (3, .int x3)] → k_2 h x0 x1 x2 x3 = some o → W p l e (rm 1 20) s m args below meth c H locs 0 0 (MQ below (QI X h0 o.1 o.2) args s 0 0 (aA (eB X))) (F0 m 2 ls [])) {h : Hp} {x0 : Nat} {x1 : Nat} {x2 : Int32} {x3 : Int32} {H : Heap} {locs : List Loc} (k_x0 : hK h x0 = 15) (k_x1 : hK h x1 = 12) (hkm : Km h0 h) (hW : Wx X h H) (hZ : va_S (aA (eB X)) s.heap H locs) (ls : Array Slot) (hl : lv_has ls 4 [(0, .ref x0), (1, .ref x1), (2, .int x2), (3, .int x3)]) (hE : sX15_hasMen_34 F k_2 h x0 x1 x2 x3 = some o) : W p l e (rm 1 20) s m args below meth c H locs 0 0 (MQ below (QI X h0 o.1 o.2) args s 0 0 (aA (eB X))) (F0 m 34 ls []) := by
  obtain ⟨v_1, ev_1, hE⟩ := nm_e2 hE
  refine lv_iinc (v := v_1) (lv' := [(3, .int v_1), (0, .ref x0), (1, .ref x1), (2, .int x2)]) C.1 C.2.1 dX15_hasMen_34 hl (k := 3) rfl (by rw [ev_1]; rfl) (by decide) rfl (fun ls hl => ?_)
  refine lv_goto (tgt := 2) C.1 C.2.1 dX15_hasMen_37 (by decide) ?_
  exact hk_2 _ _ _ _ _ _ _ k_x0 k_x1 hkm hW hZ _ (lv_sub hl [1, 2, 3, 0] rfl) hE
set_option maxRecDepth 20000 in
theorem bX15_hasMen_2 {p : Program} {l : Launch} {e : Env} {s : State} {m : MethodId} {args : Array Value} {below : List Frame} {meth : Method} {c : Code} {X : Ec} {h0 : Hp} {o : Int32 × Hp} {F : Nat} (C : Cx X p s m args meth c RX15 cX15_hasMen 4 (some .boolean) "hasMen") : ∀ (f : Nat) {h : Hp} {x0 : Nat} {x1 : Nat} {x2 : Int32} {x3 : Int32} {H : Heap} {locs : List Loc} (k_x0 : hK h x0 = 15) (k_x1 : hK h x1 = 12), Km h0 h → Wx X h H → va_S (aA (eB X)) s.heap H locs → ∀ (ls : Array Slot), lv_has ls 4 [(0, .ref x0), (1, .ref x1), (2, .int x2), (3, .int x3)] → sX15_hasMen_2 F f h x0 x1 x2 x3 = some o → W p l e (rm 1 20) s m args below meth c H locs 0 0 (MQ below (QI X h0 o.1 o.2) args s 0 0 (aA (eB X))) (F0 m 2 ls []) := by
  intro f
  induction f with
  | zero =>
    intro h x0 x1 x2 x3 H locs k_x0 k_x1 hkm hW hZ ls hl hE
    rw [sX15_hasMen_2] at hE
    cases hE
  | succ f ih =>
    intro h x0 x1 x2 x3 H locs k_x0 k_x1 hkm hW hZ ls hl hE
    rw [sX15_hasMen_2] at hE
    have hk_2 : ∀ (h : Hp) (x0 : Nat) (x1 : Nat) (x2 : Int32) (x3 : Int32) (H : Heap) (locs : List Loc), hK h x0 = 15 → hK h x1 = 12 → Km h0 h → Wx X h H → va_S (aA (eB X)) s.heap H locs → ∀ (ls : Array Slot), lv_has ls 4 [(0, .ref x0), (1, .ref x1), (2, .int x2), (3, .int x3)] → sX15_hasMen_2 F f h x0 x1 x2 x3 = some o → W p l e (rm 1 20) s m args below meth c H locs 0 0 (MQ below (QI X h0 o.1 o.2) args s 0 0 (aA (eB X))) (F0 m 2 ls []) := fun h x0 x1 x2 x3 H locs k_x0 k_x1 a b c ls hl hE => ih k_x0 k_x1 a b c ls hl hE
    refine lv_iload_n C.1 C.2.1 dX15_hasMen_2 rfl (lv_at hl 3 rfl) ?_
    refine lv_aload_n C.1 C.2.1 dX15_hasMen_3 rfl (lv_at hl 0 rfl) ?_
    refine gf_X15_384 C hW k_x0 dX15_hasMen_4 ?_
    refine lv_icmp_ge (tgt := 40) C.1 C.2.1 dX15_hasMen_7 (by decide) (fun c_1 => ?_) (fun c_1 => ?_)
    · have hE := br_p hE c_1
      refine lv_iconst (v := (0 : Int32)) C.1 C.2.1 dX15_hasMen_40 (by decide) ?_
      refine lv_istore_n (lv' := [(3, .int (0 : Int32)), (0, .ref x0), (1, .ref x1), (2, .int x2)]) C.1 C.2.1 dX15_hasMen_41 rfl hl (by decide) rfl (fun ls hl => ?_)
      exact bX15_hasMen_42 C F k_x0 k_x1 hkm hW hZ _ (lv_sub hl [1, 2, 3, 0] rfl) hE
    · have hE := br_n hE c_1
      refine lv_aload_n C.1 C.2.1 dX15_hasMen_10 rfl (lv_at hl 1 rfl) ?_
      obtain ⟨r_2, er_2, hE⟩ := cl_e hE
      refine gf_X15_396 C hW k_x1 er_2 dX15_hasMen_11 (fun k_r_2 => ?_)
      refine lv_iload_n C.1 C.2.1 dX15_hasMen_14 rfl (lv_at hl 3 rfl) ?_
      obtain ⟨g_3, hE⟩ := gd_e hE
      refine y_iald C hW k_r_2 g_3 dX15_hasMen_15 ?_
      refine lv_if_le (tgt := 34) C.1 C.2.1 dX15_hasMen_16 (by decide) (fun c_4 => ?_) (fun c_4 => ?_)
      · have hE := br_p hE c_4
        exact bX15_hasMen_34 C hk_2 k_x0 k_x1 hkm hW hZ _ (lv_sub hl [0, 1, 2, 3] rfl) hE
      · have hE := br_n hE c_4
        refine lv_aload_n C.1 C.2.1 dX15_hasMen_19 rfl (lv_at hl 1 rfl) ?_
        obtain ⟨r_5, er_5, hE⟩ := cl_e hE
        refine gf_X15_396 C hW k_x1 er_5 dX15_hasMen_20 (fun k_r_5 => ?_)
        refine lv_iload_n C.1 C.2.1 dX15_hasMen_23 rfl (lv_at hl 3 rfl) ?_
        obtain ⟨g_6, hE⟩ := gd_e hE
        refine y_iald C hW k_r_5 g_6 dX15_hasMen_24 ?_
        obtain ⟨o_7, eo_7, hE⟩ := cl_e hE
        refine x_kI (o := o_7) (z_runS (As := [.int (hI h r_5 x3.toNatClampNeg)]) (rest := []) C (ct_X15_sideOf l X eo_7) cw_X15_489 hW hZ rfl hl.1 (Nat.le_of_ble_eq_true rfl) rfl dX15_hasMen_25 ⟨Nat.le_of_ble_eq_true rfl, Nat.le_of_ble_eq_true rfl⟩ ⟨Nat.le_refl _, Nat.le_refl _⟩) hZ (fun _ _ hW km hZ => ?_)
        replace hkm := hkm.tr km
        replace k_x0 := km.at k_x0 (by decide)
        replace k_x1 := km.at k_x1 (by decide)
        refine lv_iload_n C.1 C.2.1 dX15_hasMen_28 rfl (lv_at hl 2 rfl) ?_
        refine lv_icmp_ne (tgt := 34) C.1 C.2.1 dX15_hasMen_29 (by decide) (fun c_8 => ?_) (fun c_8 => ?_)
        · have hE := br_n hE c_8
          exact bX15_hasMen_34 C hk_2 k_x0 k_x1 hkm hW hZ _ (lv_sub hl [0, 1, 2, 3] rfl) hE
        · have hE := br_p hE c_8
          refine lv_iconst (v := (1 : Int32)) C.1 C.2.1 dX15_hasMen_32 (by decide) ?_
          exact x_iret C rfl (by decide) hW hZ hkm hE dX15_hasMen_33
set_option maxRecDepth 20000 in
theorem ct_X15_hasMen (l : Launch) (X : Ec) (F : Nat) {h : Hp} {x0 : Nat} {x1 : Nat} {x2 : Int32} {o : Int32 × Hp} (k_x0 : hK h x0 = 15) (k_x1 : hK h x1 = 12) (hE : sX15_hasMen F h x0 x1 x2 = some o) : MetI l yX15_hasMen cX15_hasMen 4 (some .boolean) 1 20 X [.ref x0, .ref x1, .int x2] h o := by
  refine x_met (by decide) (Nat.le_of_ble_eq_true rfl) ?_
  intro p e s m below meth c ls C hl hW hZ
  have hl : lv_has ls 4 [(0, .ref x0), (1, .ref x1), (2, .int x2)] := hl
  have hkm : Km h h := Km.rf h
  refine lv_iconst (v := (0 : Int32)) C.1 C.2.1 dX15_hasMen_0 (by decide) ?_
  refine lv_istore_n (lv' := [(3, .int (0 : Int32)), (0, .ref x0), (1, .ref x1), (2, .int x2)]) C.1 C.2.1 dX15_hasMen_1 rfl hl (by decide) rfl (fun ls hl => ?_)
  exact bX15_hasMen_2 C F k_x0 k_x1 hkm hW hZ _ (lv_sub hl [1, 2, 3, 0] rfl) hE
set_option maxRecDepth 100000 in
theorem ms_172 : Cond.selects RX15 yX15_hasMen yX15_hasMen ∈ W0 := w0_in (List.mem_append_left _ (List.mem_of_getElem? (i := 172) rfl)) rfl
set_option maxRecDepth 100000 in
theorem m_2140 : Cond.fieldLink RX15 646 (TX15 29).1 (TX15 29).2.1 (TX15 29).2.2.1 ∈ W0 := w0_in (List.mem_append_right _ (List.mem_of_getElem? (i := 2140) rfl)) rfl
set_option maxRecDepth 100000 in
theorem m_2524 : Cond.methodLink RX15 649 yX15_hasMen ∈ W0 := w0_in (List.mem_append_right _ (List.mem_of_getElem? (i := 2524) rfl)) rfl
set_option maxRecDepth 100000 in
theorem m_2526 : Cond.instanceMethod yX15_hasMen ∈ W0 := w0_in (List.mem_append_right _ (List.mem_of_getElem? (i := 2526) rfl)) rfl
set_option maxRecDepth 100000 in
theorem m_2527 : Cond.code yX15_hasMen cX15_hasMen 4 (some .boolean) ∈ W0 := w0_in (List.mem_append_right _ (List.mem_of_getElem? (i := 2527) rfl)) rfl
section
variable {p : Program} {l : Launch} {e : Env} {R : Room} {s : State} {m : MethodId} {args : Array Value} {below : List Frame} {meth : Method} {c : Code} {H : Heap} {locs : List Loc} {cells slots : Nat} {Q : State → Prop}
variable {cc : ByteArray} {pc : Nat} {ls : Array Slot} {rest : List Value} {X : Ec} {h h1 : Hp} {nL : Nat} {rt : Option FieldType} {mn : String}
theorem pf_X15_646 {a : Nat} {v : Int32} (C : Cx X p s m args meth c RX15 cc nL rt mn) (hW : Wx X h H) (hZ : va_S (aA (eB X)) s.heap H locs) (ha : hK h a = 15) (eh : h1 = wI h a 29 v) (hdg : decode cc pc = .ok (.putfield 646, 3)) (kk : ∀ (H1 : Heap) (locs1 : List Loc), Wx X h1 H1 → Km h h1 → va_S (aA (eB X)) s.heap H1 locs1 → W p l e R s m args below meth c H1 locs1 cells slots Q (F0 m (pc + 3) ls rest)) : W p l e R s m args below meth c H locs cells slots Q (F0 m pc ls (.int v :: .ref a :: rest)) :=
  y_puti (ty := .int) C hW hZ ha i_X15 tyX15 tyX15_ok nmX15 (by decide) rfl rfl (by decide) m_2140 rfl (by decide +kernel) rfl rfl rfl eh hdg kk
theorem gf_X15_244 {a : Nat} (C : Cx X p s m args meth c RX15 cc nL rt mn) (hW : Wx X h H) (ha : hK h a = 14) (hdg : decode cc pc = .ok (.getfield 244, 3)) (kk : W p l e R s m args below meth c H locs cells slots Q (F0 m (pc + 3) ls (.int (hI h a 23) :: rest))) : W p l e R s m args below meth c H locs cells slots Q (F0 m pc ls (.ref a :: rest)) :=
  y_getiN C hW ha i_X14 (by decide) rfl (by decide) n_1851 rfl hdg kk
end
theorem cw_X15_649 : cwd RX15 649 yX15_hasMen cX15_hasMen 4 (some .boolean) false 2 := ⟨m_2527, m_2524, m_19, ⟨m_2526, ms_172⟩, by decide, by decide, by decide +kernel⟩
theorem dX15_early_0 : decode cX15_early 0 = .ok (.iconst 0, 1) := by decide +kernel
theorem dX15_early_1 : decode cX15_early 1 = .ok (.istore_n 2, 1) := by decide +kernel
theorem dX15_early_2 : decode cX15_early 2 = .ok (.iload_n 2, 1) := by decide +kernel
theorem dX15_early_3 : decode cX15_early 3 = .ok (.iconst 2, 1) := by decide +kernel
theorem dX15_early_4 : decode cX15_early 4 = .ok (.if_icmp .ge 67, 3) := by decide +kernel
theorem dX15_early_7 : decode cX15_early 7 = .ok (.aload_n 0, 1) := by decide +kernel
theorem dX15_early_8 : decode cX15_early 8 = .ok (.getfield 252, 3) := by decide +kernel
theorem dX15_early_11 : decode cX15_early 11 = .ok (.getfield 142, 3) := by decide +kernel
theorem dX15_early_14 : decode cX15_early 14 = .ok (.ifCond .eq 57, 3) := by decide +kernel
theorem dX15_early_17 : decode cX15_early 17 = .ok (.aload_n 0, 1) := by decide +kernel
theorem dX15_early_18 : decode cX15_early 18 = .ok (.getfield 252, 3) := by decide +kernel
theorem dX15_early_21 : decode cX15_early 21 = .ok (.getfield 221, 3) := by decide +kernel
theorem dX15_early_24 : decode cX15_early 24 = .ok (.iconst (-1), 1) := by decide +kernel
theorem dX15_early_25 : decode cX15_early 25 = .ok (.if_icmp .eq 46, 3) := by decide +kernel
theorem dX15_early_28 : decode cX15_early 28 = .ok (.iload_n 2, 1) := by decide +kernel
theorem dX15_early_29 : decode cX15_early 29 = .ok (.ifCond .ne 10, 3) := by decide +kernel
theorem dX15_early_32 : decode cX15_early 32 = .ok (.aload_n 1, 1) := by decide +kernel
theorem dX15_early_33 : decode cX15_early 33 = .ok (.getfield 452, 3) := by decide +kernel
theorem dX15_early_36 : decode cX15_early 36 = .ok (.goto 9, 3) := by decide +kernel
theorem dX15_early_39 : decode cX15_early 39 = .ok (.iconst 1, 1) := by decide +kernel
theorem dX15_early_40 : decode cX15_early 40 = .ok (.aload_n 1, 1) := by decide +kernel
theorem dX15_early_41 : decode cX15_early 41 = .ok (.getfield 452, 3) := by decide +kernel
theorem dX15_early_44 : decode cX15_early 44 = .ok (.isub, 1) := by decide +kernel
theorem dX15_early_45 : decode cX15_early 45 = .ok (.istore_n 3, 1) := by decide +kernel
theorem dX15_early_46 : decode cX15_early 46 = .ok (.aload_n 0, 1) := by decide +kernel
theorem dX15_early_47 : decode cX15_early 47 = .ok (.aload_n 1, 1) := by decide +kernel
theorem dX15_early_48 : decode cX15_early 48 = .ok (.iload_n 3, 1) := by decide +kernel
theorem dX15_early_49 : decode cX15_early 49 = .ok (.invokevirtual 508, 3) := by decide +kernel
theorem dX15_early_52 : decode cX15_early 52 = .ok (.iconst (-1), 1) := by decide +kernel
theorem dX15_early_53 : decode cX15_early 53 = .ok (.if_icmp .ne 12, 3) := by decide +kernel
theorem dX15_early_56 : decode cX15_early 56 = .ok (.aload_n 0, 1) := by decide +kernel
theorem dX15_early_57 : decode cX15_early 57 = .ok (.iconst 1, 1) := by decide +kernel
theorem dX15_early_58 : decode cX15_early 58 = .ok (.iload_n 3, 1) := by decide +kernel
theorem dX15_early_59 : decode cX15_early 59 = .ok (.isub, 1) := by decide +kernel
theorem dX15_early_60 : decode cX15_early 60 = .ok (.putfield 646, 3) := by decide +kernel
theorem dX15_early_63 : decode cX15_early 63 = .ok (.iconst 1, 1) := by decide +kernel
theorem dX15_early_64 : decode cX15_early 64 = .ok (.ireturn, 1) := by decide +kernel
theorem dX15_early_65 : decode cX15_early 65 = .ok (.iinc 2 1, 3) := by decide +kernel
theorem dX15_early_68 : decode cX15_early 68 = .ok (.goto (-66), 3) := by decide +kernel
theorem dX15_early_71 : decode cX15_early 71 = .ok (.iconst 0, 1) := by decide +kernel
theorem dX15_early_72 : decode cX15_early 72 = .ok (.istore_n 2, 1) := by decide +kernel
theorem dX15_early_73 : decode cX15_early 73 = .ok (.iload_n 2, 1) := by decide +kernel
theorem dX15_early_74 : decode cX15_early 74 = .ok (.iconst 2, 1) := by decide +kernel
theorem dX15_early_75 : decode cX15_early 75 = .ok (.if_icmp .ge 77, 3) := by decide +kernel
theorem dX15_early_78 : decode cX15_early 78 = .ok (.aload_n 0, 1) := by decide +kernel
theorem dX15_early_79 : decode cX15_early 79 = .ok (.getfield 252, 3) := by decide +kernel
theorem dX15_early_82 : decode cX15_early 82 = .ok (.getfield 235, 3) := by decide +kernel
theorem dX15_early_85 : decode cX15_early 85 = .ok (.lconst 0, 1) := by decide +kernel
theorem dX15_early_86 : decode cX15_early 86 = .ok (.lcmp, 1) := by decide +kernel
theorem dX15_early_87 : decode cX15_early 87 = .ok (.ifCond .eq 65, 3) := by decide +kernel
theorem dX15_early_90 : decode cX15_early 90 = .ok (.iload_n 2, 1) := by decide +kernel
theorem dX15_early_91 : decode cX15_early 91 = .ok (.ifCond .ne 12, 3) := by decide +kernel
theorem dX15_early_94 : decode cX15_early 94 = .ok (.iconst 1, 1) := by decide +kernel
theorem dX15_early_95 : decode cX15_early 95 = .ok (.aload_n 1, 1) := by decide +kernel
theorem dX15_early_96 : decode cX15_early 96 = .ok (.getfield 452, 3) := by decide +kernel
theorem dX15_early_99 : decode cX15_early 99 = .ok (.isub, 1) := by decide +kernel
theorem dX15_early_100 : decode cX15_early 100 = .ok (.goto 7, 3) := by decide +kernel
theorem dX15_early_103 : decode cX15_early 103 = .ok (.aload_n 1, 1) := by decide +kernel
theorem dX15_early_104 : decode cX15_early 104 = .ok (.getfield 452, 3) := by decide +kernel
theorem dX15_early_107 : decode cX15_early 107 = .ok (.istore_n 3, 1) := by decide +kernel
theorem dX15_early_108 : decode cX15_early 108 = .ok (.aload_n 0, 1) := by decide +kernel
theorem dX15_early_109 : decode cX15_early 109 = .ok (.aload_n 1, 1) := by decide +kernel
theorem dX15_early_110 : decode cX15_early 110 = .ok (.iload_n 3, 1) := by decide +kernel
theorem dX15_early_111 : decode cX15_early 111 = .ok (.invokevirtual 508, 3) := by decide +kernel
theorem dX15_early_114 : decode cX15_early 114 = .ok (.istore 4, 2) := by decide +kernel
theorem dX15_early_116 : decode cX15_early 116 = .ok (.iload 4, 2) := by decide +kernel
theorem dX15_early_118 : decode cX15_early 118 = .ok (.iconst (-1), 1) := by decide +kernel
theorem dX15_early_119 : decode cX15_early 119 = .ok (.if_icmp .eq 27, 3) := by decide +kernel
theorem dX15_early_122 : decode cX15_early 122 = .ok (.aload_n 0, 1) := by decide +kernel
theorem dX15_early_123 : decode cX15_early 123 = .ok (.getfield 252, 3) := by decide +kernel
theorem dX15_early_126 : decode cX15_early 126 = .ok (.getfield 235, 3) := by decide +kernel
theorem dX15_early_129 : decode cX15_early 129 = .ok (.iload 4, 2) := by decide +kernel
theorem dX15_early_131 : decode cX15_early 131 = .ok (.lshr, 1) := by decide +kernel
theorem dX15_early_132 : decode cX15_early 132 = .ok (.lconst 1, 1) := by decide +kernel
theorem dX15_early_133 : decode cX15_early 133 = .ok (.land, 1) := by decide +kernel
theorem dX15_early_134 : decode cX15_early 134 = .ok (.lconst 1, 1) := by decide +kernel
theorem dX15_early_135 : decode cX15_early 135 = .ok (.lcmp, 1) := by decide +kernel
theorem dX15_early_136 : decode cX15_early 136 = .ok (.ifCond .ne 10, 3) := by decide +kernel
theorem dX15_early_139 : decode cX15_early 139 = .ok (.aload_n 0, 1) := by decide +kernel
theorem dX15_early_140 : decode cX15_early 140 = .ok (.iload_n 3, 1) := by decide +kernel
theorem dX15_early_141 : decode cX15_early 141 = .ok (.putfield 646, 3) := by decide +kernel
theorem dX15_early_144 : decode cX15_early 144 = .ok (.iconst 2, 1) := by decide +kernel
theorem dX15_early_145 : decode cX15_early 145 = .ok (.ireturn, 1) := by decide +kernel
theorem dX15_early_146 : decode cX15_early 146 = .ok (.iinc 2 1, 3) := by decide +kernel
theorem dX15_early_149 : decode cX15_early 149 = .ok (.goto (-76), 3) := by decide +kernel
theorem dX15_early_152 : decode cX15_early 152 = .ok (.iconst 0, 1) := by decide +kernel
theorem dX15_early_153 : decode cX15_early 153 = .ok (.istore_n 2, 1) := by decide +kernel
theorem dX15_early_154 : decode cX15_early 154 = .ok (.iload_n 2, 1) := by decide +kernel
theorem dX15_early_155 : decode cX15_early 155 = .ok (.iconst 2, 1) := by decide +kernel
theorem dX15_early_156 : decode cX15_early 156 = .ok (.if_icmp .ge 60, 3) := by decide +kernel
theorem dX15_early_159 : decode cX15_early 159 = .ok (.aload_n 0, 1) := by decide +kernel
theorem dX15_early_160 : decode cX15_early 160 = .ok (.getfield 252, 3) := by decide +kernel
theorem dX15_early_163 : decode cX15_early 163 = .ok (.getfield 233, 3) := by decide +kernel
theorem dX15_early_166 : decode cX15_early 166 = .ok (.ifCond .le 50, 3) := by decide +kernel
theorem dX15_early_169 : decode cX15_early 169 = .ok (.iload_n 2, 1) := by decide +kernel
theorem dX15_early_170 : decode cX15_early 170 = .ok (.ifCond .ne 12, 3) := by decide +kernel
theorem dX15_early_173 : decode cX15_early 173 = .ok (.iconst 1, 1) := by decide +kernel
theorem dX15_early_174 : decode cX15_early 174 = .ok (.aload_n 1, 1) := by decide +kernel
theorem dX15_early_175 : decode cX15_early 175 = .ok (.getfield 452, 3) := by decide +kernel
theorem dX15_early_178 : decode cX15_early 178 = .ok (.isub, 1) := by decide +kernel
theorem dX15_early_179 : decode cX15_early 179 = .ok (.goto 7, 3) := by decide +kernel
theorem dX15_early_182 : decode cX15_early 182 = .ok (.aload_n 1, 1) := by decide +kernel
theorem dX15_early_183 : decode cX15_early 183 = .ok (.getfield 452, 3) := by decide +kernel
theorem dX15_early_186 : decode cX15_early 186 = .ok (.istore_n 3, 1) := by decide +kernel
theorem dX15_early_187 : decode cX15_early 187 = .ok (.aload_n 1, 1) := by decide +kernel
theorem dX15_early_188 : decode cX15_early 188 = .ok (.getfield 447, 3) := by decide +kernel
theorem dX15_early_191 : decode cX15_early 191 = .ok (.iload_n 3, 1) := by decide +kernel
theorem dX15_early_192 : decode cX15_early 192 = .ok (.iaload, 1) := by decide +kernel
theorem dX15_early_193 : decode cX15_early 193 = .ok (.aload_n 0, 1) := by decide +kernel
theorem dX15_early_194 : decode cX15_early 194 = .ok (.getfield 252, 3) := by decide +kernel
theorem dX15_early_197 : decode cX15_early 197 = .ok (.getfield 233, 3) := by decide +kernel
theorem dX15_early_200 : decode cX15_early 200 = .ok (.if_icmp .lt 10, 3) := by decide +kernel
theorem dX15_early_203 : decode cX15_early 203 = .ok (.aload_n 0, 1) := by decide +kernel
theorem dX15_early_204 : decode cX15_early 204 = .ok (.iload_n 3, 1) := by decide +kernel
theorem dX15_early_205 : decode cX15_early 205 = .ok (.putfield 646, 3) := by decide +kernel
theorem dX15_early_208 : decode cX15_early 208 = .ok (.iconst 3, 1) := by decide +kernel
theorem dX15_early_209 : decode cX15_early 209 = .ok (.ireturn, 1) := by decide +kernel
theorem dX15_early_210 : decode cX15_early 210 = .ok (.iinc 2 1, 3) := by decide +kernel
theorem dX15_early_213 : decode cX15_early 213 = .ok (.goto (-59), 3) := by decide +kernel
theorem dX15_early_216 : decode cX15_early 216 = .ok (.iconst 0, 1) := by decide +kernel
theorem dX15_early_217 : decode cX15_early 217 = .ok (.istore_n 2, 1) := by decide +kernel
theorem dX15_early_218 : decode cX15_early 218 = .ok (.iload_n 2, 1) := by decide +kernel
theorem dX15_early_219 : decode cX15_early 219 = .ok (.iconst 2, 1) := by decide +kernel
theorem dX15_early_220 : decode cX15_early 220 = .ok (.if_icmp .ge 60, 3) := by decide +kernel
theorem dX15_early_223 : decode cX15_early 223 = .ok (.iload_n 2, 1) := by decide +kernel
theorem dX15_early_224 : decode cX15_early 224 = .ok (.ifCond .ne 10, 3) := by decide +kernel
theorem dX15_early_227 : decode cX15_early 227 = .ok (.aload_n 1, 1) := by decide +kernel
theorem dX15_early_228 : decode cX15_early 228 = .ok (.getfield 452, 3) := by decide +kernel
theorem dX15_early_231 : decode cX15_early 231 = .ok (.goto 9, 3) := by decide +kernel
theorem dX15_early_234 : decode cX15_early 234 = .ok (.iconst 1, 1) := by decide +kernel
theorem dX15_early_235 : decode cX15_early 235 = .ok (.aload_n 1, 1) := by decide +kernel
theorem dX15_early_236 : decode cX15_early 236 = .ok (.getfield 452, 3) := by decide +kernel
theorem dX15_early_239 : decode cX15_early 239 = .ok (.isub, 1) := by decide +kernel
theorem dX15_early_240 : decode cX15_early 240 = .ok (.istore_n 3, 1) := by decide +kernel
theorem dX15_early_241 : decode cX15_early 241 = .ok (.aload_n 0, 1) := by decide +kernel
theorem dX15_early_242 : decode cX15_early 242 = .ok (.aload_n 1, 1) := by decide +kernel
theorem dX15_early_243 : decode cX15_early 243 = .ok (.iload_n 3, 1) := by decide +kernel
theorem dX15_early_244 : decode cX15_early 244 = .ok (.invokevirtual 649, 3) := by decide +kernel
theorem dX15_early_247 : decode cX15_early 247 = .ok (.ifCond .ne 27, 3) := by decide +kernel
theorem dX15_early_250 : decode cX15_early 250 = .ok (.aload_n 0, 1) := by decide +kernel
theorem dX15_early_251 : decode cX15_early 251 = .ok (.aload_n 0, 1) := by decide +kernel
theorem dX15_early_252 : decode cX15_early 252 = .ok (.getfield 252, 3) := by decide +kernel
theorem dX15_early_255 : decode cX15_early 255 = .ok (.getfield 244, 3) := by decide +kernel
theorem dX15_early_258 : decode cX15_early 258 = .ok (.iconst 1, 1) := by decide +kernel
theorem dX15_early_259 : decode cX15_early 259 = .ok (.if_icmp .ne 7, 3) := by decide +kernel
theorem dX15_early_262 : decode cX15_early 262 = .ok (.iload_n 3, 1) := by decide +kernel
theorem dX15_early_263 : decode cX15_early 263 = .ok (.goto 6, 3) := by decide +kernel
theorem dX15_early_266 : decode cX15_early 266 = .ok (.iconst 1, 1) := by decide +kernel
theorem dX15_early_267 : decode cX15_early 267 = .ok (.iload_n 3, 1) := by decide +kernel
theorem dX15_early_268 : decode cX15_early 268 = .ok (.isub, 1) := by decide +kernel
theorem dX15_early_269 : decode cX15_early 269 = .ok (.putfield 646, 3) := by decide +kernel
theorem dX15_early_272 : decode cX15_early 272 = .ok (.iconst 4, 1) := by decide +kernel
theorem dX15_early_273 : decode cX15_early 273 = .ok (.ireturn, 1) := by decide +kernel
theorem dX15_early_274 : decode cX15_early 274 = .ok (.iinc 2 1, 3) := by decide +kernel
theorem dX15_early_277 : decode cX15_early 277 = .ok (.goto (-59), 3) := by decide +kernel
theorem dX15_early_280 : decode cX15_early 280 = .ok (.iconst 0, 1) := by decide +kernel
theorem dX15_early_281 : decode cX15_early 281 = .ok (.ireturn, 1) := by decide +kernel
set_option maxRecDepth 20000 in
theorem moX15_early_269 {o : Int32 × Hp} {F : Nat} {h : Hp} {t0 : Int32} {t1 : Nat} (hE : sX15_early_269 F h  t0 t1 = some o) : Le h o.2 := by
  obtain ⟨h_1, eh_1, hE⟩ := nm_e2 hE
  refine (le_I eh_1).tr ?_
  exact le_some2 hE
set_option maxRecDepth 20000 in
theorem moX15_early_240 {o : Int32 × Hp} {k_218 : Hp → Nat → Nat → Int32 → Option (Int32 × Hp)} {F : Nat} (mk_218 : ∀ (h : Hp) (x0 : Nat) (x1 : Nat) (x2 : Int32), k_218 h x0 x1 x2 = some o → Le h o.2) {h : Hp} {x0 : Nat} {x1 : Nat} {x2 : Int32} {t0 : Int32} (hE : sX15_early_240 F k_218 h x0 x1 x2 t0 = some o) : Le h o.2 := by
  obtain ⟨o_1, eo_1, hE⟩ := cl_e hE
  refine (moX15_hasMen eo_1).tr ?_
  rcases br_e hE with ⟨_, hE⟩ | ⟨_, hE⟩
  · obtain ⟨r_4, er_4, hE⟩ := cl_e hE
    rcases br_e hE with ⟨_, hE⟩ | ⟨_, hE⟩
    · exact moX15_early_269 hE
    · exact moX15_early_269 hE
  · obtain ⟨v_3, ev_3, hE⟩ := nm_e2 hE
    exact mk_218 _ _ _ _ hE
set_option maxRecDepth 20000 in
theorem moX15_early_218 {o : Int32 × Hp} {F : Nat} : ∀ (f : Nat) {h : Hp} {x0 : Nat} {x1 : Nat} {x2 : Int32}, sX15_early_218 F f h x0 x1 x2 = some o → Le h o.2 := by
  intro f
  induction f with
  | zero =>
    intro h x0 x1 x2 hE
    rw [sX15_early_218] at hE
    cases hE
  | succ f ih =>
    intro h x0 x1 x2 hE
    rw [sX15_early_218] at hE
    have mk_218 : ∀ (h : Hp) (x0 : Nat) (x1 : Nat) (x2 : Int32), sX15_early_218 F f h x0 x1 x2 = some o → Le h o.2 := fun h x0 x1 x2 hE => ih hE
    rcases br_e hE with ⟨_, hE⟩ | ⟨_, hE⟩
    · exact le_some2 hE
    · rcases br_e hE with ⟨_, hE⟩ | ⟨_, hE⟩
      · exact moX15_early_240 mk_218 hE
      · exact moX15_early_240 mk_218 hE
set_option maxRecDepth 20000 in
theorem moX15_early_216 {o : Int32 × Hp} {F : Nat} {h : Hp} {x0 : Nat} {x1 : Nat} (hE : sX15_early_216 F h x0 x1 = some o) : Le h o.2 := by
  exact moX15_early_218 _ hE
set_option maxRecDepth 20000 in
theorem moX15_early_186 {o : Int32 × Hp} {k_154 : Hp → Nat → Nat → Int32 → Option (Int32 × Hp)} {F : Nat} (mk_154 : ∀ (h : Hp) (x0 : Nat) (x1 : Nat) (x2 : Int32), k_154 h x0 x1 x2 = some o → Le h o.2) {h : Hp} {x0 : Nat} {x1 : Nat} {x2 : Int32} {t0 : Int32} (hE : sX15_early_186 F k_154 h x0 x1 x2 t0 = some o) : Le h o.2 := by
  obtain ⟨r_1, er_1, hE⟩ := cl_e hE
  obtain ⟨g_2, hE⟩ := gd_e hE
  obtain ⟨r_3, er_3, hE⟩ := cl_e hE
  rcases br_e hE with ⟨_, hE⟩ | ⟨_, hE⟩
  · obtain ⟨v_5, ev_5, hE⟩ := nm_e2 hE
    exact mk_154 _ _ _ _ hE
  · obtain ⟨h_6, eh_6, hE⟩ := nm_e2 hE
    refine (le_I eh_6).tr ?_
    exact le_some2 hE
set_option maxRecDepth 20000 in
theorem moX15_early_154 {o : Int32 × Hp} {F : Nat} : ∀ (f : Nat) {h : Hp} {x0 : Nat} {x1 : Nat} {x2 : Int32}, sX15_early_154 F f h x0 x1 x2 = some o → Le h o.2 := by
  intro f
  induction f with
  | zero =>
    intro h x0 x1 x2 hE
    rw [sX15_early_154] at hE
    cases hE
  | succ f ih =>
    intro h x0 x1 x2 hE
    rw [sX15_early_154] at hE
    have mk_154 : ∀ (h : Hp) (x0 : Nat) (x1 : Nat) (x2 : Int32), sX15_early_154 F f h x0 x1 x2 = some o → Le h o.2 := fun h x0 x1 x2 hE => ih hE
    rcases br_e hE with ⟨_, hE⟩ | ⟨_, hE⟩
    · exact moX15_early_216 hE
    · obtain ⟨r_2, er_2, hE⟩ := cl_e hE
      rcases br_e hE with ⟨_, hE⟩ | ⟨_, hE⟩
      · exact moX15_early_216 hE
      · rcases br_e hE with ⟨_, hE⟩ | ⟨_, hE⟩
        · exact moX15_early_186 mk_154 hE
        · exact moX15_early_186 mk_154 hE
set_option maxRecDepth 20000 in
theorem moX15_early_152 {o : Int32 × Hp} {F : Nat} {h : Hp} {x0 : Nat} {x1 : Nat} (hE : sX15_early_152 F h x0 x1 = some o) : Le h o.2 := by
  exact moX15_early_154 _ hE
set_option maxRecDepth 20000 in
theorem moX15_early_146 {o : Int32 × Hp} {k_73 : Hp → Nat → Nat → Int32 → Option (Int32 × Hp)} {F : Nat} (mk_73 : ∀ (h : Hp) (x0 : Nat) (x1 : Nat) (x2 : Int32), k_73 h x0 x1 x2 = some o → Le h o.2) {h : Hp} {x0 : Nat} {x1 : Nat} {x2 : Int32} (hE : sX15_early_146 F k_73 h x0 x1 x2 = some o) : Le h o.2 := by
  obtain ⟨v_1, ev_1, hE⟩ := nm_e2 hE
  exact mk_73 _ _ _ _ hE
set_option maxRecDepth 20000 in
theorem moX15_early_107 {o : Int32 × Hp} {k_73 : Hp → Nat → Nat → Int32 → Option (Int32 × Hp)} {F : Nat} (mk_73 : ∀ (h : Hp) (x0 : Nat) (x1 : Nat) (x2 : Int32), k_73 h x0 x1 x2 = some o → Le h o.2) {h : Hp} {x0 : Nat} {x1 : Nat} {x2 : Int32} {t0 : Int32} (hE : sX15_early_107 F k_73 h x0 x1 x2 t0 = some o) : Le h o.2 := by
  obtain ⟨o_1, eo_1, hE⟩ := cl_e hE
  refine (moX15_royalOf eo_1).tr ?_
  rcases br_e hE with ⟨_, hE⟩ | ⟨_, hE⟩
  · exact moX15_early_146 mk_73 hE
  · obtain ⟨r_3, er_3, hE⟩ := cl_e hE
    rcases br_e hE with ⟨_, hE⟩ | ⟨_, hE⟩
    · obtain ⟨h_5, eh_5, hE⟩ := nm_e2 hE
      refine (le_I eh_5).tr ?_
      exact le_some2 hE
    · exact moX15_early_146 mk_73 hE
set_option maxRecDepth 20000 in
theorem moX15_early_73 {o : Int32 × Hp} {F : Nat} : ∀ (f : Nat) {h : Hp} {x0 : Nat} {x1 : Nat} {x2 : Int32}, sX15_early_73 F f h x0 x1 x2 = some o → Le h o.2 := by
  intro f
  induction f with
  | zero =>
    intro h x0 x1 x2 hE
    rw [sX15_early_73] at hE
    cases hE
  | succ f ih =>
    intro h x0 x1 x2 hE
    rw [sX15_early_73] at hE
    have mk_73 : ∀ (h : Hp) (x0 : Nat) (x1 : Nat) (x2 : Int32), sX15_early_73 F f h x0 x1 x2 = some o → Le h o.2 := fun h x0 x1 x2 hE => ih hE
    rcases br_e hE with ⟨_, hE⟩ | ⟨_, hE⟩
    · exact moX15_early_152 hE
    · obtain ⟨r_2, er_2, hE⟩ := cl_e hE
      rcases br_e hE with ⟨_, hE⟩ | ⟨_, hE⟩
      · exact moX15_early_152 hE
      · rcases br_e hE with ⟨_, hE⟩ | ⟨_, hE⟩
        · exact moX15_early_107 mk_73 hE
        · exact moX15_early_107 mk_73 hE
set_option maxRecDepth 20000 in
theorem moX15_early_71 {o : Int32 × Hp} {F : Nat} {h : Hp} {x0 : Nat} {x1 : Nat} (hE : sX15_early_71 F h x0 x1 = some o) : Le h o.2 := by
  exact moX15_early_73 _ hE
set_option maxRecDepth 20000 in
theorem moX15_early_45 {o : Int32 × Hp} {k_2 : Hp → Nat → Nat → Int32 → Option (Int32 × Hp)} {F : Nat} (mk_2 : ∀ (h : Hp) (x0 : Nat) (x1 : Nat) (x2 : Int32), k_2 h x0 x1 x2 = some o → Le h o.2) {h : Hp} {x0 : Nat} {x1 : Nat} {x2 : Int32} {t0 : Int32} (hE : sX15_early_45 F k_2 h x0 x1 x2 t0 = some o) : Le h o.2 := by
  obtain ⟨o_1, eo_1, hE⟩ := cl_e hE
  refine (moX15_royalOf eo_1).tr ?_
  rcases br_e hE with ⟨_, hE⟩ | ⟨_, hE⟩
  · obtain ⟨h_4, eh_4, hE⟩ := nm_e2 hE
    refine (le_I eh_4).tr ?_
    exact le_some2 hE
  · obtain ⟨v_3, ev_3, hE⟩ := nm_e2 hE
    exact mk_2 _ _ _ _ hE
set_option maxRecDepth 20000 in
theorem moX15_early_2 {o : Int32 × Hp} {F : Nat} : ∀ (f : Nat) {h : Hp} {x0 : Nat} {x1 : Nat} {x2 : Int32}, sX15_early_2 F f h x0 x1 x2 = some o → Le h o.2 := by
  intro f
  induction f with
  | zero =>
    intro h x0 x1 x2 hE
    rw [sX15_early_2] at hE
    cases hE
  | succ f ih =>
    intro h x0 x1 x2 hE
    rw [sX15_early_2] at hE
    have mk_2 : ∀ (h : Hp) (x0 : Nat) (x1 : Nat) (x2 : Int32), sX15_early_2 F f h x0 x1 x2 = some o → Le h o.2 := fun h x0 x1 x2 hE => ih hE
    rcases br_e hE with ⟨_, hE⟩ | ⟨_, hE⟩
    · exact moX15_early_71 hE
    · obtain ⟨r_2, er_2, hE⟩ := cl_e hE
      rcases br_e hE with ⟨_, hE⟩ | ⟨_, hE⟩
      · exact moX15_early_71 hE
      · obtain ⟨r_4, er_4, hE⟩ := cl_e hE
        rcases br_e hE with ⟨_, hE⟩ | ⟨_, hE⟩
        · exact moX15_early_71 hE
        · rcases br_e hE with ⟨_, hE⟩ | ⟨_, hE⟩
          · exact moX15_early_45 mk_2 hE
          · exact moX15_early_45 mk_2 hE
set_option maxRecDepth 20000 in
theorem moX15_early {o : Int32 × Hp} {F : Nat} {h : Hp} {x0 : Nat} {x1 : Nat} (hE : sX15_early F h x0 x1 = some o) : Le h o.2 := by
  exact moX15_early_2 _ hE
set_option maxRecDepth 20000 in
theorem bX15_early_269 {p : Program} {l : Launch} {e : Env} {s : State} {m : MethodId} {args : Array Value} {below : List Frame} {meth : Method} {c : Code} {X : Ec} {h0 : Hp} {o : Int32 × Hp} {F : Nat} (C : Cx X p s m args meth c RX15 cX15_early 5 (some .int) "early") {h : Hp} {t0 : Int32} {t1 : Nat} {H : Heap} {locs : List Loc} (k_t1 : hK h t1 = 15) (hkm : Km h0 h) (hW : Wx X h H) (hZ : va_S (aA (eB X)) s.heap H locs) (ls : Array Slot) (hl : lv_has ls 5 []) (hE : sX15_early_269 F h  t0 t1 = some o) : W p l e (rm 2 44) s m args below meth c H locs 0 0 (MQ below (QI X h0 o.1 o.2) args s 0 0 (aA (eB X))) (F0 m 269 ls [.int t0, .ref t1]) := by
  obtain ⟨h_1, eh_1, hE⟩ := nm_e2 hE
  refine pf_X15_646 C hW hZ k_t1 eh_1 dX15_early_269 (fun _ _ hW km hZ => ?_)
  replace hkm := hkm.tr km
  refine lv_iconst (v := (4 : Int32)) C.1 C.2.1 dX15_early_272 (by decide) ?_
  exact x_iret C rfl rfl hW hZ hkm hE dX15_early_273
set_option maxRecDepth 20000 in
theorem bX15_early_240 {p : Program} {l : Launch} {e : Env} {s : State} {m : MethodId} {args : Array Value} {below : List Frame} {meth : Method} {c : Code} {X : Ec} {h0 : Hp} {o : Int32 × Hp} {k_218 : Hp → Nat → Nat → Int32 → Option (Int32 × Hp)} {F : Nat} (C : Cx X p s m args meth c RX15 cX15_early 5 (some .int) "early") (hk_218 : ∀ (h : Hp) (x0 : Nat) (x1 : Nat) (x2 : Int32) (H : Heap) (locs : List Loc), hK h x0 = 15 → hK h x1 = 12 → Km h0 h → Wx X h H → va_S (aA (eB X)) s.heap H locs → ∀ (ls : Array Slot), lv_has ls 5 [(0, .ref x0), (1, .ref x1), (2, .int x2)] → k_218 h x0 x1 x2 = some o → W p l e (rm 2 44) s m args below meth c H locs 0 0 (MQ below (QI X h0 o.1 o.2) args s 0 0 (aA (eB X))) (F0 m 218 ls [])) {h : Hp} {x0 : Nat} {x1 : Nat} {x2 : Int32} {t0 : Int32} {H : Heap} {locs : List Loc} (k_x0 : hK h x0 = 15) (k_x1 : hK h x1 = 12) (hkm : Km h0 h) (hW : Wx X h H) (hZ : va_S (aA (eB X)) s.heap H locs) (ls : Array Slot) (hl : lv_has ls 5 [(0, .ref x0), (1, .ref x1), (2, .int x2)]) (hE : sX15_early_240 F k_218 h x0 x1 x2 t0 = some o) : W p l e (rm 2 44) s m args below meth c H locs 0 0 (MQ below (QI X h0 o.1 o.2) args s 0 0 (aA (eB X))) (F0 m 240 ls [.int t0]) := by
  refine lv_istore_n (lv' := [(3, .int t0), (0, .ref x0), (1, .ref x1), (2, .int x2)]) C.1 C.2.1 dX15_early_240 rfl hl (by decide) rfl (fun ls hl => ?_)
  refine lv_aload_n C.1 C.2.1 dX15_early_241 rfl (lv_at hl 1 rfl) ?_
  refine lv_aload_n C.1 C.2.1 dX15_early_242 rfl (lv_at hl 2 rfl) ?_
  refine lv_iload_n C.1 C.2.1 dX15_early_243 rfl (lv_at hl 0 rfl) ?_
  obtain ⟨o_1, eo_1, hE⟩ := cl_e hE
  refine x_kI (o := o_1) (z_runV (As := [.ref x1, .int t0]) (rest := []) C (ct_X15_hasMen l X F k_x0 k_x1 eo_1) cw_X15_649 hW hZ k_x0 (by decide) rfl rfl rfl hl.1 (Nat.le_of_ble_eq_true rfl) rfl dX15_early_244 ⟨Nat.le_of_ble_eq_true rfl, Nat.le_of_ble_eq_true rfl⟩ ⟨Nat.le_refl _, Nat.le_refl _⟩) hZ (fun _ _ hW km hZ => ?_)
  replace hkm := hkm.tr km
  replace k_x0 := km.at k_x0 (by decide)
  replace k_x1 := km.at k_x1 (by decide)
  refine lv_if_ne (tgt := 274) C.1 C.2.1 dX15_early_247 (by decide) (fun c_2 => ?_) (fun c_2 => ?_)
  · have hE := br_n hE c_2
    obtain ⟨v_3, ev_3, hE⟩ := nm_e2 hE
    refine lv_iinc (v := v_3) (lv' := [(2, .int v_3), (3, .int t0), (0, .ref x0), (1, .ref x1)]) C.1 C.2.1 dX15_early_274 hl (k := 3) rfl (by rw [ev_3]; rfl) (by decide) rfl (fun ls hl => ?_)
    refine lv_goto (tgt := 218) C.1 C.2.1 dX15_early_277 (by decide) ?_
    exact hk_218 _ _ _ _ _ _ k_x0 k_x1 hkm hW hZ _ (lv_sub hl [2, 3, 0] rfl) hE
  · have hE := br_p hE c_2
    refine lv_aload_n C.1 C.2.1 dX15_early_250 rfl (lv_at hl 1 rfl) ?_
    refine lv_aload_n C.1 C.2.1 dX15_early_251 rfl (lv_at hl 1 rfl) ?_
    obtain ⟨r_4, er_4, hE⟩ := cl_e hE
    refine gf_X15_252 C hW k_x0 er_4 dX15_early_252 (fun k_r_4 => ?_)
    refine gf_X15_244 C hW k_r_4 dX15_early_255 ?_
    refine lv_iconst (v := (1 : Int32)) C.1 C.2.1 dX15_early_258 (by decide) ?_
    refine lv_icmp_ne (tgt := 266) C.1 C.2.1 dX15_early_259 (by decide) (fun c_5 => ?_) (fun c_5 => ?_)
    · have hE := br_n hE c_5
      refine lv_iconst (v := (1 : Int32)) C.1 C.2.1 dX15_early_266 (by decide) ?_
      refine lv_iload_n C.1 C.2.1 dX15_early_267 rfl (lv_at hl 0 rfl) ?_
      refine lv_isub C.1 C.2.1 dX15_early_268 ?_
      exact bX15_early_269 C k_x0 hkm hW hZ _ (lv_sub hl [] rfl) hE
    · have hE := br_p hE c_5
      refine lv_iload_n C.1 C.2.1 dX15_early_262 rfl (lv_at hl 0 rfl) ?_
      refine lv_goto (tgt := 269) C.1 C.2.1 dX15_early_263 (by decide) ?_
      exact bX15_early_269 C k_x0 hkm hW hZ _ (lv_sub hl [] rfl) hE
set_option maxRecDepth 20000 in
theorem bX15_early_218 {p : Program} {l : Launch} {e : Env} {s : State} {m : MethodId} {args : Array Value} {below : List Frame} {meth : Method} {c : Code} {X : Ec} {h0 : Hp} {o : Int32 × Hp} {F : Nat} (C : Cx X p s m args meth c RX15 cX15_early 5 (some .int) "early") : ∀ (f : Nat) {h : Hp} {x0 : Nat} {x1 : Nat} {x2 : Int32} {H : Heap} {locs : List Loc} (k_x0 : hK h x0 = 15) (k_x1 : hK h x1 = 12), Km h0 h → Wx X h H → va_S (aA (eB X)) s.heap H locs → ∀ (ls : Array Slot), lv_has ls 5 [(0, .ref x0), (1, .ref x1), (2, .int x2)] → sX15_early_218 F f h x0 x1 x2 = some o → W p l e (rm 2 44) s m args below meth c H locs 0 0 (MQ below (QI X h0 o.1 o.2) args s 0 0 (aA (eB X))) (F0 m 218 ls []) := by
  intro f
  induction f with
  | zero =>
    intro h x0 x1 x2 H locs k_x0 k_x1 hkm hW hZ ls hl hE
    rw [sX15_early_218] at hE
    cases hE
  | succ f ih =>
    intro h x0 x1 x2 H locs k_x0 k_x1 hkm hW hZ ls hl hE
    rw [sX15_early_218] at hE
    have hk_218 : ∀ (h : Hp) (x0 : Nat) (x1 : Nat) (x2 : Int32) (H : Heap) (locs : List Loc), hK h x0 = 15 → hK h x1 = 12 → Km h0 h → Wx X h H → va_S (aA (eB X)) s.heap H locs → ∀ (ls : Array Slot), lv_has ls 5 [(0, .ref x0), (1, .ref x1), (2, .int x2)] → sX15_early_218 F f h x0 x1 x2 = some o → W p l e (rm 2 44) s m args below meth c H locs 0 0 (MQ below (QI X h0 o.1 o.2) args s 0 0 (aA (eB X))) (F0 m 218 ls []) := fun h x0 x1 x2 H locs k_x0 k_x1 a b c ls hl hE => ih k_x0 k_x1 a b c ls hl hE
    refine lv_iload_n C.1 C.2.1 dX15_early_218 rfl (lv_at hl 2 rfl) ?_
    refine lv_iconst (v := (2 : Int32)) C.1 C.2.1 dX15_early_219 (by decide) ?_
    refine lv_icmp_ge (tgt := 280) C.1 C.2.1 dX15_early_220 (by decide) (fun c_1 => ?_) (fun c_1 => ?_)
    · have hE := br_p hE c_1
      refine lv_iconst (v := (0 : Int32)) C.1 C.2.1 dX15_early_280 (by decide) ?_
      exact x_iret C rfl rfl hW hZ hkm hE dX15_early_281
    · have hE := br_n hE c_1
      refine lv_iload_n C.1 C.2.1 dX15_early_223 rfl (lv_at hl 2 rfl) ?_
      refine lv_if_ne (tgt := 234) C.1 C.2.1 dX15_early_224 (by decide) (fun c_2 => ?_) (fun c_2 => ?_)
      · have hE := br_n hE c_2
        refine lv_iconst (v := (1 : Int32)) C.1 C.2.1 dX15_early_234 (by decide) ?_
        refine lv_aload_n C.1 C.2.1 dX15_early_235 rfl (lv_at hl 1 rfl) ?_
        refine gf_X15_452 C hW k_x1 dX15_early_236 ?_
        refine lv_isub C.1 C.2.1 dX15_early_239 ?_
        exact bX15_early_240 C hk_218 k_x0 k_x1 hkm hW hZ _ (lv_sub hl [0, 1, 2] rfl) hE
      · have hE := br_p hE c_2
        refine lv_aload_n C.1 C.2.1 dX15_early_227 rfl (lv_at hl 1 rfl) ?_
        refine gf_X15_452 C hW k_x1 dX15_early_228 ?_
        refine lv_goto (tgt := 240) C.1 C.2.1 dX15_early_231 (by decide) ?_
        exact bX15_early_240 C hk_218 k_x0 k_x1 hkm hW hZ _ (lv_sub hl [0, 1, 2] rfl) hE
set_option maxRecDepth 20000 in
theorem bX15_early_216 {p : Program} {l : Launch} {e : Env} {s : State} {m : MethodId} {args : Array Value} {below : List Frame} {meth : Method} {c : Code} {X : Ec} {h0 : Hp} {o : Int32 × Hp} {F : Nat} (C : Cx X p s m args meth c RX15 cX15_early 5 (some .int) "early") {h : Hp} {x0 : Nat} {x1 : Nat} {H : Heap} {locs : List Loc} (k_x0 : hK h x0 = 15) (k_x1 : hK h x1 = 12) (hkm : Km h0 h) (hW : Wx X h H) (hZ : va_S (aA (eB X)) s.heap H locs) (ls : Array Slot) (hl : lv_has ls 5 [(0, .ref x0), (1, .ref x1)]) (hE : sX15_early_216 F h x0 x1 = some o) : W p l e (rm 2 44) s m args below meth c H locs 0 0 (MQ below (QI X h0 o.1 o.2) args s 0 0 (aA (eB X))) (F0 m 216 ls []) := by
  refine lv_iconst (v := (0 : Int32)) C.1 C.2.1 dX15_early_216 (by decide) ?_
  refine lv_istore_n (lv' := [(2, .int (0 : Int32)), (0, .ref x0), (1, .ref x1)]) C.1 C.2.1 dX15_early_217 rfl hl (by decide) rfl (fun ls hl => ?_)
  exact bX15_early_218 C F k_x0 k_x1 hkm hW hZ _ (lv_sub hl [1, 2, 0] rfl) hE
set_option maxRecDepth 20000 in
theorem bX15_early_186 {p : Program} {l : Launch} {e : Env} {s : State} {m : MethodId} {args : Array Value} {below : List Frame} {meth : Method} {c : Code} {X : Ec} {h0 : Hp} {o : Int32 × Hp} {k_154 : Hp → Nat → Nat → Int32 → Option (Int32 × Hp)} {F : Nat} (C : Cx X p s m args meth c RX15 cX15_early 5 (some .int) "early") (hk_154 : ∀ (h : Hp) (x0 : Nat) (x1 : Nat) (x2 : Int32) (H : Heap) (locs : List Loc), hK h x0 = 15 → hK h x1 = 12 → Km h0 h → Wx X h H → va_S (aA (eB X)) s.heap H locs → ∀ (ls : Array Slot), lv_has ls 5 [(0, .ref x0), (1, .ref x1), (2, .int x2)] → k_154 h x0 x1 x2 = some o → W p l e (rm 2 44) s m args below meth c H locs 0 0 (MQ below (QI X h0 o.1 o.2) args s 0 0 (aA (eB X))) (F0 m 154 ls [])) {h : Hp} {x0 : Nat} {x1 : Nat} {x2 : Int32} {t0 : Int32} {H : Heap} {locs : List Loc} (k_x0 : hK h x0 = 15) (k_x1 : hK h x1 = 12) (hkm : Km h0 h) (hW : Wx X h H) (hZ : va_S (aA (eB X)) s.heap H locs) (ls : Array Slot) (hl : lv_has ls 5 [(0, .ref x0), (1, .ref x1), (2, .int x2)]) (hE : sX15_early_186 F k_154 h x0 x1 x2 t0 = some o) : W p l e (rm 2 44) s m args below meth c H locs 0 0 (MQ below (QI X h0 o.1 o.2) args s 0 0 (aA (eB X))) (F0 m 186 ls [.int t0]) := by
  refine lv_istore_n (lv' := [(3, .int t0), (0, .ref x0), (1, .ref x1), (2, .int x2)]) C.1 C.2.1 dX15_early_186 rfl hl (by decide) rfl (fun ls hl => ?_)
  refine lv_aload_n C.1 C.2.1 dX15_early_187 rfl (lv_at hl 2 rfl) ?_
  obtain ⟨r_1, er_1, hE⟩ := cl_e hE
  refine gf_X15_447 C hW k_x1 er_1 dX15_early_188 (fun k_r_1 => ?_)
  refine lv_iload_n C.1 C.2.1 dX15_early_191 rfl (lv_at hl 0 rfl) ?_
  obtain ⟨g_2, hE⟩ := gd_e hE
  refine y_iald C hW k_r_1 g_2 dX15_early_192 ?_
  refine lv_aload_n C.1 C.2.1 dX15_early_193 rfl (lv_at hl 1 rfl) ?_
  obtain ⟨r_3, er_3, hE⟩ := cl_e hE
  refine gf_X15_252 C hW k_x0 er_3 dX15_early_194 (fun k_r_3 => ?_)
  refine gf_X15_233 C hW k_r_3 dX15_early_197 ?_
  refine lv_icmp_lt (tgt := 210) C.1 C.2.1 dX15_early_200 (by decide) (fun c_4 => ?_) (fun c_4 => ?_)
  · have hE := br_p hE c_4
    obtain ⟨v_5, ev_5, hE⟩ := nm_e2 hE
    refine lv_iinc (v := v_5) (lv' := [(2, .int v_5), (3, .int t0), (0, .ref x0), (1, .ref x1)]) C.1 C.2.1 dX15_early_210 hl (k := 3) rfl (by rw [ev_5]; rfl) (by decide) rfl (fun ls hl => ?_)
    refine lv_goto (tgt := 154) C.1 C.2.1 dX15_early_213 (by decide) ?_
    exact hk_154 _ _ _ _ _ _ k_x0 k_x1 hkm hW hZ _ (lv_sub hl [2, 3, 0] rfl) hE
  · have hE := br_n hE c_4
    refine lv_aload_n C.1 C.2.1 dX15_early_203 rfl (lv_at hl 1 rfl) ?_
    refine lv_iload_n C.1 C.2.1 dX15_early_204 rfl (lv_at hl 0 rfl) ?_
    obtain ⟨h_6, eh_6, hE⟩ := nm_e2 hE
    refine pf_X15_646 C hW hZ k_x0 eh_6 dX15_early_205 (fun _ _ hW km hZ => ?_)
    replace hkm := hkm.tr km
    replace k_x0 := km.at k_x0 (by decide)
    replace k_x1 := km.at k_x1 (by decide)
    refine lv_iconst (v := (3 : Int32)) C.1 C.2.1 dX15_early_208 (by decide) ?_
    exact x_iret C rfl rfl hW hZ hkm hE dX15_early_209
set_option maxRecDepth 20000 in
theorem bX15_early_154 {p : Program} {l : Launch} {e : Env} {s : State} {m : MethodId} {args : Array Value} {below : List Frame} {meth : Method} {c : Code} {X : Ec} {h0 : Hp} {o : Int32 × Hp} {F : Nat} (C : Cx X p s m args meth c RX15 cX15_early 5 (some .int) "early") : ∀ (f : Nat) {h : Hp} {x0 : Nat} {x1 : Nat} {x2 : Int32} {H : Heap} {locs : List Loc} (k_x0 : hK h x0 = 15) (k_x1 : hK h x1 = 12), Km h0 h → Wx X h H → va_S (aA (eB X)) s.heap H locs → ∀ (ls : Array Slot), lv_has ls 5 [(0, .ref x0), (1, .ref x1), (2, .int x2)] → sX15_early_154 F f h x0 x1 x2 = some o → W p l e (rm 2 44) s m args below meth c H locs 0 0 (MQ below (QI X h0 o.1 o.2) args s 0 0 (aA (eB X))) (F0 m 154 ls []) := by
  intro f
  induction f with
  | zero =>
    intro h x0 x1 x2 H locs k_x0 k_x1 hkm hW hZ ls hl hE
    rw [sX15_early_154] at hE
    cases hE
  | succ f ih =>
    intro h x0 x1 x2 H locs k_x0 k_x1 hkm hW hZ ls hl hE
    rw [sX15_early_154] at hE
    have hk_154 : ∀ (h : Hp) (x0 : Nat) (x1 : Nat) (x2 : Int32) (H : Heap) (locs : List Loc), hK h x0 = 15 → hK h x1 = 12 → Km h0 h → Wx X h H → va_S (aA (eB X)) s.heap H locs → ∀ (ls : Array Slot), lv_has ls 5 [(0, .ref x0), (1, .ref x1), (2, .int x2)] → sX15_early_154 F f h x0 x1 x2 = some o → W p l e (rm 2 44) s m args below meth c H locs 0 0 (MQ below (QI X h0 o.1 o.2) args s 0 0 (aA (eB X))) (F0 m 154 ls []) := fun h x0 x1 x2 H locs k_x0 k_x1 a b c ls hl hE => ih k_x0 k_x1 a b c ls hl hE
    refine lv_iload_n C.1 C.2.1 dX15_early_154 rfl (lv_at hl 2 rfl) ?_
    refine lv_iconst (v := (2 : Int32)) C.1 C.2.1 dX15_early_155 (by decide) ?_
    refine lv_icmp_ge (tgt := 216) C.1 C.2.1 dX15_early_156 (by decide) (fun c_1 => ?_) (fun c_1 => ?_)
    · have hE := br_p hE c_1
      exact bX15_early_216 C k_x0 k_x1 hkm hW hZ _ (lv_sub hl [0, 1] rfl) hE
    · have hE := br_n hE c_1
      refine lv_aload_n C.1 C.2.1 dX15_early_159 rfl (lv_at hl 0 rfl) ?_
      obtain ⟨r_2, er_2, hE⟩ := cl_e hE
      refine gf_X15_252 C hW k_x0 er_2 dX15_early_160 (fun k_r_2 => ?_)
      refine gf_X15_233 C hW k_r_2 dX15_early_163 ?_
      refine lv_if_le (tgt := 216) C.1 C.2.1 dX15_early_166 (by decide) (fun c_3 => ?_) (fun c_3 => ?_)
      · have hE := br_p hE c_3
        exact bX15_early_216 C k_x0 k_x1 hkm hW hZ _ (lv_sub hl [0, 1] rfl) hE
      · have hE := br_n hE c_3
        refine lv_iload_n C.1 C.2.1 dX15_early_169 rfl (lv_at hl 2 rfl) ?_
        refine lv_if_ne (tgt := 182) C.1 C.2.1 dX15_early_170 (by decide) (fun c_4 => ?_) (fun c_4 => ?_)
        · have hE := br_n hE c_4
          refine lv_aload_n C.1 C.2.1 dX15_early_182 rfl (lv_at hl 1 rfl) ?_
          refine gf_X15_452 C hW k_x1 dX15_early_183 ?_
          exact bX15_early_186 C hk_154 k_x0 k_x1 hkm hW hZ _ (lv_sub hl [0, 1, 2] rfl) hE
        · have hE := br_p hE c_4
          refine lv_iconst (v := (1 : Int32)) C.1 C.2.1 dX15_early_173 (by decide) ?_
          refine lv_aload_n C.1 C.2.1 dX15_early_174 rfl (lv_at hl 1 rfl) ?_
          refine gf_X15_452 C hW k_x1 dX15_early_175 ?_
          refine lv_isub C.1 C.2.1 dX15_early_178 ?_
          refine lv_goto (tgt := 186) C.1 C.2.1 dX15_early_179 (by decide) ?_
          exact bX15_early_186 C hk_154 k_x0 k_x1 hkm hW hZ _ (lv_sub hl [0, 1, 2] rfl) hE
set_option maxRecDepth 20000 in
theorem bX15_early_152 {p : Program} {l : Launch} {e : Env} {s : State} {m : MethodId} {args : Array Value} {below : List Frame} {meth : Method} {c : Code} {X : Ec} {h0 : Hp} {o : Int32 × Hp} {F : Nat} (C : Cx X p s m args meth c RX15 cX15_early 5 (some .int) "early") {h : Hp} {x0 : Nat} {x1 : Nat} {H : Heap} {locs : List Loc} (k_x0 : hK h x0 = 15) (k_x1 : hK h x1 = 12) (hkm : Km h0 h) (hW : Wx X h H) (hZ : va_S (aA (eB X)) s.heap H locs) (ls : Array Slot) (hl : lv_has ls 5 [(0, .ref x0), (1, .ref x1)]) (hE : sX15_early_152 F h x0 x1 = some o) : W p l e (rm 2 44) s m args below meth c H locs 0 0 (MQ below (QI X h0 o.1 o.2) args s 0 0 (aA (eB X))) (F0 m 152 ls []) := by
  refine lv_iconst (v := (0 : Int32)) C.1 C.2.1 dX15_early_152 (by decide) ?_
  refine lv_istore_n (lv' := [(2, .int (0 : Int32)), (0, .ref x0), (1, .ref x1)]) C.1 C.2.1 dX15_early_153 rfl hl (by decide) rfl (fun ls hl => ?_)
  exact bX15_early_154 C F k_x0 k_x1 hkm hW hZ _ (lv_sub hl [1, 2, 0] rfl) hE
set_option maxRecDepth 20000 in
theorem bX15_early_146 {p : Program} {l : Launch} {e : Env} {s : State} {m : MethodId} {args : Array Value} {below : List Frame} {meth : Method} {c : Code} {X : Ec} {h0 : Hp} {o : Int32 × Hp} {k_73 : Hp → Nat → Nat → Int32 → Option (Int32 × Hp)} {F : Nat} (C : Cx X p s m args meth c RX15 cX15_early 5 (some .int) "early") (hk_73 : ∀ (h : Hp) (x0 : Nat) (x1 : Nat) (x2 : Int32) (H : Heap) (locs : List Loc), hK h x0 = 15 → hK h x1 = 12 → Km h0 h → Wx X h H → va_S (aA (eB X)) s.heap H locs → ∀ (ls : Array Slot), lv_has ls 5 [(0, .ref x0), (1, .ref x1), (2, .int x2)] → k_73 h x0 x1 x2 = some o → W p l e (rm 2 44) s m args below meth c H locs 0 0 (MQ below (QI X h0 o.1 o.2) args s 0 0 (aA (eB X))) (F0 m 73 ls [])) {h : Hp} {x0 : Nat} {x1 : Nat} {x2 : Int32} {H : Heap} {locs : List Loc} (k_x0 : hK h x0 = 15) (k_x1 : hK h x1 = 12) (hkm : Km h0 h) (hW : Wx X h H) (hZ : va_S (aA (eB X)) s.heap H locs) (ls : Array Slot) (hl : lv_has ls 5 [(0, .ref x0), (1, .ref x1), (2, .int x2)]) (hE : sX15_early_146 F k_73 h x0 x1 x2 = some o) : W p l e (rm 2 44) s m args below meth c H locs 0 0 (MQ below (QI X h0 o.1 o.2) args s 0 0 (aA (eB X))) (F0 m 146 ls []) := by
  obtain ⟨v_1, ev_1, hE⟩ := nm_e2 hE
  refine lv_iinc (v := v_1) (lv' := [(2, .int v_1), (0, .ref x0), (1, .ref x1)]) C.1 C.2.1 dX15_early_146 hl (k := 2) rfl (by rw [ev_1]; rfl) (by decide) rfl (fun ls hl => ?_)
  refine lv_goto (tgt := 73) C.1 C.2.1 dX15_early_149 (by decide) ?_
  exact hk_73 _ _ _ _ _ _ k_x0 k_x1 hkm hW hZ _ (lv_sub hl [1, 2, 0] rfl) hE
set_option maxRecDepth 20000 in
theorem bX15_early_107 {p : Program} {l : Launch} {e : Env} {s : State} {m : MethodId} {args : Array Value} {below : List Frame} {meth : Method} {c : Code} {X : Ec} {h0 : Hp} {o : Int32 × Hp} {k_73 : Hp → Nat → Nat → Int32 → Option (Int32 × Hp)} {F : Nat} (C : Cx X p s m args meth c RX15 cX15_early 5 (some .int) "early") (hk_73 : ∀ (h : Hp) (x0 : Nat) (x1 : Nat) (x2 : Int32) (H : Heap) (locs : List Loc), hK h x0 = 15 → hK h x1 = 12 → Km h0 h → Wx X h H → va_S (aA (eB X)) s.heap H locs → ∀ (ls : Array Slot), lv_has ls 5 [(0, .ref x0), (1, .ref x1), (2, .int x2)] → k_73 h x0 x1 x2 = some o → W p l e (rm 2 44) s m args below meth c H locs 0 0 (MQ below (QI X h0 o.1 o.2) args s 0 0 (aA (eB X))) (F0 m 73 ls [])) {h : Hp} {x0 : Nat} {x1 : Nat} {x2 : Int32} {t0 : Int32} {H : Heap} {locs : List Loc} (k_x0 : hK h x0 = 15) (k_x1 : hK h x1 = 12) (hkm : Km h0 h) (hW : Wx X h H) (hZ : va_S (aA (eB X)) s.heap H locs) (ls : Array Slot) (hl : lv_has ls 5 [(0, .ref x0), (1, .ref x1), (2, .int x2)]) (hE : sX15_early_107 F k_73 h x0 x1 x2 t0 = some o) : W p l e (rm 2 44) s m args below meth c H locs 0 0 (MQ below (QI X h0 o.1 o.2) args s 0 0 (aA (eB X))) (F0 m 107 ls [.int t0]) := by
  refine lv_istore_n (lv' := [(3, .int t0), (0, .ref x0), (1, .ref x1), (2, .int x2)]) C.1 C.2.1 dX15_early_107 rfl hl (by decide) rfl (fun ls hl => ?_)
  refine lv_aload_n C.1 C.2.1 dX15_early_108 rfl (lv_at hl 1 rfl) ?_
  refine lv_aload_n C.1 C.2.1 dX15_early_109 rfl (lv_at hl 2 rfl) ?_
  refine lv_iload_n C.1 C.2.1 dX15_early_110 rfl (lv_at hl 0 rfl) ?_
  obtain ⟨o_1, eo_1, hE⟩ := cl_e hE
  refine x_kI (o := o_1) (z_runV (As := [.ref x1, .int t0]) (rest := []) C (ct_X15_royalOf l X F k_x0 k_x1 eo_1) cw_X15_508 hW hZ k_x0 (by decide) rfl rfl rfl hl.1 (Nat.le_of_ble_eq_true rfl) rfl dX15_early_111 ⟨Nat.le_of_ble_eq_true rfl, Nat.le_of_ble_eq_true rfl⟩ ⟨Nat.le_refl _, Nat.le_refl _⟩) hZ (fun _ _ hW km hZ => ?_)
  replace hkm := hkm.tr km
  replace k_x0 := km.at k_x0 (by decide)
  replace k_x1 := km.at k_x1 (by decide)
  refine lv_istore (lv' := [(4, .int o_1.1), (3, .int t0), (0, .ref x0), (1, .ref x1), (2, .int x2)]) C.1 C.2.1 dX15_early_114 hl (by decide) rfl (fun ls hl => ?_)
  refine lv_iload C.1 C.2.1 dX15_early_116 (lv_at hl 0 rfl) ?_
  refine lv_iconst (v := (-1 : Int32)) C.1 C.2.1 dX15_early_118 (by decide) ?_
  refine lv_icmp_eq (tgt := 146) C.1 C.2.1 dX15_early_119 (by decide) (fun c_2 => ?_) (fun c_2 => ?_)
  · have hE := br_p hE c_2
    exact bX15_early_146 C hk_73 k_x0 k_x1 hkm hW hZ _ (lv_sub hl [2, 3, 4] rfl) hE
  · have hE := br_n hE c_2
    refine lv_aload_n C.1 C.2.1 dX15_early_122 rfl (lv_at hl 2 rfl) ?_
    obtain ⟨r_3, er_3, hE⟩ := cl_e hE
    refine gf_X15_252 C hW k_x0 er_3 dX15_early_123 (fun k_r_3 => ?_)
    refine gf_X15_235 C hW k_r_3 dX15_early_126 ?_
    refine lv_iload C.1 C.2.1 dX15_early_129 (lv_at hl 0 rfl) ?_
    refine lv_lshr C.1 C.2.1 dX15_early_131 rfl ?_
    refine lv_lconst (v := (1 : Int64)) C.1 C.2.1 dX15_early_132 (by decide) ?_
    refine lv_land C.1 C.2.1 dX15_early_133 ?_
    refine lv_lconst (v := (1 : Int64)) C.1 C.2.1 dX15_early_134 (by decide) ?_
    refine W.lcmp C.1 C.2.1 dX15_early_135 ?_
    refine lv_if_ne (tgt := 146) C.1 C.2.1 dX15_early_136 (by decide) (fun c_4 => ?_) (fun c_4 => ?_)
    · have hE := br_n hE c_4
      exact bX15_early_146 C hk_73 k_x0 k_x1 hkm hW hZ _ (lv_sub hl [2, 3, 4] rfl) hE
    · have hE := br_p hE c_4
      refine lv_aload_n C.1 C.2.1 dX15_early_139 rfl (lv_at hl 2 rfl) ?_
      refine lv_iload_n C.1 C.2.1 dX15_early_140 rfl (lv_at hl 1 rfl) ?_
      obtain ⟨h_5, eh_5, hE⟩ := nm_e2 hE
      refine pf_X15_646 C hW hZ k_x0 eh_5 dX15_early_141 (fun _ _ hW km hZ => ?_)
      replace hkm := hkm.tr km
      replace k_x0 := km.at k_x0 (by decide)
      replace k_x1 := km.at k_x1 (by decide)
      refine lv_iconst (v := (2 : Int32)) C.1 C.2.1 dX15_early_144 (by decide) ?_
      exact x_iret C rfl rfl hW hZ hkm hE dX15_early_145
set_option maxRecDepth 20000 in
theorem bX15_early_73 {p : Program} {l : Launch} {e : Env} {s : State} {m : MethodId} {args : Array Value} {below : List Frame} {meth : Method} {c : Code} {X : Ec} {h0 : Hp} {o : Int32 × Hp} {F : Nat} (C : Cx X p s m args meth c RX15 cX15_early 5 (some .int) "early") : ∀ (f : Nat) {h : Hp} {x0 : Nat} {x1 : Nat} {x2 : Int32} {H : Heap} {locs : List Loc} (k_x0 : hK h x0 = 15) (k_x1 : hK h x1 = 12), Km h0 h → Wx X h H → va_S (aA (eB X)) s.heap H locs → ∀ (ls : Array Slot), lv_has ls 5 [(0, .ref x0), (1, .ref x1), (2, .int x2)] → sX15_early_73 F f h x0 x1 x2 = some o → W p l e (rm 2 44) s m args below meth c H locs 0 0 (MQ below (QI X h0 o.1 o.2) args s 0 0 (aA (eB X))) (F0 m 73 ls []) := by
  intro f
  induction f with
  | zero =>
    intro h x0 x1 x2 H locs k_x0 k_x1 hkm hW hZ ls hl hE
    rw [sX15_early_73] at hE
    cases hE
  | succ f ih =>
    intro h x0 x1 x2 H locs k_x0 k_x1 hkm hW hZ ls hl hE
    rw [sX15_early_73] at hE
    have hk_73 : ∀ (h : Hp) (x0 : Nat) (x1 : Nat) (x2 : Int32) (H : Heap) (locs : List Loc), hK h x0 = 15 → hK h x1 = 12 → Km h0 h → Wx X h H → va_S (aA (eB X)) s.heap H locs → ∀ (ls : Array Slot), lv_has ls 5 [(0, .ref x0), (1, .ref x1), (2, .int x2)] → sX15_early_73 F f h x0 x1 x2 = some o → W p l e (rm 2 44) s m args below meth c H locs 0 0 (MQ below (QI X h0 o.1 o.2) args s 0 0 (aA (eB X))) (F0 m 73 ls []) := fun h x0 x1 x2 H locs k_x0 k_x1 a b c ls hl hE => ih k_x0 k_x1 a b c ls hl hE
    refine lv_iload_n C.1 C.2.1 dX15_early_73 rfl (lv_at hl 2 rfl) ?_
    refine lv_iconst (v := (2 : Int32)) C.1 C.2.1 dX15_early_74 (by decide) ?_
    refine lv_icmp_ge (tgt := 152) C.1 C.2.1 dX15_early_75 (by decide) (fun c_1 => ?_) (fun c_1 => ?_)
    · have hE := br_p hE c_1
      exact bX15_early_152 C k_x0 k_x1 hkm hW hZ _ (lv_sub hl [0, 1] rfl) hE
    · have hE := br_n hE c_1
      refine lv_aload_n C.1 C.2.1 dX15_early_78 rfl (lv_at hl 0 rfl) ?_
      obtain ⟨r_2, er_2, hE⟩ := cl_e hE
      refine gf_X15_252 C hW k_x0 er_2 dX15_early_79 (fun k_r_2 => ?_)
      refine gf_X15_235 C hW k_r_2 dX15_early_82 ?_
      refine lv_lconst (v := (0 : Int64)) C.1 C.2.1 dX15_early_85 (by decide) ?_
      refine W.lcmp C.1 C.2.1 dX15_early_86 ?_
      refine lv_if_eq (tgt := 152) C.1 C.2.1 dX15_early_87 (by decide) (fun c_3 => ?_) (fun c_3 => ?_)
      · have hE := br_p hE c_3
        exact bX15_early_152 C k_x0 k_x1 hkm hW hZ _ (lv_sub hl [0, 1] rfl) hE
      · have hE := br_n hE c_3
        refine lv_iload_n C.1 C.2.1 dX15_early_90 rfl (lv_at hl 2 rfl) ?_
        refine lv_if_ne (tgt := 103) C.1 C.2.1 dX15_early_91 (by decide) (fun c_4 => ?_) (fun c_4 => ?_)
        · have hE := br_n hE c_4
          refine lv_aload_n C.1 C.2.1 dX15_early_103 rfl (lv_at hl 1 rfl) ?_
          refine gf_X15_452 C hW k_x1 dX15_early_104 ?_
          exact bX15_early_107 C hk_73 k_x0 k_x1 hkm hW hZ _ (lv_sub hl [0, 1, 2] rfl) hE
        · have hE := br_p hE c_4
          refine lv_iconst (v := (1 : Int32)) C.1 C.2.1 dX15_early_94 (by decide) ?_
          refine lv_aload_n C.1 C.2.1 dX15_early_95 rfl (lv_at hl 1 rfl) ?_
          refine gf_X15_452 C hW k_x1 dX15_early_96 ?_
          refine lv_isub C.1 C.2.1 dX15_early_99 ?_
          refine lv_goto (tgt := 107) C.1 C.2.1 dX15_early_100 (by decide) ?_
          exact bX15_early_107 C hk_73 k_x0 k_x1 hkm hW hZ _ (lv_sub hl [0, 1, 2] rfl) hE
set_option maxRecDepth 20000 in
theorem bX15_early_71 {p : Program} {l : Launch} {e : Env} {s : State} {m : MethodId} {args : Array Value} {below : List Frame} {meth : Method} {c : Code} {X : Ec} {h0 : Hp} {o : Int32 × Hp} {F : Nat} (C : Cx X p s m args meth c RX15 cX15_early 5 (some .int) "early") {h : Hp} {x0 : Nat} {x1 : Nat} {H : Heap} {locs : List Loc} (k_x0 : hK h x0 = 15) (k_x1 : hK h x1 = 12) (hkm : Km h0 h) (hW : Wx X h H) (hZ : va_S (aA (eB X)) s.heap H locs) (ls : Array Slot) (hl : lv_has ls 5 [(0, .ref x0), (1, .ref x1)]) (hE : sX15_early_71 F h x0 x1 = some o) : W p l e (rm 2 44) s m args below meth c H locs 0 0 (MQ below (QI X h0 o.1 o.2) args s 0 0 (aA (eB X))) (F0 m 71 ls []) := by
  refine lv_iconst (v := (0 : Int32)) C.1 C.2.1 dX15_early_71 (by decide) ?_
  refine lv_istore_n (lv' := [(2, .int (0 : Int32)), (0, .ref x0), (1, .ref x1)]) C.1 C.2.1 dX15_early_72 rfl hl (by decide) rfl (fun ls hl => ?_)
  exact bX15_early_73 C F k_x0 k_x1 hkm hW hZ _ (lv_sub hl [1, 2, 0] rfl) hE
set_option maxRecDepth 20000 in
theorem bX15_early_45 {p : Program} {l : Launch} {e : Env} {s : State} {m : MethodId} {args : Array Value} {below : List Frame} {meth : Method} {c : Code} {X : Ec} {h0 : Hp} {o : Int32 × Hp} {k_2 : Hp → Nat → Nat → Int32 → Option (Int32 × Hp)} {F : Nat} (C : Cx X p s m args meth c RX15 cX15_early 5 (some .int) "early") (hk_2 : ∀ (h : Hp) (x0 : Nat) (x1 : Nat) (x2 : Int32) (H : Heap) (locs : List Loc), hK h x0 = 15 → hK h x1 = 12 → Km h0 h → Wx X h H → va_S (aA (eB X)) s.heap H locs → ∀ (ls : Array Slot), lv_has ls 5 [(0, .ref x0), (1, .ref x1), (2, .int x2)] → k_2 h x0 x1 x2 = some o → W p l e (rm 2 44) s m args below meth c H locs 0 0 (MQ below (QI X h0 o.1 o.2) args s 0 0 (aA (eB X))) (F0 m 2 ls [])) {h : Hp} {x0 : Nat} {x1 : Nat} {x2 : Int32} {t0 : Int32} {H : Heap} {locs : List Loc} (k_x0 : hK h x0 = 15) (k_x1 : hK h x1 = 12) (hkm : Km h0 h) (hW : Wx X h H) (hZ : va_S (aA (eB X)) s.heap H locs) (ls : Array Slot) (hl : lv_has ls 5 [(0, .ref x0), (1, .ref x1), (2, .int x2)]) (hE : sX15_early_45 F k_2 h x0 x1 x2 t0 = some o) : W p l e (rm 2 44) s m args below meth c H locs 0 0 (MQ below (QI X h0 o.1 o.2) args s 0 0 (aA (eB X))) (F0 m 45 ls [.int t0]) := by
  refine lv_istore_n (lv' := [(3, .int t0), (0, .ref x0), (1, .ref x1), (2, .int x2)]) C.1 C.2.1 dX15_early_45 rfl hl (by decide) rfl (fun ls hl => ?_)
  refine lv_aload_n C.1 C.2.1 dX15_early_46 rfl (lv_at hl 1 rfl) ?_
  refine lv_aload_n C.1 C.2.1 dX15_early_47 rfl (lv_at hl 2 rfl) ?_
  refine lv_iload_n C.1 C.2.1 dX15_early_48 rfl (lv_at hl 0 rfl) ?_
  obtain ⟨o_1, eo_1, hE⟩ := cl_e hE
  refine x_kI (o := o_1) (z_runV (As := [.ref x1, .int t0]) (rest := []) C (ct_X15_royalOf l X F k_x0 k_x1 eo_1) cw_X15_508 hW hZ k_x0 (by decide) rfl rfl rfl hl.1 (Nat.le_of_ble_eq_true rfl) rfl dX15_early_49 ⟨Nat.le_of_ble_eq_true rfl, Nat.le_of_ble_eq_true rfl⟩ ⟨Nat.le_refl _, Nat.le_refl _⟩) hZ (fun _ _ hW km hZ => ?_)
  replace hkm := hkm.tr km
  replace k_x0 := km.at k_x0 (by decide)
  replace k_x1 := km.at k_x1 (by decide)
  refine lv_iconst (v := (-1 : Int32)) C.1 C.2.1 dX15_early_52 (by decide) ?_
  refine lv_icmp_ne (tgt := 65) C.1 C.2.1 dX15_early_53 (by decide) (fun c_2 => ?_) (fun c_2 => ?_)
  · have hE := br_n hE c_2
    obtain ⟨v_3, ev_3, hE⟩ := nm_e2 hE
    refine lv_iinc (v := v_3) (lv' := [(2, .int v_3), (3, .int t0), (0, .ref x0), (1, .ref x1)]) C.1 C.2.1 dX15_early_65 hl (k := 3) rfl (by rw [ev_3]; rfl) (by decide) rfl (fun ls hl => ?_)
    refine lv_goto (tgt := 2) C.1 C.2.1 dX15_early_68 (by decide) ?_
    exact hk_2 _ _ _ _ _ _ k_x0 k_x1 hkm hW hZ _ (lv_sub hl [2, 3, 0] rfl) hE
  · have hE := br_p hE c_2
    refine lv_aload_n C.1 C.2.1 dX15_early_56 rfl (lv_at hl 1 rfl) ?_
    refine lv_iconst (v := (1 : Int32)) C.1 C.2.1 dX15_early_57 (by decide) ?_
    refine lv_iload_n C.1 C.2.1 dX15_early_58 rfl (lv_at hl 0 rfl) ?_
    refine lv_isub C.1 C.2.1 dX15_early_59 ?_
    obtain ⟨h_4, eh_4, hE⟩ := nm_e2 hE
    refine pf_X15_646 C hW hZ k_x0 eh_4 dX15_early_60 (fun _ _ hW km hZ => ?_)
    replace hkm := hkm.tr km
    replace k_x0 := km.at k_x0 (by decide)
    replace k_x1 := km.at k_x1 (by decide)
    refine lv_iconst (v := (1 : Int32)) C.1 C.2.1 dX15_early_63 (by decide) ?_
    exact x_iret C rfl rfl hW hZ hkm hE dX15_early_64
set_option maxRecDepth 20000 in
theorem bX15_early_2 {p : Program} {l : Launch} {e : Env} {s : State} {m : MethodId} {args : Array Value} {below : List Frame} {meth : Method} {c : Code} {X : Ec} {h0 : Hp} {o : Int32 × Hp} {F : Nat} (C : Cx X p s m args meth c RX15 cX15_early 5 (some .int) "early") : ∀ (f : Nat) {h : Hp} {x0 : Nat} {x1 : Nat} {x2 : Int32} {H : Heap} {locs : List Loc} (k_x0 : hK h x0 = 15) (k_x1 : hK h x1 = 12), Km h0 h → Wx X h H → va_S (aA (eB X)) s.heap H locs → ∀ (ls : Array Slot), lv_has ls 5 [(0, .ref x0), (1, .ref x1), (2, .int x2)] → sX15_early_2 F f h x0 x1 x2 = some o → W p l e (rm 2 44) s m args below meth c H locs 0 0 (MQ below (QI X h0 o.1 o.2) args s 0 0 (aA (eB X))) (F0 m 2 ls []) := by
  intro f
  induction f with
  | zero =>
    intro h x0 x1 x2 H locs k_x0 k_x1 hkm hW hZ ls hl hE
    rw [sX15_early_2] at hE
    cases hE
  | succ f ih =>
    intro h x0 x1 x2 H locs k_x0 k_x1 hkm hW hZ ls hl hE
    rw [sX15_early_2] at hE
    have hk_2 : ∀ (h : Hp) (x0 : Nat) (x1 : Nat) (x2 : Int32) (H : Heap) (locs : List Loc), hK h x0 = 15 → hK h x1 = 12 → Km h0 h → Wx X h H → va_S (aA (eB X)) s.heap H locs → ∀ (ls : Array Slot), lv_has ls 5 [(0, .ref x0), (1, .ref x1), (2, .int x2)] → sX15_early_2 F f h x0 x1 x2 = some o → W p l e (rm 2 44) s m args below meth c H locs 0 0 (MQ below (QI X h0 o.1 o.2) args s 0 0 (aA (eB X))) (F0 m 2 ls []) := fun h x0 x1 x2 H locs k_x0 k_x1 a b c ls hl hE => ih k_x0 k_x1 a b c ls hl hE
    refine lv_iload_n C.1 C.2.1 dX15_early_2 rfl (lv_at hl 2 rfl) ?_
    refine lv_iconst (v := (2 : Int32)) C.1 C.2.1 dX15_early_3 (by decide) ?_
    refine lv_icmp_ge (tgt := 71) C.1 C.2.1 dX15_early_4 (by decide) (fun c_1 => ?_) (fun c_1 => ?_)
    · have hE := br_p hE c_1
      exact bX15_early_71 C k_x0 k_x1 hkm hW hZ _ (lv_sub hl [0, 1] rfl) hE
    · have hE := br_n hE c_1
      refine lv_aload_n C.1 C.2.1 dX15_early_7 rfl (lv_at hl 0 rfl) ?_
      obtain ⟨r_2, er_2, hE⟩ := cl_e hE
      refine gf_X15_252 C hW k_x0 er_2 dX15_early_8 (fun k_r_2 => ?_)
      refine gf_X15_142 C hW k_r_2 dX15_early_11 ?_
      refine lv_if_eq (tgt := 71) C.1 C.2.1 dX15_early_14 (by decide) (fun c_3 => ?_) (fun c_3 => ?_)
      · have hE := br_p hE c_3
        exact bX15_early_71 C k_x0 k_x1 hkm hW hZ _ (lv_sub hl [0, 1] rfl) hE
      · have hE := br_n hE c_3
        refine lv_aload_n C.1 C.2.1 dX15_early_17 rfl (lv_at hl 0 rfl) ?_
        obtain ⟨r_4, er_4, hE⟩ := cl_e hE
        refine gf_X15_252 C hW k_x0 er_4 dX15_early_18 (fun k_r_4 => ?_)
        refine gf_X15_221 C hW k_r_4 dX15_early_21 ?_
        refine lv_iconst (v := (-1 : Int32)) C.1 C.2.1 dX15_early_24 (by decide) ?_
        refine lv_icmp_eq (tgt := 71) C.1 C.2.1 dX15_early_25 (by decide) (fun c_5 => ?_) (fun c_5 => ?_)
        · have hE := br_p hE c_5
          exact bX15_early_71 C k_x0 k_x1 hkm hW hZ _ (lv_sub hl [0, 1] rfl) hE
        · have hE := br_n hE c_5
          refine lv_iload_n C.1 C.2.1 dX15_early_28 rfl (lv_at hl 2 rfl) ?_
          refine lv_if_ne (tgt := 39) C.1 C.2.1 dX15_early_29 (by decide) (fun c_6 => ?_) (fun c_6 => ?_)
          · have hE := br_n hE c_6
            refine lv_iconst (v := (1 : Int32)) C.1 C.2.1 dX15_early_39 (by decide) ?_
            refine lv_aload_n C.1 C.2.1 dX15_early_40 rfl (lv_at hl 1 rfl) ?_
            refine gf_X15_452 C hW k_x1 dX15_early_41 ?_
            refine lv_isub C.1 C.2.1 dX15_early_44 ?_
            exact bX15_early_45 C hk_2 k_x0 k_x1 hkm hW hZ _ (lv_sub hl [0, 1, 2] rfl) hE
          · have hE := br_p hE c_6
            refine lv_aload_n C.1 C.2.1 dX15_early_32 rfl (lv_at hl 1 rfl) ?_
            refine gf_X15_452 C hW k_x1 dX15_early_33 ?_
            refine lv_goto (tgt := 45) C.1 C.2.1 dX15_early_36 (by decide) ?_
            exact bX15_early_45 C hk_2 k_x0 k_x1 hkm hW hZ _ (lv_sub hl [0, 1, 2] rfl) hE
set_option maxRecDepth 20000 in
theorem ct_X15_early (l : Launch) (X : Ec) (F : Nat) {h : Hp} {x0 : Nat} {x1 : Nat} {o : Int32 × Hp} (k_x0 : hK h x0 = 15) (k_x1 : hK h x1 = 12) (hE : sX15_early F h x0 x1 = some o) : MetI l yX15_early cX15_early 5 (some .int) 2 44 X [.ref x0, .ref x1] h o := by
  refine x_met (by decide) (Nat.le_of_ble_eq_true rfl) ?_
  intro p e s m below meth c ls C hl hW hZ
  have hl : lv_has ls 5 [(0, .ref x0), (1, .ref x1)] := hl
  have hkm : Km h h := Km.rf h
  refine lv_iconst (v := (0 : Int32)) C.1 C.2.1 dX15_early_0 (by decide) ?_
  refine lv_istore_n (lv' := [(2, .int (0 : Int32)), (0, .ref x0), (1, .ref x1)]) C.1 C.2.1 dX15_early_1 rfl hl (by decide) rfl (fun ls hl => ?_)
  exact bX15_early_2 C F k_x0 k_x1 hkm hW hZ _ (lv_sub hl [1, 2, 0] rfl) hE
theorem dX15_isGoneOver_0 : decode cX15_isGoneOver 0 = .ok (.iconst 1, 1) := by decide +kernel
theorem dX15_isGoneOver_1 : decode cX15_isGoneOver 1 = .ok (.istore_n 3, 1) := by decide +kernel
theorem dX15_isGoneOver_2 : decode cX15_isGoneOver 2 = .ok (.iload_n 3, 1) := by decide +kernel
theorem dX15_isGoneOver_3 : decode cX15_isGoneOver 3 = .ok (.aload_n 1, 1) := by decide +kernel
theorem dX15_isGoneOver_4 : decode cX15_isGoneOver 4 = .ok (.getfield 441, 3) := by decide +kernel
theorem dX15_isGoneOver_7 : decode cX15_isGoneOver 7 = .ok (.if_icmp .ge 21, 3) := by decide +kernel
theorem dX15_isGoneOver_10 : decode cX15_isGoneOver 10 = .ok (.aload_n 1, 1) := by decide +kernel
theorem dX15_isGoneOver_11 : decode cX15_isGoneOver 11 = .ok (.getfield 439, 3) := by decide +kernel
theorem dX15_isGoneOver_14 : decode cX15_isGoneOver 14 = .ok (.iload_n 3, 1) := by decide +kernel
theorem dX15_isGoneOver_15 : decode cX15_isGoneOver 15 = .ok (.iaload, 1) := by decide +kernel
theorem dX15_isGoneOver_16 : decode cX15_isGoneOver 16 = .ok (.iload_n 2, 1) := by decide +kernel
theorem dX15_isGoneOver_17 : decode cX15_isGoneOver 17 = .ok (.if_icmp .ne 5, 3) := by decide +kernel
theorem dX15_isGoneOver_20 : decode cX15_isGoneOver 20 = .ok (.iconst 1, 1) := by decide +kernel
theorem dX15_isGoneOver_21 : decode cX15_isGoneOver 21 = .ok (.ireturn, 1) := by decide +kernel
theorem dX15_isGoneOver_22 : decode cX15_isGoneOver 22 = .ok (.iinc 3 1, 3) := by decide +kernel
theorem dX15_isGoneOver_25 : decode cX15_isGoneOver 25 = .ok (.goto (-23), 3) := by decide +kernel
theorem dX15_isGoneOver_28 : decode cX15_isGoneOver 28 = .ok (.iconst 0, 1) := by decide +kernel
theorem dX15_isGoneOver_29 : decode cX15_isGoneOver 29 = .ok (.ireturn, 1) := by decide +kernel
set_option maxRecDepth 20000 in
theorem moX15_isGoneOver_2 {o : Int32 × Hp} {F : Nat} : ∀ (f : Nat) {h : Hp} {x1 : Nat} {x2 : Int32} {x3 : Int32}, sX15_isGoneOver_2 F f h x1 x2 x3 = some o → Le h o.2 := by
  intro f
  induction f with
  | zero =>
    intro h x1 x2 x3 hE
    rw [sX15_isGoneOver_2] at hE
    cases hE
  | succ f ih =>
    intro h x1 x2 x3 hE
    rw [sX15_isGoneOver_2] at hE
    have mk_2 : ∀ (h : Hp) (x1 : Nat) (x2 : Int32) (x3 : Int32), sX15_isGoneOver_2 F f h x1 x2 x3 = some o → Le h o.2 := fun h x1 x2 x3 hE => ih hE
    rcases br_e hE with ⟨_, hE⟩ | ⟨_, hE⟩
    · exact le_some2 hE
    · obtain ⟨r_2, er_2, hE⟩ := cl_e hE
      obtain ⟨g_3, hE⟩ := gd_e hE
      rcases br_e hE with ⟨_, hE⟩ | ⟨_, hE⟩
      · exact le_some2 hE
      · obtain ⟨v_5, ev_5, hE⟩ := nm_e2 hE
        exact mk_2 _ _ _ _ hE
set_option maxRecDepth 20000 in
theorem moX15_isGoneOver {o : Int32 × Hp} {F : Nat} {h : Hp} {x0 : Nat} {x1 : Nat} {x2 : Int32} (hE : sX15_isGoneOver F h x0 x1 x2 = some o) : Le h o.2 := by
  exact moX15_isGoneOver_2 _ hE
set_option maxRecDepth 20000 in
theorem bX15_isGoneOver_2 {p : Program} {l : Launch} {e : Env} {s : State} {m : MethodId} {args : Array Value} {below : List Frame} {meth : Method} {c : Code} {X : Ec} {h0 : Hp} {o : Int32 × Hp} {F : Nat} (C : Cx X p s m args meth c RX15 cX15_isGoneOver 4 (some .boolean) "isGoneOver") : ∀ (f : Nat) {h : Hp} {x1 : Nat} {x2 : Int32} {x3 : Int32} {H : Heap} {locs : List Loc} (k_x1 : hK h x1 = 12), Km h0 h → Wx X h H → va_S (aA (eB X)) s.heap H locs → ∀ (ls : Array Slot), lv_has ls 4 [(1, .ref x1), (2, .int x2), (3, .int x3)] → sX15_isGoneOver_2 F f h x1 x2 x3 = some o → W p l e (rm 0 0) s m args below meth c H locs 0 0 (MQ below (QI X h0 o.1 o.2) args s 0 0 (aA (eB X))) (F0 m 2 ls []) := by
  intro f
  induction f with
  | zero =>
    intro h x1 x2 x3 H locs k_x1 hkm hW hZ ls hl hE
    rw [sX15_isGoneOver_2] at hE
    cases hE
  | succ f ih =>
    intro h x1 x2 x3 H locs k_x1 hkm hW hZ ls hl hE
    rw [sX15_isGoneOver_2] at hE
    have hk_2 : ∀ (h : Hp) (x1 : Nat) (x2 : Int32) (x3 : Int32) (H : Heap) (locs : List Loc), hK h x1 = 12 → Km h0 h → Wx X h H → va_S (aA (eB X)) s.heap H locs → ∀ (ls : Array Slot), lv_has ls 4 [(1, .ref x1), (2, .int x2), (3, .int x3)] → sX15_isGoneOver_2 F f h x1 x2 x3 = some o → W p l e (rm 0 0) s m args below meth c H locs 0 0 (MQ below (QI X h0 o.1 o.2) args s 0 0 (aA (eB X))) (F0 m 2 ls []) := fun h x1 x2 x3 H locs k_x1 a b c ls hl hE => ih k_x1 a b c ls hl hE
    refine lv_iload_n C.1 C.2.1 dX15_isGoneOver_2 rfl (lv_at hl 2 rfl) ?_
    refine lv_aload_n C.1 C.2.1 dX15_isGoneOver_3 rfl (lv_at hl 0 rfl) ?_
    refine gf_X15_441 C hW k_x1 dX15_isGoneOver_4 ?_
    refine lv_icmp_ge (tgt := 28) C.1 C.2.1 dX15_isGoneOver_7 (by decide) (fun c_1 => ?_) (fun c_1 => ?_)
    · have hE := br_p hE c_1
      refine lv_iconst (v := (0 : Int32)) C.1 C.2.1 dX15_isGoneOver_28 (by decide) ?_
      exact x_iret C rfl (by decide) hW hZ hkm hE dX15_isGoneOver_29
    · have hE := br_n hE c_1
      refine lv_aload_n C.1 C.2.1 dX15_isGoneOver_10 rfl (lv_at hl 0 rfl) ?_
      obtain ⟨r_2, er_2, hE⟩ := cl_e hE
      refine gf_X15_439 C hW k_x1 er_2 dX15_isGoneOver_11 (fun k_r_2 => ?_)
      refine lv_iload_n C.1 C.2.1 dX15_isGoneOver_14 rfl (lv_at hl 2 rfl) ?_
      obtain ⟨g_3, hE⟩ := gd_e hE
      refine y_iald C hW k_r_2 g_3 dX15_isGoneOver_15 ?_
      refine lv_iload_n C.1 C.2.1 dX15_isGoneOver_16 rfl (lv_at hl 1 rfl) ?_
      refine lv_icmp_ne (tgt := 22) C.1 C.2.1 dX15_isGoneOver_17 (by decide) (fun c_4 => ?_) (fun c_4 => ?_)
      · have hE := br_n hE c_4
        obtain ⟨v_5, ev_5, hE⟩ := nm_e2 hE
        refine lv_iinc (v := v_5) (lv' := [(3, .int v_5), (1, .ref x1), (2, .int x2)]) C.1 C.2.1 dX15_isGoneOver_22 hl (k := 2) rfl (by rw [ev_5]; rfl) (by decide) rfl (fun ls hl => ?_)
        refine lv_goto (tgt := 2) C.1 C.2.1 dX15_isGoneOver_25 (by decide) ?_
        exact hk_2 _ _ _ _ _ _ k_x1 hkm hW hZ _ (lv_sub hl [1, 2, 0] rfl) hE
      · have hE := br_p hE c_4
        refine lv_iconst (v := (1 : Int32)) C.1 C.2.1 dX15_isGoneOver_20 (by decide) ?_
        exact x_iret C rfl (by decide) hW hZ hkm hE dX15_isGoneOver_21
set_option maxRecDepth 20000 in
theorem ct_X15_isGoneOver (l : Launch) (X : Ec) (F : Nat) {h : Hp} {x0 : Nat} {x1 : Nat} {x2 : Int32} {o : Int32 × Hp} (k_x0 : hK h x0 = 15) (k_x1 : hK h x1 = 12) (hE : sX15_isGoneOver F h x0 x1 x2 = some o) : MetI l yX15_isGoneOver cX15_isGoneOver 4 (some .boolean) 0 0 X [.ref x0, .ref x1, .int x2] h o := by
  refine x_met (by decide) (Nat.le_of_ble_eq_true rfl) ?_
  intro p e s m below meth c ls C hl hW hZ
  have hl : lv_has ls 4 [(0, .ref x0), (1, .ref x1), (2, .int x2)] := hl
  have hkm : Km h h := Km.rf h
  refine lv_iconst (v := (1 : Int32)) C.1 C.2.1 dX15_isGoneOver_0 (by decide) ?_
  refine lv_istore_n (lv' := [(3, .int (1 : Int32)), (0, .ref x0), (1, .ref x1), (2, .int x2)]) C.1 C.2.1 dX15_isGoneOver_1 rfl hl (by decide) rfl (fun ls hl => ?_)
  exact bX15_isGoneOver_2 C F k_x1 hkm hW hZ _ (lv_sub hl [2, 3, 0] rfl) hE
set_option maxRecDepth 100000 in
theorem ms_176 : Cond.selects RX15 yX15_isGoneOver yX15_isGoneOver ∈ W0 := w0_in (List.mem_append_left _ (List.mem_of_getElem? (i := 176) rfl)) rfl
set_option maxRecDepth 100000 in
theorem m_2540 : Cond.methodLink RX15 572 yX15_isGoneOver ∈ W0 := w0_in (List.mem_append_right _ (List.mem_of_getElem? (i := 2540) rfl)) rfl
set_option maxRecDepth 100000 in
theorem m_2542 : Cond.instanceMethod yX15_isGoneOver ∈ W0 := w0_in (List.mem_append_right _ (List.mem_of_getElem? (i := 2542) rfl)) rfl
set_option maxRecDepth 100000 in
theorem m_2543 : Cond.code yX15_isGoneOver cX15_isGoneOver 4 (some .boolean) ∈ W0 := w0_in (List.mem_append_right _ (List.mem_of_getElem? (i := 2543) rfl)) rfl
section
variable {p : Program} {l : Launch} {e : Env} {R : Room} {s : State} {m : MethodId} {args : Array Value} {below : List Frame} {meth : Method} {c : Code} {H : Heap} {locs : List Loc} {cells slots : Nat} {Q : State → Prop}
variable {cc : ByteArray} {pc : Nat} {ls : Array Slot} {rest : List Value} {X : Ec} {h h1 : Hp} {nL : Nat} {rt : Option FieldType} {mn : String}
theorem gf_X15_272 {a r : Nat} (C : Cx X p s m args meth c RX15 cc nL rt mn) (hW : Wx X h H) (ha : hK h a = 15) (hr : hR h a 25 = some r) (hdg : decode cc pc = .ok (.getfield 272, 3)) (kk : hK h r = 17 → W p l e R s m args below meth c H locs cells slots Q (F0 m (pc + 3) ls (.ref r :: rest))) : W p l e R s m args below meth c H locs cells slots Q (F0 m pc ls (.ref a :: rest)) :=
  y_getr C hW ha i_X15 (by decide) rfl (by decide) m_2136 rfl rfl hr hdg kk
theorem gf_X15_275 {a r : Nat} (C : Cx X p s m args meth c RX15 cc nL rt mn) (hW : Wx X h H) (ha : hK h a = 15) (hr : hR h a 26 = some r) (hdg : decode cc pc = .ok (.getfield 275, 3)) (kk : hK h r = 17 → W p l e R s m args below meth c H locs cells slots Q (F0 m (pc + 3) ls (.ref r :: rest))) : W p l e R s m args below meth c H locs cells slots Q (F0 m pc ls (.ref a :: rest)) :=
  y_getr C hW ha i_X15 (by decide) rfl (by decide) m_2137 rfl rfl hr hdg kk
theorem gf_X15_278 {a r : Nat} (C : Cx X p s m args meth c RX15 cc nL rt mn) (hW : Wx X h H) (ha : hK h a = 15) (hr : hR h a 27 = some r) (hdg : decode cc pc = .ok (.getfield 278, 3)) (kk : hK h r = 19 → W p l e R s m args below meth c H locs cells slots Q (F0 m (pc + 3) ls (.ref r :: rest))) : W p l e R s m args below meth c H locs cells slots Q (F0 m pc ls (.ref a :: rest)) :=
  y_getr C hW ha i_X15 (by decide) rfl (by decide) m_2138 rfl rfl hr hdg kk
end
theorem cw_X15_572 : cwd RX15 572 yX15_isGoneOver cX15_isGoneOver 4 (some .boolean) false 2 := ⟨m_2543, m_2540, m_19, ⟨m_2542, ms_176⟩, by decide, by decide, by decide +kernel⟩
theorem dX15_leadBy_0 : decode cX15_leadBy 0 = .ok (.aload_n 0, 1) := by decide +kernel
theorem dX15_leadBy_1 : decode cX15_leadBy 1 = .ok (.getfield 252, 3) := by decide +kernel
theorem dX15_leadBy_4 : decode cX15_leadBy 4 = .ok (.getfield 198, 3) := by decide +kernel
theorem dX15_leadBy_7 : decode cX15_leadBy 7 = .ok (.iload 4, 2) := by decide +kernel
theorem dX15_leadBy_9 : decode cX15_leadBy 9 = .ok (.iaload, 1) := by decide +kernel
theorem dX15_leadBy_10 : decode cX15_leadBy 10 = .ok (.istore 6, 2) := by decide +kernel
theorem dX15_leadBy_12 : decode cX15_leadBy 12 = .ok (.iconst 0, 1) := by decide +kernel
theorem dX15_leadBy_13 : decode cX15_leadBy 13 = .ok (.istore 7, 2) := by decide +kernel
theorem dX15_leadBy_15 : decode cX15_leadBy 15 = .ok (.iconst 1, 1) := by decide +kernel
theorem dX15_leadBy_16 : decode cX15_leadBy 16 = .ok (.istore 8, 2) := by decide +kernel
theorem dX15_leadBy_18 : decode cX15_leadBy 18 = .ok (.iload 8, 2) := by decide +kernel
theorem dX15_leadBy_20 : decode cX15_leadBy 20 = .ok (.aload_n 0, 1) := by decide +kernel
theorem dX15_leadBy_21 : decode cX15_leadBy 21 = .ok (.getfield 252, 3) := by decide +kernel
theorem dX15_leadBy_24 : decode cX15_leadBy 24 = .ok (.getfield 207, 3) := by decide +kernel
theorem dX15_leadBy_27 : decode cX15_leadBy 27 = .ok (.iload 4, 2) := by decide +kernel
theorem dX15_leadBy_29 : decode cX15_leadBy 29 = .ok (.iaload, 1) := by decide +kernel
theorem dX15_leadBy_30 : decode cX15_leadBy 30 = .ok (.if_icmp .gt 186, 3) := by decide +kernel
theorem dX15_leadBy_33 : decode cX15_leadBy 33 = .ok (.iload 7, 2) := by decide +kernel
theorem dX15_leadBy_35 : decode cX15_leadBy 35 = .ok (.iconst 2, 1) := by decide +kernel
theorem dX15_leadBy_36 : decode cX15_leadBy 36 = .ok (.if_icmp .ge 180, 3) := by decide +kernel
theorem dX15_leadBy_39 : decode cX15_leadBy 39 = .ok (.aload_n 0, 1) := by decide +kernel
theorem dX15_leadBy_40 : decode cX15_leadBy 40 = .ok (.iload_n 2, 1) := by decide +kernel
theorem dX15_leadBy_41 : decode cX15_leadBy 41 = .ok (.iload 8, 2) := by decide +kernel
theorem dX15_leadBy_43 : decode cX15_leadBy 43 = .ok (.invokevirtual 524, 3) := by decide +kernel
theorem dX15_leadBy_46 : decode cX15_leadBy 46 = .ok (.istore 9, 2) := by decide +kernel
theorem dX15_leadBy_48 : decode cX15_leadBy 48 = .ok (.iload 9, 2) := by decide +kernel
theorem dX15_leadBy_50 : decode cX15_leadBy 50 = .ok (.iconst (-1), 1) := by decide +kernel
theorem dX15_leadBy_51 : decode cX15_leadBy 51 = .ok (.if_icmp .ne 4, 3) := by decide +kernel
theorem dX15_leadBy_54 : decode cX15_leadBy 54 = .ok (.return_, 1) := by decide +kernel
theorem dX15_leadBy_55 : decode cX15_leadBy 55 = .ok (.aload_n 1, 1) := by decide +kernel
theorem dX15_leadBy_56 : decode cX15_leadBy 56 = .ok (.getfield 396, 3) := by decide +kernel
theorem dX15_leadBy_59 : decode cX15_leadBy 59 = .ok (.iload 9, 2) := by decide +kernel
theorem dX15_leadBy_61 : decode cX15_leadBy 61 = .ok (.iaload, 1) := by decide +kernel
theorem dX15_leadBy_62 : decode cX15_leadBy 62 = .ok (.istore 10, 2) := by decide +kernel
theorem dX15_leadBy_64 : decode cX15_leadBy 64 = .ok (.iload 6, 2) := by decide +kernel
theorem dX15_leadBy_66 : decode cX15_leadBy 66 = .ok (.iload 7, 2) := by decide +kernel
theorem dX15_leadBy_68 : decode cX15_leadBy 68 = .ok (.invokestatic 565, 3) := by decide +kernel
theorem dX15_leadBy_71 : decode cX15_leadBy 71 = .ok (.ifCond .eq 124, 3) := by decide +kernel
theorem dX15_leadBy_74 : decode cX15_leadBy 74 = .ok (.aload_n 0, 1) := by decide +kernel
theorem dX15_leadBy_75 : decode cX15_leadBy 75 = .ok (.getfield 272, 3) := by decide +kernel
theorem dX15_leadBy_78 : decode cX15_leadBy 78 = .ok (.iload 9, 2) := by decide +kernel
theorem dX15_leadBy_80 : decode cX15_leadBy 80 = .ok (.iaload, 1) := by decide +kernel
theorem dX15_leadBy_81 : decode cX15_leadBy 81 = .ok (.iconst (-1), 1) := by decide +kernel
theorem dX15_leadBy_82 : decode cX15_leadBy 82 = .ok (.if_icmp .ne 113, 3) := by decide +kernel
theorem dX15_leadBy_85 : decode cX15_leadBy 85 = .ok (.iload 5, 2) := by decide +kernel
theorem dX15_leadBy_87 : decode cX15_leadBy 87 = .ok (.ifCond .eq 25, 3) := by decide +kernel
theorem dX15_leadBy_90 : decode cX15_leadBy 90 = .ok (.iload 6, 2) := by decide +kernel
theorem dX15_leadBy_92 : decode cX15_leadBy 92 = .ok (.bipush 32, 2) := by decide +kernel
theorem dX15_leadBy_94 : decode cX15_leadBy 94 = .ok (.iand, 1) := by decide +kernel
theorem dX15_leadBy_95 : decode cX15_leadBy 95 = .ok (.ifCond .eq 17, 3) := by decide +kernel
theorem dX15_leadBy_98 : decode cX15_leadBy 98 = .ok (.aload_n 0, 1) := by decide +kernel
theorem dX15_leadBy_99 : decode cX15_leadBy 99 = .ok (.aload_n 1, 1) := by decide +kernel
theorem dX15_leadBy_100 : decode cX15_leadBy 100 = .ok (.iload 9, 2) := by decide +kernel
theorem dX15_leadBy_102 : decode cX15_leadBy 102 = .ok (.invokevirtual 572, 3) := by decide +kernel
theorem dX15_leadBy_105 : decode cX15_leadBy 105 = .ok (.ifCond .eq 7, 3) := by decide +kernel
theorem dX15_leadBy_108 : decode cX15_leadBy 108 = .ok (.iconst 1, 1) := by decide +kernel
theorem dX15_leadBy_109 : decode cX15_leadBy 109 = .ok (.goto 4, 3) := by decide +kernel
theorem dX15_leadBy_112 : decode cX15_leadBy 112 = .ok (.iconst 0, 1) := by decide +kernel
theorem dX15_leadBy_113 : decode cX15_leadBy 113 = .ok (.istore 11, 2) := by decide +kernel
theorem dX15_leadBy_115 : decode cX15_leadBy 115 = .ok (.iload 10, 2) := by decide +kernel
theorem dX15_leadBy_117 : decode cX15_leadBy 117 = .ok (.ifCond .le 27, 3) := by decide +kernel
theorem dX15_leadBy_120 : decode cX15_leadBy 120 = .ok (.iload 10, 2) := by decide +kernel
theorem dX15_leadBy_122 : decode cX15_leadBy 122 = .ok (.invokestatic 489, 3) := by decide +kernel
theorem dX15_leadBy_125 : decode cX15_leadBy 125 = .ok (.iload_n 3, 1) := by decide +kernel
theorem dX15_leadBy_126 : decode cX15_leadBy 126 = .ok (.if_icmp .eq 14, 3) := by decide +kernel
theorem dX15_leadBy_129 : decode cX15_leadBy 129 = .ok (.iload 6, 2) := by decide +kernel
theorem dX15_leadBy_131 : decode cX15_leadBy 131 = .ok (.iconst 1, 1) := by decide +kernel
theorem dX15_leadBy_132 : decode cX15_leadBy 132 = .ok (.iand, 1) := by decide +kernel
theorem dX15_leadBy_133 : decode cX15_leadBy 133 = .ok (.ifCond .ne 7, 3) := by decide +kernel
theorem dX15_leadBy_136 : decode cX15_leadBy 136 = .ok (.iconst 1, 1) := by decide +kernel
theorem dX15_leadBy_137 : decode cX15_leadBy 137 = .ok (.goto 19, 3) := by decide +kernel
theorem dX15_leadBy_140 : decode cX15_leadBy 140 = .ok (.iconst 0, 1) := by decide +kernel
theorem dX15_leadBy_141 : decode cX15_leadBy 141 = .ok (.goto 15, 3) := by decide +kernel
theorem dX15_leadBy_144 : decode cX15_leadBy 144 = .ok (.iload 6, 2) := by decide +kernel
theorem dX15_leadBy_146 : decode cX15_leadBy 146 = .ok (.iconst 2, 1) := by decide +kernel
theorem dX15_leadBy_147 : decode cX15_leadBy 147 = .ok (.iand, 1) := by decide +kernel
theorem dX15_leadBy_148 : decode cX15_leadBy 148 = .ok (.ifCond .ne 7, 3) := by decide +kernel
theorem dX15_leadBy_151 : decode cX15_leadBy 151 = .ok (.iconst 1, 1) := by decide +kernel
theorem dX15_leadBy_152 : decode cX15_leadBy 152 = .ok (.goto 4, 3) := by decide +kernel
theorem dX15_leadBy_155 : decode cX15_leadBy 155 = .ok (.iconst 0, 1) := by decide +kernel
theorem dX15_leadBy_156 : decode cX15_leadBy 156 = .ok (.istore 12, 2) := by decide +kernel
theorem dX15_leadBy_158 : decode cX15_leadBy 158 = .ok (.iload 11, 2) := by decide +kernel
theorem dX15_leadBy_160 : decode cX15_leadBy 160 = .ok (.ifCond .ne 8, 3) := by decide +kernel
theorem dX15_leadBy_163 : decode cX15_leadBy 163 = .ok (.iload 12, 2) := by decide +kernel
theorem dX15_leadBy_165 : decode cX15_leadBy 165 = .ok (.ifCond .eq 30, 3) := by decide +kernel
theorem dX15_leadBy_168 : decode cX15_leadBy 168 = .ok (.aload_n 0, 1) := by decide +kernel
theorem dX15_leadBy_169 : decode cX15_leadBy 169 = .ok (.getfield 272, 3) := by decide +kernel
theorem dX15_leadBy_172 : decode cX15_leadBy 172 = .ok (.iload 9, 2) := by decide +kernel
theorem dX15_leadBy_174 : decode cX15_leadBy 174 = .ok (.iload 4, 2) := by decide +kernel
theorem dX15_leadBy_176 : decode cX15_leadBy 176 = .ok (.iastore, 1) := by decide +kernel
theorem dX15_leadBy_177 : decode cX15_leadBy 177 = .ok (.aload_n 0, 1) := by decide +kernel
theorem dX15_leadBy_178 : decode cX15_leadBy 178 = .ok (.getfield 275, 3) := by decide +kernel
theorem dX15_leadBy_181 : decode cX15_leadBy 181 = .ok (.iload 9, 2) := by decide +kernel
theorem dX15_leadBy_183 : decode cX15_leadBy 183 = .ok (.iload 8, 2) := by decide +kernel
theorem dX15_leadBy_185 : decode cX15_leadBy 185 = .ok (.iastore, 1) := by decide +kernel
theorem dX15_leadBy_186 : decode cX15_leadBy 186 = .ok (.aload_n 0, 1) := by decide +kernel
theorem dX15_leadBy_187 : decode cX15_leadBy 187 = .ok (.getfield 278, 3) := by decide +kernel
theorem dX15_leadBy_190 : decode cX15_leadBy 190 = .ok (.iload 9, 2) := by decide +kernel
theorem dX15_leadBy_192 : decode cX15_leadBy 192 = .ok (.iload 11, 2) := by decide +kernel
theorem dX15_leadBy_194 : decode cX15_leadBy 194 = .ok (.bastore, 1) := by decide +kernel
theorem dX15_leadBy_195 : decode cX15_leadBy 195 = .ok (.iload 7, 2) := by decide +kernel
theorem dX15_leadBy_197 : decode cX15_leadBy 197 = .ok (.iload 10, 2) := by decide +kernel
theorem dX15_leadBy_199 : decode cX15_leadBy 199 = .ok (.ifCond .le 7, 3) := by decide +kernel
theorem dX15_leadBy_202 : decode cX15_leadBy 202 = .ok (.iconst 1, 1) := by decide +kernel
theorem dX15_leadBy_203 : decode cX15_leadBy 203 = .ok (.goto 4, 3) := by decide +kernel
theorem dX15_leadBy_206 : decode cX15_leadBy 206 = .ok (.iconst 0, 1) := by decide +kernel
theorem dX15_leadBy_207 : decode cX15_leadBy 207 = .ok (.iadd, 1) := by decide +kernel
theorem dX15_leadBy_208 : decode cX15_leadBy 208 = .ok (.istore 7, 2) := by decide +kernel
theorem dX15_leadBy_210 : decode cX15_leadBy 210 = .ok (.iinc 8 1, 3) := by decide +kernel
theorem dX15_leadBy_213 : decode cX15_leadBy 213 = .ok (.goto (-195), 3) := by decide +kernel
theorem dX15_leadBy_216 : decode cX15_leadBy 216 = .ok (.return_, 1) := by decide +kernel
set_option maxRecDepth 20000 in
theorem moX15_leadBy_216 {o : Hp} {F : Nat} {h : Hp} (hE : sX15_leadBy_216 F h  = some o) : Le h o := by
  exact le_some1 hE
set_option maxRecDepth 20000 in
theorem moX15_leadBy_207 {o : Hp} {k_18 : Hp → Nat → Nat → Int32 → Int32 → Int32 → Int32 → Int32 → Int32 → Int32 → Option (Hp)} {F : Nat} (mk_18 : ∀ (h : Hp) (x0 : Nat) (x1 : Nat) (x2 : Int32) (x3 : Int32) (x4 : Int32) (x5 : Int32) (x6 : Int32) (x7 : Int32) (x8 : Int32), k_18 h x0 x1 x2 x3 x4 x5 x6 x7 x8 = some o → Le h o) {h : Hp} {x0 : Nat} {x1 : Nat} {x2 : Int32} {x3 : Int32} {x4 : Int32} {x5 : Int32} {x6 : Int32} {x8 : Int32} {t0 : Int32} {t1 : Int32} (hE : sX15_leadBy_207 F k_18 h x0 x1 x2 x3 x4 x5 x6 x8 t0 t1 = some o) : Le h o := by
  obtain ⟨v_1, ev_1, hE⟩ := nm_e2 hE
  obtain ⟨v_2, ev_2, hE⟩ := nm_e2 hE
  exact mk_18 _ _ _ _ _ _ _ _ _ _ hE
set_option maxRecDepth 20000 in
theorem moX15_leadBy_195 {o : Hp} {k_18 : Hp → Nat → Nat → Int32 → Int32 → Int32 → Int32 → Int32 → Int32 → Int32 → Option (Hp)} {F : Nat} (mk_18 : ∀ (h : Hp) (x0 : Nat) (x1 : Nat) (x2 : Int32) (x3 : Int32) (x4 : Int32) (x5 : Int32) (x6 : Int32) (x7 : Int32) (x8 : Int32), k_18 h x0 x1 x2 x3 x4 x5 x6 x7 x8 = some o → Le h o) {h : Hp} {x0 : Nat} {x1 : Nat} {x2 : Int32} {x3 : Int32} {x4 : Int32} {x5 : Int32} {x6 : Int32} {x7 : Int32} {x8 : Int32} {x10 : Int32} (hE : sX15_leadBy_195 F k_18 h x0 x1 x2 x3 x4 x5 x6 x7 x8 x10 = some o) : Le h o := by
  rcases br_e hE with ⟨_, hE⟩ | ⟨_, hE⟩
  · exact moX15_leadBy_207 mk_18 hE
  · exact moX15_leadBy_207 mk_18 hE
set_option maxRecDepth 20000 in
theorem moX15_leadBy_168 {o : Hp} {k_18 : Hp → Nat → Nat → Int32 → Int32 → Int32 → Int32 → Int32 → Int32 → Int32 → Option (Hp)} {F : Nat} (mk_18 : ∀ (h : Hp) (x0 : Nat) (x1 : Nat) (x2 : Int32) (x3 : Int32) (x4 : Int32) (x5 : Int32) (x6 : Int32) (x7 : Int32) (x8 : Int32), k_18 h x0 x1 x2 x3 x4 x5 x6 x7 x8 = some o → Le h o) {h : Hp} {x0 : Nat} {x1 : Nat} {x2 : Int32} {x3 : Int32} {x4 : Int32} {x5 : Int32} {x6 : Int32} {x7 : Int32} {x8 : Int32} {x9 : Int32} {x10 : Int32} {x11 : Int32} (hE : sX15_leadBy_168 F k_18 h x0 x1 x2 x3 x4 x5 x6 x7 x8 x9 x10 x11 = some o) : Le h o := by
  obtain ⟨r_1, er_1, hE⟩ := cl_e hE
  obtain ⟨g_2, hE⟩ := gd_e hE
  obtain ⟨h_3, eh_3, hE⟩ := nm_e2 hE
  refine (le_I eh_3).tr ?_
  obtain ⟨r_4, er_4, hE⟩ := cl_e hE
  obtain ⟨g_5, hE⟩ := gd_e hE
  obtain ⟨h_6, eh_6, hE⟩ := nm_e2 hE
  refine (le_I eh_6).tr ?_
  obtain ⟨r_7, er_7, hE⟩ := cl_e hE
  obtain ⟨g_8, hE⟩ := gd_e hE
  obtain ⟨h_9, eh_9, hE⟩ := nm_e2 hE
  refine (le_I eh_9).tr ?_
  exact moX15_leadBy_195 mk_18 hE
set_option maxRecDepth 20000 in
theorem moX15_leadBy_156 {o : Hp} {k_18 : Hp → Nat → Nat → Int32 → Int32 → Int32 → Int32 → Int32 → Int32 → Int32 → Option (Hp)} {F : Nat} (mk_18 : ∀ (h : Hp) (x0 : Nat) (x1 : Nat) (x2 : Int32) (x3 : Int32) (x4 : Int32) (x5 : Int32) (x6 : Int32) (x7 : Int32) (x8 : Int32), k_18 h x0 x1 x2 x3 x4 x5 x6 x7 x8 = some o → Le h o) {h : Hp} {x0 : Nat} {x1 : Nat} {x2 : Int32} {x3 : Int32} {x4 : Int32} {x5 : Int32} {x6 : Int32} {x7 : Int32} {x8 : Int32} {x9 : Int32} {x10 : Int32} {x11 : Int32} {t0 : Int32} (hE : sX15_leadBy_156 F k_18 h x0 x1 x2 x3 x4 x5 x6 x7 x8 x9 x10 x11 t0 = some o) : Le h o := by
  rcases br_e hE with ⟨_, hE⟩ | ⟨_, hE⟩
  · rcases br_e hE with ⟨_, hE⟩ | ⟨_, hE⟩
    · exact moX15_leadBy_195 mk_18 hE
    · exact moX15_leadBy_168 mk_18 hE
  · exact moX15_leadBy_168 mk_18 hE
set_option maxRecDepth 20000 in
theorem moX15_leadBy_140 {o : Hp} {k_18 : Hp → Nat → Nat → Int32 → Int32 → Int32 → Int32 → Int32 → Int32 → Int32 → Option (Hp)} {F : Nat} (mk_18 : ∀ (h : Hp) (x0 : Nat) (x1 : Nat) (x2 : Int32) (x3 : Int32) (x4 : Int32) (x5 : Int32) (x6 : Int32) (x7 : Int32) (x8 : Int32), k_18 h x0 x1 x2 x3 x4 x5 x6 x7 x8 = some o → Le h o) {h : Hp} {x0 : Nat} {x1 : Nat} {x2 : Int32} {x3 : Int32} {x4 : Int32} {x5 : Int32} {x6 : Int32} {x7 : Int32} {x8 : Int32} {x9 : Int32} {x10 : Int32} {x11 : Int32} (hE : sX15_leadBy_140 F k_18 h x0 x1 x2 x3 x4 x5 x6 x7 x8 x9 x10 x11 = some o) : Le h o := by
  exact moX15_leadBy_156 mk_18 hE
set_option maxRecDepth 20000 in
theorem moX15_leadBy_113 {o : Hp} {k_18 : Hp → Nat → Nat → Int32 → Int32 → Int32 → Int32 → Int32 → Int32 → Int32 → Option (Hp)} {F : Nat} (mk_18 : ∀ (h : Hp) (x0 : Nat) (x1 : Nat) (x2 : Int32) (x3 : Int32) (x4 : Int32) (x5 : Int32) (x6 : Int32) (x7 : Int32) (x8 : Int32), k_18 h x0 x1 x2 x3 x4 x5 x6 x7 x8 = some o → Le h o) {h : Hp} {x0 : Nat} {x1 : Nat} {x2 : Int32} {x3 : Int32} {x4 : Int32} {x5 : Int32} {x6 : Int32} {x7 : Int32} {x8 : Int32} {x9 : Int32} {x10 : Int32} {t0 : Int32} (hE : sX15_leadBy_113 F k_18 h x0 x1 x2 x3 x4 x5 x6 x7 x8 x9 x10 t0 = some o) : Le h o := by
  rcases br_e hE with ⟨_, hE⟩ | ⟨_, hE⟩
  · rcases br_e hE with ⟨_, hE⟩ | ⟨_, hE⟩
    · exact moX15_leadBy_156 mk_18 hE
    · exact moX15_leadBy_156 mk_18 hE
  · obtain ⟨o_3, eo_3, hE⟩ := cl_e hE
    refine (moX15_sideOf eo_3).tr ?_
    rcases br_e hE with ⟨_, hE⟩ | ⟨_, hE⟩
    · exact moX15_leadBy_140 mk_18 hE
    · rcases br_e hE with ⟨_, hE⟩ | ⟨_, hE⟩
      · exact moX15_leadBy_156 mk_18 hE
      · exact moX15_leadBy_140 mk_18 hE
set_option maxRecDepth 20000 in
theorem moX15_leadBy_112 {o : Hp} {k_18 : Hp → Nat → Nat → Int32 → Int32 → Int32 → Int32 → Int32 → Int32 → Int32 → Option (Hp)} {F : Nat} (mk_18 : ∀ (h : Hp) (x0 : Nat) (x1 : Nat) (x2 : Int32) (x3 : Int32) (x4 : Int32) (x5 : Int32) (x6 : Int32) (x7 : Int32) (x8 : Int32), k_18 h x0 x1 x2 x3 x4 x5 x6 x7 x8 = some o → Le h o) {h : Hp} {x0 : Nat} {x1 : Nat} {x2 : Int32} {x3 : Int32} {x4 : Int32} {x5 : Int32} {x6 : Int32} {x7 : Int32} {x8 : Int32} {x9 : Int32} {x10 : Int32} (hE : sX15_leadBy_112 F k_18 h x0 x1 x2 x3 x4 x5 x6 x7 x8 x9 x10 = some o) : Le h o := by
  exact moX15_leadBy_113 mk_18 hE
set_option maxRecDepth 20000 in
theorem moX15_leadBy_18 {o : Hp} {F : Nat} : ∀ (f : Nat) {h : Hp} {x0 : Nat} {x1 : Nat} {x2 : Int32} {x3 : Int32} {x4 : Int32} {x5 : Int32} {x6 : Int32} {x7 : Int32} {x8 : Int32}, sX15_leadBy_18 F f h x0 x1 x2 x3 x4 x5 x6 x7 x8 = some o → Le h o := by
  intro f
  induction f with
  | zero =>
    intro h x0 x1 x2 x3 x4 x5 x6 x7 x8 hE
    rw [sX15_leadBy_18] at hE
    cases hE
  | succ f ih =>
    intro h x0 x1 x2 x3 x4 x5 x6 x7 x8 hE
    rw [sX15_leadBy_18] at hE
    have mk_18 : ∀ (h : Hp) (x0 : Nat) (x1 : Nat) (x2 : Int32) (x3 : Int32) (x4 : Int32) (x5 : Int32) (x6 : Int32) (x7 : Int32) (x8 : Int32), sX15_leadBy_18 F f h x0 x1 x2 x3 x4 x5 x6 x7 x8 = some o → Le h o := fun h x0 x1 x2 x3 x4 x5 x6 x7 x8 hE => ih hE
    obtain ⟨r_1, er_1, hE⟩ := cl_e hE
    obtain ⟨r_2, er_2, hE⟩ := cl_e hE
    obtain ⟨g_3, hE⟩ := gd_e hE
    rcases br_e hE with ⟨_, hE⟩ | ⟨_, hE⟩
    · exact moX15_leadBy_216 hE
    · rcases br_e hE with ⟨_, hE⟩ | ⟨_, hE⟩
      · exact moX15_leadBy_216 hE
      · obtain ⟨o_6, eo_6, hE⟩ := cl_e hE
        refine (moX15_onward eo_6).tr ?_
        rcases br_e hE with ⟨_, hE⟩ | ⟨_, hE⟩
        · exact le_some1 hE
        · obtain ⟨r_8, er_8, hE⟩ := cl_e hE
          obtain ⟨g_9, hE⟩ := gd_e hE
          obtain ⟨v_10, ev_10, hE⟩ := nm_e2 hE
          obtain ⟨o_11, eo_11, hE⟩ := cl_e hE
          refine (moX15_isFree eo_11).tr ?_
          rcases br_e hE with ⟨_, hE⟩ | ⟨_, hE⟩
          · exact moX15_leadBy_195 mk_18 hE
          · obtain ⟨r_13, er_13, hE⟩ := cl_e hE
            obtain ⟨g_14, hE⟩ := gd_e hE
            rcases br_e hE with ⟨_, hE⟩ | ⟨_, hE⟩
            · rcases br_e hE with ⟨_, hE⟩ | ⟨_, hE⟩
              · exact moX15_leadBy_112 mk_18 hE
              · rcases br_e hE with ⟨_, hE⟩ | ⟨_, hE⟩
                · exact moX15_leadBy_112 mk_18 hE
                · obtain ⟨o_18, eo_18, hE⟩ := cl_e hE
                  refine (moX15_isGoneOver eo_18).tr ?_
                  rcases br_e hE with ⟨_, hE⟩ | ⟨_, hE⟩
                  · exact moX15_leadBy_112 mk_18 hE
                  · exact moX15_leadBy_113 mk_18 hE
            · exact moX15_leadBy_195 mk_18 hE
set_option maxRecDepth 20000 in
theorem moX15_leadBy {o : Hp} {F : Nat} {h : Hp} {x0 : Nat} {x1 : Nat} {x2 : Int32} {x3 : Int32} {x4 : Int32} {x5 : Int32} (hE : sX15_leadBy F h x0 x1 x2 x3 x4 x5 = some o) : Le h o := by
  obtain ⟨r_1, er_1, hE⟩ := cl_e hE
  obtain ⟨r_2, er_2, hE⟩ := cl_e hE
  obtain ⟨g_3, hE⟩ := gd_e hE
  obtain ⟨v_4, ev_4, hE⟩ := nm_e2 hE
  exact moX15_leadBy_18 _ hE
set_option maxRecDepth 20000 in
theorem bX15_leadBy_216 {p : Program} {l : Launch} {e : Env} {s : State} {m : MethodId} {args : Array Value} {below : List Frame} {meth : Method} {c : Code} {X : Ec} {h0 : Hp} {o : Hp} {F : Nat} (C : Cx X p s m args meth c RX15 cX15_leadBy 13 none "leadBy") {h : Hp} {H : Heap} {locs : List Loc} (hkm : Km h0 h) (hW : Wx X h H) (hZ : va_S (aA (eB X)) s.heap H locs) (ls : Array Slot) (hl : lv_has ls 13 []) (hE : sX15_leadBy_216 F h  = some o) : W p l e (rm 1 24) s m args below meth c H locs 0 0 (MQ below (QV X h0 o) args s 0 0 (aA (eB X))) (F0 m 216 ls []) := by
  exact x_vret C rfl hW hZ hkm hE dX15_leadBy_216
set_option maxRecDepth 20000 in
theorem bX15_leadBy_207 {p : Program} {l : Launch} {e : Env} {s : State} {m : MethodId} {args : Array Value} {below : List Frame} {meth : Method} {c : Code} {X : Ec} {h0 : Hp} {o : Hp} {k_18 : Hp → Nat → Nat → Int32 → Int32 → Int32 → Int32 → Int32 → Int32 → Int32 → Option (Hp)} {F : Nat} (C : Cx X p s m args meth c RX15 cX15_leadBy 13 none "leadBy") (hk_18 : ∀ (h : Hp) (x0 : Nat) (x1 : Nat) (x2 : Int32) (x3 : Int32) (x4 : Int32) (x5 : Int32) (x6 : Int32) (x7 : Int32) (x8 : Int32) (H : Heap) (locs : List Loc), hK h x0 = 15 → hK h x1 = 12 → Km h0 h → Wx X h H → va_S (aA (eB X)) s.heap H locs → ∀ (ls : Array Slot), lv_has ls 13 [(0, .ref x0), (1, .ref x1), (2, .int x2), (3, .int x3), (4, .int x4), (5, .int x5), (6, .int x6), (7, .int x7), (8, .int x8)] → k_18 h x0 x1 x2 x3 x4 x5 x6 x7 x8 = some o → W p l e (rm 1 24) s m args below meth c H locs 0 0 (MQ below (QV X h0 o) args s 0 0 (aA (eB X))) (F0 m 18 ls [])) {h : Hp} {x0 : Nat} {x1 : Nat} {x2 : Int32} {x3 : Int32} {x4 : Int32} {x5 : Int32} {x6 : Int32} {x8 : Int32} {t0 : Int32} {t1 : Int32} {H : Heap} {locs : List Loc} (k_x0 : hK h x0 = 15) (k_x1 : hK h x1 = 12) (hkm : Km h0 h) (hW : Wx X h H) (hZ : va_S (aA (eB X)) s.heap H locs) (ls : Array Slot) (hl : lv_has ls 13 [(0, .ref x0), (1, .ref x1), (2, .int x2), (3, .int x3), (4, .int x4), (5, .int x5), (6, .int x6), (8, .int x8)]) (hE : sX15_leadBy_207 F k_18 h x0 x1 x2 x3 x4 x5 x6 x8 t0 t1 = some o) : W p l e (rm 1 24) s m args below meth c H locs 0 0 (MQ below (QV X h0 o) args s 0 0 (aA (eB X))) (F0 m 207 ls [.int t0, .int t1]) := by
  refine lv_iadd C.1 C.2.1 dX15_leadBy_207 ?_
  obtain ⟨v_1, ev_1, hE⟩ := nm_e2 hE
  refine x_nmI ev_1 ?_
  refine lv_istore (lv' := [(7, .int v_1), (0, .ref x0), (1, .ref x1), (2, .int x2), (3, .int x3), (4, .int x4), (5, .int x5), (6, .int x6), (8, .int x8)]) C.1 C.2.1 dX15_leadBy_208 hl (by decide) rfl (fun ls hl => ?_)
  obtain ⟨v_2, ev_2, hE⟩ := nm_e2 hE
  refine lv_iinc (v := v_2) (lv' := [(8, .int v_2), (7, .int v_1), (0, .ref x0), (1, .ref x1), (2, .int x2), (3, .int x3), (4, .int x4), (5, .int x5), (6, .int x6)]) C.1 C.2.1 dX15_leadBy_210 hl (k := 8) rfl (by rw [ev_2]; rfl) (by decide) rfl (fun ls hl => ?_)
  refine lv_goto (tgt := 18) C.1 C.2.1 dX15_leadBy_213 (by decide) ?_
  exact hk_18 _ _ _ _ _ _ _ _ _ _ _ _ k_x0 k_x1 hkm hW hZ _ (lv_sub hl [2, 3, 4, 5, 6, 7, 8, 1, 0] rfl) hE
set_option maxRecDepth 20000 in
theorem bX15_leadBy_195 {p : Program} {l : Launch} {e : Env} {s : State} {m : MethodId} {args : Array Value} {below : List Frame} {meth : Method} {c : Code} {X : Ec} {h0 : Hp} {o : Hp} {k_18 : Hp → Nat → Nat → Int32 → Int32 → Int32 → Int32 → Int32 → Int32 → Int32 → Option (Hp)} {F : Nat} (C : Cx X p s m args meth c RX15 cX15_leadBy 13 none "leadBy") (hk_18 : ∀ (h : Hp) (x0 : Nat) (x1 : Nat) (x2 : Int32) (x3 : Int32) (x4 : Int32) (x5 : Int32) (x6 : Int32) (x7 : Int32) (x8 : Int32) (H : Heap) (locs : List Loc), hK h x0 = 15 → hK h x1 = 12 → Km h0 h → Wx X h H → va_S (aA (eB X)) s.heap H locs → ∀ (ls : Array Slot), lv_has ls 13 [(0, .ref x0), (1, .ref x1), (2, .int x2), (3, .int x3), (4, .int x4), (5, .int x5), (6, .int x6), (7, .int x7), (8, .int x8)] → k_18 h x0 x1 x2 x3 x4 x5 x6 x7 x8 = some o → W p l e (rm 1 24) s m args below meth c H locs 0 0 (MQ below (QV X h0 o) args s 0 0 (aA (eB X))) (F0 m 18 ls [])) {h : Hp} {x0 : Nat} {x1 : Nat} {x2 : Int32} {x3 : Int32} {x4 : Int32} {x5 : Int32} {x6 : Int32} {x7 : Int32} {x8 : Int32} {x10 : Int32} {H : Heap} {locs : List Loc} (k_x0 : hK h x0 = 15) (k_x1 : hK h x1 = 12) (hkm : Km h0 h) (hW : Wx X h H) (hZ : va_S (aA (eB X)) s.heap H locs) (ls : Array Slot) (hl : lv_has ls 13 [(0, .ref x0), (1, .ref x1), (2, .int x2), (3, .int x3), (4, .int x4), (5, .int x5), (6, .int x6), (7, .int x7), (8, .int x8), (10, .int x10)]) (hE : sX15_leadBy_195 F k_18 h x0 x1 x2 x3 x4 x5 x6 x7 x8 x10 = some o) : W p l e (rm 1 24) s m args below meth c H locs 0 0 (MQ below (QV X h0 o) args s 0 0 (aA (eB X))) (F0 m 195 ls []) := by
  refine lv_iload C.1 C.2.1 dX15_leadBy_195 (lv_at hl 7 rfl) ?_
  refine lv_iload C.1 C.2.1 dX15_leadBy_197 (lv_at hl 9 rfl) ?_
  refine lv_if_le (tgt := 206) C.1 C.2.1 dX15_leadBy_199 (by decide) (fun c_1 => ?_) (fun c_1 => ?_)
  · have hE := br_p hE c_1
    refine lv_iconst (v := (0 : Int32)) C.1 C.2.1 dX15_leadBy_206 (by decide) ?_
    exact bX15_leadBy_207 C hk_18 k_x0 k_x1 hkm hW hZ _ (lv_sub hl [0, 1, 2, 3, 4, 5, 6, 8] rfl) hE
  · have hE := br_n hE c_1
    refine lv_iconst (v := (1 : Int32)) C.1 C.2.1 dX15_leadBy_202 (by decide) ?_
    refine lv_goto (tgt := 207) C.1 C.2.1 dX15_leadBy_203 (by decide) ?_
    exact bX15_leadBy_207 C hk_18 k_x0 k_x1 hkm hW hZ _ (lv_sub hl [0, 1, 2, 3, 4, 5, 6, 8] rfl) hE
set_option maxRecDepth 20000 in
theorem bX15_leadBy_168 {p : Program} {l : Launch} {e : Env} {s : State} {m : MethodId} {args : Array Value} {below : List Frame} {meth : Method} {c : Code} {X : Ec} {h0 : Hp} {o : Hp} {k_18 : Hp → Nat → Nat → Int32 → Int32 → Int32 → Int32 → Int32 → Int32 → Int32 → Option (Hp)} {F : Nat} (C : Cx X p s m args meth c RX15 cX15_leadBy 13 none "leadBy") (hk_18 : ∀ (h : Hp) (x0 : Nat) (x1 : Nat) (x2 : Int32) (x3 : Int32) (x4 : Int32) (x5 : Int32) (x6 : Int32) (x7 : Int32) (x8 : Int32) (H : Heap) (locs : List Loc), hK h x0 = 15 → hK h x1 = 12 → Km h0 h → Wx X h H → va_S (aA (eB X)) s.heap H locs → ∀ (ls : Array Slot), lv_has ls 13 [(0, .ref x0), (1, .ref x1), (2, .int x2), (3, .int x3), (4, .int x4), (5, .int x5), (6, .int x6), (7, .int x7), (8, .int x8)] → k_18 h x0 x1 x2 x3 x4 x5 x6 x7 x8 = some o → W p l e (rm 1 24) s m args below meth c H locs 0 0 (MQ below (QV X h0 o) args s 0 0 (aA (eB X))) (F0 m 18 ls [])) {h : Hp} {x0 : Nat} {x1 : Nat} {x2 : Int32} {x3 : Int32} {x4 : Int32} {x5 : Int32} {x6 : Int32} {x7 : Int32} {x8 : Int32} {x9 : Int32} {x10 : Int32} {x11 : Int32} {H : Heap} {locs : List Loc} (k_x0 : hK h x0 = 15) (k_x1 : hK h x1 = 12) (hkm : Km h0 h) (hW : Wx X h H) (hZ : va_S (aA (eB X)) s.heap H locs) (ls : Array Slot) (hl : lv_has ls 13 [(0, .ref x0), (1, .ref x1), (2, .int x2), (3, .int x3), (4, .int x4), (5, .int x5), (6, .int x6), (7, .int x7), (8, .int x8), (9, .int x9), (10, .int x10), (11, .int x11)]) (hE : sX15_leadBy_168 F k_18 h x0 x1 x2 x3 x4 x5 x6 x7 x8 x9 x10 x11 = some o) : W p l e (rm 1 24) s m args below meth c H locs 0 0 (MQ below (QV X h0 o) args s 0 0 (aA (eB X))) (F0 m 168 ls []) := by
  refine lv_aload_n C.1 C.2.1 dX15_leadBy_168 rfl (lv_at hl 0 rfl) ?_
  obtain ⟨r_1, er_1, hE⟩ := cl_e hE
  refine gf_X15_272 C hW k_x0 er_1 dX15_leadBy_169 (fun k_r_1 => ?_)
  refine lv_iload C.1 C.2.1 dX15_leadBy_172 (lv_at hl 9 rfl) ?_
  refine lv_iload C.1 C.2.1 dX15_leadBy_174 (lv_at hl 4 rfl) ?_
  obtain ⟨g_2, hE⟩ := gd_e hE
  obtain ⟨h_3, eh_3, hE⟩ := nm_e2 hE
  refine y_iast C hW hZ k_r_1 g_2 eh_3 dX15_leadBy_176 (fun _ _ hW km hZ => ?_)
  replace hkm := hkm.tr km
  replace k_x0 := km.at k_x0 (by decide)
  replace k_x1 := km.at k_x1 (by decide)
  refine lv_aload_n C.1 C.2.1 dX15_leadBy_177 rfl (lv_at hl 0 rfl) ?_
  obtain ⟨r_4, er_4, hE⟩ := cl_e hE
  refine gf_X15_275 C hW k_x0 er_4 dX15_leadBy_178 (fun k_r_4 => ?_)
  refine lv_iload C.1 C.2.1 dX15_leadBy_181 (lv_at hl 9 rfl) ?_
  refine lv_iload C.1 C.2.1 dX15_leadBy_183 (lv_at hl 8 rfl) ?_
  obtain ⟨g_5, hE⟩ := gd_e hE
  obtain ⟨h_6, eh_6, hE⟩ := nm_e2 hE
  refine y_iast C hW hZ k_r_4 g_5 eh_6 dX15_leadBy_185 (fun _ _ hW km hZ => ?_)
  replace hkm := hkm.tr km
  replace k_x0 := km.at k_x0 (by decide)
  replace k_x1 := km.at k_x1 (by decide)
  refine lv_aload_n C.1 C.2.1 dX15_leadBy_186 rfl (lv_at hl 0 rfl) ?_
  obtain ⟨r_7, er_7, hE⟩ := cl_e hE
  refine gf_X15_278 C hW k_x0 er_7 dX15_leadBy_187 (fun k_r_7 => ?_)
  refine lv_iload C.1 C.2.1 dX15_leadBy_190 (lv_at hl 9 rfl) ?_
  refine lv_iload C.1 C.2.1 dX15_leadBy_192 (lv_at hl 11 rfl) ?_
  obtain ⟨g_8, hE⟩ := gd_e hE
  obtain ⟨h_9, eh_9, hE⟩ := nm_e2 hE
  refine y_zast C hW hZ k_r_7 g_8 eh_9 dX15_leadBy_194 (fun _ _ hW km hZ => ?_)
  replace hkm := hkm.tr km
  replace k_x0 := km.at k_x0 (by decide)
  replace k_x1 := km.at k_x1 (by decide)
  exact bX15_leadBy_195 C hk_18 k_x0 k_x1 hkm hW hZ _ (lv_sub hl [0, 1, 2, 3, 4, 5, 6, 7, 8, 10] rfl) hE
set_option maxRecDepth 20000 in
theorem bX15_leadBy_156 {p : Program} {l : Launch} {e : Env} {s : State} {m : MethodId} {args : Array Value} {below : List Frame} {meth : Method} {c : Code} {X : Ec} {h0 : Hp} {o : Hp} {k_18 : Hp → Nat → Nat → Int32 → Int32 → Int32 → Int32 → Int32 → Int32 → Int32 → Option (Hp)} {F : Nat} (C : Cx X p s m args meth c RX15 cX15_leadBy 13 none "leadBy") (hk_18 : ∀ (h : Hp) (x0 : Nat) (x1 : Nat) (x2 : Int32) (x3 : Int32) (x4 : Int32) (x5 : Int32) (x6 : Int32) (x7 : Int32) (x8 : Int32) (H : Heap) (locs : List Loc), hK h x0 = 15 → hK h x1 = 12 → Km h0 h → Wx X h H → va_S (aA (eB X)) s.heap H locs → ∀ (ls : Array Slot), lv_has ls 13 [(0, .ref x0), (1, .ref x1), (2, .int x2), (3, .int x3), (4, .int x4), (5, .int x5), (6, .int x6), (7, .int x7), (8, .int x8)] → k_18 h x0 x1 x2 x3 x4 x5 x6 x7 x8 = some o → W p l e (rm 1 24) s m args below meth c H locs 0 0 (MQ below (QV X h0 o) args s 0 0 (aA (eB X))) (F0 m 18 ls [])) {h : Hp} {x0 : Nat} {x1 : Nat} {x2 : Int32} {x3 : Int32} {x4 : Int32} {x5 : Int32} {x6 : Int32} {x7 : Int32} {x8 : Int32} {x9 : Int32} {x10 : Int32} {x11 : Int32} {t0 : Int32} {H : Heap} {locs : List Loc} (k_x0 : hK h x0 = 15) (k_x1 : hK h x1 = 12) (hkm : Km h0 h) (hW : Wx X h H) (hZ : va_S (aA (eB X)) s.heap H locs) (ls : Array Slot) (hl : lv_has ls 13 [(0, .ref x0), (1, .ref x1), (2, .int x2), (3, .int x3), (4, .int x4), (5, .int x5), (6, .int x6), (7, .int x7), (8, .int x8), (9, .int x9), (10, .int x10), (11, .int x11)]) (hE : sX15_leadBy_156 F k_18 h x0 x1 x2 x3 x4 x5 x6 x7 x8 x9 x10 x11 t0 = some o) : W p l e (rm 1 24) s m args below meth c H locs 0 0 (MQ below (QV X h0 o) args s 0 0 (aA (eB X))) (F0 m 156 ls [.int t0]) := by
  refine lv_istore (lv' := [(12, .int t0), (0, .ref x0), (1, .ref x1), (2, .int x2), (3, .int x3), (4, .int x4), (5, .int x5), (6, .int x6), (7, .int x7), (8, .int x8), (9, .int x9), (10, .int x10), (11, .int x11)]) C.1 C.2.1 dX15_leadBy_156 hl (by decide) rfl (fun ls hl => ?_)
  refine lv_iload C.1 C.2.1 dX15_leadBy_158 (lv_at hl 12 rfl) ?_
  refine lv_if_ne (tgt := 168) C.1 C.2.1 dX15_leadBy_160 (by decide) (fun c_1 => ?_) (fun c_1 => ?_)
  · have hE := br_n hE c_1
    exact bX15_leadBy_168 C hk_18 k_x0 k_x1 hkm hW hZ _ (lv_sub hl [1, 2, 3, 4, 5, 6, 7, 8, 9, 10, 11, 12] rfl) hE
  · have hE := br_p hE c_1
    refine lv_iload C.1 C.2.1 dX15_leadBy_163 (lv_at hl 0 rfl) ?_
    refine lv_if_eq (tgt := 195) C.1 C.2.1 dX15_leadBy_165 (by decide) (fun c_2 => ?_) (fun c_2 => ?_)
    · have hE := br_p hE c_2
      exact bX15_leadBy_195 C hk_18 k_x0 k_x1 hkm hW hZ _ (lv_sub hl [1, 2, 3, 4, 5, 6, 7, 8, 9, 11] rfl) hE
    · have hE := br_n hE c_2
      exact bX15_leadBy_168 C hk_18 k_x0 k_x1 hkm hW hZ _ (lv_sub hl [1, 2, 3, 4, 5, 6, 7, 8, 9, 10, 11, 12] rfl) hE
set_option maxRecDepth 20000 in
theorem bX15_leadBy_140 {p : Program} {l : Launch} {e : Env} {s : State} {m : MethodId} {args : Array Value} {below : List Frame} {meth : Method} {c : Code} {X : Ec} {h0 : Hp} {o : Hp} {k_18 : Hp → Nat → Nat → Int32 → Int32 → Int32 → Int32 → Int32 → Int32 → Int32 → Option (Hp)} {F : Nat} (C : Cx X p s m args meth c RX15 cX15_leadBy 13 none "leadBy") (hk_18 : ∀ (h : Hp) (x0 : Nat) (x1 : Nat) (x2 : Int32) (x3 : Int32) (x4 : Int32) (x5 : Int32) (x6 : Int32) (x7 : Int32) (x8 : Int32) (H : Heap) (locs : List Loc), hK h x0 = 15 → hK h x1 = 12 → Km h0 h → Wx X h H → va_S (aA (eB X)) s.heap H locs → ∀ (ls : Array Slot), lv_has ls 13 [(0, .ref x0), (1, .ref x1), (2, .int x2), (3, .int x3), (4, .int x4), (5, .int x5), (6, .int x6), (7, .int x7), (8, .int x8)] → k_18 h x0 x1 x2 x3 x4 x5 x6 x7 x8 = some o → W p l e (rm 1 24) s m args below meth c H locs 0 0 (MQ below (QV X h0 o) args s 0 0 (aA (eB X))) (F0 m 18 ls [])) {h : Hp} {x0 : Nat} {x1 : Nat} {x2 : Int32} {x3 : Int32} {x4 : Int32} {x5 : Int32} {x6 : Int32} {x7 : Int32} {x8 : Int32} {x9 : Int32} {x10 : Int32} {x11 : Int32} {H : Heap} {locs : List Loc} (k_x0 : hK h x0 = 15) (k_x1 : hK h x1 = 12) (hkm : Km h0 h) (hW : Wx X h H) (hZ : va_S (aA (eB X)) s.heap H locs) (ls : Array Slot) (hl : lv_has ls 13 [(0, .ref x0), (1, .ref x1), (2, .int x2), (3, .int x3), (4, .int x4), (5, .int x5), (6, .int x6), (7, .int x7), (8, .int x8), (9, .int x9), (10, .int x10), (11, .int x11)]) (hE : sX15_leadBy_140 F k_18 h x0 x1 x2 x3 x4 x5 x6 x7 x8 x9 x10 x11 = some o) : W p l e (rm 1 24) s m args below meth c H locs 0 0 (MQ below (QV X h0 o) args s 0 0 (aA (eB X))) (F0 m 140 ls []) := by
  refine lv_iconst (v := (0 : Int32)) C.1 C.2.1 dX15_leadBy_140 (by decide) ?_
  refine lv_goto (tgt := 156) C.1 C.2.1 dX15_leadBy_141 (by decide) ?_
  exact bX15_leadBy_156 C hk_18 k_x0 k_x1 hkm hW hZ _ (lv_sub hl [0, 1, 2, 3, 4, 5, 6, 7, 8, 9, 10, 11] rfl) hE
set_option maxRecDepth 20000 in
theorem bX15_leadBy_113 {p : Program} {l : Launch} {e : Env} {s : State} {m : MethodId} {args : Array Value} {below : List Frame} {meth : Method} {c : Code} {X : Ec} {h0 : Hp} {o : Hp} {k_18 : Hp → Nat → Nat → Int32 → Int32 → Int32 → Int32 → Int32 → Int32 → Int32 → Option (Hp)} {F : Nat} (C : Cx X p s m args meth c RX15 cX15_leadBy 13 none "leadBy") (hk_18 : ∀ (h : Hp) (x0 : Nat) (x1 : Nat) (x2 : Int32) (x3 : Int32) (x4 : Int32) (x5 : Int32) (x6 : Int32) (x7 : Int32) (x8 : Int32) (H : Heap) (locs : List Loc), hK h x0 = 15 → hK h x1 = 12 → Km h0 h → Wx X h H → va_S (aA (eB X)) s.heap H locs → ∀ (ls : Array Slot), lv_has ls 13 [(0, .ref x0), (1, .ref x1), (2, .int x2), (3, .int x3), (4, .int x4), (5, .int x5), (6, .int x6), (7, .int x7), (8, .int x8)] → k_18 h x0 x1 x2 x3 x4 x5 x6 x7 x8 = some o → W p l e (rm 1 24) s m args below meth c H locs 0 0 (MQ below (QV X h0 o) args s 0 0 (aA (eB X))) (F0 m 18 ls [])) {h : Hp} {x0 : Nat} {x1 : Nat} {x2 : Int32} {x3 : Int32} {x4 : Int32} {x5 : Int32} {x6 : Int32} {x7 : Int32} {x8 : Int32} {x9 : Int32} {x10 : Int32} {t0 : Int32} {H : Heap} {locs : List Loc} (k_x0 : hK h x0 = 15) (k_x1 : hK h x1 = 12) (hkm : Km h0 h) (hW : Wx X h H) (hZ : va_S (aA (eB X)) s.heap H locs) (ls : Array Slot) (hl : lv_has ls 13 [(0, .ref x0), (1, .ref x1), (2, .int x2), (3, .int x3), (4, .int x4), (5, .int x5), (6, .int x6), (7, .int x7), (8, .int x8), (9, .int x9), (10, .int x10)]) (hE : sX15_leadBy_113 F k_18 h x0 x1 x2 x3 x4 x5 x6 x7 x8 x9 x10 t0 = some o) : W p l e (rm 1 24) s m args below meth c H locs 0 0 (MQ below (QV X h0 o) args s 0 0 (aA (eB X))) (F0 m 113 ls [.int t0]) := by
  refine lv_istore (lv' := [(11, .int t0), (0, .ref x0), (1, .ref x1), (2, .int x2), (3, .int x3), (4, .int x4), (5, .int x5), (6, .int x6), (7, .int x7), (8, .int x8), (9, .int x9), (10, .int x10)]) C.1 C.2.1 dX15_leadBy_113 hl (by decide) rfl (fun ls hl => ?_)
  refine lv_iload C.1 C.2.1 dX15_leadBy_115 (lv_at hl 11 rfl) ?_
  refine lv_if_le (tgt := 144) C.1 C.2.1 dX15_leadBy_117 (by decide) (fun c_1 => ?_) (fun c_1 => ?_)
  · have hE := br_p hE c_1
    refine lv_iload C.1 C.2.1 dX15_leadBy_144 (lv_at hl 7 rfl) ?_
    refine lv_iconst (v := (2 : Int32)) C.1 C.2.1 dX15_leadBy_146 (by decide) ?_
    refine lv_iand C.1 C.2.1 dX15_leadBy_147 ?_
    refine lv_if_ne (tgt := 155) C.1 C.2.1 dX15_leadBy_148 (by decide) (fun c_2 => ?_) (fun c_2 => ?_)
    · have hE := br_n hE c_2
      refine lv_iconst (v := (0 : Int32)) C.1 C.2.1 dX15_leadBy_155 (by decide) ?_
      exact bX15_leadBy_156 C hk_18 k_x0 k_x1 hkm hW hZ _ (lv_sub hl [1, 2, 3, 4, 5, 6, 7, 8, 9, 10, 11, 0] rfl) hE
    · have hE := br_p hE c_2
      refine lv_iconst (v := (1 : Int32)) C.1 C.2.1 dX15_leadBy_151 (by decide) ?_
      refine lv_goto (tgt := 156) C.1 C.2.1 dX15_leadBy_152 (by decide) ?_
      exact bX15_leadBy_156 C hk_18 k_x0 k_x1 hkm hW hZ _ (lv_sub hl [1, 2, 3, 4, 5, 6, 7, 8, 9, 10, 11, 0] rfl) hE
  · have hE := br_n hE c_1
    refine lv_iload C.1 C.2.1 dX15_leadBy_120 (lv_at hl 11 rfl) ?_
    obtain ⟨o_3, eo_3, hE⟩ := cl_e hE
    refine x_kI (o := o_3) (z_runS (As := [.int x10]) (rest := []) C (ct_X15_sideOf l X eo_3) cw_X15_489 hW hZ rfl hl.1 (Nat.le_of_ble_eq_true rfl) rfl dX15_leadBy_122 ⟨Nat.le_of_ble_eq_true rfl, Nat.le_of_ble_eq_true rfl⟩ ⟨Nat.le_refl _, Nat.le_refl _⟩) hZ (fun _ _ hW km hZ => ?_)
    replace hkm := hkm.tr km
    replace k_x0 := km.at k_x0 (by decide)
    replace k_x1 := km.at k_x1 (by decide)
    refine lv_iload_n C.1 C.2.1 dX15_leadBy_125 rfl (lv_at hl 4 rfl) ?_
    refine lv_icmp_eq (tgt := 140) C.1 C.2.1 dX15_leadBy_126 (by decide) (fun c_4 => ?_) (fun c_4 => ?_)
    · have hE := br_p hE c_4
      exact bX15_leadBy_140 C hk_18 k_x0 k_x1 hkm hW hZ _ (lv_sub hl [1, 2, 3, 4, 5, 6, 7, 8, 9, 10, 11, 0] rfl) hE
    · have hE := br_n hE c_4
      refine lv_iload C.1 C.2.1 dX15_leadBy_129 (lv_at hl 7 rfl) ?_
      refine lv_iconst (v := (1 : Int32)) C.1 C.2.1 dX15_leadBy_131 (by decide) ?_
      refine lv_iand C.1 C.2.1 dX15_leadBy_132 ?_
      refine lv_if_ne (tgt := 140) C.1 C.2.1 dX15_leadBy_133 (by decide) (fun c_5 => ?_) (fun c_5 => ?_)
      · have hE := br_n hE c_5
        exact bX15_leadBy_140 C hk_18 k_x0 k_x1 hkm hW hZ _ (lv_sub hl [1, 2, 3, 4, 5, 6, 7, 8, 9, 10, 11, 0] rfl) hE
      · have hE := br_p hE c_5
        refine lv_iconst (v := (1 : Int32)) C.1 C.2.1 dX15_leadBy_136 (by decide) ?_
        refine lv_goto (tgt := 156) C.1 C.2.1 dX15_leadBy_137 (by decide) ?_
        exact bX15_leadBy_156 C hk_18 k_x0 k_x1 hkm hW hZ _ (lv_sub hl [1, 2, 3, 4, 5, 6, 7, 8, 9, 10, 11, 0] rfl) hE
set_option maxRecDepth 20000 in
theorem bX15_leadBy_112 {p : Program} {l : Launch} {e : Env} {s : State} {m : MethodId} {args : Array Value} {below : List Frame} {meth : Method} {c : Code} {X : Ec} {h0 : Hp} {o : Hp} {k_18 : Hp → Nat → Nat → Int32 → Int32 → Int32 → Int32 → Int32 → Int32 → Int32 → Option (Hp)} {F : Nat} (C : Cx X p s m args meth c RX15 cX15_leadBy 13 none "leadBy") (hk_18 : ∀ (h : Hp) (x0 : Nat) (x1 : Nat) (x2 : Int32) (x3 : Int32) (x4 : Int32) (x5 : Int32) (x6 : Int32) (x7 : Int32) (x8 : Int32) (H : Heap) (locs : List Loc), hK h x0 = 15 → hK h x1 = 12 → Km h0 h → Wx X h H → va_S (aA (eB X)) s.heap H locs → ∀ (ls : Array Slot), lv_has ls 13 [(0, .ref x0), (1, .ref x1), (2, .int x2), (3, .int x3), (4, .int x4), (5, .int x5), (6, .int x6), (7, .int x7), (8, .int x8)] → k_18 h x0 x1 x2 x3 x4 x5 x6 x7 x8 = some o → W p l e (rm 1 24) s m args below meth c H locs 0 0 (MQ below (QV X h0 o) args s 0 0 (aA (eB X))) (F0 m 18 ls [])) {h : Hp} {x0 : Nat} {x1 : Nat} {x2 : Int32} {x3 : Int32} {x4 : Int32} {x5 : Int32} {x6 : Int32} {x7 : Int32} {x8 : Int32} {x9 : Int32} {x10 : Int32} {H : Heap} {locs : List Loc} (k_x0 : hK h x0 = 15) (k_x1 : hK h x1 = 12) (hkm : Km h0 h) (hW : Wx X h H) (hZ : va_S (aA (eB X)) s.heap H locs) (ls : Array Slot) (hl : lv_has ls 13 [(0, .ref x0), (1, .ref x1), (2, .int x2), (3, .int x3), (4, .int x4), (5, .int x5), (6, .int x6), (7, .int x7), (8, .int x8), (9, .int x9), (10, .int x10)]) (hE : sX15_leadBy_112 F k_18 h x0 x1 x2 x3 x4 x5 x6 x7 x8 x9 x10 = some o) : W p l e (rm 1 24) s m args below meth c H locs 0 0 (MQ below (QV X h0 o) args s 0 0 (aA (eB X))) (F0 m 112 ls []) := by
  refine lv_iconst (v := (0 : Int32)) C.1 C.2.1 dX15_leadBy_112 (by decide) ?_
  exact bX15_leadBy_113 C hk_18 k_x0 k_x1 hkm hW hZ _ (lv_sub hl [0, 1, 2, 3, 4, 5, 6, 7, 8, 9, 10] rfl) hE
set_option maxRecDepth 20000 in
theorem bX15_leadBy_18 {p : Program} {l : Launch} {e : Env} {s : State} {m : MethodId} {args : Array Value} {below : List Frame} {meth : Method} {c : Code} {X : Ec} {h0 : Hp} {o : Hp} {F : Nat} (C : Cx X p s m args meth c RX15 cX15_leadBy 13 none "leadBy") : ∀ (f : Nat) {h : Hp} {x0 : Nat} {x1 : Nat} {x2 : Int32} {x3 : Int32} {x4 : Int32} {x5 : Int32} {x6 : Int32} {x7 : Int32} {x8 : Int32} {H : Heap} {locs : List Loc} (k_x0 : hK h x0 = 15) (k_x1 : hK h x1 = 12), Km h0 h → Wx X h H → va_S (aA (eB X)) s.heap H locs → ∀ (ls : Array Slot), lv_has ls 13 [(0, .ref x0), (1, .ref x1), (2, .int x2), (3, .int x3), (4, .int x4), (5, .int x5), (6, .int x6), (7, .int x7), (8, .int x8)] → sX15_leadBy_18 F f h x0 x1 x2 x3 x4 x5 x6 x7 x8 = some o → W p l e (rm 1 24) s m args below meth c H locs 0 0 (MQ below (QV X h0 o) args s 0 0 (aA (eB X))) (F0 m 18 ls []) := by
  intro f
  induction f with
  | zero =>
    intro h x0 x1 x2 x3 x4 x5 x6 x7 x8 H locs k_x0 k_x1 hkm hW hZ ls hl hE
    rw [sX15_leadBy_18] at hE
    cases hE
  | succ f ih =>
    intro h x0 x1 x2 x3 x4 x5 x6 x7 x8 H locs k_x0 k_x1 hkm hW hZ ls hl hE
    rw [sX15_leadBy_18] at hE
    have hk_18 : ∀ (h : Hp) (x0 : Nat) (x1 : Nat) (x2 : Int32) (x3 : Int32) (x4 : Int32) (x5 : Int32) (x6 : Int32) (x7 : Int32) (x8 : Int32) (H : Heap) (locs : List Loc), hK h x0 = 15 → hK h x1 = 12 → Km h0 h → Wx X h H → va_S (aA (eB X)) s.heap H locs → ∀ (ls : Array Slot), lv_has ls 13 [(0, .ref x0), (1, .ref x1), (2, .int x2), (3, .int x3), (4, .int x4), (5, .int x5), (6, .int x6), (7, .int x7), (8, .int x8)] → sX15_leadBy_18 F f h x0 x1 x2 x3 x4 x5 x6 x7 x8 = some o → W p l e (rm 1 24) s m args below meth c H locs 0 0 (MQ below (QV X h0 o) args s 0 0 (aA (eB X))) (F0 m 18 ls []) := fun h x0 x1 x2 x3 x4 x5 x6 x7 x8 H locs k_x0 k_x1 a b c ls hl hE => ih k_x0 k_x1 a b c ls hl hE
    refine lv_iload C.1 C.2.1 dX15_leadBy_18 (lv_at hl 8 rfl) ?_
    refine lv_aload_n C.1 C.2.1 dX15_leadBy_20 rfl (lv_at hl 0 rfl) ?_
    obtain ⟨r_1, er_1, hE⟩ := cl_e hE
    refine gf_X15_252 C hW k_x0 er_1 dX15_leadBy_21 (fun k_r_1 => ?_)
    obtain ⟨r_2, er_2, hE⟩ := cl_e hE
    refine gf_X15_207 C hW k_r_1 er_2 dX15_leadBy_24 (fun k_r_2 => ?_)
    refine lv_iload C.1 C.2.1 dX15_leadBy_27 (lv_at hl 4 rfl) ?_
    obtain ⟨g_3, hE⟩ := gd_e hE
    refine y_iald C hW k_r_2 g_3 dX15_leadBy_29 ?_
    refine lv_icmp_gt (tgt := 216) C.1 C.2.1 dX15_leadBy_30 (by decide) (fun c_4 => ?_) (fun c_4 => ?_)
    · have hE := br_p hE c_4
      exact bX15_leadBy_216 C hkm hW hZ _ (lv_sub hl [] rfl) hE
    · have hE := br_n hE c_4
      refine lv_iload C.1 C.2.1 dX15_leadBy_33 (lv_at hl 7 rfl) ?_
      refine lv_iconst (v := (2 : Int32)) C.1 C.2.1 dX15_leadBy_35 (by decide) ?_
      refine lv_icmp_ge (tgt := 216) C.1 C.2.1 dX15_leadBy_36 (by decide) (fun c_5 => ?_) (fun c_5 => ?_)
      · have hE := br_p hE c_5
        exact bX15_leadBy_216 C hkm hW hZ _ (lv_sub hl [] rfl) hE
      · have hE := br_n hE c_5
        refine lv_aload_n C.1 C.2.1 dX15_leadBy_39 rfl (lv_at hl 0 rfl) ?_
        refine lv_iload_n C.1 C.2.1 dX15_leadBy_40 rfl (lv_at hl 2 rfl) ?_
        refine lv_iload C.1 C.2.1 dX15_leadBy_41 (lv_at hl 8 rfl) ?_
        obtain ⟨o_6, eo_6, hE⟩ := cl_e hE
        refine x_kI (o := o_6) (z_runV (As := [.int x2, .int x8]) (rest := []) C (ct_X15_onward l X k_x0 eo_6) cw_X15_524 hW hZ k_x0 (by decide) rfl rfl rfl hl.1 (Nat.le_of_ble_eq_true rfl) rfl dX15_leadBy_43 ⟨Nat.le_of_ble_eq_true rfl, Nat.le_of_ble_eq_true rfl⟩ ⟨Nat.le_refl _, Nat.le_refl _⟩) hZ (fun _ _ hW km hZ => ?_)
        replace hkm := hkm.tr km
        replace k_x0 := km.at k_x0 (by decide)
        replace k_x1 := km.at k_x1 (by decide)
        refine lv_istore (lv' := [(9, .int o_6.1), (0, .ref x0), (1, .ref x1), (2, .int x2), (3, .int x3), (4, .int x4), (5, .int x5), (6, .int x6), (7, .int x7), (8, .int x8)]) C.1 C.2.1 dX15_leadBy_46 hl (by decide) rfl (fun ls hl => ?_)
        refine lv_iload C.1 C.2.1 dX15_leadBy_48 (lv_at hl 0 rfl) ?_
        refine lv_iconst (v := (-1 : Int32)) C.1 C.2.1 dX15_leadBy_50 (by decide) ?_
        refine lv_icmp_ne (tgt := 55) C.1 C.2.1 dX15_leadBy_51 (by decide) (fun c_7 => ?_) (fun c_7 => ?_)
        · have hE := br_n hE c_7
          refine lv_aload_n C.1 C.2.1 dX15_leadBy_55 rfl (lv_at hl 2 rfl) ?_
          obtain ⟨r_8, er_8, hE⟩ := cl_e hE
          refine gf_X15_396 C hW k_x1 er_8 dX15_leadBy_56 (fun k_r_8 => ?_)
          refine lv_iload C.1 C.2.1 dX15_leadBy_59 (lv_at hl 0 rfl) ?_
          obtain ⟨g_9, hE⟩ := gd_e hE
          refine y_iald C hW k_r_8 g_9 dX15_leadBy_61 ?_
          obtain ⟨v_10, ev_10, hE⟩ := nm_e2 hE
          refine x_nmI ev_10 ?_
          refine lv_istore (lv' := [(10, .int v_10), (9, .int o_6.1), (0, .ref x0), (1, .ref x1), (2, .int x2), (3, .int x3), (4, .int x4), (5, .int x5), (6, .int x6), (7, .int x7), (8, .int x8)]) C.1 C.2.1 dX15_leadBy_62 hl (by decide) rfl (fun ls hl => ?_)
          refine lv_iload C.1 C.2.1 dX15_leadBy_64 (lv_at hl 8 rfl) ?_
          refine lv_iload C.1 C.2.1 dX15_leadBy_66 (lv_at hl 9 rfl) ?_
          obtain ⟨o_11, eo_11, hE⟩ := cl_e hE
          refine x_kI (o := o_11) (z_runS (As := [.int x6, .int x7]) (rest := []) C (ct_X15_isFree l X eo_11) cw_X15_565 hW hZ rfl hl.1 (Nat.le_of_ble_eq_true rfl) rfl dX15_leadBy_68 ⟨Nat.le_of_ble_eq_true rfl, Nat.le_of_ble_eq_true rfl⟩ ⟨Nat.le_refl _, Nat.le_refl _⟩) hZ (fun _ _ hW km hZ => ?_)
          replace hkm := hkm.tr km
          replace k_x0 := km.at k_x0 (by decide)
          replace k_x1 := km.at k_x1 (by decide)
          refine lv_if_eq (tgt := 195) C.1 C.2.1 dX15_leadBy_71 (by decide) (fun c_12 => ?_) (fun c_12 => ?_)
          · have hE := br_p hE c_12
            exact bX15_leadBy_195 C hk_18 k_x0 k_x1 hkm hW hZ _ (lv_sub hl [2, 3, 4, 5, 6, 7, 8, 9, 10, 0] rfl) hE
          · have hE := br_n hE c_12
            refine lv_aload_n C.1 C.2.1 dX15_leadBy_74 rfl (lv_at hl 2 rfl) ?_
            obtain ⟨r_13, er_13, hE⟩ := cl_e hE
            refine gf_X15_272 C hW k_x0 er_13 dX15_leadBy_75 (fun k_r_13 => ?_)
            refine lv_iload C.1 C.2.1 dX15_leadBy_78 (lv_at hl 1 rfl) ?_
            obtain ⟨g_14, hE⟩ := gd_e hE
            refine y_iald C hW k_r_13 g_14 dX15_leadBy_80 ?_
            refine lv_iconst (v := (-1 : Int32)) C.1 C.2.1 dX15_leadBy_81 (by decide) ?_
            refine lv_icmp_ne (tgt := 195) C.1 C.2.1 dX15_leadBy_82 (by decide) (fun c_15 => ?_) (fun c_15 => ?_)
            · have hE := br_n hE c_15
              exact bX15_leadBy_195 C hk_18 k_x0 k_x1 hkm hW hZ _ (lv_sub hl [2, 3, 4, 5, 6, 7, 8, 9, 10, 0] rfl) hE
            · have hE := br_p hE c_15
              refine lv_iload C.1 C.2.1 dX15_leadBy_85 (lv_at hl 7 rfl) ?_
              refine lv_if_eq (tgt := 112) C.1 C.2.1 dX15_leadBy_87 (by decide) (fun c_16 => ?_) (fun c_16 => ?_)
              · have hE := br_p hE c_16
                exact bX15_leadBy_112 C hk_18 k_x0 k_x1 hkm hW hZ _ (lv_sub hl [2, 3, 4, 5, 6, 7, 8, 9, 10, 1, 0] rfl) hE
              · have hE := br_n hE c_16
                refine lv_iload C.1 C.2.1 dX15_leadBy_90 (lv_at hl 8 rfl) ?_
                refine lv_bipush (v := (32 : Int32)) C.1 C.2.1 dX15_leadBy_92 (by decide) ?_
                refine lv_iand C.1 C.2.1 dX15_leadBy_94 ?_
                refine lv_if_eq (tgt := 112) C.1 C.2.1 dX15_leadBy_95 (by decide) (fun c_17 => ?_) (fun c_17 => ?_)
                · have hE := br_p hE c_17
                  exact bX15_leadBy_112 C hk_18 k_x0 k_x1 hkm hW hZ _ (lv_sub hl [2, 3, 4, 5, 6, 7, 8, 9, 10, 1, 0] rfl) hE
                · have hE := br_n hE c_17
                  refine lv_aload_n C.1 C.2.1 dX15_leadBy_98 rfl (lv_at hl 2 rfl) ?_
                  refine lv_aload_n C.1 C.2.1 dX15_leadBy_99 rfl (lv_at hl 3 rfl) ?_
                  refine lv_iload C.1 C.2.1 dX15_leadBy_100 (lv_at hl 1 rfl) ?_
                  obtain ⟨o_18, eo_18, hE⟩ := cl_e hE
                  refine x_kI (o := o_18) (z_runV (As := [.ref x1, .int o_6.1]) (rest := []) C (ct_X15_isGoneOver l X F k_x0 k_x1 eo_18) cw_X15_572 hW hZ k_x0 (by decide) rfl rfl rfl hl.1 (Nat.le_of_ble_eq_true rfl) rfl dX15_leadBy_102 ⟨Nat.le_of_ble_eq_true rfl, Nat.le_of_ble_eq_true rfl⟩ ⟨Nat.le_refl _, Nat.le_refl _⟩) hZ (fun _ _ hW km hZ => ?_)
                  replace hkm := hkm.tr km
                  replace k_x0 := km.at k_x0 (by decide)
                  replace k_x1 := km.at k_x1 (by decide)
                  refine lv_if_eq (tgt := 112) C.1 C.2.1 dX15_leadBy_105 (by decide) (fun c_19 => ?_) (fun c_19 => ?_)
                  · have hE := br_p hE c_19
                    exact bX15_leadBy_112 C hk_18 k_x0 k_x1 hkm hW hZ _ (lv_sub hl [2, 3, 4, 5, 6, 7, 8, 9, 10, 1, 0] rfl) hE
                  · have hE := br_n hE c_19
                    refine lv_iconst (v := (1 : Int32)) C.1 C.2.1 dX15_leadBy_108 (by decide) ?_
                    refine lv_goto (tgt := 113) C.1 C.2.1 dX15_leadBy_109 (by decide) ?_
                    exact bX15_leadBy_113 C hk_18 k_x0 k_x1 hkm hW hZ _ (lv_sub hl [2, 3, 4, 5, 6, 7, 8, 9, 10, 1, 0] rfl) hE
        · have hE := br_p hE c_7
          exact x_vret C rfl hW hZ hkm hE dX15_leadBy_54
set_option maxRecDepth 20000 in
theorem ct_X15_leadBy (l : Launch) (X : Ec) (F : Nat) {h : Hp} {x0 : Nat} {x1 : Nat} {x2 : Int32} {x3 : Int32} {x4 : Int32} {x5 : Int32} {o : Hp} (k_x0 : hK h x0 = 15) (k_x1 : hK h x1 = 12) (hE : sX15_leadBy F h x0 x1 x2 x3 x4 x5 = some o) : MetV l yX15_leadBy cX15_leadBy 13 none 1 24 X [.ref x0, .ref x1, .int x2, .int x3, .int x4, .int x5] h o := by
  refine x_met (by decide) (Nat.le_of_ble_eq_true rfl) ?_
  intro p e s m below meth c ls C hl hW hZ
  have hl : lv_has ls 13 [(0, .ref x0), (1, .ref x1), (2, .int x2), (3, .int x3), (4, .int x4), (5, .int x5)] := hl
  have hkm : Km h h := Km.rf h
  refine lv_aload_n C.1 C.2.1 dX15_leadBy_0 rfl (lv_at hl 0 rfl) ?_
  obtain ⟨r_1, er_1, hE⟩ := cl_e hE
  refine gf_X15_252 C hW k_x0 er_1 dX15_leadBy_1 (fun k_r_1 => ?_)
  obtain ⟨r_2, er_2, hE⟩ := cl_e hE
  refine gf_X15_198 C hW k_r_1 er_2 dX15_leadBy_4 (fun k_r_2 => ?_)
  refine lv_iload C.1 C.2.1 dX15_leadBy_7 (lv_at hl 4 rfl) ?_
  obtain ⟨g_3, hE⟩ := gd_e hE
  refine y_iald C hW k_r_2 g_3 dX15_leadBy_9 ?_
  obtain ⟨v_4, ev_4, hE⟩ := nm_e2 hE
  refine x_nmI ev_4 ?_
  refine lv_istore (lv' := [(6, .int v_4), (0, .ref x0), (1, .ref x1), (2, .int x2), (3, .int x3), (4, .int x4), (5, .int x5)]) C.1 C.2.1 dX15_leadBy_10 hl (by decide) rfl (fun ls hl => ?_)
  refine lv_iconst (v := (0 : Int32)) C.1 C.2.1 dX15_leadBy_12 (by decide) ?_
  refine lv_istore (lv' := [(7, .int (0 : Int32)), (6, .int v_4), (0, .ref x0), (1, .ref x1), (2, .int x2), (3, .int x3), (4, .int x4), (5, .int x5)]) C.1 C.2.1 dX15_leadBy_13 hl (by decide) rfl (fun ls hl => ?_)
  refine lv_iconst (v := (1 : Int32)) C.1 C.2.1 dX15_leadBy_15 (by decide) ?_
  refine lv_istore (lv' := [(8, .int (1 : Int32)), (7, .int (0 : Int32)), (6, .int v_4), (0, .ref x0), (1, .ref x1), (2, .int x2), (3, .int x3), (4, .int x4), (5, .int x5)]) C.1 C.2.1 dX15_leadBy_16 hl (by decide) rfl (fun ls hl => ?_)
  exact bX15_leadBy_18 C F k_x0 k_x1 hkm hW hZ _ (lv_sub hl [3, 4, 5, 6, 7, 8, 2, 1, 0] rfl) hE
