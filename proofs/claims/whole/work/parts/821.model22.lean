theorem dX15_beforeAt_0 : decode cX15_beforeAt 0 = .ok (.iload_n 1, 1) := by decide +kernel
theorem dX15_beforeAt_1 : decode cX15_beforeAt 1 = .ok (.ifCond .lt 11, 3) := by decide +kernel
theorem dX15_beforeAt_4 : decode cX15_beforeAt 4 = .ok (.iload_n 1, 1) := by decide +kernel
theorem dX15_beforeAt_5 : decode cX15_beforeAt 5 = .ok (.aload_n 0, 1) := by decide +kernel
theorem dX15_beforeAt_6 : decode cX15_beforeAt 6 = .ok (.getfield 390, 3) := by decide +kernel
theorem dX15_beforeAt_9 : decode cX15_beforeAt 9 = .ok (.if_icmp .lt 8, 3) := by decide +kernel
theorem dX15_beforeAt_12 : decode cX15_beforeAt 12 = .ok (.bipush (-102), 2) := by decide +kernel
theorem dX15_beforeAt_14 : decode cX15_beforeAt 14 = .ok (.goto 18, 3) := by decide +kernel
theorem dX15_beforeAt_17 : decode cX15_beforeAt 17 = .ok (.aload_n 0, 1) := by decide +kernel
theorem dX15_beforeAt_18 : decode cX15_beforeAt 18 = .ok (.aload_n 0, 1) := by decide +kernel
theorem dX15_beforeAt_19 : decode cX15_beforeAt 19 = .ok (.getfield 317, 3) := by decide +kernel
theorem dX15_beforeAt_22 : decode cX15_beforeAt 22 = .ok (.aload_n 0, 1) := by decide +kernel
theorem dX15_beforeAt_23 : decode cX15_beforeAt 23 = .ok (.getfield 324, 3) := by decide +kernel
theorem dX15_beforeAt_26 : decode cX15_beforeAt 26 = .ok (.iload_n 1, 1) := by decide +kernel
theorem dX15_beforeAt_27 : decode cX15_beforeAt 27 = .ok (.iaload, 1) := by decide +kernel
theorem dX15_beforeAt_28 : decode cX15_beforeAt 28 = .ok (.aaload, 1) := by decide +kernel
theorem dX15_beforeAt_29 : decode cX15_beforeAt 29 = .ok (.invokevirtual 483, 3) := by decide +kernel
theorem dX15_beforeAt_32 : decode cX15_beforeAt 32 = .ok (.ireturn, 1) := by decide +kernel
set_option maxRecDepth 20000 in
theorem moX15_beforeAt_32 {o : Int32 × Hp} {F : Nat} {h : Hp} {t0 : Int32} (hE : sX15_beforeAt_32 F h  t0 = some o) : Le h o.2 := by
  exact le_some2 hE
set_option maxRecDepth 20000 in
theorem moX15_beforeAt_12 {o : Int32 × Hp} {F : Nat} {h : Hp} (hE : sX15_beforeAt_12 F h  = some o) : Le h o.2 := by
  exact moX15_beforeAt_32 hE
set_option maxRecDepth 20000 in
theorem moX15_beforeAt {o : Int32 × Hp} {F : Nat} {h : Hp} {x0 : Nat} {x1 : Int32} (hE : sX15_beforeAt F h x0 x1 = some o) : Le h o.2 := by
  rcases br_e hE with ⟨_, hE⟩ | ⟨_, hE⟩
  · exact moX15_beforeAt_12 hE
  · rcases br_e hE with ⟨_, hE⟩ | ⟨_, hE⟩
    · obtain ⟨r_3, er_3, hE⟩ := cl_e hE
      obtain ⟨r_4, er_4, hE⟩ := cl_e hE
      obtain ⟨g_5, hE⟩ := gd_e hE
      obtain ⟨g_6, hE⟩ := gd_e hE
      obtain ⟨r_7, er_7, hE⟩ := cl_e hE
      obtain ⟨o_8, eo_8, hE⟩ := cl_e hE
      refine (moX15_keep eo_8).tr ?_
      exact moX15_beforeAt_32 hE
    · exact moX15_beforeAt_12 hE
set_option maxRecDepth 20000 in
theorem bX15_beforeAt_32 {p : Program} {l : Launch} {e : Env} {s : State} {m : MethodId} {args : Array Value} {below : List Frame} {meth : Method} {c : Code} {X : Ec} {h0 : Hp} {o : Int32 × Hp} {F : Nat} (C : Cx X p s m args meth c RX15 cX15_beforeAt 2 (some .int) "beforeAt") {h : Hp} {t0 : Int32} {H : Heap} {locs : List Loc} (hkl : Kl h0 h) (hW : Wx X h H) (hZ : va_S (aA (eB X)) s.heap H locs) (ls : Array Slot) (hl : lv_has ls 2 []) (hE : sX15_beforeAt_32 F h  t0 = some o) : W p l e (rmA 3 107 h0 o.2) s m args below meth c H locs (hS h - hS h0) (hL h - hL h0) (MQ below (QIA X h0 o.1 o.2) args s (hS o.2 - hS h0) (hL o.2 - hL h0) (aA (eB X))) (F0 m 32 ls [.int t0]) := by
  exact x_iretA C rfl rfl hW hZ hkl hE dX15_beforeAt_32
set_option maxRecDepth 20000 in
theorem bX15_beforeAt_12 {p : Program} {l : Launch} {e : Env} {s : State} {m : MethodId} {args : Array Value} {below : List Frame} {meth : Method} {c : Code} {X : Ec} {h0 : Hp} {o : Int32 × Hp} {F : Nat} (C : Cx X p s m args meth c RX15 cX15_beforeAt 2 (some .int) "beforeAt") {h : Hp} {H : Heap} {locs : List Loc} (hkl : Kl h0 h) (hW : Wx X h H) (hZ : va_S (aA (eB X)) s.heap H locs) (ls : Array Slot) (hl : lv_has ls 2 []) (hE : sX15_beforeAt_12 F h  = some o) : W p l e (rmA 3 107 h0 o.2) s m args below meth c H locs (hS h - hS h0) (hL h - hL h0) (MQ below (QIA X h0 o.1 o.2) args s (hS o.2 - hS h0) (hL o.2 - hL h0) (aA (eB X))) (F0 m 12 ls []) := by
  refine lv_bipush (v := (-102 : Int32)) C.1 C.2.1 dX15_beforeAt_12 (by decide) ?_
  refine lv_goto (tgt := 32) C.1 C.2.1 dX15_beforeAt_14 (by decide) ?_
  exact bX15_beforeAt_32 C hkl hW hZ _ (lv_sub hl [] rfl) hE
set_option maxRecDepth 20000 in
theorem ct_X15_beforeAt (l : Launch) (X : Ec) (F : Nat) {h : Hp} {x0 : Nat} {x1 : Int32} {o : Int32 × Hp} (k_x0 : hK h x0 = 15) (hE : sX15_beforeAt F h x0 x1 = some o) : MetIA l yX15_beforeAt cX15_beforeAt 2 (some .int) 3 107 X [.ref x0, .int x1] h o := by
  refine x_metA (oh := o.2) (by decide) (Nat.le_of_ble_eq_true rfl) ?_
  intro p e s m below meth c ls C hl hW hZ
  have hl : lv_has ls 2 [(0, .ref x0), (1, .int x1)] := hl
  have hkl : Kl h h := Kl.rf h
  refine lv_iload_n C.1 C.2.1 dX15_beforeAt_0 rfl (lv_at hl 1 rfl) ?_
  refine lv_if_lt (tgt := 12) C.1 C.2.1 dX15_beforeAt_1 (by decide) (fun c_1 => ?_) (fun c_1 => ?_)
  · have hE := br_p hE c_1
    exact bX15_beforeAt_12 C hkl hW hZ _ (lv_sub hl [] rfl) hE
  · have hE := br_n hE c_1
    refine lv_iload_n C.1 C.2.1 dX15_beforeAt_4 rfl (lv_at hl 1 rfl) ?_
    refine lv_aload_n C.1 C.2.1 dX15_beforeAt_5 rfl (lv_at hl 0 rfl) ?_
    refine gf_X15_390 C hW k_x0 dX15_beforeAt_6 ?_
    refine lv_icmp_lt (tgt := 17) C.1 C.2.1 dX15_beforeAt_9 (by decide) (fun c_2 => ?_) (fun c_2 => ?_)
    · have hE := br_p hE c_2
      refine lv_aload_n C.1 C.2.1 dX15_beforeAt_17 rfl (lv_at hl 0 rfl) ?_
      refine lv_aload_n C.1 C.2.1 dX15_beforeAt_18 rfl (lv_at hl 0 rfl) ?_
      obtain ⟨r_3, er_3, hE⟩ := cl_e hE
      refine gf_X15_317 C hW k_x0 er_3 dX15_beforeAt_19 (fun k_r_3 => ?_)
      refine lv_aload_n C.1 C.2.1 dX15_beforeAt_22 rfl (lv_at hl 0 rfl) ?_
      obtain ⟨r_4, er_4, hE⟩ := cl_e hE
      refine gf_X15_324 C hW k_x0 er_4 dX15_beforeAt_23 (fun k_r_4 => ?_)
      refine lv_iload_n C.1 C.2.1 dX15_beforeAt_26 rfl (lv_at hl 1 rfl) ?_
      obtain ⟨g_5, hE⟩ := gd_e hE
      refine y_iald C hW k_r_4 g_5 dX15_beforeAt_27 ?_
      obtain ⟨g_6, hE⟩ := gd_e hE
      obtain ⟨r_7, er_7, hE⟩ := cl_e hE
      refine y_aald (t0 := 5) C hW k_r_3 (by decide) (by decide) rfl rfl rfl (fun _ => rfl) g_6 er_7 dX15_beforeAt_28 (fun k_r_7 => ?_)
      obtain ⟨o_8, eo_8, hE⟩ := cl_e hE
      have m1 := moX15_keep eo_8
      have m2 := moX15_beforeAt_32 hE
      refine x_kIA (o := o_8) hkl (z_runV (As := [.ref r_7]) (rest := []) C (ct_X15_keep l X F k_x0 k_r_7 eo_8) cw_X15_483 hW hZ k_x0 (by decide) rfl rfl rfl hl.1 (Nat.le_of_ble_eq_true rfl) rfl dX15_beforeAt_29 ⟨Nat.le_of_ble_eq_true rfl, Nat.le_of_ble_eq_true rfl⟩ (rm_ok hkl m1 m2)) hZ (fun _ _ hW km hZ => ?_)
      replace hkl := hkl.tr km
      replace k_x0 := km.at k_x0 (by decide)
      exact bX15_beforeAt_32 C hkl hW hZ _ (lv_sub hl [] rfl) hE
    · have hE := br_n hE c_2
      exact bX15_beforeAt_12 C hkl hW hZ _ (lv_sub hl [] rfl) hE
theorem dX15_hasCatches_0 : decode cX15_hasCatches 0 = .ok (.iconst 0, 1) := by decide +kernel
theorem dX15_hasCatches_1 : decode cX15_hasCatches 1 = .ok (.istore_n 1, 1) := by decide +kernel
theorem dX15_hasCatches_2 : decode cX15_hasCatches 2 = .ok (.iload_n 1, 1) := by decide +kernel
theorem dX15_hasCatches_3 : decode cX15_hasCatches 3 = .ok (.aload_n 0, 1) := by decide +kernel
theorem dX15_hasCatches_4 : decode cX15_hasCatches 4 = .ok (.getfield 252, 3) := by decide +kernel
theorem dX15_hasCatches_7 : decode cX15_hasCatches 7 = .ok (.getfield 169, 3) := by decide +kernel
theorem dX15_hasCatches_10 : decode cX15_hasCatches 10 = .ok (.if_icmp .ge 52, 3) := by decide +kernel
theorem dX15_hasCatches_13 : decode cX15_hasCatches 13 = .ok (.iconst 0, 1) := by decide +kernel
theorem dX15_hasCatches_14 : decode cX15_hasCatches 14 = .ok (.istore_n 2, 1) := by decide +kernel
theorem dX15_hasCatches_15 : decode cX15_hasCatches 15 = .ok (.iload_n 2, 1) := by decide +kernel
theorem dX15_hasCatches_16 : decode cX15_hasCatches 16 = .ok (.aload_n 0, 1) := by decide +kernel
theorem dX15_hasCatches_17 : decode cX15_hasCatches 17 = .ok (.getfield 252, 3) := by decide +kernel
theorem dX15_hasCatches_20 : decode cX15_hasCatches 20 = .ok (.getfield 176, 3) := by decide +kernel
theorem dX15_hasCatches_23 : decode cX15_hasCatches 23 = .ok (.iload_n 1, 1) := by decide +kernel
theorem dX15_hasCatches_24 : decode cX15_hasCatches 24 = .ok (.iaload, 1) := by decide +kernel
theorem dX15_hasCatches_25 : decode cX15_hasCatches 25 = .ok (.if_icmp .ge 31, 3) := by decide +kernel
theorem dX15_hasCatches_28 : decode cX15_hasCatches 28 = .ok (.aload_n 0, 1) := by decide +kernel
theorem dX15_hasCatches_29 : decode cX15_hasCatches 29 = .ok (.getfield 252, 3) := by decide +kernel
theorem dX15_hasCatches_32 : decode cX15_hasCatches 32 = .ok (.getfield 198, 3) := by decide +kernel
theorem dX15_hasCatches_35 : decode cX15_hasCatches 35 = .ok (.bipush 8, 2) := by decide +kernel
theorem dX15_hasCatches_37 : decode cX15_hasCatches 37 = .ok (.iload_n 1, 1) := by decide +kernel
theorem dX15_hasCatches_38 : decode cX15_hasCatches 38 = .ok (.imul, 1) := by decide +kernel
theorem dX15_hasCatches_39 : decode cX15_hasCatches 39 = .ok (.iload_n 2, 1) := by decide +kernel
theorem dX15_hasCatches_40 : decode cX15_hasCatches 40 = .ok (.iadd, 1) := by decide +kernel
theorem dX15_hasCatches_41 : decode cX15_hasCatches 41 = .ok (.iaload, 1) := by decide +kernel
theorem dX15_hasCatches_42 : decode cX15_hasCatches 42 = .ok (.bipush 32, 2) := by decide +kernel
theorem dX15_hasCatches_44 : decode cX15_hasCatches 44 = .ok (.iand, 1) := by decide +kernel
theorem dX15_hasCatches_45 : decode cX15_hasCatches 45 = .ok (.ifCond .eq 5, 3) := by decide +kernel
theorem dX15_hasCatches_48 : decode cX15_hasCatches 48 = .ok (.iconst 1, 1) := by decide +kernel
theorem dX15_hasCatches_49 : decode cX15_hasCatches 49 = .ok (.ireturn, 1) := by decide +kernel
theorem dX15_hasCatches_50 : decode cX15_hasCatches 50 = .ok (.iinc 2 1, 3) := by decide +kernel
theorem dX15_hasCatches_53 : decode cX15_hasCatches 53 = .ok (.goto (-38), 3) := by decide +kernel
theorem dX15_hasCatches_56 : decode cX15_hasCatches 56 = .ok (.iinc 1 1, 3) := by decide +kernel
theorem dX15_hasCatches_59 : decode cX15_hasCatches 59 = .ok (.goto (-57), 3) := by decide +kernel
theorem dX15_hasCatches_62 : decode cX15_hasCatches 62 = .ok (.iconst 0, 1) := by decide +kernel
theorem dX15_hasCatches_63 : decode cX15_hasCatches 63 = .ok (.ireturn, 1) := by decide +kernel
set_option maxRecDepth 20000 in
theorem moX15_hasCatches_15 {o : Int32 × Hp} {k_2 : Hp → Nat → Int32 → Option (Int32 × Hp)} {F : Nat} (mk_2 : ∀ (h : Hp) (x0 : Nat) (x1 : Int32), k_2 h x0 x1 = some o → Le h o.2) : ∀ (f : Nat) {h : Hp} {x0 : Nat} {x1 : Int32} {x2 : Int32}, sX15_hasCatches_15 F k_2 f h x0 x1 x2 = some o → Le h o.2 := by
  intro f
  induction f with
  | zero =>
    intro h x0 x1 x2 hE
    rw [sX15_hasCatches_15] at hE
    cases hE
  | succ f ih =>
    intro h x0 x1 x2 hE
    rw [sX15_hasCatches_15] at hE
    have mk_15 : ∀ (h : Hp) (x0 : Nat) (x1 : Int32) (x2 : Int32), sX15_hasCatches_15 F k_2 f h x0 x1 x2 = some o → Le h o.2 := fun h x0 x1 x2 hE => ih hE
    obtain ⟨r_1, er_1, hE⟩ := cl_e hE
    obtain ⟨r_2, er_2, hE⟩ := cl_e hE
    obtain ⟨g_3, hE⟩ := gd_e hE
    rcases br_e hE with ⟨_, hE⟩ | ⟨_, hE⟩
    · obtain ⟨v_5, ev_5, hE⟩ := nm_e2 hE
      exact mk_2 _ _ _ hE
    · obtain ⟨r_6, er_6, hE⟩ := cl_e hE
      obtain ⟨r_7, er_7, hE⟩ := cl_e hE
      obtain ⟨g_8, hE⟩ := gd_e hE
      rcases br_e hE with ⟨_, hE⟩ | ⟨_, hE⟩
      · obtain ⟨v_10, ev_10, hE⟩ := nm_e2 hE
        exact mk_15 _ _ _ _ hE
      · exact le_some2 hE
set_option maxRecDepth 20000 in
theorem moX15_hasCatches_2 {o : Int32 × Hp} {F : Nat} : ∀ (f : Nat) {h : Hp} {x0 : Nat} {x1 : Int32}, sX15_hasCatches_2 F f h x0 x1 = some o → Le h o.2 := by
  intro f
  induction f with
  | zero =>
    intro h x0 x1 hE
    rw [sX15_hasCatches_2] at hE
    cases hE
  | succ f ih =>
    intro h x0 x1 hE
    rw [sX15_hasCatches_2] at hE
    have mk_2 : ∀ (h : Hp) (x0 : Nat) (x1 : Int32), sX15_hasCatches_2 F f h x0 x1 = some o → Le h o.2 := fun h x0 x1 hE => ih hE
    obtain ⟨r_1, er_1, hE⟩ := cl_e hE
    rcases br_e hE with ⟨_, hE⟩ | ⟨_, hE⟩
    · exact le_some2 hE
    · exact moX15_hasCatches_15 mk_2 _ hE
set_option maxRecDepth 20000 in
theorem moX15_hasCatches {o : Int32 × Hp} {F : Nat} {h : Hp} {x0 : Nat} (hE : sX15_hasCatches F h x0 = some o) : Le h o.2 := by
  exact moX15_hasCatches_2 _ hE
set_option maxRecDepth 20000 in
theorem bX15_hasCatches_15 {p : Program} {l : Launch} {e : Env} {s : State} {m : MethodId} {args : Array Value} {below : List Frame} {meth : Method} {c : Code} {X : Ec} {h0 : Hp} {o : Int32 × Hp} {k_2 : Hp → Nat → Int32 → Option (Int32 × Hp)} {F : Nat} (C : Cx X p s m args meth c RX15 cX15_hasCatches 3 (some .boolean) "hasCatches") (hk_2 : ∀ (h : Hp) (x0 : Nat) (x1 : Int32) (H : Heap) (locs : List Loc), hK h x0 = 15 → Km h0 h → Wx X h H → va_S (aA (eB X)) s.heap H locs → ∀ (ls : Array Slot), lv_has ls 3 [(0, .ref x0), (1, .int x1)] → k_2 h x0 x1 = some o → W p l e (rm 0 0) s m args below meth c H locs 0 0 (MQ below (QI X h0 o.1 o.2) args s 0 0 (aA (eB X))) (F0 m 2 ls [])) : ∀ (f : Nat) {h : Hp} {x0 : Nat} {x1 : Int32} {x2 : Int32} {H : Heap} {locs : List Loc} (k_x0 : hK h x0 = 15), Km h0 h → Wx X h H → va_S (aA (eB X)) s.heap H locs → ∀ (ls : Array Slot), lv_has ls 3 [(0, .ref x0), (1, .int x1), (2, .int x2)] → sX15_hasCatches_15 F k_2 f h x0 x1 x2 = some o → W p l e (rm 0 0) s m args below meth c H locs 0 0 (MQ below (QI X h0 o.1 o.2) args s 0 0 (aA (eB X))) (F0 m 15 ls []) := by
  intro f
  induction f with
  | zero =>
    intro h x0 x1 x2 H locs k_x0 hkm hW hZ ls hl hE
    rw [sX15_hasCatches_15] at hE
    cases hE
  | succ f ih =>
    intro h x0 x1 x2 H locs k_x0 hkm hW hZ ls hl hE
    rw [sX15_hasCatches_15] at hE
    have hk_15 : ∀ (h : Hp) (x0 : Nat) (x1 : Int32) (x2 : Int32) (H : Heap) (locs : List Loc), hK h x0 = 15 → Km h0 h → Wx X h H → va_S (aA (eB X)) s.heap H locs → ∀ (ls : Array Slot), lv_has ls 3 [(0, .ref x0), (1, .int x1), (2, .int x2)] → sX15_hasCatches_15 F k_2 f h x0 x1 x2 = some o → W p l e (rm 0 0) s m args below meth c H locs 0 0 (MQ below (QI X h0 o.1 o.2) args s 0 0 (aA (eB X))) (F0 m 15 ls []) := fun h x0 x1 x2 H locs k_x0 a b c ls hl hE => ih k_x0 a b c ls hl hE
    refine lv_iload_n C.1 C.2.1 dX15_hasCatches_15 rfl (lv_at hl 2 rfl) ?_
    refine lv_aload_n C.1 C.2.1 dX15_hasCatches_16 rfl (lv_at hl 0 rfl) ?_
    obtain ⟨r_1, er_1, hE⟩ := cl_e hE
    refine gf_X15_252 C hW k_x0 er_1 dX15_hasCatches_17 (fun k_r_1 => ?_)
    obtain ⟨r_2, er_2, hE⟩ := cl_e hE
    refine gf_X15_176 C hW k_r_1 er_2 dX15_hasCatches_20 (fun k_r_2 => ?_)
    refine lv_iload_n C.1 C.2.1 dX15_hasCatches_23 rfl (lv_at hl 1 rfl) ?_
    obtain ⟨g_3, hE⟩ := gd_e hE
    refine y_iald C hW k_r_2 g_3 dX15_hasCatches_24 ?_
    refine lv_icmp_ge (tgt := 56) C.1 C.2.1 dX15_hasCatches_25 (by decide) (fun c_4 => ?_) (fun c_4 => ?_)
    · have hE := br_p hE c_4
      obtain ⟨v_5, ev_5, hE⟩ := nm_e2 hE
      refine lv_iinc (v := v_5) (lv' := [(1, .int v_5), (0, .ref x0), (2, .int x2)]) C.1 C.2.1 dX15_hasCatches_56 hl (k := 1) rfl (by rw [ev_5]; rfl) (by decide) rfl (fun ls hl => ?_)
      refine lv_goto (tgt := 2) C.1 C.2.1 dX15_hasCatches_59 (by decide) ?_
      exact hk_2 _ _ _ _ _ k_x0 hkm hW hZ _ (lv_sub hl [1, 0] rfl) hE
    · have hE := br_n hE c_4
      refine lv_aload_n C.1 C.2.1 dX15_hasCatches_28 rfl (lv_at hl 0 rfl) ?_
      obtain ⟨r_6, er_6, hE⟩ := cl_e hE
      refine gf_X15_252 C hW k_x0 er_6 dX15_hasCatches_29 (fun k_r_6 => ?_)
      obtain ⟨r_7, er_7, hE⟩ := cl_e hE
      refine gf_X15_198 C hW k_r_6 er_7 dX15_hasCatches_32 (fun k_r_7 => ?_)
      refine lv_bipush (v := (8 : Int32)) C.1 C.2.1 dX15_hasCatches_35 (by decide) ?_
      refine lv_iload_n C.1 C.2.1 dX15_hasCatches_37 rfl (lv_at hl 1 rfl) ?_
      refine lv_imul C.1 C.2.1 dX15_hasCatches_38 ?_
      refine lv_iload_n C.1 C.2.1 dX15_hasCatches_39 rfl (lv_at hl 2 rfl) ?_
      refine lv_iadd C.1 C.2.1 dX15_hasCatches_40 ?_
      obtain ⟨g_8, hE⟩ := gd_e hE
      refine y_iald C hW k_r_7 g_8 dX15_hasCatches_41 ?_
      refine lv_bipush (v := (32 : Int32)) C.1 C.2.1 dX15_hasCatches_42 (by decide) ?_
      refine lv_iand C.1 C.2.1 dX15_hasCatches_44 ?_
      refine lv_if_eq (tgt := 50) C.1 C.2.1 dX15_hasCatches_45 (by decide) (fun c_9 => ?_) (fun c_9 => ?_)
      · have hE := br_p hE c_9
        obtain ⟨v_10, ev_10, hE⟩ := nm_e2 hE
        refine lv_iinc (v := v_10) (lv' := [(2, .int v_10), (0, .ref x0), (1, .int x1)]) C.1 C.2.1 dX15_hasCatches_50 hl (k := 2) rfl (by rw [ev_10]; rfl) (by decide) rfl (fun ls hl => ?_)
        refine lv_goto (tgt := 15) C.1 C.2.1 dX15_hasCatches_53 (by decide) ?_
        exact hk_15 _ _ _ _ _ _ k_x0 hkm hW hZ _ (lv_sub hl [1, 2, 0] rfl) hE
      · have hE := br_n hE c_9
        refine lv_iconst (v := (1 : Int32)) C.1 C.2.1 dX15_hasCatches_48 (by decide) ?_
        exact x_iret C rfl (by decide) hW hZ hkm hE dX15_hasCatches_49
set_option maxRecDepth 20000 in
theorem bX15_hasCatches_2 {p : Program} {l : Launch} {e : Env} {s : State} {m : MethodId} {args : Array Value} {below : List Frame} {meth : Method} {c : Code} {X : Ec} {h0 : Hp} {o : Int32 × Hp} {F : Nat} (C : Cx X p s m args meth c RX15 cX15_hasCatches 3 (some .boolean) "hasCatches") : ∀ (f : Nat) {h : Hp} {x0 : Nat} {x1 : Int32} {H : Heap} {locs : List Loc} (k_x0 : hK h x0 = 15), Km h0 h → Wx X h H → va_S (aA (eB X)) s.heap H locs → ∀ (ls : Array Slot), lv_has ls 3 [(0, .ref x0), (1, .int x1)] → sX15_hasCatches_2 F f h x0 x1 = some o → W p l e (rm 0 0) s m args below meth c H locs 0 0 (MQ below (QI X h0 o.1 o.2) args s 0 0 (aA (eB X))) (F0 m 2 ls []) := by
  intro f
  induction f with
  | zero =>
    intro h x0 x1 H locs k_x0 hkm hW hZ ls hl hE
    rw [sX15_hasCatches_2] at hE
    cases hE
  | succ f ih =>
    intro h x0 x1 H locs k_x0 hkm hW hZ ls hl hE
    rw [sX15_hasCatches_2] at hE
    have hk_2 : ∀ (h : Hp) (x0 : Nat) (x1 : Int32) (H : Heap) (locs : List Loc), hK h x0 = 15 → Km h0 h → Wx X h H → va_S (aA (eB X)) s.heap H locs → ∀ (ls : Array Slot), lv_has ls 3 [(0, .ref x0), (1, .int x1)] → sX15_hasCatches_2 F f h x0 x1 = some o → W p l e (rm 0 0) s m args below meth c H locs 0 0 (MQ below (QI X h0 o.1 o.2) args s 0 0 (aA (eB X))) (F0 m 2 ls []) := fun h x0 x1 H locs k_x0 a b c ls hl hE => ih k_x0 a b c ls hl hE
    refine lv_iload_n C.1 C.2.1 dX15_hasCatches_2 rfl (lv_at hl 1 rfl) ?_
    refine lv_aload_n C.1 C.2.1 dX15_hasCatches_3 rfl (lv_at hl 0 rfl) ?_
    obtain ⟨r_1, er_1, hE⟩ := cl_e hE
    refine gf_X15_252 C hW k_x0 er_1 dX15_hasCatches_4 (fun k_r_1 => ?_)
    refine gf_X15_169 C hW k_r_1 dX15_hasCatches_7 ?_
    refine lv_icmp_ge (tgt := 62) C.1 C.2.1 dX15_hasCatches_10 (by decide) (fun c_2 => ?_) (fun c_2 => ?_)
    · have hE := br_p hE c_2
      refine lv_iconst (v := (0 : Int32)) C.1 C.2.1 dX15_hasCatches_62 (by decide) ?_
      exact x_iret C rfl (by decide) hW hZ hkm hE dX15_hasCatches_63
    · have hE := br_n hE c_2
      refine lv_iconst (v := (0 : Int32)) C.1 C.2.1 dX15_hasCatches_13 (by decide) ?_
      refine lv_istore_n (lv' := [(2, .int (0 : Int32)), (0, .ref x0), (1, .int x1)]) C.1 C.2.1 dX15_hasCatches_14 rfl hl (by decide) rfl (fun ls hl => ?_)
      exact bX15_hasCatches_15 C hk_2 F k_x0 hkm hW hZ _ (lv_sub hl [1, 2, 0] rfl) hE
set_option maxRecDepth 20000 in
theorem ct_X15_hasCatches (l : Launch) (X : Ec) (F : Nat) {h : Hp} {x0 : Nat} {o : Int32 × Hp} (k_x0 : hK h x0 = 15) (hE : sX15_hasCatches F h x0 = some o) : MetI l yX15_hasCatches cX15_hasCatches 3 (some .boolean) 0 0 X [.ref x0] h o := by
  refine x_met (by decide) (Nat.le_of_ble_eq_true rfl) ?_
  intro p e s m below meth c ls C hl hW hZ
  have hl : lv_has ls 3 [(0, .ref x0)] := hl
  have hkm : Km h h := Km.rf h
  refine lv_iconst (v := (0 : Int32)) C.1 C.2.1 dX15_hasCatches_0 (by decide) ?_
  refine lv_istore_n (lv' := [(1, .int (0 : Int32)), (0, .ref x0)]) C.1 C.2.1 dX15_hasCatches_1 rfl hl (by decide) rfl (fun ls hl => ?_)
  exact bX15_hasCatches_2 C F k_x0 hkm hW hZ _ (lv_sub hl [1, 0] rfl) hE
theorem dX15_packed_0 : decode cX15_packed 0 = .ok (.iload_n 1, 1) := by decide +kernel
theorem dX15_packed_1 : decode cX15_packed 1 = .ok (.istore_n 2, 1) := by decide +kernel
theorem dX15_packed_2 : decode cX15_packed 2 = .ok (.iconst 0, 1) := by decide +kernel
theorem dX15_packed_3 : decode cX15_packed 3 = .ok (.istore_n 3, 1) := by decide +kernel
theorem dX15_packed_4 : decode cX15_packed 4 = .ok (.iload_n 3, 1) := by decide +kernel
theorem dX15_packed_5 : decode cX15_packed 5 = .ok (.iload_n 1, 1) := by decide +kernel
theorem dX15_packed_6 : decode cX15_packed 6 = .ok (.if_icmp .ge 17, 3) := by decide +kernel
theorem dX15_packed_9 : decode cX15_packed 9 = .ok (.iload_n 2, 1) := by decide +kernel
theorem dX15_packed_10 : decode cX15_packed 10 = .ok (.iconst 5, 1) := by decide +kernel
theorem dX15_packed_11 : decode cX15_packed 11 = .ok (.ishl, 1) := by decide +kernel
theorem dX15_packed_12 : decode cX15_packed 12 = .ok (.aload_n 0, 1) := by decide +kernel
theorem dX15_packed_13 : decode cX15_packed 13 = .ok (.iload_n 3, 1) := by decide +kernel
theorem dX15_packed_14 : decode cX15_packed 14 = .ok (.iaload, 1) := by decide +kernel
theorem dX15_packed_15 : decode cX15_packed 15 = .ok (.ior, 1) := by decide +kernel
theorem dX15_packed_16 : decode cX15_packed 16 = .ok (.istore_n 2, 1) := by decide +kernel
theorem dX15_packed_17 : decode cX15_packed 17 = .ok (.iinc 3 1, 3) := by decide +kernel
theorem dX15_packed_20 : decode cX15_packed 20 = .ok (.goto (-16), 3) := by decide +kernel
theorem dX15_packed_23 : decode cX15_packed 23 = .ok (.iload_n 2, 1) := by decide +kernel
theorem dX15_packed_24 : decode cX15_packed 24 = .ok (.ireturn, 1) := by decide +kernel
set_option maxRecDepth 20000 in
theorem moX15_packed_4 {o : Int32 × Hp} {F : Nat} : ∀ (f : Nat) {h : Hp} {x0 : Nat} {x1 : Int32} {x2 : Int32} {x3 : Int32}, sX15_packed_4 F f h x0 x1 x2 x3 = some o → Le h o.2 := by
  intro f
  induction f with
  | zero =>
    intro h x0 x1 x2 x3 hE
    rw [sX15_packed_4] at hE
    cases hE
  | succ f ih =>
    intro h x0 x1 x2 x3 hE
    rw [sX15_packed_4] at hE
    have mk_4 : ∀ (h : Hp) (x0 : Nat) (x1 : Int32) (x2 : Int32) (x3 : Int32), sX15_packed_4 F f h x0 x1 x2 x3 = some o → Le h o.2 := fun h x0 x1 x2 x3 hE => ih hE
    rcases br_e hE with ⟨_, hE⟩ | ⟨_, hE⟩
    · exact le_some2 hE
    · obtain ⟨g_2, hE⟩ := gd_e hE
      obtain ⟨v_3, ev_3, hE⟩ := nm_e2 hE
      obtain ⟨v_4, ev_4, hE⟩ := nm_e2 hE
      exact mk_4 _ _ _ _ _ hE
set_option maxRecDepth 20000 in
theorem moX15_packed {o : Int32 × Hp} {F : Nat} {h : Hp} {x0 : Nat} {x1 : Int32} (hE : sX15_packed F h x0 x1 = some o) : Le h o.2 := by
  exact moX15_packed_4 _ hE
set_option maxRecDepth 20000 in
theorem bX15_packed_4 {p : Program} {l : Launch} {e : Env} {s : State} {m : MethodId} {args : Array Value} {below : List Frame} {meth : Method} {c : Code} {X : Ec} {h0 : Hp} {o : Int32 × Hp} {F : Nat} (C : Cx X p s m args meth c RX15 cX15_packed 4 (some .int) "packed") : ∀ (f : Nat) {h : Hp} {x0 : Nat} {x1 : Int32} {x2 : Int32} {x3 : Int32} {H : Heap} {locs : List Loc} (k_x0 : hK h x0 = 17), Km h0 h → Wx X h H → va_S (aA (eB X)) s.heap H locs → ∀ (ls : Array Slot), lv_has ls 4 [(0, .ref x0), (1, .int x1), (2, .int x2), (3, .int x3)] → sX15_packed_4 F f h x0 x1 x2 x3 = some o → W p l e (rm 0 0) s m args below meth c H locs 0 0 (MQ below (QI X h0 o.1 o.2) args s 0 0 (aA (eB X))) (F0 m 4 ls []) := by
  intro f
  induction f with
  | zero =>
    intro h x0 x1 x2 x3 H locs k_x0 hkm hW hZ ls hl hE
    rw [sX15_packed_4] at hE
    cases hE
  | succ f ih =>
    intro h x0 x1 x2 x3 H locs k_x0 hkm hW hZ ls hl hE
    rw [sX15_packed_4] at hE
    have hk_4 : ∀ (h : Hp) (x0 : Nat) (x1 : Int32) (x2 : Int32) (x3 : Int32) (H : Heap) (locs : List Loc), hK h x0 = 17 → Km h0 h → Wx X h H → va_S (aA (eB X)) s.heap H locs → ∀ (ls : Array Slot), lv_has ls 4 [(0, .ref x0), (1, .int x1), (2, .int x2), (3, .int x3)] → sX15_packed_4 F f h x0 x1 x2 x3 = some o → W p l e (rm 0 0) s m args below meth c H locs 0 0 (MQ below (QI X h0 o.1 o.2) args s 0 0 (aA (eB X))) (F0 m 4 ls []) := fun h x0 x1 x2 x3 H locs k_x0 a b c ls hl hE => ih k_x0 a b c ls hl hE
    refine lv_iload_n C.1 C.2.1 dX15_packed_4 rfl (lv_at hl 3 rfl) ?_
    refine lv_iload_n C.1 C.2.1 dX15_packed_5 rfl (lv_at hl 1 rfl) ?_
    refine lv_icmp_ge (tgt := 23) C.1 C.2.1 dX15_packed_6 (by decide) (fun c_1 => ?_) (fun c_1 => ?_)
    · have hE := br_p hE c_1
      refine lv_iload_n C.1 C.2.1 dX15_packed_23 rfl (lv_at hl 2 rfl) ?_
      exact x_iret C rfl rfl hW hZ hkm hE dX15_packed_24
    · have hE := br_n hE c_1
      refine lv_iload_n C.1 C.2.1 dX15_packed_9 rfl (lv_at hl 2 rfl) ?_
      refine lv_iconst (v := (5 : Int32)) C.1 C.2.1 dX15_packed_10 (by decide) ?_
      refine lv_ishl C.1 C.2.1 dX15_packed_11 ?_
      refine lv_aload_n C.1 C.2.1 dX15_packed_12 rfl (lv_at hl 0 rfl) ?_
      refine lv_iload_n C.1 C.2.1 dX15_packed_13 rfl (lv_at hl 3 rfl) ?_
      obtain ⟨g_2, hE⟩ := gd_e hE
      refine y_iald C hW k_x0 g_2 dX15_packed_14 ?_
      refine lv_ior C.1 C.2.1 dX15_packed_15 ?_
      obtain ⟨v_3, ev_3, hE⟩ := nm_e2 hE
      refine x_nmI ev_3 ?_
      refine lv_istore_n (lv' := [(2, .int v_3), (0, .ref x0), (1, .int x1), (3, .int x3)]) C.1 C.2.1 dX15_packed_16 rfl hl (by decide) rfl (fun ls hl => ?_)
      obtain ⟨v_4, ev_4, hE⟩ := nm_e2 hE
      refine lv_iinc (v := v_4) (lv' := [(3, .int v_4), (2, .int v_3), (0, .ref x0), (1, .int x1)]) C.1 C.2.1 dX15_packed_17 hl (k := 3) rfl (by rw [ev_4]; rfl) (by decide) rfl (fun ls hl => ?_)
      refine lv_goto (tgt := 4) C.1 C.2.1 dX15_packed_20 (by decide) ?_
      exact hk_4 _ _ _ _ _ _ _ k_x0 hkm hW hZ _ (lv_sub hl [2, 3, 1, 0] rfl) hE
set_option maxRecDepth 20000 in
theorem ct_X15_packed (l : Launch) (X : Ec) (F : Nat) {h : Hp} {x0 : Nat} {x1 : Int32} {o : Int32 × Hp} (k_x0 : hK h x0 = 17) (hE : sX15_packed F h x0 x1 = some o) : MetI l yX15_packed cX15_packed 4 (some .int) 0 0 X [.ref x0, .int x1] h o := by
  refine x_met (by decide) (Nat.le_of_ble_eq_true rfl) ?_
  intro p e s m below meth c ls C hl hW hZ
  have hl : lv_has ls 4 [(0, .ref x0), (1, .int x1)] := hl
  have hkm : Km h h := Km.rf h
  refine lv_iload_n C.1 C.2.1 dX15_packed_0 rfl (lv_at hl 1 rfl) ?_
  refine lv_istore_n (lv' := [(2, .int x1), (0, .ref x0), (1, .int x1)]) C.1 C.2.1 dX15_packed_1 rfl hl (by decide) rfl (fun ls hl => ?_)
  refine lv_iconst (v := (0 : Int32)) C.1 C.2.1 dX15_packed_2 (by decide) ?_
  refine lv_istore_n (lv' := [(3, .int (0 : Int32)), (2, .int x1), (0, .ref x0), (1, .int x1)]) C.1 C.2.1 dX15_packed_3 rfl hl (by decide) rfl (fun ls hl => ?_)
  exact bX15_packed_4 C F k_x0 hkm hW hZ _ (lv_sub hl [2, 3, 1, 0] rfl) hE
set_option maxRecDepth 100000 in
theorem m_2762 : Cond.constant RX15 733 (-1640531535 : Int32) ∈ W0 := w0_in (List.mem_append_right _ (List.mem_of_getElem? (i := 2762) rfl)) rfl
section
variable {p : Program} {l : Launch} {e : Env} {R : Room} {s : State} {m : MethodId} {args : Array Value} {below : List Frame} {meth : Method} {c : Code} {H : Heap} {locs : List Loc} {cells slots : Nat} {Q : State → Prop}
variable {cc : ByteArray} {pc : Nat} {ls : Array Slot} {rest : List Value} {X : Ec} {h h1 : Hp} {nL : Nat} {rt : Option FieldType} {mn : String}
theorem gf_X15_356 {a r : Nat} (C : Cx X p s m args meth c RX15 cc nL rt mn) (hW : Wx X h H) (ha : hK h a = 15) (hr : hR h a 56 = some r) (hdg : decode cc pc = .ok (.getfield 356, 3)) (kk : hK h r = 17 → W p l e R s m args below meth c H locs cells slots Q (F0 m (pc + 3) ls (.ref r :: rest))) : W p l e R s m args below meth c H locs cells slots Q (F0 m pc ls (.ref a :: rest)) :=
  y_getr C hW ha i_X15 (by decide) rfl (by decide) m_2167 rfl rfl hr hdg kk
theorem gf_X15_353 {a r : Nat} (C : Cx X p s m args meth c RX15 cc nL rt mn) (hW : Wx X h H) (ha : hK h a = 15) (hr : hR h a 55 = some r) (hdg : decode cc pc = .ok (.getfield 353, 3)) (kk : hK h r = 17 → W p l e R s m args below meth c H locs cells slots Q (F0 m (pc + 3) ls (.ref r :: rest))) : W p l e R s m args below meth c H locs cells slots Q (F0 m pc ls (.ref a :: rest)) :=
  y_getr C hW ha i_X15 (by decide) rfl (by decide) m_2166 rfl rfl hr hdg kk
end
theorem dX15_slotOf_0 : decode cX15_slotOf 0 = .ok (.iload_n 1, 1) := by decide +kernel
theorem dX15_slotOf_1 : decode cX15_slotOf 1 = .ok (.iload_n 1, 1) := by decide +kernel
theorem dX15_slotOf_2 : decode cX15_slotOf 2 = .ok (.bipush 13, 2) := by decide +kernel
theorem dX15_slotOf_4 : decode cX15_slotOf 4 = .ok (.iushr, 1) := by decide +kernel
theorem dX15_slotOf_5 : decode cX15_slotOf 5 = .ok (.ixor, 1) := by decide +kernel
theorem dX15_slotOf_6 : decode cX15_slotOf 6 = .ok (.ldc_w 733, 3) := by decide +kernel
theorem dX15_slotOf_9 : decode cX15_slotOf 9 = .ok (.imul, 1) := by decide +kernel
theorem dX15_slotOf_10 : decode cX15_slotOf 10 = .ok (.bipush 18, 2) := by decide +kernel
theorem dX15_slotOf_12 : decode cX15_slotOf 12 = .ok (.iushr, 1) := by decide +kernel
theorem dX15_slotOf_13 : decode cX15_slotOf 13 = .ok (.istore_n 2, 1) := by decide +kernel
theorem dX15_slotOf_14 : decode cX15_slotOf 14 = .ok (.aload_n 0, 1) := by decide +kernel
theorem dX15_slotOf_15 : decode cX15_slotOf 15 = .ok (.getfield 356, 3) := by decide +kernel
theorem dX15_slotOf_18 : decode cX15_slotOf 18 = .ok (.iload_n 2, 1) := by decide +kernel
theorem dX15_slotOf_19 : decode cX15_slotOf 19 = .ok (.iaload, 1) := by decide +kernel
theorem dX15_slotOf_20 : decode cX15_slotOf 20 = .ok (.ifCond .le 24, 3) := by decide +kernel
theorem dX15_slotOf_23 : decode cX15_slotOf 23 = .ok (.aload_n 0, 1) := by decide +kernel
theorem dX15_slotOf_24 : decode cX15_slotOf 24 = .ok (.getfield 353, 3) := by decide +kernel
theorem dX15_slotOf_27 : decode cX15_slotOf 27 = .ok (.iload_n 2, 1) := by decide +kernel
theorem dX15_slotOf_28 : decode cX15_slotOf 28 = .ok (.iaload, 1) := by decide +kernel
theorem dX15_slotOf_29 : decode cX15_slotOf 29 = .ok (.iload_n 1, 1) := by decide +kernel
theorem dX15_slotOf_30 : decode cX15_slotOf 30 = .ok (.if_icmp .eq 14, 3) := by decide +kernel
theorem dX15_slotOf_33 : decode cX15_slotOf 33 = .ok (.iload_n 2, 1) := by decide +kernel
theorem dX15_slotOf_34 : decode cX15_slotOf 34 = .ok (.iconst 1, 1) := by decide +kernel
theorem dX15_slotOf_35 : decode cX15_slotOf 35 = .ok (.iadd, 1) := by decide +kernel
theorem dX15_slotOf_36 : decode cX15_slotOf 36 = .ok (.sipush 16383, 3) := by decide +kernel
theorem dX15_slotOf_39 : decode cX15_slotOf 39 = .ok (.iand, 1) := by decide +kernel
theorem dX15_slotOf_40 : decode cX15_slotOf 40 = .ok (.istore_n 2, 1) := by decide +kernel
theorem dX15_slotOf_41 : decode cX15_slotOf 41 = .ok (.goto (-27), 3) := by decide +kernel
theorem dX15_slotOf_44 : decode cX15_slotOf 44 = .ok (.iload_n 2, 1) := by decide +kernel
theorem dX15_slotOf_45 : decode cX15_slotOf 45 = .ok (.ireturn, 1) := by decide +kernel
set_option maxRecDepth 20000 in
theorem moX15_slotOf_44 {o : Int32 × Hp} {F : Nat} {h : Hp} {x2 : Int32} (hE : sX15_slotOf_44 F h x2 = some o) : Le h o.2 := by
  exact le_some2 hE
set_option maxRecDepth 20000 in
theorem moX15_slotOf_14 {o : Int32 × Hp} {F : Nat} : ∀ (f : Nat) {h : Hp} {x0 : Nat} {x1 : Int32} {x2 : Int32}, sX15_slotOf_14 F f h x0 x1 x2 = some o → Le h o.2 := by
  intro f
  induction f with
  | zero =>
    intro h x0 x1 x2 hE
    rw [sX15_slotOf_14] at hE
    cases hE
  | succ f ih =>
    intro h x0 x1 x2 hE
    rw [sX15_slotOf_14] at hE
    have mk_14 : ∀ (h : Hp) (x0 : Nat) (x1 : Int32) (x2 : Int32), sX15_slotOf_14 F f h x0 x1 x2 = some o → Le h o.2 := fun h x0 x1 x2 hE => ih hE
    obtain ⟨r_1, er_1, hE⟩ := cl_e hE
    obtain ⟨g_2, hE⟩ := gd_e hE
    rcases br_e hE with ⟨_, hE⟩ | ⟨_, hE⟩
    · exact moX15_slotOf_44 hE
    · obtain ⟨r_4, er_4, hE⟩ := cl_e hE
      obtain ⟨g_5, hE⟩ := gd_e hE
      rcases br_e hE with ⟨_, hE⟩ | ⟨_, hE⟩
      · exact moX15_slotOf_44 hE
      · obtain ⟨v_7, ev_7, hE⟩ := nm_e2 hE
        exact mk_14 _ _ _ _ hE
set_option maxRecDepth 20000 in
theorem moX15_slotOf {o : Int32 × Hp} {F : Nat} {h : Hp} {x0 : Nat} {x1 : Int32} (hE : sX15_slotOf F h x0 x1 = some o) : Le h o.2 := by
  obtain ⟨v_1, ev_1, hE⟩ := nm_e2 hE
  exact moX15_slotOf_14 _ hE
set_option maxRecDepth 20000 in
theorem bX15_slotOf_44 {p : Program} {l : Launch} {e : Env} {s : State} {m : MethodId} {args : Array Value} {below : List Frame} {meth : Method} {c : Code} {X : Ec} {h0 : Hp} {o : Int32 × Hp} {F : Nat} (C : Cx X p s m args meth c RX15 cX15_slotOf 3 (some .int) "slotOf") {h : Hp} {x2 : Int32} {H : Heap} {locs : List Loc} (hkm : Km h0 h) (hW : Wx X h H) (hZ : va_S (aA (eB X)) s.heap H locs) (ls : Array Slot) (hl : lv_has ls 3 [(2, .int x2)]) (hE : sX15_slotOf_44 F h x2 = some o) : W p l e (rm 0 0) s m args below meth c H locs 0 0 (MQ below (QI X h0 o.1 o.2) args s 0 0 (aA (eB X))) (F0 m 44 ls []) := by
  refine lv_iload_n C.1 C.2.1 dX15_slotOf_44 rfl (lv_at hl 0 rfl) ?_
  exact x_iret C rfl rfl hW hZ hkm hE dX15_slotOf_45
set_option maxRecDepth 20000 in
theorem bX15_slotOf_14 {p : Program} {l : Launch} {e : Env} {s : State} {m : MethodId} {args : Array Value} {below : List Frame} {meth : Method} {c : Code} {X : Ec} {h0 : Hp} {o : Int32 × Hp} {F : Nat} (C : Cx X p s m args meth c RX15 cX15_slotOf 3 (some .int) "slotOf") : ∀ (f : Nat) {h : Hp} {x0 : Nat} {x1 : Int32} {x2 : Int32} {H : Heap} {locs : List Loc} (k_x0 : hK h x0 = 15), Km h0 h → Wx X h H → va_S (aA (eB X)) s.heap H locs → ∀ (ls : Array Slot), lv_has ls 3 [(0, .ref x0), (1, .int x1), (2, .int x2)] → sX15_slotOf_14 F f h x0 x1 x2 = some o → W p l e (rm 0 0) s m args below meth c H locs 0 0 (MQ below (QI X h0 o.1 o.2) args s 0 0 (aA (eB X))) (F0 m 14 ls []) := by
  intro f
  induction f with
  | zero =>
    intro h x0 x1 x2 H locs k_x0 hkm hW hZ ls hl hE
    rw [sX15_slotOf_14] at hE
    cases hE
  | succ f ih =>
    intro h x0 x1 x2 H locs k_x0 hkm hW hZ ls hl hE
    rw [sX15_slotOf_14] at hE
    have hk_14 : ∀ (h : Hp) (x0 : Nat) (x1 : Int32) (x2 : Int32) (H : Heap) (locs : List Loc), hK h x0 = 15 → Km h0 h → Wx X h H → va_S (aA (eB X)) s.heap H locs → ∀ (ls : Array Slot), lv_has ls 3 [(0, .ref x0), (1, .int x1), (2, .int x2)] → sX15_slotOf_14 F f h x0 x1 x2 = some o → W p l e (rm 0 0) s m args below meth c H locs 0 0 (MQ below (QI X h0 o.1 o.2) args s 0 0 (aA (eB X))) (F0 m 14 ls []) := fun h x0 x1 x2 H locs k_x0 a b c ls hl hE => ih k_x0 a b c ls hl hE
    refine lv_aload_n C.1 C.2.1 dX15_slotOf_14 rfl (lv_at hl 0 rfl) ?_
    obtain ⟨r_1, er_1, hE⟩ := cl_e hE
    refine gf_X15_356 C hW k_x0 er_1 dX15_slotOf_15 (fun k_r_1 => ?_)
    refine lv_iload_n C.1 C.2.1 dX15_slotOf_18 rfl (lv_at hl 2 rfl) ?_
    obtain ⟨g_2, hE⟩ := gd_e hE
    refine y_iald C hW k_r_1 g_2 dX15_slotOf_19 ?_
    refine lv_if_le (tgt := 44) C.1 C.2.1 dX15_slotOf_20 (by decide) (fun c_3 => ?_) (fun c_3 => ?_)
    · have hE := br_p hE c_3
      exact bX15_slotOf_44 C hkm hW hZ _ (lv_sub hl [2] rfl) hE
    · have hE := br_n hE c_3
      refine lv_aload_n C.1 C.2.1 dX15_slotOf_23 rfl (lv_at hl 0 rfl) ?_
      obtain ⟨r_4, er_4, hE⟩ := cl_e hE
      refine gf_X15_353 C hW k_x0 er_4 dX15_slotOf_24 (fun k_r_4 => ?_)
      refine lv_iload_n C.1 C.2.1 dX15_slotOf_27 rfl (lv_at hl 2 rfl) ?_
      obtain ⟨g_5, hE⟩ := gd_e hE
      refine y_iald C hW k_r_4 g_5 dX15_slotOf_28 ?_
      refine lv_iload_n C.1 C.2.1 dX15_slotOf_29 rfl (lv_at hl 1 rfl) ?_
      refine lv_icmp_eq (tgt := 44) C.1 C.2.1 dX15_slotOf_30 (by decide) (fun c_6 => ?_) (fun c_6 => ?_)
      · have hE := br_p hE c_6
        exact bX15_slotOf_44 C hkm hW hZ _ (lv_sub hl [2] rfl) hE
      · have hE := br_n hE c_6
        refine lv_iload_n C.1 C.2.1 dX15_slotOf_33 rfl (lv_at hl 2 rfl) ?_
        refine lv_iconst (v := (1 : Int32)) C.1 C.2.1 dX15_slotOf_34 (by decide) ?_
        refine lv_iadd C.1 C.2.1 dX15_slotOf_35 ?_
        refine lv_sipush (v := (16383 : Int32)) C.1 C.2.1 dX15_slotOf_36 (by decide) ?_
        refine lv_iand C.1 C.2.1 dX15_slotOf_39 ?_
        obtain ⟨v_7, ev_7, hE⟩ := nm_e2 hE
        refine x_nmI ev_7 ?_
        refine lv_istore_n (lv' := [(2, .int v_7), (0, .ref x0), (1, .int x1)]) C.1 C.2.1 dX15_slotOf_40 rfl hl (by decide) rfl (fun ls hl => ?_)
        refine lv_goto (tgt := 14) C.1 C.2.1 dX15_slotOf_41 (by decide) ?_
        exact hk_14 _ _ _ _ _ _ k_x0 hkm hW hZ _ (lv_sub hl [1, 2, 0] rfl) hE
set_option maxRecDepth 20000 in
theorem ct_X15_slotOf (l : Launch) (X : Ec) (F : Nat) {h : Hp} {x0 : Nat} {x1 : Int32} {o : Int32 × Hp} (k_x0 : hK h x0 = 15) (hE : sX15_slotOf F h x0 x1 = some o) : MetI l yX15_slotOf cX15_slotOf 3 (some .int) 0 0 X [.ref x0, .int x1] h o := by
  refine x_met (by decide) (Nat.le_of_ble_eq_true rfl) ?_
  intro p e s m below meth c ls C hl hW hZ
  have hl : lv_has ls 3 [(0, .ref x0), (1, .int x1)] := hl
  have hkm : Km h h := Km.rf h
  refine lv_iload_n C.1 C.2.1 dX15_slotOf_0 rfl (lv_at hl 1 rfl) ?_
  refine lv_iload_n C.1 C.2.1 dX15_slotOf_1 rfl (lv_at hl 1 rfl) ?_
  refine lv_bipush (v := (13 : Int32)) C.1 C.2.1 dX15_slotOf_2 (by decide) ?_
  refine lv_iushr C.1 C.2.1 dX15_slotOf_4 rfl ?_
  refine lv_ixor C.1 C.2.1 dX15_slotOf_5 ?_
  refine lv_ldcw (v := (-1640531535 : Int32)) C.1 C.2.1 C.2.2.2.1 (C.2.2.2.2.1 _ m_2762) dX15_slotOf_6 ?_
  refine lv_imul C.1 C.2.1 dX15_slotOf_9 ?_
  refine lv_bipush (v := (18 : Int32)) C.1 C.2.1 dX15_slotOf_10 (by decide) ?_
  refine lv_iushr C.1 C.2.1 dX15_slotOf_12 rfl ?_
  obtain ⟨v_1, ev_1, hE⟩ := nm_e2 hE
  refine x_nmI ev_1 ?_
  refine lv_istore_n (lv' := [(2, .int v_1), (0, .ref x0), (1, .int x1)]) C.1 C.2.1 dX15_slotOf_13 rfl hl (by decide) rfl (fun ls hl => ?_)
  exact bX15_slotOf_14 C F k_x0 hkm hW hZ _ (lv_sub hl [1, 2, 0] rfl) hE
set_option maxRecDepth 100000 in
theorem ms_202 : Cond.selects RX15 yX15_slotOf yX15_slotOf ∈ W0 := w0_in (List.mem_append_left _ (List.mem_of_getElem? (i := 202) rfl)) rfl
set_option maxRecDepth 100000 in
theorem m_2755 : Cond.methodLink RX15 734 yX15_packed ∈ W0 := w0_in (List.mem_append_right _ (List.mem_of_getElem? (i := 2755) rfl)) rfl
set_option maxRecDepth 100000 in
theorem m_2756 : Cond.static yX15_packed ∈ W0 := w0_in (List.mem_append_right _ (List.mem_of_getElem? (i := 2756) rfl)) rfl
set_option maxRecDepth 100000 in
theorem m_2757 : Cond.code yX15_packed cX15_packed 4 (some .int) ∈ W0 := w0_in (List.mem_append_right _ (List.mem_of_getElem? (i := 2757) rfl)) rfl
set_option maxRecDepth 100000 in
theorem m_2758 : Cond.methodLink RX15 738 yX15_slotOf ∈ W0 := w0_in (List.mem_append_right _ (List.mem_of_getElem? (i := 2758) rfl)) rfl
set_option maxRecDepth 100000 in
theorem m_2760 : Cond.instanceMethod yX15_slotOf ∈ W0 := w0_in (List.mem_append_right _ (List.mem_of_getElem? (i := 2760) rfl)) rfl
set_option maxRecDepth 100000 in
theorem m_2761 : Cond.code yX15_slotOf cX15_slotOf 3 (some .int) ∈ W0 := w0_in (List.mem_append_right _ (List.mem_of_getElem? (i := 2761) rfl)) rfl
theorem cw_X15_734 : cwd RX15 734 yX15_packed cX15_packed 4 (some .int) true 2 := ⟨m_2757, m_2755, m_19, m_2756, by decide, by decide, by decide +kernel⟩
theorem cw_X15_738 : cwd RX15 738 yX15_slotOf cX15_slotOf 3 (some .int) false 1 := ⟨m_2761, m_2758, m_19, ⟨m_2760, ms_202⟩, by decide, by decide, by decide +kernel⟩
theorem dX15_findSet_0 : decode cX15_findSet 0 = .ok (.aload_n 0, 1) := by decide +kernel
theorem dX15_findSet_1 : decode cX15_findSet 1 = .ok (.getfield 356, 3) := by decide +kernel
theorem dX15_findSet_4 : decode cX15_findSet 4 = .ok (.aload_n 0, 1) := by decide +kernel
theorem dX15_findSet_5 : decode cX15_findSet 5 = .ok (.aload_n 1, 1) := by decide +kernel
theorem dX15_findSet_6 : decode cX15_findSet 6 = .ok (.iload_n 2, 1) := by decide +kernel
theorem dX15_findSet_7 : decode cX15_findSet 7 = .ok (.invokestatic 734, 3) := by decide +kernel
theorem dX15_findSet_10 : decode cX15_findSet 10 = .ok (.invokevirtual 738, 3) := by decide +kernel
theorem dX15_findSet_13 : decode cX15_findSet 13 = .ok (.iaload, 1) := by decide +kernel
theorem dX15_findSet_14 : decode cX15_findSet 14 = .ok (.iconst 1, 1) := by decide +kernel
theorem dX15_findSet_15 : decode cX15_findSet 15 = .ok (.isub, 1) := by decide +kernel
theorem dX15_findSet_16 : decode cX15_findSet 16 = .ok (.ireturn, 1) := by decide +kernel
set_option maxRecDepth 20000 in
theorem moX15_findSet {o : Int32 × Hp} {F : Nat} {h : Hp} {x0 : Nat} {x1 : Nat} {x2 : Int32} (hE : sX15_findSet F h x0 x1 x2 = some o) : Le h o.2 := by
  obtain ⟨r_1, er_1, hE⟩ := cl_e hE
  obtain ⟨o_2, eo_2, hE⟩ := cl_e hE
  refine (moX15_packed eo_2).tr ?_
  obtain ⟨o_3, eo_3, hE⟩ := cl_e hE
  refine (moX15_slotOf eo_3).tr ?_
  obtain ⟨g_4, hE⟩ := gd_e hE
  exact le_some2 hE
set_option maxRecDepth 20000 in
theorem ct_X15_findSet (l : Launch) (X : Ec) (F : Nat) {h : Hp} {x0 : Nat} {x1 : Nat} {x2 : Int32} {o : Int32 × Hp} (k_x0 : hK h x0 = 15) (k_x1 : hK h x1 = 17) (hE : sX15_findSet F h x0 x1 x2 = some o) : MetI l yX15_findSet cX15_findSet 3 (some .int) 1 23 X [.ref x0, .ref x1, .int x2] h o := by
  refine x_met (by decide) (Nat.le_of_ble_eq_true rfl) ?_
  intro p e s m below meth c ls C hl hW hZ
  have hl : lv_has ls 3 [(0, .ref x0), (1, .ref x1), (2, .int x2)] := hl
  have hkm : Km h h := Km.rf h
  refine lv_aload_n C.1 C.2.1 dX15_findSet_0 rfl (lv_at hl 0 rfl) ?_
  obtain ⟨r_1, er_1, hE⟩ := cl_e hE
  refine gf_X15_356 C hW k_x0 er_1 dX15_findSet_1 (fun k_r_1 => ?_)
  refine lv_aload_n C.1 C.2.1 dX15_findSet_4 rfl (lv_at hl 0 rfl) ?_
  refine lv_aload_n C.1 C.2.1 dX15_findSet_5 rfl (lv_at hl 1 rfl) ?_
  refine lv_iload_n C.1 C.2.1 dX15_findSet_6 rfl (lv_at hl 2 rfl) ?_
  obtain ⟨o_2, eo_2, hE⟩ := cl_e hE
  refine x_kI (o := o_2) (z_runS (As := [.ref x1, .int x2]) (rest := [.ref x0, .ref r_1]) C (ct_X15_packed l X F k_x1 eo_2) cw_X15_734 hW hZ rfl hl.1 (Nat.le_of_ble_eq_true rfl) rfl dX15_findSet_7 ⟨Nat.le_of_ble_eq_true rfl, Nat.le_of_ble_eq_true rfl⟩ ⟨Nat.le_refl _, Nat.le_refl _⟩) hZ (fun _ _ hW km hZ => ?_)
  replace hkm := hkm.tr km
  replace k_x0 := km.at k_x0 (by decide)
  replace k_x1 := km.at k_x1 (by decide)
  replace k_r_1 := km.at k_r_1 (by decide)
  obtain ⟨o_3, eo_3, hE⟩ := cl_e hE
  refine x_kI (o := o_3) (z_runV (As := [.int o_2.1]) (rest := [.ref r_1]) C (ct_X15_slotOf l X F k_x0 eo_3) cw_X15_738 hW hZ k_x0 (by decide) rfl rfl rfl hl.1 (Nat.le_of_ble_eq_true rfl) rfl dX15_findSet_10 ⟨Nat.le_of_ble_eq_true rfl, Nat.le_of_ble_eq_true rfl⟩ ⟨Nat.le_refl _, Nat.le_refl _⟩) hZ (fun _ _ hW km hZ => ?_)
  replace hkm := hkm.tr km
  replace k_x0 := km.at k_x0 (by decide)
  replace k_x1 := km.at k_x1 (by decide)
  replace k_r_1 := km.at k_r_1 (by decide)
  obtain ⟨g_4, hE⟩ := gd_e hE
  refine y_iald C hW k_r_1 g_4 dX15_findSet_13 ?_
  refine lv_iconst (v := (1 : Int32)) C.1 C.2.1 dX15_findSet_14 (by decide) ?_
  refine lv_isub C.1 C.2.1 dX15_findSet_15 ?_
  exact x_iret C rfl rfl hW hZ hkm hE dX15_findSet_16
set_option maxRecDepth 100000 in
theorem ms_201 : Cond.selects RX15 yX15_findSet yX15_findSet ∈ W0 := w0_in (List.mem_append_left _ (List.mem_of_getElem? (i := 201) rfl)) rfl
set_option maxRecDepth 100000 in
theorem m_2160 : Cond.fieldLink RX15 751 (TX15 49).1 (TX15 49).2.1 (TX15 49).2.2.1 ∈ W0 := w0_in (List.mem_append_right _ (List.mem_of_getElem? (i := 2160) rfl)) rfl
set_option maxRecDepth 100000 in
theorem m_2170 : Cond.fieldLink RX15 746 (TX15 59).1 (TX15 59).2.1 (TX15 59).2.2.1 ∈ W0 := w0_in (List.mem_append_right _ (List.mem_of_getElem? (i := 2170) rfl)) rfl
set_option maxRecDepth 100000 in
theorem m_2751 : Cond.methodLink RX15 741 yX15_findSet ∈ W0 := w0_in (List.mem_append_right _ (List.mem_of_getElem? (i := 2751) rfl)) rfl
set_option maxRecDepth 100000 in
theorem m_2753 : Cond.instanceMethod yX15_findSet ∈ W0 := w0_in (List.mem_append_right _ (List.mem_of_getElem? (i := 2753) rfl)) rfl
set_option maxRecDepth 100000 in
theorem m_2754 : Cond.code yX15_findSet cX15_findSet 3 (some .int) ∈ W0 := w0_in (List.mem_append_right _ (List.mem_of_getElem? (i := 2754) rfl)) rfl
set_option maxRecDepth 100000 in
theorem m_2763 : Cond.constantLong RX15 744 (2 : Int64) ∈ W0 := w0_in (List.mem_append_right _ (List.mem_of_getElem? (i := 2763) rfl)) rfl
set_option maxRecDepth 100000 in
theorem m_2764 : Cond.constantLong RX15 749 (600000 : Int64) ∈ W0 := w0_in (List.mem_append_right _ (List.mem_of_getElem? (i := 2764) rfl)) rfl
section
variable {p : Program} {l : Launch} {e : Env} {R : Room} {s : State} {m : MethodId} {args : Array Value} {below : List Frame} {meth : Method} {c : Code} {H : Heap} {locs : List Loc} {cells slots : Nat} {Q : State → Prop}
variable {cc : ByteArray} {pc : Nat} {ls : Array Slot} {rest : List Value} {X : Ec} {h h1 : Hp} {nL : Nat} {rt : Option FieldType} {mn : String}
theorem gf_X15_746 {a : Nat} (C : Cx X p s m args meth c RX15 cc nL rt mn) (hW : Wx X h H) (ha : hK h a = 15) (hdg : decode cc pc = .ok (.getfield 746, 3)) (kk : W p l e R s m args below meth c H locs cells slots Q (F0 m (pc + 3) ls (.long (hJ h a 59) :: rest))) : W p l e R s m args below meth c H locs cells slots Q (F0 m pc ls (.ref a :: rest)) :=
  y_getj C hW ha i_X15 (by decide) rfl (by decide) m_2170 rfl hdg kk
theorem pf_X15_746 {a : Nat} {v : Int64} (C : Cx X p s m args meth c RX15 cc nL rt mn) (hW : Wx X h H) (hZ : va_S (aA (eB X)) s.heap H locs) (ha : hK h a = 15) (eh : h1 = wJ h a 59 v) (hdg : decode cc pc = .ok (.putfield 746, 3)) (kk : ∀ (H1 : Heap) (locs1 : List Loc), Wx X h1 H1 → Km h h1 → va_S (aA (eB X)) s.heap H1 locs1 → W p l e R s m args below meth c H1 locs1 cells slots Q (F0 m (pc + 3) ls rest)) : W p l e R s m args below meth c H locs cells slots Q (F0 m pc ls (.long v :: .ref a :: rest)) :=
  y_putj C hW hZ ha i_X15 tyX15 tyX15_ok nmX15 (by decide) rfl rfl (by decide) m_2170 rfl (by decide +kernel) rfl eh hdg kk
theorem gf_X15_751 {a : Nat} (C : Cx X p s m args meth c RX15 cc nL rt mn) (hW : Wx X h H) (ha : hK h a = 15) (hdg : decode cc pc = .ok (.getfield 751, 3)) (kk : W p l e R s m args below meth c H locs cells slots Q (F0 m (pc + 3) ls (.int (hI h a 49) :: rest))) : W p l e R s m args below meth c H locs cells slots Q (F0 m pc ls (.ref a :: rest)) :=
  y_geti C hW ha i_X15 (by decide) rfl (by decide) m_2160 rfl hdg kk
theorem pf_X15_751 {a : Nat} {v : Int32} (C : Cx X p s m args meth c RX15 cc nL rt mn) (hW : Wx X h H) (hZ : va_S (aA (eB X)) s.heap H locs) (ha : hK h a = 15) (eh : h1 = wI h a 49 v) (hdg : decode cc pc = .ok (.putfield 751, 3)) (kk : ∀ (H1 : Heap) (locs1 : List Loc), Wx X h1 H1 → Km h h1 → va_S (aA (eB X)) s.heap H1 locs1 → W p l e R s m args below meth c H1 locs1 cells slots Q (F0 m (pc + 3) ls rest)) : W p l e R s m args below meth c H locs cells slots Q (F0 m pc ls (.int v :: .ref a :: rest)) :=
  y_puti (ty := .int) C hW hZ ha i_X15 tyX15 tyX15_ok nmX15 (by decide) rfl rfl (by decide) m_2160 rfl (by decide +kernel) rfl rfl rfl eh hdg kk
theorem gf_X15_359 {a r : Nat} (C : Cx X p s m args meth c RX15 cc nL rt mn) (hW : Wx X h H) (ha : hK h a = 15) (hr : hR h a 57 = some r) (hdg : decode cc pc = .ok (.getfield 359, 3)) (kk : hK h r = 17 → W p l e R s m args below meth c H locs cells slots Q (F0 m (pc + 3) ls (.ref r :: rest))) : W p l e R s m args below meth c H locs cells slots Q (F0 m pc ls (.ref a :: rest)) :=
  y_getr C hW ha i_X15 (by decide) rfl (by decide) m_2168 rfl rfl hr hdg kk
theorem gf_X15_336 {a r : Nat} (C : Cx X p s m args meth c RX15 cc nL rt mn) (hW : Wx X h H) (ha : hK h a = 15) (hr : hR h a 47 = some r) (hdg : decode cc pc = .ok (.getfield 336, 3)) (kk : hK h r = 17 → W p l e R s m args below meth c H locs cells slots Q (F0 m (pc + 3) ls (.ref r :: rest))) : W p l e R s m args below meth c H locs cells slots Q (F0 m pc ls (.ref a :: rest)) :=
  y_getr C hW ha i_X15 (by decide) rfl (by decide) m_2158 rfl rfl hr hdg kk
theorem gf_X15_333 {a r : Nat} (C : Cx X p s m args meth c RX15 cc nL rt mn) (hW : Wx X h H) (ha : hK h a = 15) (hr : hR h a 46 = some r) (hdg : decode cc pc = .ok (.getfield 333, 3)) (kk : hK h r = 17 → W p l e R s m args below meth c H locs cells slots Q (F0 m (pc + 3) ls (.ref r :: rest))) : W p l e R s m args below meth c H locs cells slots Q (F0 m pc ls (.ref a :: rest)) :=
  y_getr C hW ha i_X15 (by decide) rfl (by decide) m_2157 rfl rfl hr hdg kk
theorem gf_X15_339 {a r : Nat} (C : Cx X p s m args meth c RX15 cc nL rt mn) (hW : Wx X h H) (ha : hK h a = 15) (hr : hR h a 48 = some r) (hdg : decode cc pc = .ok (.getfield 339, 3)) (kk : hK h r = 17 → W p l e R s m args below meth c H locs cells slots Q (F0 m (pc + 3) ls (.ref r :: rest))) : W p l e R s m args below meth c H locs cells slots Q (F0 m pc ls (.ref a :: rest)) :=
  y_getr C hW ha i_X15 (by decide) rfl (by decide) m_2159 rfl rfl hr hdg kk
end
theorem cw_X15_741 : cwd RX15 741 yX15_findSet cX15_findSet 3 (some .int) false 2 := ⟨m_2754, m_2751, m_19, ⟨m_2753, ms_201⟩, by decide, by decide, by decide +kernel⟩
theorem dX15_addSet_0 : decode cX15_addSet 0 = .ok (.iconst 1, 1) := by decide +kernel
theorem dX15_addSet_1 : decode cX15_addSet 1 = .ok (.istore_n 2, 1) := by decide +kernel
theorem dX15_addSet_2 : decode cX15_addSet 2 = .ok (.iload_n 2, 1) := by decide +kernel
theorem dX15_addSet_3 : decode cX15_addSet 3 = .ok (.iload_n 1, 1) := by decide +kernel
theorem dX15_addSet_4 : decode cX15_addSet 4 = .ok (.if_icmp .ge 67, 3) := by decide +kernel
theorem dX15_addSet_7 : decode cX15_addSet 7 = .ok (.aload_n 0, 1) := by decide +kernel
theorem dX15_addSet_8 : decode cX15_addSet 8 = .ok (.getfield 359, 3) := by decide +kernel
theorem dX15_addSet_11 : decode cX15_addSet 11 = .ok (.iload_n 2, 1) := by decide +kernel
theorem dX15_addSet_12 : decode cX15_addSet 12 = .ok (.iaload, 1) := by decide +kernel
theorem dX15_addSet_13 : decode cX15_addSet 13 = .ok (.istore_n 3, 1) := by decide +kernel
theorem dX15_addSet_14 : decode cX15_addSet 14 = .ok (.iload_n 2, 1) := by decide +kernel
theorem dX15_addSet_15 : decode cX15_addSet 15 = .ok (.istore 4, 2) := by decide +kernel
theorem dX15_addSet_17 : decode cX15_addSet 17 = .ok (.iload 4, 2) := by decide +kernel
theorem dX15_addSet_19 : decode cX15_addSet 19 = .ok (.ifCond .le 38, 3) := by decide +kernel
theorem dX15_addSet_22 : decode cX15_addSet 22 = .ok (.aload_n 0, 1) := by decide +kernel
theorem dX15_addSet_23 : decode cX15_addSet 23 = .ok (.getfield 359, 3) := by decide +kernel
theorem dX15_addSet_26 : decode cX15_addSet 26 = .ok (.iload 4, 2) := by decide +kernel
theorem dX15_addSet_28 : decode cX15_addSet 28 = .ok (.iconst 1, 1) := by decide +kernel
theorem dX15_addSet_29 : decode cX15_addSet 29 = .ok (.isub, 1) := by decide +kernel
theorem dX15_addSet_30 : decode cX15_addSet 30 = .ok (.iaload, 1) := by decide +kernel
theorem dX15_addSet_31 : decode cX15_addSet 31 = .ok (.iload_n 3, 1) := by decide +kernel
theorem dX15_addSet_32 : decode cX15_addSet 32 = .ok (.if_icmp .le 25, 3) := by decide +kernel
theorem dX15_addSet_35 : decode cX15_addSet 35 = .ok (.aload_n 0, 1) := by decide +kernel
theorem dX15_addSet_36 : decode cX15_addSet 36 = .ok (.getfield 359, 3) := by decide +kernel
theorem dX15_addSet_39 : decode cX15_addSet 39 = .ok (.iload 4, 2) := by decide +kernel
theorem dX15_addSet_41 : decode cX15_addSet 41 = .ok (.aload_n 0, 1) := by decide +kernel
theorem dX15_addSet_42 : decode cX15_addSet 42 = .ok (.getfield 359, 3) := by decide +kernel
theorem dX15_addSet_45 : decode cX15_addSet 45 = .ok (.iload 4, 2) := by decide +kernel
theorem dX15_addSet_47 : decode cX15_addSet 47 = .ok (.iconst 1, 1) := by decide +kernel
theorem dX15_addSet_48 : decode cX15_addSet 48 = .ok (.isub, 1) := by decide +kernel
theorem dX15_addSet_49 : decode cX15_addSet 49 = .ok (.iaload, 1) := by decide +kernel
theorem dX15_addSet_50 : decode cX15_addSet 50 = .ok (.iastore, 1) := by decide +kernel
theorem dX15_addSet_51 : decode cX15_addSet 51 = .ok (.iinc 4 (-1), 3) := by decide +kernel
theorem dX15_addSet_54 : decode cX15_addSet 54 = .ok (.goto (-37), 3) := by decide +kernel
theorem dX15_addSet_57 : decode cX15_addSet 57 = .ok (.aload_n 0, 1) := by decide +kernel
theorem dX15_addSet_58 : decode cX15_addSet 58 = .ok (.getfield 359, 3) := by decide +kernel
theorem dX15_addSet_61 : decode cX15_addSet 61 = .ok (.iload 4, 2) := by decide +kernel
theorem dX15_addSet_63 : decode cX15_addSet 63 = .ok (.iload_n 3, 1) := by decide +kernel
theorem dX15_addSet_64 : decode cX15_addSet 64 = .ok (.iastore, 1) := by decide +kernel
theorem dX15_addSet_65 : decode cX15_addSet 65 = .ok (.iinc 2 1, 3) := by decide +kernel
theorem dX15_addSet_68 : decode cX15_addSet 68 = .ok (.goto (-66), 3) := by decide +kernel
theorem dX15_addSet_71 : decode cX15_addSet 71 = .ok (.aload_n 0, 1) := by decide +kernel
theorem dX15_addSet_72 : decode cX15_addSet 72 = .ok (.aload_n 0, 1) := by decide +kernel
theorem dX15_addSet_73 : decode cX15_addSet 73 = .ok (.getfield 359, 3) := by decide +kernel
theorem dX15_addSet_76 : decode cX15_addSet 76 = .ok (.iload_n 1, 1) := by decide +kernel
theorem dX15_addSet_77 : decode cX15_addSet 77 = .ok (.invokevirtual 741, 3) := by decide +kernel
theorem dX15_addSet_80 : decode cX15_addSet 80 = .ok (.iconst (-1), 1) := by decide +kernel
theorem dX15_addSet_81 : decode cX15_addSet 81 = .ok (.if_icmp .eq 5, 3) := by decide +kernel
theorem dX15_addSet_84 : decode cX15_addSet 84 = .ok (.iconst 1, 1) := by decide +kernel
theorem dX15_addSet_85 : decode cX15_addSet 85 = .ok (.ireturn, 1) := by decide +kernel
theorem dX15_addSet_86 : decode cX15_addSet 86 = .ok (.ldc2_w 744, 3) := by decide +kernel
theorem dX15_addSet_89 : decode cX15_addSet 89 = .ok (.lstore_n 2, 1) := by decide +kernel
theorem dX15_addSet_90 : decode cX15_addSet 90 = .ok (.iconst 0, 1) := by decide +kernel
theorem dX15_addSet_91 : decode cX15_addSet 91 = .ok (.istore 4, 2) := by decide +kernel
theorem dX15_addSet_93 : decode cX15_addSet 93 = .ok (.iload 4, 2) := by decide +kernel
theorem dX15_addSet_95 : decode cX15_addSet 95 = .ok (.iload_n 1, 1) := by decide +kernel
theorem dX15_addSet_96 : decode cX15_addSet 96 = .ok (.if_icmp .ge 17, 3) := by decide +kernel
theorem dX15_addSet_99 : decode cX15_addSet 99 = .ok (.lload_n 2, 1) := by decide +kernel
theorem dX15_addSet_100 : decode cX15_addSet 100 = .ok (.aload_n 0, 1) := by decide +kernel
theorem dX15_addSet_101 : decode cX15_addSet 101 = .ok (.getfield 384, 3) := by decide +kernel
theorem dX15_addSet_104 : decode cX15_addSet 104 = .ok (.i2l, 1) := by decide +kernel
theorem dX15_addSet_105 : decode cX15_addSet 105 = .ok (.lmul, 1) := by decide +kernel
theorem dX15_addSet_106 : decode cX15_addSet 106 = .ok (.lstore_n 2, 1) := by decide +kernel
theorem dX15_addSet_107 : decode cX15_addSet 107 = .ok (.iinc 4 1, 3) := by decide +kernel
theorem dX15_addSet_110 : decode cX15_addSet 110 = .ok (.goto (-17), 3) := by decide +kernel
theorem dX15_addSet_113 : decode cX15_addSet 113 = .ok (.aload_n 0, 1) := by decide +kernel
theorem dX15_addSet_114 : decode cX15_addSet 114 = .ok (.getfield 746, 3) := by decide +kernel
theorem dX15_addSet_117 : decode cX15_addSet 117 = .ok (.lload_n 2, 1) := by decide +kernel
theorem dX15_addSet_118 : decode cX15_addSet 118 = .ok (.ladd, 1) := by decide +kernel
theorem dX15_addSet_119 : decode cX15_addSet 119 = .ok (.ldc2_w 749, 3) := by decide +kernel
theorem dX15_addSet_122 : decode cX15_addSet 122 = .ok (.lcmp, 1) := by decide +kernel
theorem dX15_addSet_123 : decode cX15_addSet 123 = .ok (.ifCond .gt 13, 3) := by decide +kernel
theorem dX15_addSet_126 : decode cX15_addSet 126 = .ok (.aload_n 0, 1) := by decide +kernel
theorem dX15_addSet_127 : decode cX15_addSet 127 = .ok (.getfield 751, 3) := by decide +kernel
theorem dX15_addSet_130 : decode cX15_addSet 130 = .ok (.sipush 4096, 3) := by decide +kernel
theorem dX15_addSet_133 : decode cX15_addSet 133 = .ok (.if_icmp .ne 5, 3) := by decide +kernel
theorem dX15_addSet_136 : decode cX15_addSet 136 = .ok (.iconst 0, 1) := by decide +kernel
theorem dX15_addSet_137 : decode cX15_addSet 137 = .ok (.ireturn, 1) := by decide +kernel
theorem dX15_addSet_138 : decode cX15_addSet 138 = .ok (.aload_n 0, 1) := by decide +kernel
theorem dX15_addSet_139 : decode cX15_addSet 139 = .ok (.getfield 333, 3) := by decide +kernel
theorem dX15_addSet_142 : decode cX15_addSet 142 = .ok (.aload_n 0, 1) := by decide +kernel
theorem dX15_addSet_143 : decode cX15_addSet 143 = .ok (.getfield 751, 3) := by decide +kernel
theorem dX15_addSet_146 : decode cX15_addSet 146 = .ok (.iload_n 1, 1) := by decide +kernel
theorem dX15_addSet_147 : decode cX15_addSet 147 = .ok (.iastore, 1) := by decide +kernel
theorem dX15_addSet_148 : decode cX15_addSet 148 = .ok (.aload_n 0, 1) := by decide +kernel
theorem dX15_addSet_149 : decode cX15_addSet 149 = .ok (.getfield 339, 3) := by decide +kernel
theorem dX15_addSet_152 : decode cX15_addSet 152 = .ok (.aload_n 0, 1) := by decide +kernel
theorem dX15_addSet_153 : decode cX15_addSet 153 = .ok (.getfield 751, 3) := by decide +kernel
theorem dX15_addSet_156 : decode cX15_addSet 156 = .ok (.aload_n 0, 1) := by decide +kernel
theorem dX15_addSet_157 : decode cX15_addSet 157 = .ok (.getfield 746, 3) := by decide +kernel
theorem dX15_addSet_160 : decode cX15_addSet 160 = .ok (.l2i, 1) := by decide +kernel
theorem dX15_addSet_161 : decode cX15_addSet 161 = .ok (.iastore, 1) := by decide +kernel
theorem dX15_addSet_162 : decode cX15_addSet 162 = .ok (.iconst 0, 1) := by decide +kernel
theorem dX15_addSet_163 : decode cX15_addSet 163 = .ok (.istore 4, 2) := by decide +kernel
theorem dX15_addSet_165 : decode cX15_addSet 165 = .ok (.iload 4, 2) := by decide +kernel
theorem dX15_addSet_167 : decode cX15_addSet 167 = .ok (.iload_n 1, 1) := by decide +kernel
theorem dX15_addSet_168 : decode cX15_addSet 168 = .ok (.if_icmp .ge 30, 3) := by decide +kernel
theorem dX15_addSet_171 : decode cX15_addSet 171 = .ok (.aload_n 0, 1) := by decide +kernel
theorem dX15_addSet_172 : decode cX15_addSet 172 = .ok (.getfield 336, 3) := by decide +kernel
theorem dX15_addSet_175 : decode cX15_addSet 175 = .ok (.iconst 5, 1) := by decide +kernel
theorem dX15_addSet_176 : decode cX15_addSet 176 = .ok (.aload_n 0, 1) := by decide +kernel
theorem dX15_addSet_177 : decode cX15_addSet 177 = .ok (.getfield 751, 3) := by decide +kernel
theorem dX15_addSet_180 : decode cX15_addSet 180 = .ok (.imul, 1) := by decide +kernel
theorem dX15_addSet_181 : decode cX15_addSet 181 = .ok (.iload 4, 2) := by decide +kernel
theorem dX15_addSet_183 : decode cX15_addSet 183 = .ok (.iadd, 1) := by decide +kernel
theorem dX15_addSet_184 : decode cX15_addSet 184 = .ok (.aload_n 0, 1) := by decide +kernel
theorem dX15_addSet_185 : decode cX15_addSet 185 = .ok (.getfield 359, 3) := by decide +kernel
theorem dX15_addSet_188 : decode cX15_addSet 188 = .ok (.iload 4, 2) := by decide +kernel
theorem dX15_addSet_190 : decode cX15_addSet 190 = .ok (.iaload, 1) := by decide +kernel
theorem dX15_addSet_191 : decode cX15_addSet 191 = .ok (.iastore, 1) := by decide +kernel
theorem dX15_addSet_192 : decode cX15_addSet 192 = .ok (.iinc 4 1, 3) := by decide +kernel
theorem dX15_addSet_195 : decode cX15_addSet 195 = .ok (.goto (-30), 3) := by decide +kernel
theorem dX15_addSet_198 : decode cX15_addSet 198 = .ok (.aload_n 0, 1) := by decide +kernel
theorem dX15_addSet_199 : decode cX15_addSet 199 = .ok (.dup, 1) := by decide +kernel
theorem dX15_addSet_200 : decode cX15_addSet 200 = .ok (.getfield 746, 3) := by decide +kernel
theorem dX15_addSet_203 : decode cX15_addSet 203 = .ok (.lload_n 2, 1) := by decide +kernel
theorem dX15_addSet_204 : decode cX15_addSet 204 = .ok (.ladd, 1) := by decide +kernel
theorem dX15_addSet_205 : decode cX15_addSet 205 = .ok (.putfield 746, 3) := by decide +kernel
theorem dX15_addSet_208 : decode cX15_addSet 208 = .ok (.aload_n 0, 1) := by decide +kernel
theorem dX15_addSet_209 : decode cX15_addSet 209 = .ok (.dup, 1) := by decide +kernel
theorem dX15_addSet_210 : decode cX15_addSet 210 = .ok (.getfield 751, 3) := by decide +kernel
theorem dX15_addSet_213 : decode cX15_addSet 213 = .ok (.iconst 1, 1) := by decide +kernel
theorem dX15_addSet_214 : decode cX15_addSet 214 = .ok (.iadd, 1) := by decide +kernel
theorem dX15_addSet_215 : decode cX15_addSet 215 = .ok (.putfield 751, 3) := by decide +kernel
theorem dX15_addSet_218 : decode cX15_addSet 218 = .ok (.aload_n 0, 1) := by decide +kernel
theorem dX15_addSet_219 : decode cX15_addSet 219 = .ok (.aload_n 0, 1) := by decide +kernel
theorem dX15_addSet_220 : decode cX15_addSet 220 = .ok (.getfield 359, 3) := by decide +kernel
theorem dX15_addSet_223 : decode cX15_addSet 223 = .ok (.iload_n 1, 1) := by decide +kernel
theorem dX15_addSet_224 : decode cX15_addSet 224 = .ok (.invokestatic 734, 3) := by decide +kernel
theorem dX15_addSet_227 : decode cX15_addSet 227 = .ok (.invokevirtual 738, 3) := by decide +kernel
theorem dX15_addSet_230 : decode cX15_addSet 230 = .ok (.istore 4, 2) := by decide +kernel
theorem dX15_addSet_232 : decode cX15_addSet 232 = .ok (.aload_n 0, 1) := by decide +kernel
theorem dX15_addSet_233 : decode cX15_addSet 233 = .ok (.getfield 353, 3) := by decide +kernel
theorem dX15_addSet_236 : decode cX15_addSet 236 = .ok (.iload 4, 2) := by decide +kernel
theorem dX15_addSet_238 : decode cX15_addSet 238 = .ok (.aload_n 0, 1) := by decide +kernel
theorem dX15_addSet_239 : decode cX15_addSet 239 = .ok (.getfield 359, 3) := by decide +kernel
theorem dX15_addSet_242 : decode cX15_addSet 242 = .ok (.iload_n 1, 1) := by decide +kernel
theorem dX15_addSet_243 : decode cX15_addSet 243 = .ok (.invokestatic 734, 3) := by decide +kernel
theorem dX15_addSet_246 : decode cX15_addSet 246 = .ok (.iastore, 1) := by decide +kernel
theorem dX15_addSet_247 : decode cX15_addSet 247 = .ok (.aload_n 0, 1) := by decide +kernel
theorem dX15_addSet_248 : decode cX15_addSet 248 = .ok (.getfield 356, 3) := by decide +kernel
theorem dX15_addSet_251 : decode cX15_addSet 251 = .ok (.iload 4, 2) := by decide +kernel
theorem dX15_addSet_253 : decode cX15_addSet 253 = .ok (.aload_n 0, 1) := by decide +kernel
theorem dX15_addSet_254 : decode cX15_addSet 254 = .ok (.getfield 751, 3) := by decide +kernel
theorem dX15_addSet_257 : decode cX15_addSet 257 = .ok (.iastore, 1) := by decide +kernel
theorem dX15_addSet_258 : decode cX15_addSet 258 = .ok (.iconst 1, 1) := by decide +kernel
theorem dX15_addSet_259 : decode cX15_addSet 259 = .ok (.ireturn, 1) := by decide +kernel
set_option maxRecDepth 20000 in
theorem moX15_addSet_136 {o : Int32 × Hp} {F : Nat} {h : Hp} (hE : sX15_addSet_136 F h  = some o) : Le h o.2 := by
  exact le_some2 hE
set_option maxRecDepth 20000 in
theorem moX15_addSet_165 {o : Int32 × Hp} {F : Nat} : ∀ (f : Nat) {h : Hp} {x0 : Nat} {x1 : Int32} {x2 : Int64} {x4 : Int32}, sX15_addSet_165 F f h x0 x1 x2 x4 = some o → Le h o.2 := by
  intro f
  induction f with
  | zero =>
    intro h x0 x1 x2 x4 hE
    rw [sX15_addSet_165] at hE
    cases hE
  | succ f ih =>
    intro h x0 x1 x2 x4 hE
    rw [sX15_addSet_165] at hE
    have mk_165 : ∀ (h : Hp) (x0 : Nat) (x1 : Int32) (x2 : Int64) (x4 : Int32), sX15_addSet_165 F f h x0 x1 x2 x4 = some o → Le h o.2 := fun h x0 x1 x2 x4 hE => ih hE
    rcases br_e hE with ⟨_, hE⟩ | ⟨_, hE⟩
    · obtain ⟨h_2, eh_2, hE⟩ := nm_e2 hE
      refine (le_J eh_2).tr ?_
      obtain ⟨h_3, eh_3, hE⟩ := nm_e2 hE
      refine (le_I eh_3).tr ?_
      obtain ⟨r_4, er_4, hE⟩ := cl_e hE
      obtain ⟨o_5, eo_5, hE⟩ := cl_e hE
      refine (moX15_packed eo_5).tr ?_
      obtain ⟨o_6, eo_6, hE⟩ := cl_e hE
      refine (moX15_slotOf eo_6).tr ?_
      obtain ⟨r_7, er_7, hE⟩ := cl_e hE
      obtain ⟨r_8, er_8, hE⟩ := cl_e hE
      obtain ⟨o_9, eo_9, hE⟩ := cl_e hE
      refine (moX15_packed eo_9).tr ?_
      obtain ⟨g_10, hE⟩ := gd_e hE
      obtain ⟨h_11, eh_11, hE⟩ := nm_e2 hE
      refine (le_I eh_11).tr ?_
      obtain ⟨r_12, er_12, hE⟩ := cl_e hE
      obtain ⟨g_13, hE⟩ := gd_e hE
      obtain ⟨h_14, eh_14, hE⟩ := nm_e2 hE
      refine (le_I eh_14).tr ?_
      exact le_some2 hE
    · obtain ⟨r_15, er_15, hE⟩ := cl_e hE
      obtain ⟨r_16, er_16, hE⟩ := cl_e hE
      obtain ⟨g_17, hE⟩ := gd_e hE
      obtain ⟨g_18, hE⟩ := gd_e hE
      obtain ⟨h_19, eh_19, hE⟩ := nm_e2 hE
      refine (le_I eh_19).tr ?_
      obtain ⟨v_20, ev_20, hE⟩ := nm_e2 hE
      exact mk_165 _ _ _ _ _ hE
set_option maxRecDepth 20000 in
theorem moX15_addSet_93 {o : Int32 × Hp} {F : Nat} : ∀ (f : Nat) {h : Hp} {x0 : Nat} {x1 : Int32} {x2 : Int64} {x4 : Int32}, sX15_addSet_93 F f h x0 x1 x2 x4 = some o → Le h o.2 := by
  intro f
  induction f with
  | zero =>
    intro h x0 x1 x2 x4 hE
    rw [sX15_addSet_93] at hE
    cases hE
  | succ f ih =>
    intro h x0 x1 x2 x4 hE
    rw [sX15_addSet_93] at hE
    have mk_93 : ∀ (h : Hp) (x0 : Nat) (x1 : Int32) (x2 : Int64) (x4 : Int32), sX15_addSet_93 F f h x0 x1 x2 x4 = some o → Le h o.2 := fun h x0 x1 x2 x4 hE => ih hE
    rcases br_e hE with ⟨_, hE⟩ | ⟨_, hE⟩
    · rcases br_e hE with ⟨_, hE⟩ | ⟨_, hE⟩
      · exact moX15_addSet_136 hE
      · rcases br_e hE with ⟨_, hE⟩ | ⟨_, hE⟩
        · exact moX15_addSet_136 hE
        · obtain ⟨r_4, er_4, hE⟩ := cl_e hE
          obtain ⟨g_5, hE⟩ := gd_e hE
          obtain ⟨h_6, eh_6, hE⟩ := nm_e2 hE
          refine (le_I eh_6).tr ?_
          obtain ⟨r_7, er_7, hE⟩ := cl_e hE
          obtain ⟨g_8, hE⟩ := gd_e hE
          obtain ⟨h_9, eh_9, hE⟩ := nm_e2 hE
          refine (le_I eh_9).tr ?_
          exact moX15_addSet_165 _ hE
    · obtain ⟨v_10, ev_10, hE⟩ := nm_e2 hE
      obtain ⟨v_11, ev_11, hE⟩ := nm_e2 hE
      exact mk_93 _ _ _ _ _ hE
set_option maxRecDepth 20000 in
theorem moX15_addSet_57 {o : Int32 × Hp} {k_2 : Hp → Nat → Int32 → Int32 → Option (Int32 × Hp)} {F : Nat} (mk_2 : ∀ (h : Hp) (x0 : Nat) (x1 : Int32) (x2 : Int32), k_2 h x0 x1 x2 = some o → Le h o.2) {h : Hp} {x0 : Nat} {x1 : Int32} {x2 : Int32} {x3 : Int32} {x4 : Int32} (hE : sX15_addSet_57 F k_2 h x0 x1 x2 x3 x4 = some o) : Le h o.2 := by
  obtain ⟨r_1, er_1, hE⟩ := cl_e hE
  obtain ⟨g_2, hE⟩ := gd_e hE
  obtain ⟨h_3, eh_3, hE⟩ := nm_e2 hE
  refine (le_I eh_3).tr ?_
  obtain ⟨v_4, ev_4, hE⟩ := nm_e2 hE
  exact mk_2 _ _ _ _ hE
set_option maxRecDepth 20000 in
theorem moX15_addSet_17 {o : Int32 × Hp} {k_2 : Hp → Nat → Int32 → Int32 → Option (Int32 × Hp)} {F : Nat} (mk_2 : ∀ (h : Hp) (x0 : Nat) (x1 : Int32) (x2 : Int32), k_2 h x0 x1 x2 = some o → Le h o.2) : ∀ (f : Nat) {h : Hp} {x0 : Nat} {x1 : Int32} {x2 : Int32} {x3 : Int32} {x4 : Int32}, sX15_addSet_17 F k_2 f h x0 x1 x2 x3 x4 = some o → Le h o.2 := by
  intro f
  induction f with
  | zero =>
    intro h x0 x1 x2 x3 x4 hE
    rw [sX15_addSet_17] at hE
    cases hE
  | succ f ih =>
    intro h x0 x1 x2 x3 x4 hE
    rw [sX15_addSet_17] at hE
    have mk_17 : ∀ (h : Hp) (x0 : Nat) (x1 : Int32) (x2 : Int32) (x3 : Int32) (x4 : Int32), sX15_addSet_17 F k_2 f h x0 x1 x2 x3 x4 = some o → Le h o.2 := fun h x0 x1 x2 x3 x4 hE => ih hE
    rcases br_e hE with ⟨_, hE⟩ | ⟨_, hE⟩
    · exact moX15_addSet_57 mk_2 hE
    · obtain ⟨r_2, er_2, hE⟩ := cl_e hE
      obtain ⟨g_3, hE⟩ := gd_e hE
      rcases br_e hE with ⟨_, hE⟩ | ⟨_, hE⟩
      · exact moX15_addSet_57 mk_2 hE
      · obtain ⟨r_5, er_5, hE⟩ := cl_e hE
        obtain ⟨r_6, er_6, hE⟩ := cl_e hE
        obtain ⟨g_7, hE⟩ := gd_e hE
        obtain ⟨g_8, hE⟩ := gd_e hE
        obtain ⟨h_9, eh_9, hE⟩ := nm_e2 hE
        refine (le_I eh_9).tr ?_
        obtain ⟨v_10, ev_10, hE⟩ := nm_e2 hE
        exact mk_17 _ _ _ _ _ _ hE
set_option maxRecDepth 20000 in
theorem moX15_addSet_2 {o : Int32 × Hp} {F : Nat} : ∀ (f : Nat) {h : Hp} {x0 : Nat} {x1 : Int32} {x2 : Int32}, sX15_addSet_2 F f h x0 x1 x2 = some o → Le h o.2 := by
  intro f
  induction f with
  | zero =>
    intro h x0 x1 x2 hE
    rw [sX15_addSet_2] at hE
    cases hE
  | succ f ih =>
    intro h x0 x1 x2 hE
    rw [sX15_addSet_2] at hE
    have mk_2 : ∀ (h : Hp) (x0 : Nat) (x1 : Int32) (x2 : Int32), sX15_addSet_2 F f h x0 x1 x2 = some o → Le h o.2 := fun h x0 x1 x2 hE => ih hE
    rcases br_e hE with ⟨_, hE⟩ | ⟨_, hE⟩
    · obtain ⟨r_2, er_2, hE⟩ := cl_e hE
      obtain ⟨o_3, eo_3, hE⟩ := cl_e hE
      refine (moX15_findSet eo_3).tr ?_
      rcases br_e hE with ⟨_, hE⟩ | ⟨_, hE⟩
      · exact moX15_addSet_93 _ hE
      · exact le_some2 hE
    · obtain ⟨r_5, er_5, hE⟩ := cl_e hE
      obtain ⟨g_6, hE⟩ := gd_e hE
      obtain ⟨v_7, ev_7, hE⟩ := nm_e2 hE
      exact moX15_addSet_17 mk_2 _ hE
set_option maxRecDepth 20000 in
theorem moX15_addSet {o : Int32 × Hp} {F : Nat} {h : Hp} {x0 : Nat} {x1 : Int32} (hE : sX15_addSet F h x0 x1 = some o) : Le h o.2 := by
  exact moX15_addSet_2 _ hE
set_option maxRecDepth 20000 in
theorem bX15_addSet_136 {p : Program} {l : Launch} {e : Env} {s : State} {m : MethodId} {args : Array Value} {below : List Frame} {meth : Method} {c : Code} {X : Ec} {h0 : Hp} {o : Int32 × Hp} {F : Nat} (C : Cx X p s m args meth c RX15 cX15_addSet 5 (some .boolean) "addSet") {h : Hp} {H : Heap} {locs : List Loc} (hkm : Km h0 h) (hW : Wx X h H) (hZ : va_S (aA (eB X)) s.heap H locs) (ls : Array Slot) (hl : lv_has ls 5 []) (hE : sX15_addSet_136 F h  = some o) : W p l e (rm 2 45) s m args below meth c H locs 0 0 (MQ below (QI X h0 o.1 o.2) args s 0 0 (aA (eB X))) (F0 m 136 ls []) := by
  refine lv_iconst (v := (0 : Int32)) C.1 C.2.1 dX15_addSet_136 (by decide) ?_
  exact x_iret C rfl (by decide) hW hZ hkm hE dX15_addSet_137
set_option maxRecDepth 20000 in
theorem bX15_addSet_165 {p : Program} {l : Launch} {e : Env} {s : State} {m : MethodId} {args : Array Value} {below : List Frame} {meth : Method} {c : Code} {X : Ec} {h0 : Hp} {o : Int32 × Hp} {F : Nat} (C : Cx X p s m args meth c RX15 cX15_addSet 5 (some .boolean) "addSet") : ∀ (f : Nat) {h : Hp} {x0 : Nat} {x1 : Int32} {x2 : Int64} {x4 : Int32} {H : Heap} {locs : List Loc} (k_x0 : hK h x0 = 15), Km h0 h → Wx X h H → va_S (aA (eB X)) s.heap H locs → ∀ (ls : Array Slot), lv_has ls 5 [(0, .ref x0), (1, .int x1), (2, .long x2), (4, .int x4)] → sX15_addSet_165 F f h x0 x1 x2 x4 = some o → W p l e (rm 2 45) s m args below meth c H locs 0 0 (MQ below (QI X h0 o.1 o.2) args s 0 0 (aA (eB X))) (F0 m 165 ls []) := by
  intro f
  induction f with
  | zero =>
    intro h x0 x1 x2 x4 H locs k_x0 hkm hW hZ ls hl hE
    rw [sX15_addSet_165] at hE
    cases hE
  | succ f ih =>
    intro h x0 x1 x2 x4 H locs k_x0 hkm hW hZ ls hl hE
    rw [sX15_addSet_165] at hE
    have hk_165 : ∀ (h : Hp) (x0 : Nat) (x1 : Int32) (x2 : Int64) (x4 : Int32) (H : Heap) (locs : List Loc), hK h x0 = 15 → Km h0 h → Wx X h H → va_S (aA (eB X)) s.heap H locs → ∀ (ls : Array Slot), lv_has ls 5 [(0, .ref x0), (1, .int x1), (2, .long x2), (4, .int x4)] → sX15_addSet_165 F f h x0 x1 x2 x4 = some o → W p l e (rm 2 45) s m args below meth c H locs 0 0 (MQ below (QI X h0 o.1 o.2) args s 0 0 (aA (eB X))) (F0 m 165 ls []) := fun h x0 x1 x2 x4 H locs k_x0 a b c ls hl hE => ih k_x0 a b c ls hl hE
    refine lv_iload C.1 C.2.1 dX15_addSet_165 (lv_at hl 3 rfl) ?_
    refine lv_iload_n C.1 C.2.1 dX15_addSet_167 rfl (lv_at hl 1 rfl) ?_
    refine lv_icmp_ge (tgt := 198) C.1 C.2.1 dX15_addSet_168 (by decide) (fun c_1 => ?_) (fun c_1 => ?_)
    · have hE := br_p hE c_1
      refine lv_aload_n C.1 C.2.1 dX15_addSet_198 rfl (lv_at hl 0 rfl) ?_
      refine lv_dup C.1 C.2.1 dX15_addSet_199 rfl ?_
      refine gf_X15_746 C hW k_x0 dX15_addSet_200 ?_
      refine lv_lload_n C.1 C.2.1 dX15_addSet_203 rfl (lv_at hl 2 rfl) ?_
      refine lv_ladd C.1 C.2.1 dX15_addSet_204 ?_
      obtain ⟨h_2, eh_2, hE⟩ := nm_e2 hE
      refine pf_X15_746 C hW hZ k_x0 eh_2 dX15_addSet_205 (fun _ _ hW km hZ => ?_)
      replace hkm := hkm.tr km
      replace k_x0 := km.at k_x0 (by decide)
      refine lv_aload_n C.1 C.2.1 dX15_addSet_208 rfl (lv_at hl 0 rfl) ?_
      refine lv_dup C.1 C.2.1 dX15_addSet_209 rfl ?_
      refine gf_X15_751 C hW k_x0 dX15_addSet_210 ?_
      refine lv_iconst (v := (1 : Int32)) C.1 C.2.1 dX15_addSet_213 (by decide) ?_
      refine lv_iadd C.1 C.2.1 dX15_addSet_214 ?_
      obtain ⟨h_3, eh_3, hE⟩ := nm_e2 hE
      refine pf_X15_751 C hW hZ k_x0 eh_3 dX15_addSet_215 (fun _ _ hW km hZ => ?_)
      replace hkm := hkm.tr km
      replace k_x0 := km.at k_x0 (by decide)
      refine lv_aload_n C.1 C.2.1 dX15_addSet_218 rfl (lv_at hl 0 rfl) ?_
      refine lv_aload_n C.1 C.2.1 dX15_addSet_219 rfl (lv_at hl 0 rfl) ?_
      obtain ⟨r_4, er_4, hE⟩ := cl_e hE
      refine gf_X15_359 C hW k_x0 er_4 dX15_addSet_220 (fun k_r_4 => ?_)
      refine lv_iload_n C.1 C.2.1 dX15_addSet_223 rfl (lv_at hl 1 rfl) ?_
      obtain ⟨o_5, eo_5, hE⟩ := cl_e hE
      refine x_kI (o := o_5) (z_runS (As := [.ref r_4, .int x1]) (rest := [.ref x0]) C (ct_X15_packed l X F k_r_4 eo_5) cw_X15_734 hW hZ rfl hl.1 (Nat.le_of_ble_eq_true rfl) rfl dX15_addSet_224 ⟨Nat.le_of_ble_eq_true rfl, Nat.le_of_ble_eq_true rfl⟩ ⟨Nat.le_refl _, Nat.le_refl _⟩) hZ (fun _ _ hW km hZ => ?_)
      replace hkm := hkm.tr km
      replace k_x0 := km.at k_x0 (by decide)
      obtain ⟨o_6, eo_6, hE⟩ := cl_e hE
      refine x_kI (o := o_6) (z_runV (As := [.int o_5.1]) (rest := []) C (ct_X15_slotOf l X F k_x0 eo_6) cw_X15_738 hW hZ k_x0 (by decide) rfl rfl rfl hl.1 (Nat.le_of_ble_eq_true rfl) rfl dX15_addSet_227 ⟨Nat.le_of_ble_eq_true rfl, Nat.le_of_ble_eq_true rfl⟩ ⟨Nat.le_refl _, Nat.le_refl _⟩) hZ (fun _ _ hW km hZ => ?_)
      replace hkm := hkm.tr km
      replace k_x0 := km.at k_x0 (by decide)
      refine lv_istore (lv' := [(4, .int o_6.1), (0, .ref x0), (1, .int x1), (2, .long x2)]) C.1 C.2.1 dX15_addSet_230 hl (by decide) rfl (fun ls hl => ?_)
      refine lv_aload_n C.1 C.2.1 dX15_addSet_232 rfl (lv_at hl 1 rfl) ?_
      obtain ⟨r_7, er_7, hE⟩ := cl_e hE
      refine gf_X15_353 C hW k_x0 er_7 dX15_addSet_233 (fun k_r_7 => ?_)
      refine lv_iload C.1 C.2.1 dX15_addSet_236 (lv_at hl 0 rfl) ?_
      refine lv_aload_n C.1 C.2.1 dX15_addSet_238 rfl (lv_at hl 1 rfl) ?_
      obtain ⟨r_8, er_8, hE⟩ := cl_e hE
      refine gf_X15_359 C hW k_x0 er_8 dX15_addSet_239 (fun k_r_8 => ?_)
      refine lv_iload_n C.1 C.2.1 dX15_addSet_242 rfl (lv_at hl 2 rfl) ?_
      obtain ⟨o_9, eo_9, hE⟩ := cl_e hE
      refine x_kI (o := o_9) (z_runS (As := [.ref r_8, .int x1]) (rest := [.int o_6.1, .ref r_7]) C (ct_X15_packed l X F k_r_8 eo_9) cw_X15_734 hW hZ rfl hl.1 (Nat.le_of_ble_eq_true rfl) rfl dX15_addSet_243 ⟨Nat.le_of_ble_eq_true rfl, Nat.le_of_ble_eq_true rfl⟩ ⟨Nat.le_refl _, Nat.le_refl _⟩) hZ (fun _ _ hW km hZ => ?_)
      replace hkm := hkm.tr km
      replace k_x0 := km.at k_x0 (by decide)
      replace k_r_7 := km.at k_r_7 (by decide)
      obtain ⟨g_10, hE⟩ := gd_e hE
      obtain ⟨h_11, eh_11, hE⟩ := nm_e2 hE
      refine y_iast C hW hZ k_r_7 g_10 eh_11 dX15_addSet_246 (fun _ _ hW km hZ => ?_)
      replace hkm := hkm.tr km
      replace k_x0 := km.at k_x0 (by decide)
      refine lv_aload_n C.1 C.2.1 dX15_addSet_247 rfl (lv_at hl 1 rfl) ?_
      obtain ⟨r_12, er_12, hE⟩ := cl_e hE
      refine gf_X15_356 C hW k_x0 er_12 dX15_addSet_248 (fun k_r_12 => ?_)
      refine lv_iload C.1 C.2.1 dX15_addSet_251 (lv_at hl 0 rfl) ?_
      refine lv_aload_n C.1 C.2.1 dX15_addSet_253 rfl (lv_at hl 1 rfl) ?_
      refine gf_X15_751 C hW k_x0 dX15_addSet_254 ?_
      obtain ⟨g_13, hE⟩ := gd_e hE
      obtain ⟨h_14, eh_14, hE⟩ := nm_e2 hE
      refine y_iast C hW hZ k_r_12 g_13 eh_14 dX15_addSet_257 (fun _ _ hW km hZ => ?_)
      replace hkm := hkm.tr km
      replace k_x0 := km.at k_x0 (by decide)
      refine lv_iconst (v := (1 : Int32)) C.1 C.2.1 dX15_addSet_258 (by decide) ?_
      exact x_iret C rfl (by decide) hW hZ hkm hE dX15_addSet_259
    · have hE := br_n hE c_1
      refine lv_aload_n C.1 C.2.1 dX15_addSet_171 rfl (lv_at hl 0 rfl) ?_
      obtain ⟨r_15, er_15, hE⟩ := cl_e hE
      refine gf_X15_336 C hW k_x0 er_15 dX15_addSet_172 (fun k_r_15 => ?_)
      refine lv_iconst (v := (5 : Int32)) C.1 C.2.1 dX15_addSet_175 (by decide) ?_
      refine lv_aload_n C.1 C.2.1 dX15_addSet_176 rfl (lv_at hl 0 rfl) ?_
      refine gf_X15_751 C hW k_x0 dX15_addSet_177 ?_
      refine lv_imul C.1 C.2.1 dX15_addSet_180 ?_
      refine lv_iload C.1 C.2.1 dX15_addSet_181 (lv_at hl 3 rfl) ?_
      refine lv_iadd C.1 C.2.1 dX15_addSet_183 ?_
      refine lv_aload_n C.1 C.2.1 dX15_addSet_184 rfl (lv_at hl 0 rfl) ?_
      obtain ⟨r_16, er_16, hE⟩ := cl_e hE
      refine gf_X15_359 C hW k_x0 er_16 dX15_addSet_185 (fun k_r_16 => ?_)
      refine lv_iload C.1 C.2.1 dX15_addSet_188 (lv_at hl 3 rfl) ?_
      obtain ⟨g_17, hE⟩ := gd_e hE
      refine y_iald C hW k_r_16 g_17 dX15_addSet_190 ?_
      obtain ⟨g_18, hE⟩ := gd_e hE
      obtain ⟨h_19, eh_19, hE⟩ := nm_e2 hE
      refine y_iast C hW hZ k_r_15 g_18 eh_19 dX15_addSet_191 (fun _ _ hW km hZ => ?_)
      replace hkm := hkm.tr km
      replace k_x0 := km.at k_x0 (by decide)
      obtain ⟨v_20, ev_20, hE⟩ := nm_e2 hE
      refine lv_iinc (v := v_20) (lv' := [(4, .int v_20), (0, .ref x0), (1, .int x1), (2, .long x2)]) C.1 C.2.1 dX15_addSet_192 hl (k := 3) rfl (by rw [ev_20]; rfl) (by decide) rfl (fun ls hl => ?_)
      refine lv_goto (tgt := 165) C.1 C.2.1 dX15_addSet_195 (by decide) ?_
      exact hk_165 _ _ _ _ _ _ _ k_x0 hkm hW hZ _ (lv_sub hl [1, 2, 3, 0] rfl) hE
set_option maxRecDepth 20000 in
theorem bX15_addSet_93 {p : Program} {l : Launch} {e : Env} {s : State} {m : MethodId} {args : Array Value} {below : List Frame} {meth : Method} {c : Code} {X : Ec} {h0 : Hp} {o : Int32 × Hp} {F : Nat} (C : Cx X p s m args meth c RX15 cX15_addSet 5 (some .boolean) "addSet") : ∀ (f : Nat) {h : Hp} {x0 : Nat} {x1 : Int32} {x2 : Int64} {x4 : Int32} {H : Heap} {locs : List Loc} (k_x0 : hK h x0 = 15), Km h0 h → Wx X h H → va_S (aA (eB X)) s.heap H locs → ∀ (ls : Array Slot), lv_has ls 5 [(0, .ref x0), (1, .int x1), (2, .long x2), (4, .int x4)] → sX15_addSet_93 F f h x0 x1 x2 x4 = some o → W p l e (rm 2 45) s m args below meth c H locs 0 0 (MQ below (QI X h0 o.1 o.2) args s 0 0 (aA (eB X))) (F0 m 93 ls []) := by
  intro f
  induction f with
  | zero =>
    intro h x0 x1 x2 x4 H locs k_x0 hkm hW hZ ls hl hE
    rw [sX15_addSet_93] at hE
    cases hE
  | succ f ih =>
    intro h x0 x1 x2 x4 H locs k_x0 hkm hW hZ ls hl hE
    rw [sX15_addSet_93] at hE
    have hk_93 : ∀ (h : Hp) (x0 : Nat) (x1 : Int32) (x2 : Int64) (x4 : Int32) (H : Heap) (locs : List Loc), hK h x0 = 15 → Km h0 h → Wx X h H → va_S (aA (eB X)) s.heap H locs → ∀ (ls : Array Slot), lv_has ls 5 [(0, .ref x0), (1, .int x1), (2, .long x2), (4, .int x4)] → sX15_addSet_93 F f h x0 x1 x2 x4 = some o → W p l e (rm 2 45) s m args below meth c H locs 0 0 (MQ below (QI X h0 o.1 o.2) args s 0 0 (aA (eB X))) (F0 m 93 ls []) := fun h x0 x1 x2 x4 H locs k_x0 a b c ls hl hE => ih k_x0 a b c ls hl hE
    refine lv_iload C.1 C.2.1 dX15_addSet_93 (lv_at hl 3 rfl) ?_
    refine lv_iload_n C.1 C.2.1 dX15_addSet_95 rfl (lv_at hl 1 rfl) ?_
    refine lv_icmp_ge (tgt := 113) C.1 C.2.1 dX15_addSet_96 (by decide) (fun c_1 => ?_) (fun c_1 => ?_)
    · have hE := br_p hE c_1
      refine lv_aload_n C.1 C.2.1 dX15_addSet_113 rfl (lv_at hl 0 rfl) ?_
      refine gf_X15_746 C hW k_x0 dX15_addSet_114 ?_
      refine lv_lload_n C.1 C.2.1 dX15_addSet_117 rfl (lv_at hl 2 rfl) ?_
      refine lv_ladd C.1 C.2.1 dX15_addSet_118 ?_
      refine lv_ldc2 (v := (600000 : Int64)) C.1 C.2.1 C.2.2.2.1 (C.2.2.2.2.1 _ m_2764) dX15_addSet_119 ?_
      refine W.lcmp C.1 C.2.1 dX15_addSet_122 ?_
      refine lv_if_gt (tgt := 136) C.1 C.2.1 dX15_addSet_123 (by decide) (fun c_2 => ?_) (fun c_2 => ?_)
      · have hE := br_p hE c_2
        exact bX15_addSet_136 C hkm hW hZ _ (lv_sub hl [] rfl) hE
      · have hE := br_n hE c_2
        refine lv_aload_n C.1 C.2.1 dX15_addSet_126 rfl (lv_at hl 0 rfl) ?_
        refine gf_X15_751 C hW k_x0 dX15_addSet_127 ?_
        refine lv_sipush (v := (4096 : Int32)) C.1 C.2.1 dX15_addSet_130 (by decide) ?_
        refine lv_icmp_ne (tgt := 138) C.1 C.2.1 dX15_addSet_133 (by decide) (fun c_3 => ?_) (fun c_3 => ?_)
        · have hE := br_n hE c_3
          refine lv_aload_n C.1 C.2.1 dX15_addSet_138 rfl (lv_at hl 0 rfl) ?_
          obtain ⟨r_4, er_4, hE⟩ := cl_e hE
          refine gf_X15_333 C hW k_x0 er_4 dX15_addSet_139 (fun k_r_4 => ?_)
          refine lv_aload_n C.1 C.2.1 dX15_addSet_142 rfl (lv_at hl 0 rfl) ?_
          refine gf_X15_751 C hW k_x0 dX15_addSet_143 ?_
          refine lv_iload_n C.1 C.2.1 dX15_addSet_146 rfl (lv_at hl 1 rfl) ?_
          obtain ⟨g_5, hE⟩ := gd_e hE
          obtain ⟨h_6, eh_6, hE⟩ := nm_e2 hE
          refine y_iast C hW hZ k_r_4 g_5 eh_6 dX15_addSet_147 (fun _ _ hW km hZ => ?_)
          replace hkm := hkm.tr km
          replace k_x0 := km.at k_x0 (by decide)
          refine lv_aload_n C.1 C.2.1 dX15_addSet_148 rfl (lv_at hl 0 rfl) ?_
          obtain ⟨r_7, er_7, hE⟩ := cl_e hE
          refine gf_X15_339 C hW k_x0 er_7 dX15_addSet_149 (fun k_r_7 => ?_)
          refine lv_aload_n C.1 C.2.1 dX15_addSet_152 rfl (lv_at hl 0 rfl) ?_
          refine gf_X15_751 C hW k_x0 dX15_addSet_153 ?_
          refine lv_aload_n C.1 C.2.1 dX15_addSet_156 rfl (lv_at hl 0 rfl) ?_
          refine gf_X15_746 C hW k_x0 dX15_addSet_157 ?_
          refine lv_l2i C.1 C.2.1 dX15_addSet_160 rfl ?_
          obtain ⟨g_8, hE⟩ := gd_e hE
          obtain ⟨h_9, eh_9, hE⟩ := nm_e2 hE
          refine y_iast C hW hZ k_r_7 g_8 eh_9 dX15_addSet_161 (fun _ _ hW km hZ => ?_)
          replace hkm := hkm.tr km
          replace k_x0 := km.at k_x0 (by decide)
          refine lv_iconst (v := (0 : Int32)) C.1 C.2.1 dX15_addSet_162 (by decide) ?_
          refine lv_istore (lv' := [(4, .int (0 : Int32)), (0, .ref x0), (1, .int x1), (2, .long x2)]) C.1 C.2.1 dX15_addSet_163 hl (by decide) rfl (fun ls hl => ?_)
          exact bX15_addSet_165 C F k_x0 hkm hW hZ _ (lv_sub hl [1, 2, 3, 0] rfl) hE
        · have hE := br_p hE c_3
          exact bX15_addSet_136 C hkm hW hZ _ (lv_sub hl [] rfl) hE
    · have hE := br_n hE c_1
      refine lv_lload_n C.1 C.2.1 dX15_addSet_99 rfl (lv_at hl 2 rfl) ?_
      refine lv_aload_n C.1 C.2.1 dX15_addSet_100 rfl (lv_at hl 0 rfl) ?_
      refine gf_X15_384 C hW k_x0 dX15_addSet_101 ?_
      refine lv_i2l C.1 C.2.1 dX15_addSet_104 rfl ?_
      refine lv_lmul C.1 C.2.1 dX15_addSet_105 ?_
      obtain ⟨v_10, ev_10, hE⟩ := nm_e2 hE
      refine x_nmJ ev_10 ?_
      refine lv_lstore_n (lv' := [(2, .long v_10), (0, .ref x0), (1, .int x1), (4, .int x4)]) C.1 C.2.1 dX15_addSet_106 rfl hl (by decide) rfl (fun ls hl => ?_)
      obtain ⟨v_11, ev_11, hE⟩ := nm_e2 hE
      refine lv_iinc (v := v_11) (lv' := [(4, .int v_11), (2, .long v_10), (0, .ref x0), (1, .int x1)]) C.1 C.2.1 dX15_addSet_107 hl (k := 3) rfl (by rw [ev_11]; rfl) (by decide) rfl (fun ls hl => ?_)
      refine lv_goto (tgt := 93) C.1 C.2.1 dX15_addSet_110 (by decide) ?_
      exact hk_93 _ _ _ _ _ _ _ k_x0 hkm hW hZ _ (lv_sub hl [2, 3, 1, 0] rfl) hE
set_option maxRecDepth 20000 in
theorem bX15_addSet_57 {p : Program} {l : Launch} {e : Env} {s : State} {m : MethodId} {args : Array Value} {below : List Frame} {meth : Method} {c : Code} {X : Ec} {h0 : Hp} {o : Int32 × Hp} {k_2 : Hp → Nat → Int32 → Int32 → Option (Int32 × Hp)} {F : Nat} (C : Cx X p s m args meth c RX15 cX15_addSet 5 (some .boolean) "addSet") (hk_2 : ∀ (h : Hp) (x0 : Nat) (x1 : Int32) (x2 : Int32) (H : Heap) (locs : List Loc), hK h x0 = 15 → Km h0 h → Wx X h H → va_S (aA (eB X)) s.heap H locs → ∀ (ls : Array Slot), lv_has ls 5 [(0, .ref x0), (1, .int x1), (2, .int x2)] → k_2 h x0 x1 x2 = some o → W p l e (rm 2 45) s m args below meth c H locs 0 0 (MQ below (QI X h0 o.1 o.2) args s 0 0 (aA (eB X))) (F0 m 2 ls [])) {h : Hp} {x0 : Nat} {x1 : Int32} {x2 : Int32} {x3 : Int32} {x4 : Int32} {H : Heap} {locs : List Loc} (k_x0 : hK h x0 = 15) (hkm : Km h0 h) (hW : Wx X h H) (hZ : va_S (aA (eB X)) s.heap H locs) (ls : Array Slot) (hl : lv_has ls 5 [(0, .ref x0), (1, .int x1), (2, .int x2), (3, .int x3), (4, .int x4)]) (hE : sX15_addSet_57 F k_2 h x0 x1 x2 x3 x4 = some o) : W p l e (rm 2 45) s m args below meth c H locs 0 0 (MQ below (QI X h0 o.1 o.2) args s 0 0 (aA (eB X))) (F0 m 57 ls []) := by
  refine lv_aload_n C.1 C.2.1 dX15_addSet_57 rfl (lv_at hl 0 rfl) ?_
  obtain ⟨r_1, er_1, hE⟩ := cl_e hE
  refine gf_X15_359 C hW k_x0 er_1 dX15_addSet_58 (fun k_r_1 => ?_)
  refine lv_iload C.1 C.2.1 dX15_addSet_61 (lv_at hl 4 rfl) ?_
  refine lv_iload_n C.1 C.2.1 dX15_addSet_63 rfl (lv_at hl 3 rfl) ?_
  obtain ⟨g_2, hE⟩ := gd_e hE
  obtain ⟨h_3, eh_3, hE⟩ := nm_e2 hE
  refine y_iast C hW hZ k_r_1 g_2 eh_3 dX15_addSet_64 (fun _ _ hW km hZ => ?_)
  replace hkm := hkm.tr km
  replace k_x0 := km.at k_x0 (by decide)
  obtain ⟨v_4, ev_4, hE⟩ := nm_e2 hE
  refine lv_iinc (v := v_4) (lv' := [(2, .int v_4), (0, .ref x0), (1, .int x1), (3, .int x3), (4, .int x4)]) C.1 C.2.1 dX15_addSet_65 hl (k := 2) rfl (by rw [ev_4]; rfl) (by decide) rfl (fun ls hl => ?_)
  refine lv_goto (tgt := 2) C.1 C.2.1 dX15_addSet_68 (by decide) ?_
  exact hk_2 _ _ _ _ _ _ k_x0 hkm hW hZ _ (lv_sub hl [1, 2, 0] rfl) hE
set_option maxRecDepth 20000 in
theorem bX15_addSet_17 {p : Program} {l : Launch} {e : Env} {s : State} {m : MethodId} {args : Array Value} {below : List Frame} {meth : Method} {c : Code} {X : Ec} {h0 : Hp} {o : Int32 × Hp} {k_2 : Hp → Nat → Int32 → Int32 → Option (Int32 × Hp)} {F : Nat} (C : Cx X p s m args meth c RX15 cX15_addSet 5 (some .boolean) "addSet") (hk_2 : ∀ (h : Hp) (x0 : Nat) (x1 : Int32) (x2 : Int32) (H : Heap) (locs : List Loc), hK h x0 = 15 → Km h0 h → Wx X h H → va_S (aA (eB X)) s.heap H locs → ∀ (ls : Array Slot), lv_has ls 5 [(0, .ref x0), (1, .int x1), (2, .int x2)] → k_2 h x0 x1 x2 = some o → W p l e (rm 2 45) s m args below meth c H locs 0 0 (MQ below (QI X h0 o.1 o.2) args s 0 0 (aA (eB X))) (F0 m 2 ls [])) : ∀ (f : Nat) {h : Hp} {x0 : Nat} {x1 : Int32} {x2 : Int32} {x3 : Int32} {x4 : Int32} {H : Heap} {locs : List Loc} (k_x0 : hK h x0 = 15), Km h0 h → Wx X h H → va_S (aA (eB X)) s.heap H locs → ∀ (ls : Array Slot), lv_has ls 5 [(0, .ref x0), (1, .int x1), (2, .int x2), (3, .int x3), (4, .int x4)] → sX15_addSet_17 F k_2 f h x0 x1 x2 x3 x4 = some o → W p l e (rm 2 45) s m args below meth c H locs 0 0 (MQ below (QI X h0 o.1 o.2) args s 0 0 (aA (eB X))) (F0 m 17 ls []) := by
  intro f
  induction f with
  | zero =>
    intro h x0 x1 x2 x3 x4 H locs k_x0 hkm hW hZ ls hl hE
    rw [sX15_addSet_17] at hE
    cases hE
  | succ f ih =>
    intro h x0 x1 x2 x3 x4 H locs k_x0 hkm hW hZ ls hl hE
    rw [sX15_addSet_17] at hE
    have hk_17 : ∀ (h : Hp) (x0 : Nat) (x1 : Int32) (x2 : Int32) (x3 : Int32) (x4 : Int32) (H : Heap) (locs : List Loc), hK h x0 = 15 → Km h0 h → Wx X h H → va_S (aA (eB X)) s.heap H locs → ∀ (ls : Array Slot), lv_has ls 5 [(0, .ref x0), (1, .int x1), (2, .int x2), (3, .int x3), (4, .int x4)] → sX15_addSet_17 F k_2 f h x0 x1 x2 x3 x4 = some o → W p l e (rm 2 45) s m args below meth c H locs 0 0 (MQ below (QI X h0 o.1 o.2) args s 0 0 (aA (eB X))) (F0 m 17 ls []) := fun h x0 x1 x2 x3 x4 H locs k_x0 a b c ls hl hE => ih k_x0 a b c ls hl hE
    refine lv_iload C.1 C.2.1 dX15_addSet_17 (lv_at hl 4 rfl) ?_
    refine lv_if_le (tgt := 57) C.1 C.2.1 dX15_addSet_19 (by decide) (fun c_1 => ?_) (fun c_1 => ?_)
    · have hE := br_p hE c_1
      exact bX15_addSet_57 C hk_2 k_x0 hkm hW hZ _ (lv_sub hl [0, 1, 2, 3, 4] rfl) hE
    · have hE := br_n hE c_1
      refine lv_aload_n C.1 C.2.1 dX15_addSet_22 rfl (lv_at hl 0 rfl) ?_
      obtain ⟨r_2, er_2, hE⟩ := cl_e hE
      refine gf_X15_359 C hW k_x0 er_2 dX15_addSet_23 (fun k_r_2 => ?_)
      refine lv_iload C.1 C.2.1 dX15_addSet_26 (lv_at hl 4 rfl) ?_
      refine lv_iconst (v := (1 : Int32)) C.1 C.2.1 dX15_addSet_28 (by decide) ?_
      refine lv_isub C.1 C.2.1 dX15_addSet_29 ?_
      obtain ⟨g_3, hE⟩ := gd_e hE
      refine y_iald C hW k_r_2 g_3 dX15_addSet_30 ?_
      refine lv_iload_n C.1 C.2.1 dX15_addSet_31 rfl (lv_at hl 3 rfl) ?_
      refine lv_icmp_le (tgt := 57) C.1 C.2.1 dX15_addSet_32 (by decide) (fun c_4 => ?_) (fun c_4 => ?_)
      · have hE := br_p hE c_4
        exact bX15_addSet_57 C hk_2 k_x0 hkm hW hZ _ (lv_sub hl [0, 1, 2, 3, 4] rfl) hE
      · have hE := br_n hE c_4
        refine lv_aload_n C.1 C.2.1 dX15_addSet_35 rfl (lv_at hl 0 rfl) ?_
        obtain ⟨r_5, er_5, hE⟩ := cl_e hE
        refine gf_X15_359 C hW k_x0 er_5 dX15_addSet_36 (fun k_r_5 => ?_)
        refine lv_iload C.1 C.2.1 dX15_addSet_39 (lv_at hl 4 rfl) ?_
        refine lv_aload_n C.1 C.2.1 dX15_addSet_41 rfl (lv_at hl 0 rfl) ?_
        obtain ⟨r_6, er_6, hE⟩ := cl_e hE
        refine gf_X15_359 C hW k_x0 er_6 dX15_addSet_42 (fun k_r_6 => ?_)
        refine lv_iload C.1 C.2.1 dX15_addSet_45 (lv_at hl 4 rfl) ?_
        refine lv_iconst (v := (1 : Int32)) C.1 C.2.1 dX15_addSet_47 (by decide) ?_
        refine lv_isub C.1 C.2.1 dX15_addSet_48 ?_
        obtain ⟨g_7, hE⟩ := gd_e hE
        refine y_iald C hW k_r_6 g_7 dX15_addSet_49 ?_
        obtain ⟨g_8, hE⟩ := gd_e hE
        obtain ⟨h_9, eh_9, hE⟩ := nm_e2 hE
        refine y_iast C hW hZ k_r_5 g_8 eh_9 dX15_addSet_50 (fun _ _ hW km hZ => ?_)
        replace hkm := hkm.tr km
        replace k_x0 := km.at k_x0 (by decide)
        obtain ⟨v_10, ev_10, hE⟩ := nm_e2 hE
        refine lv_iinc (v := v_10) (lv' := [(4, .int v_10), (0, .ref x0), (1, .int x1), (2, .int x2), (3, .int x3)]) C.1 C.2.1 dX15_addSet_51 hl (k := 4) rfl (by rw [ev_10]; rfl) (by decide) rfl (fun ls hl => ?_)
        refine lv_goto (tgt := 17) C.1 C.2.1 dX15_addSet_54 (by decide) ?_
        exact hk_17 _ _ _ _ _ _ _ _ k_x0 hkm hW hZ _ (lv_sub hl [1, 2, 3, 4, 0] rfl) hE
set_option maxRecDepth 20000 in
theorem bX15_addSet_2 {p : Program} {l : Launch} {e : Env} {s : State} {m : MethodId} {args : Array Value} {below : List Frame} {meth : Method} {c : Code} {X : Ec} {h0 : Hp} {o : Int32 × Hp} {F : Nat} (C : Cx X p s m args meth c RX15 cX15_addSet 5 (some .boolean) "addSet") : ∀ (f : Nat) {h : Hp} {x0 : Nat} {x1 : Int32} {x2 : Int32} {H : Heap} {locs : List Loc} (k_x0 : hK h x0 = 15), Km h0 h → Wx X h H → va_S (aA (eB X)) s.heap H locs → ∀ (ls : Array Slot), lv_has ls 5 [(0, .ref x0), (1, .int x1), (2, .int x2)] → sX15_addSet_2 F f h x0 x1 x2 = some o → W p l e (rm 2 45) s m args below meth c H locs 0 0 (MQ below (QI X h0 o.1 o.2) args s 0 0 (aA (eB X))) (F0 m 2 ls []) := by
  intro f
  induction f with
  | zero =>
    intro h x0 x1 x2 H locs k_x0 hkm hW hZ ls hl hE
    rw [sX15_addSet_2] at hE
    cases hE
  | succ f ih =>
    intro h x0 x1 x2 H locs k_x0 hkm hW hZ ls hl hE
    rw [sX15_addSet_2] at hE
    have hk_2 : ∀ (h : Hp) (x0 : Nat) (x1 : Int32) (x2 : Int32) (H : Heap) (locs : List Loc), hK h x0 = 15 → Km h0 h → Wx X h H → va_S (aA (eB X)) s.heap H locs → ∀ (ls : Array Slot), lv_has ls 5 [(0, .ref x0), (1, .int x1), (2, .int x2)] → sX15_addSet_2 F f h x0 x1 x2 = some o → W p l e (rm 2 45) s m args below meth c H locs 0 0 (MQ below (QI X h0 o.1 o.2) args s 0 0 (aA (eB X))) (F0 m 2 ls []) := fun h x0 x1 x2 H locs k_x0 a b c ls hl hE => ih k_x0 a b c ls hl hE
    refine lv_iload_n C.1 C.2.1 dX15_addSet_2 rfl (lv_at hl 2 rfl) ?_
    refine lv_iload_n C.1 C.2.1 dX15_addSet_3 rfl (lv_at hl 1 rfl) ?_
    refine lv_icmp_ge (tgt := 71) C.1 C.2.1 dX15_addSet_4 (by decide) (fun c_1 => ?_) (fun c_1 => ?_)
    · have hE := br_p hE c_1
      refine lv_aload_n C.1 C.2.1 dX15_addSet_71 rfl (lv_at hl 0 rfl) ?_
      refine lv_aload_n C.1 C.2.1 dX15_addSet_72 rfl (lv_at hl 0 rfl) ?_
      obtain ⟨r_2, er_2, hE⟩ := cl_e hE
      refine gf_X15_359 C hW k_x0 er_2 dX15_addSet_73 (fun k_r_2 => ?_)
      refine lv_iload_n C.1 C.2.1 dX15_addSet_76 rfl (lv_at hl 1 rfl) ?_
      obtain ⟨o_3, eo_3, hE⟩ := cl_e hE
      refine x_kI (o := o_3) (z_runV (As := [.ref r_2, .int x1]) (rest := []) C (ct_X15_findSet l X F k_x0 k_r_2 eo_3) cw_X15_741 hW hZ k_x0 (by decide) rfl rfl rfl hl.1 (Nat.le_of_ble_eq_true rfl) rfl dX15_addSet_77 ⟨Nat.le_of_ble_eq_true rfl, Nat.le_of_ble_eq_true rfl⟩ ⟨Nat.le_refl _, Nat.le_refl _⟩) hZ (fun _ _ hW km hZ => ?_)
      replace hkm := hkm.tr km
      replace k_x0 := km.at k_x0 (by decide)
      refine lv_iconst (v := (-1 : Int32)) C.1 C.2.1 dX15_addSet_80 (by decide) ?_
      refine lv_icmp_eq (tgt := 86) C.1 C.2.1 dX15_addSet_81 (by decide) (fun c_4 => ?_) (fun c_4 => ?_)
      · have hE := br_p hE c_4
        refine lv_ldc2 (v := (2 : Int64)) C.1 C.2.1 C.2.2.2.1 (C.2.2.2.2.1 _ m_2763) dX15_addSet_86 ?_
        refine lv_lstore_n (lv' := [(2, .long (2 : Int64)), (0, .ref x0), (1, .int x1)]) C.1 C.2.1 dX15_addSet_89 rfl hl (by decide) rfl (fun ls hl => ?_)
        refine lv_iconst (v := (0 : Int32)) C.1 C.2.1 dX15_addSet_90 (by decide) ?_
        refine lv_istore (lv' := [(4, .int (0 : Int32)), (2, .long (2 : Int64)), (0, .ref x0), (1, .int x1)]) C.1 C.2.1 dX15_addSet_91 hl (by decide) rfl (fun ls hl => ?_)
        exact bX15_addSet_93 C F k_x0 hkm hW hZ _ (lv_sub hl [2, 3, 1, 0] rfl) hE
      · have hE := br_n hE c_4
        refine lv_iconst (v := (1 : Int32)) C.1 C.2.1 dX15_addSet_84 (by decide) ?_
        exact x_iret C rfl (by decide) hW hZ hkm hE dX15_addSet_85
    · have hE := br_n hE c_1
      refine lv_aload_n C.1 C.2.1 dX15_addSet_7 rfl (lv_at hl 0 rfl) ?_
      obtain ⟨r_5, er_5, hE⟩ := cl_e hE
      refine gf_X15_359 C hW k_x0 er_5 dX15_addSet_8 (fun k_r_5 => ?_)
      refine lv_iload_n C.1 C.2.1 dX15_addSet_11 rfl (lv_at hl 2 rfl) ?_
      obtain ⟨g_6, hE⟩ := gd_e hE
      refine y_iald C hW k_r_5 g_6 dX15_addSet_12 ?_
      obtain ⟨v_7, ev_7, hE⟩ := nm_e2 hE
      refine x_nmI ev_7 ?_
      refine lv_istore_n (lv' := [(3, .int v_7), (0, .ref x0), (1, .int x1), (2, .int x2)]) C.1 C.2.1 dX15_addSet_13 rfl hl (by decide) rfl (fun ls hl => ?_)
      refine lv_iload_n C.1 C.2.1 dX15_addSet_14 rfl (lv_at hl 3 rfl) ?_
      refine lv_istore (lv' := [(4, .int x2), (3, .int v_7), (0, .ref x0), (1, .int x1), (2, .int x2)]) C.1 C.2.1 dX15_addSet_15 hl (by decide) rfl (fun ls hl => ?_)
      exact bX15_addSet_17 C hk_2 F k_x0 hkm hW hZ _ (lv_sub hl [2, 3, 4, 1, 0] rfl) hE
set_option maxRecDepth 20000 in
theorem ct_X15_addSet (l : Launch) (X : Ec) (F : Nat) {h : Hp} {x0 : Nat} {x1 : Int32} {o : Int32 × Hp} (k_x0 : hK h x0 = 15) (hE : sX15_addSet F h x0 x1 = some o) : MetI l yX15_addSet cX15_addSet 5 (some .boolean) 2 45 X [.ref x0, .int x1] h o := by
  refine x_met (by decide) (Nat.le_of_ble_eq_true rfl) ?_
  intro p e s m below meth c ls C hl hW hZ
  have hl : lv_has ls 5 [(0, .ref x0), (1, .int x1)] := hl
  have hkm : Km h h := Km.rf h
  refine lv_iconst (v := (1 : Int32)) C.1 C.2.1 dX15_addSet_0 (by decide) ?_
  refine lv_istore_n (lv' := [(2, .int (1 : Int32)), (0, .ref x0), (1, .int x1)]) C.1 C.2.1 dX15_addSet_1 rfl hl (by decide) rfl (fun ls hl => ?_)
  exact bX15_addSet_2 C F k_x0 hkm hW hZ _ (lv_sub hl [1, 2, 0] rfl) hE
set_option maxRecDepth 100000 in
theorem ms_200 : Cond.selects RX15 yX15_addSet yX15_addSet ∈ W0 := w0_in (List.mem_append_left _ (List.mem_of_getElem? (i := 200) rfl)) rfl
set_option maxRecDepth 100000 in
theorem m_2747 : Cond.methodLink RX15 754 yX15_addSet ∈ W0 := w0_in (List.mem_append_right _ (List.mem_of_getElem? (i := 2747) rfl)) rfl
set_option maxRecDepth 100000 in
theorem m_2749 : Cond.instanceMethod yX15_addSet ∈ W0 := w0_in (List.mem_append_right _ (List.mem_of_getElem? (i := 2749) rfl)) rfl
set_option maxRecDepth 100000 in
theorem m_2750 : Cond.code yX15_addSet cX15_addSet 5 (some .boolean) ∈ W0 := w0_in (List.mem_append_right _ (List.mem_of_getElem? (i := 2750) rfl)) rfl
theorem cw_X15_754 : cwd RX15 754 yX15_addSet cX15_addSet 5 (some .boolean) false 1 := ⟨m_2750, m_2747, m_19, ⟨m_2749, ms_200⟩, by decide, by decide, by decide +kernel⟩
theorem dX15_copyWithout_0 : decode cX15_copyWithout 0 = .ok (.iconst 0, 1) := by decide +kernel
theorem dX15_copyWithout_1 : decode cX15_copyWithout 1 = .ok (.istore_n 3, 1) := by decide +kernel
theorem dX15_copyWithout_2 : decode cX15_copyWithout 2 = .ok (.iconst 0, 1) := by decide +kernel
theorem dX15_copyWithout_3 : decode cX15_copyWithout 3 = .ok (.istore 4, 2) := by decide +kernel
theorem dX15_copyWithout_5 : decode cX15_copyWithout 5 = .ok (.iload 4, 2) := by decide +kernel
theorem dX15_copyWithout_7 : decode cX15_copyWithout 7 = .ok (.aload_n 0, 1) := by decide +kernel
theorem dX15_copyWithout_8 : decode cX15_copyWithout 8 = .ok (.getfield 333, 3) := by decide +kernel
theorem dX15_copyWithout_11 : decode cX15_copyWithout 11 = .ok (.iload_n 1, 1) := by decide +kernel
theorem dX15_copyWithout_12 : decode cX15_copyWithout 12 = .ok (.iaload, 1) := by decide +kernel
theorem dX15_copyWithout_13 : decode cX15_copyWithout 13 = .ok (.if_icmp .ge 35, 3) := by decide +kernel
theorem dX15_copyWithout_16 : decode cX15_copyWithout 16 = .ok (.iload 4, 2) := by decide +kernel
theorem dX15_copyWithout_18 : decode cX15_copyWithout 18 = .ok (.iload_n 2, 1) := by decide +kernel
theorem dX15_copyWithout_19 : decode cX15_copyWithout 19 = .ok (.if_icmp .eq 23, 3) := by decide +kernel
theorem dX15_copyWithout_22 : decode cX15_copyWithout 22 = .ok (.aload_n 0, 1) := by decide +kernel
theorem dX15_copyWithout_23 : decode cX15_copyWithout 23 = .ok (.getfield 359, 3) := by decide +kernel
theorem dX15_copyWithout_26 : decode cX15_copyWithout 26 = .ok (.iload_n 3, 1) := by decide +kernel
theorem dX15_copyWithout_27 : decode cX15_copyWithout 27 = .ok (.aload_n 0, 1) := by decide +kernel
theorem dX15_copyWithout_28 : decode cX15_copyWithout 28 = .ok (.getfield 336, 3) := by decide +kernel
theorem dX15_copyWithout_31 : decode cX15_copyWithout 31 = .ok (.iconst 5, 1) := by decide +kernel
theorem dX15_copyWithout_32 : decode cX15_copyWithout 32 = .ok (.iload_n 1, 1) := by decide +kernel
theorem dX15_copyWithout_33 : decode cX15_copyWithout 33 = .ok (.imul, 1) := by decide +kernel
theorem dX15_copyWithout_34 : decode cX15_copyWithout 34 = .ok (.iload 4, 2) := by decide +kernel
theorem dX15_copyWithout_36 : decode cX15_copyWithout 36 = .ok (.iadd, 1) := by decide +kernel
theorem dX15_copyWithout_37 : decode cX15_copyWithout 37 = .ok (.iaload, 1) := by decide +kernel
theorem dX15_copyWithout_38 : decode cX15_copyWithout 38 = .ok (.iastore, 1) := by decide +kernel
theorem dX15_copyWithout_39 : decode cX15_copyWithout 39 = .ok (.iinc 3 1, 3) := by decide +kernel
theorem dX15_copyWithout_42 : decode cX15_copyWithout 42 = .ok (.iinc 4 1, 3) := by decide +kernel
theorem dX15_copyWithout_45 : decode cX15_copyWithout 45 = .ok (.goto (-40), 3) := by decide +kernel
theorem dX15_copyWithout_48 : decode cX15_copyWithout 48 = .ok (.aload_n 0, 1) := by decide +kernel
theorem dX15_copyWithout_49 : decode cX15_copyWithout 49 = .ok (.iload_n 3, 1) := by decide +kernel
theorem dX15_copyWithout_50 : decode cX15_copyWithout 50 = .ok (.invokevirtual 754, 3) := by decide +kernel
theorem dX15_copyWithout_53 : decode cX15_copyWithout 53 = .ok (.ireturn, 1) := by decide +kernel
set_option maxRecDepth 20000 in
theorem moX15_copyWithout_42 {o : Int32 × Hp} {k_5 : Hp → Nat → Int32 → Int32 → Int32 → Int32 → Option (Int32 × Hp)} {F : Nat} (mk_5 : ∀ (h : Hp) (x0 : Nat) (x1 : Int32) (x2 : Int32) (x3 : Int32) (x4 : Int32), k_5 h x0 x1 x2 x3 x4 = some o → Le h o.2) {h : Hp} {x0 : Nat} {x1 : Int32} {x2 : Int32} {x3 : Int32} {x4 : Int32} (hE : sX15_copyWithout_42 F k_5 h x0 x1 x2 x3 x4 = some o) : Le h o.2 := by
  obtain ⟨v_1, ev_1, hE⟩ := nm_e2 hE
  exact mk_5 _ _ _ _ _ _ hE
set_option maxRecDepth 20000 in
theorem moX15_copyWithout_5 {o : Int32 × Hp} {F : Nat} : ∀ (f : Nat) {h : Hp} {x0 : Nat} {x1 : Int32} {x2 : Int32} {x3 : Int32} {x4 : Int32}, sX15_copyWithout_5 F f h x0 x1 x2 x3 x4 = some o → Le h o.2 := by
  intro f
  induction f with
  | zero =>
    intro h x0 x1 x2 x3 x4 hE
    rw [sX15_copyWithout_5] at hE
    cases hE
  | succ f ih =>
    intro h x0 x1 x2 x3 x4 hE
    rw [sX15_copyWithout_5] at hE
    have mk_5 : ∀ (h : Hp) (x0 : Nat) (x1 : Int32) (x2 : Int32) (x3 : Int32) (x4 : Int32), sX15_copyWithout_5 F f h x0 x1 x2 x3 x4 = some o → Le h o.2 := fun h x0 x1 x2 x3 x4 hE => ih hE
    obtain ⟨r_1, er_1, hE⟩ := cl_e hE
    obtain ⟨g_2, hE⟩ := gd_e hE
    rcases br_e hE with ⟨_, hE⟩ | ⟨_, hE⟩
    · obtain ⟨o_4, eo_4, hE⟩ := cl_e hE
      refine (moX15_addSet eo_4).tr ?_
      obtain ⟨g_5, hE⟩ := gd_e hE
      exact le_some2 hE
    · rcases br_e hE with ⟨_, hE⟩ | ⟨_, hE⟩
      · exact moX15_copyWithout_42 mk_5 hE
      · obtain ⟨r_7, er_7, hE⟩ := cl_e hE
        obtain ⟨r_8, er_8, hE⟩ := cl_e hE
        obtain ⟨g_9, hE⟩ := gd_e hE
        obtain ⟨g_10, hE⟩ := gd_e hE
        obtain ⟨h_11, eh_11, hE⟩ := nm_e2 hE
        refine (le_I eh_11).tr ?_
        obtain ⟨v_12, ev_12, hE⟩ := nm_e2 hE
        exact moX15_copyWithout_42 mk_5 hE
set_option maxRecDepth 20000 in
theorem moX15_copyWithout {o : Int32 × Hp} {F : Nat} {h : Hp} {x0 : Nat} {x1 : Int32} {x2 : Int32} (hE : sX15_copyWithout F h x0 x1 x2 = some o) : Le h o.2 := by
  exact moX15_copyWithout_5 _ hE
set_option maxRecDepth 20000 in
theorem bX15_copyWithout_42 {p : Program} {l : Launch} {e : Env} {s : State} {m : MethodId} {args : Array Value} {below : List Frame} {meth : Method} {c : Code} {X : Ec} {h0 : Hp} {o : Int32 × Hp} {k_5 : Hp → Nat → Int32 → Int32 → Int32 → Int32 → Option (Int32 × Hp)} {F : Nat} (C : Cx X p s m args meth c RX15 cX15_copyWithout 5 (some .boolean) "copyWithout") (hk_5 : ∀ (h : Hp) (x0 : Nat) (x1 : Int32) (x2 : Int32) (x3 : Int32) (x4 : Int32) (H : Heap) (locs : List Loc), hK h x0 = 15 → Km h0 h → Wx X h H → va_S (aA (eB X)) s.heap H locs → ∀ (ls : Array Slot), lv_has ls 5 [(0, .ref x0), (1, .int x1), (2, .int x2), (3, .int x3), (4, .int x4)] → k_5 h x0 x1 x2 x3 x4 = some o → W p l e (rm 3 69) s m args below meth c H locs 0 0 (MQ below (QI X h0 o.1 o.2) args s 0 0 (aA (eB X))) (F0 m 5 ls [])) {h : Hp} {x0 : Nat} {x1 : Int32} {x2 : Int32} {x3 : Int32} {x4 : Int32} {H : Heap} {locs : List Loc} (k_x0 : hK h x0 = 15) (hkm : Km h0 h) (hW : Wx X h H) (hZ : va_S (aA (eB X)) s.heap H locs) (ls : Array Slot) (hl : lv_has ls 5 [(0, .ref x0), (1, .int x1), (2, .int x2), (3, .int x3), (4, .int x4)]) (hE : sX15_copyWithout_42 F k_5 h x0 x1 x2 x3 x4 = some o) : W p l e (rm 3 69) s m args below meth c H locs 0 0 (MQ below (QI X h0 o.1 o.2) args s 0 0 (aA (eB X))) (F0 m 42 ls []) := by
  obtain ⟨v_1, ev_1, hE⟩ := nm_e2 hE
  refine lv_iinc (v := v_1) (lv' := [(4, .int v_1), (0, .ref x0), (1, .int x1), (2, .int x2), (3, .int x3)]) C.1 C.2.1 dX15_copyWithout_42 hl (k := 4) rfl (by rw [ev_1]; rfl) (by decide) rfl (fun ls hl => ?_)
  refine lv_goto (tgt := 5) C.1 C.2.1 dX15_copyWithout_45 (by decide) ?_
  exact hk_5 _ _ _ _ _ _ _ _ k_x0 hkm hW hZ _ (lv_sub hl [1, 2, 3, 4, 0] rfl) hE
set_option maxRecDepth 20000 in
theorem bX15_copyWithout_5 {p : Program} {l : Launch} {e : Env} {s : State} {m : MethodId} {args : Array Value} {below : List Frame} {meth : Method} {c : Code} {X : Ec} {h0 : Hp} {o : Int32 × Hp} {F : Nat} (C : Cx X p s m args meth c RX15 cX15_copyWithout 5 (some .boolean) "copyWithout") : ∀ (f : Nat) {h : Hp} {x0 : Nat} {x1 : Int32} {x2 : Int32} {x3 : Int32} {x4 : Int32} {H : Heap} {locs : List Loc} (k_x0 : hK h x0 = 15), Km h0 h → Wx X h H → va_S (aA (eB X)) s.heap H locs → ∀ (ls : Array Slot), lv_has ls 5 [(0, .ref x0), (1, .int x1), (2, .int x2), (3, .int x3), (4, .int x4)] → sX15_copyWithout_5 F f h x0 x1 x2 x3 x4 = some o → W p l e (rm 3 69) s m args below meth c H locs 0 0 (MQ below (QI X h0 o.1 o.2) args s 0 0 (aA (eB X))) (F0 m 5 ls []) := by
  intro f
  induction f with
  | zero =>
    intro h x0 x1 x2 x3 x4 H locs k_x0 hkm hW hZ ls hl hE
    rw [sX15_copyWithout_5] at hE
    cases hE
  | succ f ih =>
    intro h x0 x1 x2 x3 x4 H locs k_x0 hkm hW hZ ls hl hE
    rw [sX15_copyWithout_5] at hE
    have hk_5 : ∀ (h : Hp) (x0 : Nat) (x1 : Int32) (x2 : Int32) (x3 : Int32) (x4 : Int32) (H : Heap) (locs : List Loc), hK h x0 = 15 → Km h0 h → Wx X h H → va_S (aA (eB X)) s.heap H locs → ∀ (ls : Array Slot), lv_has ls 5 [(0, .ref x0), (1, .int x1), (2, .int x2), (3, .int x3), (4, .int x4)] → sX15_copyWithout_5 F f h x0 x1 x2 x3 x4 = some o → W p l e (rm 3 69) s m args below meth c H locs 0 0 (MQ below (QI X h0 o.1 o.2) args s 0 0 (aA (eB X))) (F0 m 5 ls []) := fun h x0 x1 x2 x3 x4 H locs k_x0 a b c ls hl hE => ih k_x0 a b c ls hl hE
    refine lv_iload C.1 C.2.1 dX15_copyWithout_5 (lv_at hl 4 rfl) ?_
    refine lv_aload_n C.1 C.2.1 dX15_copyWithout_7 rfl (lv_at hl 0 rfl) ?_
    obtain ⟨r_1, er_1, hE⟩ := cl_e hE
    refine gf_X15_333 C hW k_x0 er_1 dX15_copyWithout_8 (fun k_r_1 => ?_)
    refine lv_iload_n C.1 C.2.1 dX15_copyWithout_11 rfl (lv_at hl 1 rfl) ?_
    obtain ⟨g_2, hE⟩ := gd_e hE
    refine y_iald C hW k_r_1 g_2 dX15_copyWithout_12 ?_
    refine lv_icmp_ge (tgt := 48) C.1 C.2.1 dX15_copyWithout_13 (by decide) (fun c_3 => ?_) (fun c_3 => ?_)
    · have hE := br_p hE c_3
      refine lv_aload_n C.1 C.2.1 dX15_copyWithout_48 rfl (lv_at hl 0 rfl) ?_
      refine lv_iload_n C.1 C.2.1 dX15_copyWithout_49 rfl (lv_at hl 3 rfl) ?_
      obtain ⟨o_4, eo_4, hE⟩ := cl_e hE
      refine x_kI (o := o_4) (z_runV (As := [.int x3]) (rest := []) C (ct_X15_addSet l X F k_x0 eo_4) cw_X15_754 hW hZ k_x0 (by decide) rfl rfl rfl hl.1 (Nat.le_of_ble_eq_true rfl) rfl dX15_copyWithout_50 ⟨Nat.le_of_ble_eq_true rfl, Nat.le_of_ble_eq_true rfl⟩ ⟨Nat.le_refl _, Nat.le_refl _⟩) hZ (fun _ _ hW km hZ => ?_)
      replace hkm := hkm.tr km
      replace k_x0 := km.at k_x0 (by decide)
      obtain ⟨g_5, hE⟩ := gd_e hE
      exact x_iret C rfl (narB g_5) hW hZ hkm hE dX15_copyWithout_53
    · have hE := br_n hE c_3
      refine lv_iload C.1 C.2.1 dX15_copyWithout_16 (lv_at hl 4 rfl) ?_
      refine lv_iload_n C.1 C.2.1 dX15_copyWithout_18 rfl (lv_at hl 2 rfl) ?_
      refine lv_icmp_eq (tgt := 42) C.1 C.2.1 dX15_copyWithout_19 (by decide) (fun c_6 => ?_) (fun c_6 => ?_)
      · have hE := br_p hE c_6
        exact bX15_copyWithout_42 C hk_5 k_x0 hkm hW hZ _ (lv_sub hl [0, 1, 2, 3, 4] rfl) hE
      · have hE := br_n hE c_6
        refine lv_aload_n C.1 C.2.1 dX15_copyWithout_22 rfl (lv_at hl 0 rfl) ?_
        obtain ⟨r_7, er_7, hE⟩ := cl_e hE
        refine gf_X15_359 C hW k_x0 er_7 dX15_copyWithout_23 (fun k_r_7 => ?_)
        refine lv_iload_n C.1 C.2.1 dX15_copyWithout_26 rfl (lv_at hl 3 rfl) ?_
        refine lv_aload_n C.1 C.2.1 dX15_copyWithout_27 rfl (lv_at hl 0 rfl) ?_
        obtain ⟨r_8, er_8, hE⟩ := cl_e hE
        refine gf_X15_336 C hW k_x0 er_8 dX15_copyWithout_28 (fun k_r_8 => ?_)
        refine lv_iconst (v := (5 : Int32)) C.1 C.2.1 dX15_copyWithout_31 (by decide) ?_
        refine lv_iload_n C.1 C.2.1 dX15_copyWithout_32 rfl (lv_at hl 1 rfl) ?_
        refine lv_imul C.1 C.2.1 dX15_copyWithout_33 ?_
        refine lv_iload C.1 C.2.1 dX15_copyWithout_34 (lv_at hl 4 rfl) ?_
        refine lv_iadd C.1 C.2.1 dX15_copyWithout_36 ?_
        obtain ⟨g_9, hE⟩ := gd_e hE
        refine y_iald C hW k_r_8 g_9 dX15_copyWithout_37 ?_
        obtain ⟨g_10, hE⟩ := gd_e hE
        obtain ⟨h_11, eh_11, hE⟩ := nm_e2 hE
        refine y_iast C hW hZ k_r_7 g_10 eh_11 dX15_copyWithout_38 (fun _ _ hW km hZ => ?_)
        replace hkm := hkm.tr km
        replace k_x0 := km.at k_x0 (by decide)
        obtain ⟨v_12, ev_12, hE⟩ := nm_e2 hE
        refine lv_iinc (v := v_12) (lv' := [(3, .int v_12), (0, .ref x0), (1, .int x1), (2, .int x2), (4, .int x4)]) C.1 C.2.1 dX15_copyWithout_39 hl (k := 3) rfl (by rw [ev_12]; rfl) (by decide) rfl (fun ls hl => ?_)
        exact bX15_copyWithout_42 C hk_5 k_x0 hkm hW hZ _ (lv_sub hl [1, 2, 3, 0, 4] rfl) hE
set_option maxRecDepth 20000 in
theorem ct_X15_copyWithout (l : Launch) (X : Ec) (F : Nat) {h : Hp} {x0 : Nat} {x1 : Int32} {x2 : Int32} {o : Int32 × Hp} (k_x0 : hK h x0 = 15) (hE : sX15_copyWithout F h x0 x1 x2 = some o) : MetI l yX15_copyWithout cX15_copyWithout 5 (some .boolean) 3 69 X [.ref x0, .int x1, .int x2] h o := by
  refine x_met (by decide) (Nat.le_of_ble_eq_true rfl) ?_
  intro p e s m below meth c ls C hl hW hZ
  have hl : lv_has ls 5 [(0, .ref x0), (1, .int x1), (2, .int x2)] := hl
  have hkm : Km h h := Km.rf h
  refine lv_iconst (v := (0 : Int32)) C.1 C.2.1 dX15_copyWithout_0 (by decide) ?_
  refine lv_istore_n (lv' := [(3, .int (0 : Int32)), (0, .ref x0), (1, .int x1), (2, .int x2)]) C.1 C.2.1 dX15_copyWithout_1 rfl hl (by decide) rfl (fun ls hl => ?_)
  refine lv_iconst (v := (0 : Int32)) C.1 C.2.1 dX15_copyWithout_2 (by decide) ?_
  refine lv_istore (lv' := [(4, .int (0 : Int32)), (3, .int (0 : Int32)), (0, .ref x0), (1, .int x1), (2, .int x2)]) C.1 C.2.1 dX15_copyWithout_3 hl (by decide) rfl (fun ls hl => ?_)
  exact bX15_copyWithout_5 C F k_x0 hkm hW hZ _ (lv_sub hl [2, 3, 4, 1, 0] rfl) hE
set_option maxRecDepth 100000 in
theorem ms_204 : Cond.selects RX15 yX15_copyWithout yX15_copyWithout ∈ W0 := w0_in (List.mem_append_left _ (List.mem_of_getElem? (i := 204) rfl)) rfl
set_option maxRecDepth 100000 in
theorem m_2769 : Cond.methodLink RX15 757 yX15_copyWithout ∈ W0 := w0_in (List.mem_append_right _ (List.mem_of_getElem? (i := 2769) rfl)) rfl
set_option maxRecDepth 100000 in
theorem m_2771 : Cond.instanceMethod yX15_copyWithout ∈ W0 := w0_in (List.mem_append_right _ (List.mem_of_getElem? (i := 2771) rfl)) rfl
set_option maxRecDepth 100000 in
theorem m_2772 : Cond.code yX15_copyWithout cX15_copyWithout 5 (some .boolean) ∈ W0 := w0_in (List.mem_append_right _ (List.mem_of_getElem? (i := 2772) rfl)) rfl
theorem cw_X15_757 : cwd RX15 757 yX15_copyWithout cX15_copyWithout 5 (some .boolean) false 2 := ⟨m_2772, m_2769, m_19, ⟨m_2771, ms_204⟩, by decide, by decide, by decide +kernel⟩
theorem dX15_addAll_0 : decode cX15_addAll 0 = .ok (.iconst 0, 1) := by decide +kernel
theorem dX15_addAll_1 : decode cX15_addAll 1 = .ok (.istore_n 1, 1) := by decide +kernel
theorem dX15_addAll_2 : decode cX15_addAll 2 = .ok (.iload_n 1, 1) := by decide +kernel
theorem dX15_addAll_3 : decode cX15_addAll 3 = .ok (.aload_n 0, 1) := by decide +kernel
theorem dX15_addAll_4 : decode cX15_addAll 4 = .ok (.getfield 751, 3) := by decide +kernel
theorem dX15_addAll_7 : decode cX15_addAll 7 = .ok (.if_icmp .ge 173, 3) := by decide +kernel
theorem dX15_addAll_10 : decode cX15_addAll 10 = .ok (.iconst 0, 1) := by decide +kernel
theorem dX15_addAll_11 : decode cX15_addAll 11 = .ok (.istore_n 2, 1) := by decide +kernel
theorem dX15_addAll_12 : decode cX15_addAll 12 = .ok (.iload_n 2, 1) := by decide +kernel
theorem dX15_addAll_13 : decode cX15_addAll 13 = .ok (.aload_n 0, 1) := by decide +kernel
theorem dX15_addAll_14 : decode cX15_addAll 14 = .ok (.getfield 333, 3) := by decide +kernel
theorem dX15_addAll_17 : decode cX15_addAll 17 = .ok (.iload_n 1, 1) := by decide +kernel
theorem dX15_addAll_18 : decode cX15_addAll 18 = .ok (.iaload, 1) := by decide +kernel
theorem dX15_addAll_19 : decode cX15_addAll 19 = .ok (.if_icmp .ge 155, 3) := by decide +kernel
theorem dX15_addAll_22 : decode cX15_addAll 22 = .ok (.aload_n 0, 1) := by decide +kernel
theorem dX15_addAll_23 : decode cX15_addAll 23 = .ok (.getfield 336, 3) := by decide +kernel
theorem dX15_addAll_26 : decode cX15_addAll 26 = .ok (.iconst 5, 1) := by decide +kernel
theorem dX15_addAll_27 : decode cX15_addAll 27 = .ok (.iload_n 1, 1) := by decide +kernel
theorem dX15_addAll_28 : decode cX15_addAll 28 = .ok (.imul, 1) := by decide +kernel
theorem dX15_addAll_29 : decode cX15_addAll 29 = .ok (.iload_n 2, 1) := by decide +kernel
theorem dX15_addAll_30 : decode cX15_addAll 30 = .ok (.iadd, 1) := by decide +kernel
theorem dX15_addAll_31 : decode cX15_addAll 31 = .ok (.iaload, 1) := by decide +kernel
theorem dX15_addAll_32 : decode cX15_addAll 32 = .ok (.istore_n 3, 1) := by decide +kernel
theorem dX15_addAll_33 : decode cX15_addAll 33 = .ok (.iload_n 3, 1) := by decide +kernel
theorem dX15_addAll_34 : decode cX15_addAll 34 = .ok (.invokestatic 492, 3) := by decide +kernel
theorem dX15_addAll_37 : decode cX15_addAll 37 = .ok (.aload_n 0, 1) := by decide +kernel
theorem dX15_addAll_38 : decode cX15_addAll 38 = .ok (.getfield 252, 3) := by decide +kernel
theorem dX15_addAll_41 : decode cX15_addAll 41 = .ok (.getfield 221, 3) := by decide +kernel
theorem dX15_addAll_44 : decode cX15_addAll 44 = .ok (.if_icmp .eq 14, 3) := by decide +kernel
theorem dX15_addAll_47 : decode cX15_addAll 47 = .ok (.aload_n 0, 1) := by decide +kernel
theorem dX15_addAll_48 : decode cX15_addAll 48 = .ok (.iload_n 1, 1) := by decide +kernel
theorem dX15_addAll_49 : decode cX15_addAll 49 = .ok (.iload_n 2, 1) := by decide +kernel
theorem dX15_addAll_50 : decode cX15_addAll 50 = .ok (.invokevirtual 757, 3) := by decide +kernel
theorem dX15_addAll_53 : decode cX15_addAll 53 = .ok (.ifCond .ne 5, 3) := by decide +kernel
theorem dX15_addAll_56 : decode cX15_addAll 56 = .ok (.iconst 0, 1) := by decide +kernel
theorem dX15_addAll_57 : decode cX15_addAll 57 = .ok (.ireturn, 1) := by decide +kernel
theorem dX15_addAll_58 : decode cX15_addAll 58 = .ok (.iconst 0, 1) := by decide +kernel
theorem dX15_addAll_59 : decode cX15_addAll 59 = .ok (.istore 4, 2) := by decide +kernel
theorem dX15_addAll_61 : decode cX15_addAll 61 = .ok (.iload 4, 2) := by decide +kernel
theorem dX15_addAll_63 : decode cX15_addAll 63 = .ok (.aload_n 0, 1) := by decide +kernel
theorem dX15_addAll_64 : decode cX15_addAll 64 = .ok (.getfield 252, 3) := by decide +kernel
theorem dX15_addAll_67 : decode cX15_addAll 67 = .ok (.getfield 215, 3) := by decide +kernel
theorem dX15_addAll_70 : decode cX15_addAll 70 = .ok (.iload_n 3, 1) := by decide +kernel
theorem dX15_addAll_71 : decode cX15_addAll 71 = .ok (.invokestatic 492, 3) := by decide +kernel
theorem dX15_addAll_74 : decode cX15_addAll 74 = .ok (.iaload, 1) := by decide +kernel
theorem dX15_addAll_75 : decode cX15_addAll 75 = .ok (.if_icmp .ge 93, 3) := by decide +kernel
theorem dX15_addAll_78 : decode cX15_addAll 78 = .ok (.iconst 0, 1) := by decide +kernel
theorem dX15_addAll_79 : decode cX15_addAll 79 = .ok (.istore 5, 2) := by decide +kernel
theorem dX15_addAll_81 : decode cX15_addAll 81 = .ok (.iload 5, 2) := by decide +kernel
theorem dX15_addAll_83 : decode cX15_addAll 83 = .ok (.aload_n 0, 1) := by decide +kernel
theorem dX15_addAll_84 : decode cX15_addAll 84 = .ok (.getfield 333, 3) := by decide +kernel
theorem dX15_addAll_87 : decode cX15_addAll 87 = .ok (.iload_n 1, 1) := by decide +kernel
theorem dX15_addAll_88 : decode cX15_addAll 88 = .ok (.iaload, 1) := by decide +kernel
theorem dX15_addAll_89 : decode cX15_addAll 89 = .ok (.if_icmp .ge 27, 3) := by decide +kernel
theorem dX15_addAll_92 : decode cX15_addAll 92 = .ok (.aload_n 0, 1) := by decide +kernel
theorem dX15_addAll_93 : decode cX15_addAll 93 = .ok (.getfield 359, 3) := by decide +kernel
theorem dX15_addAll_96 : decode cX15_addAll 96 = .ok (.iload 5, 2) := by decide +kernel
theorem dX15_addAll_98 : decode cX15_addAll 98 = .ok (.aload_n 0, 1) := by decide +kernel
theorem dX15_addAll_99 : decode cX15_addAll 99 = .ok (.getfield 336, 3) := by decide +kernel
theorem dX15_addAll_102 : decode cX15_addAll 102 = .ok (.iconst 5, 1) := by decide +kernel
theorem dX15_addAll_103 : decode cX15_addAll 103 = .ok (.iload_n 1, 1) := by decide +kernel
theorem dX15_addAll_104 : decode cX15_addAll 104 = .ok (.imul, 1) := by decide +kernel
theorem dX15_addAll_105 : decode cX15_addAll 105 = .ok (.iload 5, 2) := by decide +kernel
theorem dX15_addAll_107 : decode cX15_addAll 107 = .ok (.iadd, 1) := by decide +kernel
theorem dX15_addAll_108 : decode cX15_addAll 108 = .ok (.iaload, 1) := by decide +kernel
theorem dX15_addAll_109 : decode cX15_addAll 109 = .ok (.iastore, 1) := by decide +kernel
theorem dX15_addAll_110 : decode cX15_addAll 110 = .ok (.iinc 5 1, 3) := by decide +kernel
theorem dX15_addAll_113 : decode cX15_addAll 113 = .ok (.goto (-32), 3) := by decide +kernel
theorem dX15_addAll_116 : decode cX15_addAll 116 = .ok (.aload_n 0, 1) := by decide +kernel
theorem dX15_addAll_117 : decode cX15_addAll 117 = .ok (.getfield 359, 3) := by decide +kernel
theorem dX15_addAll_120 : decode cX15_addAll 120 = .ok (.iload_n 2, 1) := by decide +kernel
theorem dX15_addAll_121 : decode cX15_addAll 121 = .ok (.aload_n 0, 1) := by decide +kernel
theorem dX15_addAll_122 : decode cX15_addAll 122 = .ok (.getfield 252, 3) := by decide +kernel
theorem dX15_addAll_125 : decode cX15_addAll 125 = .ok (.getfield 223, 3) := by decide +kernel
theorem dX15_addAll_128 : decode cX15_addAll 128 = .ok (.bipush 6, 2) := by decide +kernel
theorem dX15_addAll_130 : decode cX15_addAll 130 = .ok (.iload_n 3, 1) := by decide +kernel
theorem dX15_addAll_131 : decode cX15_addAll 131 = .ok (.invokestatic 492, 3) := by decide +kernel
theorem dX15_addAll_134 : decode cX15_addAll 134 = .ok (.imul, 1) := by decide +kernel
theorem dX15_addAll_135 : decode cX15_addAll 135 = .ok (.iload 4, 2) := by decide +kernel
theorem dX15_addAll_137 : decode cX15_addAll 137 = .ok (.iadd, 1) := by decide +kernel
theorem dX15_addAll_138 : decode cX15_addAll 138 = .ok (.iaload, 1) := by decide +kernel
theorem dX15_addAll_139 : decode cX15_addAll 139 = .ok (.iload_n 3, 1) := by decide +kernel
theorem dX15_addAll_140 : decode cX15_addAll 140 = .ok (.invokestatic 489, 3) := by decide +kernel
theorem dX15_addAll_143 : decode cX15_addAll 143 = .ok (.invokestatic 398, 3) := by decide +kernel
theorem dX15_addAll_146 : decode cX15_addAll 146 = .ok (.iastore, 1) := by decide +kernel
theorem dX15_addAll_147 : decode cX15_addAll 147 = .ok (.aload_n 0, 1) := by decide +kernel
theorem dX15_addAll_148 : decode cX15_addAll 148 = .ok (.aload_n 0, 1) := by decide +kernel
theorem dX15_addAll_149 : decode cX15_addAll 149 = .ok (.getfield 333, 3) := by decide +kernel
theorem dX15_addAll_152 : decode cX15_addAll 152 = .ok (.iload_n 1, 1) := by decide +kernel
theorem dX15_addAll_153 : decode cX15_addAll 153 = .ok (.iaload, 1) := by decide +kernel
theorem dX15_addAll_154 : decode cX15_addAll 154 = .ok (.invokevirtual 754, 3) := by decide +kernel
theorem dX15_addAll_157 : decode cX15_addAll 157 = .ok (.ifCond .ne 5, 3) := by decide +kernel
theorem dX15_addAll_160 : decode cX15_addAll 160 = .ok (.iconst 0, 1) := by decide +kernel
theorem dX15_addAll_161 : decode cX15_addAll 161 = .ok (.ireturn, 1) := by decide +kernel
theorem dX15_addAll_162 : decode cX15_addAll 162 = .ok (.iinc 4 1, 3) := by decide +kernel
theorem dX15_addAll_165 : decode cX15_addAll 165 = .ok (.goto (-104), 3) := by decide +kernel
theorem dX15_addAll_168 : decode cX15_addAll 168 = .ok (.iinc 2 1, 3) := by decide +kernel
theorem dX15_addAll_171 : decode cX15_addAll 171 = .ok (.goto (-159), 3) := by decide +kernel
theorem dX15_addAll_174 : decode cX15_addAll 174 = .ok (.iinc 1 1, 3) := by decide +kernel
theorem dX15_addAll_177 : decode cX15_addAll 177 = .ok (.goto (-175), 3) := by decide +kernel
theorem dX15_addAll_180 : decode cX15_addAll 180 = .ok (.iconst 1, 1) := by decide +kernel
theorem dX15_addAll_181 : decode cX15_addAll 181 = .ok (.ireturn, 1) := by decide +kernel
set_option maxRecDepth 20000 in
theorem moX15_addAll_81 {o : Int32 × Hp} {k_2 : Hp → Nat → Int32 → Option (Int32 × Hp)} {k_12 : Hp → Nat → Int32 → Int32 → Option (Int32 × Hp)} {k_61 : Hp → Nat → Int32 → Int32 → Int32 → Int32 → Option (Int32 × Hp)} {F : Nat} (mk_2 : ∀ (h : Hp) (x0 : Nat) (x1 : Int32), k_2 h x0 x1 = some o → Le h o.2) (mk_12 : ∀ (h : Hp) (x0 : Nat) (x1 : Int32) (x2 : Int32), k_12 h x0 x1 x2 = some o → Le h o.2) (mk_61 : ∀ (h : Hp) (x0 : Nat) (x1 : Int32) (x2 : Int32) (x3 : Int32) (x4 : Int32), k_61 h x0 x1 x2 x3 x4 = some o → Le h o.2) : ∀ (f : Nat) {h : Hp} {x0 : Nat} {x1 : Int32} {x2 : Int32} {x3 : Int32} {x4 : Int32} {x5 : Int32}, sX15_addAll_81 F k_2 k_12 k_61 f h x0 x1 x2 x3 x4 x5 = some o → Le h o.2 := by
  intro f
  induction f with
  | zero =>
    intro h x0 x1 x2 x3 x4 x5 hE
    rw [sX15_addAll_81] at hE
    cases hE
  | succ f ih =>
    intro h x0 x1 x2 x3 x4 x5 hE
    rw [sX15_addAll_81] at hE
    have mk_81 : ∀ (h : Hp) (x0 : Nat) (x1 : Int32) (x2 : Int32) (x3 : Int32) (x4 : Int32) (x5 : Int32), sX15_addAll_81 F k_2 k_12 k_61 f h x0 x1 x2 x3 x4 x5 = some o → Le h o.2 := fun h x0 x1 x2 x3 x4 x5 hE => ih hE
    obtain ⟨r_1, er_1, hE⟩ := cl_e hE
    obtain ⟨g_2, hE⟩ := gd_e hE
    rcases br_e hE with ⟨_, hE⟩ | ⟨_, hE⟩
    · obtain ⟨r_4, er_4, hE⟩ := cl_e hE
      obtain ⟨r_5, er_5, hE⟩ := cl_e hE
      obtain ⟨r_6, er_6, hE⟩ := cl_e hE
      obtain ⟨o_7, eo_7, hE⟩ := cl_e hE
      refine (moX15_manOf eo_7).tr ?_
      obtain ⟨g_8, hE⟩ := gd_e hE
      obtain ⟨o_9, eo_9, hE⟩ := cl_e hE
      refine (moX15_sideOf eo_9).tr ?_
      obtain ⟨o_10, eo_10, hE⟩ := cl_e hE
      refine (moX15_valueOf eo_10).tr ?_
      obtain ⟨g_11, hE⟩ := gd_e hE
      obtain ⟨h_12, eh_12, hE⟩ := nm_e2 hE
      refine (le_I eh_12).tr ?_
      obtain ⟨r_13, er_13, hE⟩ := cl_e hE
      obtain ⟨g_14, hE⟩ := gd_e hE
      obtain ⟨o_15, eo_15, hE⟩ := cl_e hE
      refine (moX15_addSet eo_15).tr ?_
      rcases br_e hE with ⟨_, hE⟩ | ⟨_, hE⟩
      · exact le_some2 hE
      · obtain ⟨v_17, ev_17, hE⟩ := nm_e2 hE
        exact mk_61 _ _ _ _ _ _ hE
    · obtain ⟨r_18, er_18, hE⟩ := cl_e hE
      obtain ⟨r_19, er_19, hE⟩ := cl_e hE
      obtain ⟨g_20, hE⟩ := gd_e hE
      obtain ⟨g_21, hE⟩ := gd_e hE
      obtain ⟨h_22, eh_22, hE⟩ := nm_e2 hE
      refine (le_I eh_22).tr ?_
      obtain ⟨v_23, ev_23, hE⟩ := nm_e2 hE
      exact mk_81 _ _ _ _ _ _ _ hE
set_option maxRecDepth 20000 in
theorem moX15_addAll_61 {o : Int32 × Hp} {k_2 : Hp → Nat → Int32 → Option (Int32 × Hp)} {k_12 : Hp → Nat → Int32 → Int32 → Option (Int32 × Hp)} {F : Nat} (mk_2 : ∀ (h : Hp) (x0 : Nat) (x1 : Int32), k_2 h x0 x1 = some o → Le h o.2) (mk_12 : ∀ (h : Hp) (x0 : Nat) (x1 : Int32) (x2 : Int32), k_12 h x0 x1 x2 = some o → Le h o.2) : ∀ (f : Nat) {h : Hp} {x0 : Nat} {x1 : Int32} {x2 : Int32} {x3 : Int32} {x4 : Int32}, sX15_addAll_61 F k_2 k_12 f h x0 x1 x2 x3 x4 = some o → Le h o.2 := by
  intro f
  induction f with
  | zero =>
    intro h x0 x1 x2 x3 x4 hE
    rw [sX15_addAll_61] at hE
    cases hE
  | succ f ih =>
    intro h x0 x1 x2 x3 x4 hE
    rw [sX15_addAll_61] at hE
    have mk_61 : ∀ (h : Hp) (x0 : Nat) (x1 : Int32) (x2 : Int32) (x3 : Int32) (x4 : Int32), sX15_addAll_61 F k_2 k_12 f h x0 x1 x2 x3 x4 = some o → Le h o.2 := fun h x0 x1 x2 x3 x4 hE => ih hE
    obtain ⟨r_1, er_1, hE⟩ := cl_e hE
    obtain ⟨r_2, er_2, hE⟩ := cl_e hE
    obtain ⟨o_3, eo_3, hE⟩ := cl_e hE
    refine (moX15_manOf eo_3).tr ?_
    obtain ⟨g_4, hE⟩ := gd_e hE
    rcases br_e hE with ⟨_, hE⟩ | ⟨_, hE⟩
    · obtain ⟨v_6, ev_6, hE⟩ := nm_e2 hE
      exact mk_12 _ _ _ _ hE
    · exact moX15_addAll_81 mk_2 mk_12 mk_61 _ hE
set_option maxRecDepth 20000 in
theorem moX15_addAll_58 {o : Int32 × Hp} {k_2 : Hp → Nat → Int32 → Option (Int32 × Hp)} {k_12 : Hp → Nat → Int32 → Int32 → Option (Int32 × Hp)} {F : Nat} (mk_2 : ∀ (h : Hp) (x0 : Nat) (x1 : Int32), k_2 h x0 x1 = some o → Le h o.2) (mk_12 : ∀ (h : Hp) (x0 : Nat) (x1 : Int32) (x2 : Int32), k_12 h x0 x1 x2 = some o → Le h o.2) {h : Hp} {x0 : Nat} {x1 : Int32} {x2 : Int32} {x3 : Int32} (hE : sX15_addAll_58 F k_2 k_12 h x0 x1 x2 x3 = some o) : Le h o.2 := by
  exact moX15_addAll_61 mk_2 mk_12 _ hE
set_option maxRecDepth 20000 in
theorem moX15_addAll_12 {o : Int32 × Hp} {k_2 : Hp → Nat → Int32 → Option (Int32 × Hp)} {F : Nat} (mk_2 : ∀ (h : Hp) (x0 : Nat) (x1 : Int32), k_2 h x0 x1 = some o → Le h o.2) : ∀ (f : Nat) {h : Hp} {x0 : Nat} {x1 : Int32} {x2 : Int32}, sX15_addAll_12 F k_2 f h x0 x1 x2 = some o → Le h o.2 := by
  intro f
  induction f with
  | zero =>
    intro h x0 x1 x2 hE
    rw [sX15_addAll_12] at hE
    cases hE
  | succ f ih =>
    intro h x0 x1 x2 hE
    rw [sX15_addAll_12] at hE
    have mk_12 : ∀ (h : Hp) (x0 : Nat) (x1 : Int32) (x2 : Int32), sX15_addAll_12 F k_2 f h x0 x1 x2 = some o → Le h o.2 := fun h x0 x1 x2 hE => ih hE
    obtain ⟨r_1, er_1, hE⟩ := cl_e hE
    obtain ⟨g_2, hE⟩ := gd_e hE
    rcases br_e hE with ⟨_, hE⟩ | ⟨_, hE⟩
    · obtain ⟨v_4, ev_4, hE⟩ := nm_e2 hE
      exact mk_2 _ _ _ hE
    · obtain ⟨r_5, er_5, hE⟩ := cl_e hE
      obtain ⟨g_6, hE⟩ := gd_e hE
      obtain ⟨v_7, ev_7, hE⟩ := nm_e2 hE
      obtain ⟨o_8, eo_8, hE⟩ := cl_e hE
      refine (moX15_manOf eo_8).tr ?_
      obtain ⟨r_9, er_9, hE⟩ := cl_e hE
      rcases br_e hE with ⟨_, hE⟩ | ⟨_, hE⟩
      · exact moX15_addAll_58 mk_2 mk_12 hE
      · obtain ⟨o_11, eo_11, hE⟩ := cl_e hE
        refine (moX15_copyWithout eo_11).tr ?_
        rcases br_e hE with ⟨_, hE⟩ | ⟨_, hE⟩
        · exact le_some2 hE
        · exact moX15_addAll_58 mk_2 mk_12 hE
set_option maxRecDepth 20000 in
theorem moX15_addAll_2 {o : Int32 × Hp} {F : Nat} : ∀ (f : Nat) {h : Hp} {x0 : Nat} {x1 : Int32}, sX15_addAll_2 F f h x0 x1 = some o → Le h o.2 := by
  intro f
  induction f with
  | zero =>
    intro h x0 x1 hE
    rw [sX15_addAll_2] at hE
    cases hE
  | succ f ih =>
    intro h x0 x1 hE
    rw [sX15_addAll_2] at hE
    have mk_2 : ∀ (h : Hp) (x0 : Nat) (x1 : Int32), sX15_addAll_2 F f h x0 x1 = some o → Le h o.2 := fun h x0 x1 hE => ih hE
    rcases br_e hE with ⟨_, hE⟩ | ⟨_, hE⟩
    · exact le_some2 hE
    · exact moX15_addAll_12 mk_2 _ hE
set_option maxRecDepth 20000 in
theorem moX15_addAll {o : Int32 × Hp} {F : Nat} {h : Hp} {x0 : Nat} (hE : sX15_addAll F h x0 = some o) : Le h o.2 := by
  exact moX15_addAll_2 _ hE
set_option maxRecDepth 20000 in
theorem bX15_addAll_81 {p : Program} {l : Launch} {e : Env} {s : State} {m : MethodId} {args : Array Value} {below : List Frame} {meth : Method} {c : Code} {X : Ec} {h0 : Hp} {o : Int32 × Hp} {k_2 : Hp → Nat → Int32 → Option (Int32 × Hp)} {k_12 : Hp → Nat → Int32 → Int32 → Option (Int32 × Hp)} {k_61 : Hp → Nat → Int32 → Int32 → Int32 → Int32 → Option (Int32 × Hp)} {F : Nat} (C : Cx X p s m args meth c RX15 cX15_addAll 6 (some .boolean) "addAll") (hk_2 : ∀ (h : Hp) (x0 : Nat) (x1 : Int32) (H : Heap) (locs : List Loc), hK h x0 = 15 → Km h0 h → Wx X h H → va_S (aA (eB X)) s.heap H locs → ∀ (ls : Array Slot), lv_has ls 6 [(0, .ref x0), (1, .int x1)] → k_2 h x0 x1 = some o → W p l e (rm 4 93) s m args below meth c H locs 0 0 (MQ below (QI X h0 o.1 o.2) args s 0 0 (aA (eB X))) (F0 m 2 ls [])) (hk_12 : ∀ (h : Hp) (x0 : Nat) (x1 : Int32) (x2 : Int32) (H : Heap) (locs : List Loc), hK h x0 = 15 → Km h0 h → Wx X h H → va_S (aA (eB X)) s.heap H locs → ∀ (ls : Array Slot), lv_has ls 6 [(0, .ref x0), (1, .int x1), (2, .int x2)] → k_12 h x0 x1 x2 = some o → W p l e (rm 4 93) s m args below meth c H locs 0 0 (MQ below (QI X h0 o.1 o.2) args s 0 0 (aA (eB X))) (F0 m 12 ls [])) (hk_61 : ∀ (h : Hp) (x0 : Nat) (x1 : Int32) (x2 : Int32) (x3 : Int32) (x4 : Int32) (H : Heap) (locs : List Loc), hK h x0 = 15 → Km h0 h → Wx X h H → va_S (aA (eB X)) s.heap H locs → ∀ (ls : Array Slot), lv_has ls 6 [(0, .ref x0), (1, .int x1), (2, .int x2), (3, .int x3), (4, .int x4)] → k_61 h x0 x1 x2 x3 x4 = some o → W p l e (rm 4 93) s m args below meth c H locs 0 0 (MQ below (QI X h0 o.1 o.2) args s 0 0 (aA (eB X))) (F0 m 61 ls [])) : ∀ (f : Nat) {h : Hp} {x0 : Nat} {x1 : Int32} {x2 : Int32} {x3 : Int32} {x4 : Int32} {x5 : Int32} {H : Heap} {locs : List Loc} (k_x0 : hK h x0 = 15), Km h0 h → Wx X h H → va_S (aA (eB X)) s.heap H locs → ∀ (ls : Array Slot), lv_has ls 6 [(0, .ref x0), (1, .int x1), (2, .int x2), (3, .int x3), (4, .int x4), (5, .int x5)] → sX15_addAll_81 F k_2 k_12 k_61 f h x0 x1 x2 x3 x4 x5 = some o → W p l e (rm 4 93) s m args below meth c H locs 0 0 (MQ below (QI X h0 o.1 o.2) args s 0 0 (aA (eB X))) (F0 m 81 ls []) := by
  intro f
  induction f with
  | zero =>
    intro h x0 x1 x2 x3 x4 x5 H locs k_x0 hkm hW hZ ls hl hE
    rw [sX15_addAll_81] at hE
    cases hE
  | succ f ih =>
    intro h x0 x1 x2 x3 x4 x5 H locs k_x0 hkm hW hZ ls hl hE
    rw [sX15_addAll_81] at hE
    have hk_81 : ∀ (h : Hp) (x0 : Nat) (x1 : Int32) (x2 : Int32) (x3 : Int32) (x4 : Int32) (x5 : Int32) (H : Heap) (locs : List Loc), hK h x0 = 15 → Km h0 h → Wx X h H → va_S (aA (eB X)) s.heap H locs → ∀ (ls : Array Slot), lv_has ls 6 [(0, .ref x0), (1, .int x1), (2, .int x2), (3, .int x3), (4, .int x4), (5, .int x5)] → sX15_addAll_81 F k_2 k_12 k_61 f h x0 x1 x2 x3 x4 x5 = some o → W p l e (rm 4 93) s m args below meth c H locs 0 0 (MQ below (QI X h0 o.1 o.2) args s 0 0 (aA (eB X))) (F0 m 81 ls []) := fun h x0 x1 x2 x3 x4 x5 H locs k_x0 a b c ls hl hE => ih k_x0 a b c ls hl hE
    refine lv_iload C.1 C.2.1 dX15_addAll_81 (lv_at hl 5 rfl) ?_
    refine lv_aload_n C.1 C.2.1 dX15_addAll_83 rfl (lv_at hl 0 rfl) ?_
    obtain ⟨r_1, er_1, hE⟩ := cl_e hE
    refine gf_X15_333 C hW k_x0 er_1 dX15_addAll_84 (fun k_r_1 => ?_)
    refine lv_iload_n C.1 C.2.1 dX15_addAll_87 rfl (lv_at hl 1 rfl) ?_
    obtain ⟨g_2, hE⟩ := gd_e hE
    refine y_iald C hW k_r_1 g_2 dX15_addAll_88 ?_
    refine lv_icmp_ge (tgt := 116) C.1 C.2.1 dX15_addAll_89 (by decide) (fun c_3 => ?_) (fun c_3 => ?_)
    · have hE := br_p hE c_3
      refine lv_aload_n C.1 C.2.1 dX15_addAll_116 rfl (lv_at hl 0 rfl) ?_
      obtain ⟨r_4, er_4, hE⟩ := cl_e hE
      refine gf_X15_359 C hW k_x0 er_4 dX15_addAll_117 (fun k_r_4 => ?_)
      refine lv_iload_n C.1 C.2.1 dX15_addAll_120 rfl (lv_at hl 2 rfl) ?_
      refine lv_aload_n C.1 C.2.1 dX15_addAll_121 rfl (lv_at hl 0 rfl) ?_
      obtain ⟨r_5, er_5, hE⟩ := cl_e hE
      refine gf_X15_252 C hW k_x0 er_5 dX15_addAll_122 (fun k_r_5 => ?_)
      obtain ⟨r_6, er_6, hE⟩ := cl_e hE
      refine gf_X15_223 C hW k_r_5 er_6 dX15_addAll_125 (fun k_r_6 => ?_)
      refine lv_bipush (v := (6 : Int32)) C.1 C.2.1 dX15_addAll_128 (by decide) ?_
      refine lv_iload_n C.1 C.2.1 dX15_addAll_130 rfl (lv_at hl 3 rfl) ?_
      obtain ⟨o_7, eo_7, hE⟩ := cl_e hE
      refine x_kI (o := o_7) (z_runS (As := [.int x3]) (rest := [.int (6 : Int32), .ref r_6, .int x2, .ref r_4]) C (ct_X15_manOf l X eo_7) cw_X15_492 hW hZ rfl hl.1 (Nat.le_of_ble_eq_true rfl) rfl dX15_addAll_131 ⟨Nat.le_of_ble_eq_true rfl, Nat.le_of_ble_eq_true rfl⟩ ⟨Nat.le_refl _, Nat.le_refl _⟩) hZ (fun _ _ hW km hZ => ?_)
      replace hkm := hkm.tr km
      replace k_x0 := km.at k_x0 (by decide)
      replace k_r_6 := km.at k_r_6 (by decide)
      replace k_r_4 := km.at k_r_4 (by decide)
      refine lv_imul C.1 C.2.1 dX15_addAll_134 ?_
      refine lv_iload C.1 C.2.1 dX15_addAll_135 (lv_at hl 4 rfl) ?_
      refine lv_iadd C.1 C.2.1 dX15_addAll_137 ?_
      obtain ⟨g_8, hE⟩ := gd_e hE
      refine y_iald C hW k_r_6 g_8 dX15_addAll_138 ?_
      refine lv_iload_n C.1 C.2.1 dX15_addAll_139 rfl (lv_at hl 3 rfl) ?_
      obtain ⟨o_9, eo_9, hE⟩ := cl_e hE
      refine x_kI (o := o_9) (z_runS (As := [.int x3]) (rest := [.int (hI o_7.2 r_6 (((6 : Int32) * o_7.1) + x4).toNatClampNeg), .int x2, .ref r_4]) C (ct_X15_sideOf l X eo_9) cw_X15_489 hW hZ rfl hl.1 (Nat.le_of_ble_eq_true rfl) rfl dX15_addAll_140 ⟨Nat.le_of_ble_eq_true rfl, Nat.le_of_ble_eq_true rfl⟩ ⟨Nat.le_refl _, Nat.le_refl _⟩) hZ (fun _ _ hW km hZ => ?_)
      replace hkm := hkm.tr km
      replace k_x0 := km.at k_x0 (by decide)
      replace k_r_4 := km.at k_r_4 (by decide)
      obtain ⟨o_10, eo_10, hE⟩ := cl_e hE
      refine x_kI (o := o_10) (z_runS (As := [.int (hI o_7.2 r_6 (((6 : Int32) * o_7.1) + x4).toNatClampNeg), .int o_9.1]) (rest := [.int x2, .ref r_4]) C (ct_X15_valueOf l X eo_10) cw_X15_398 hW hZ rfl hl.1 (Nat.le_of_ble_eq_true rfl) rfl dX15_addAll_143 ⟨Nat.le_of_ble_eq_true rfl, Nat.le_of_ble_eq_true rfl⟩ ⟨Nat.le_refl _, Nat.le_refl _⟩) hZ (fun _ _ hW km hZ => ?_)
      replace hkm := hkm.tr km
      replace k_x0 := km.at k_x0 (by decide)
      replace k_r_4 := km.at k_r_4 (by decide)
      obtain ⟨g_11, hE⟩ := gd_e hE
      obtain ⟨h_12, eh_12, hE⟩ := nm_e2 hE
      refine y_iast C hW hZ k_r_4 g_11 eh_12 dX15_addAll_146 (fun _ _ hW km hZ => ?_)
      replace hkm := hkm.tr km
      replace k_x0 := km.at k_x0 (by decide)
      refine lv_aload_n C.1 C.2.1 dX15_addAll_147 rfl (lv_at hl 0 rfl) ?_
      refine lv_aload_n C.1 C.2.1 dX15_addAll_148 rfl (lv_at hl 0 rfl) ?_
      obtain ⟨r_13, er_13, hE⟩ := cl_e hE
      refine gf_X15_333 C hW k_x0 er_13 dX15_addAll_149 (fun k_r_13 => ?_)
      refine lv_iload_n C.1 C.2.1 dX15_addAll_152 rfl (lv_at hl 1 rfl) ?_
      obtain ⟨g_14, hE⟩ := gd_e hE
      refine y_iald C hW k_r_13 g_14 dX15_addAll_153 ?_
      obtain ⟨o_15, eo_15, hE⟩ := cl_e hE
      refine x_kI (o := o_15) (z_runV (As := [.int (hI h_12 r_13 x1.toNatClampNeg)]) (rest := []) C (ct_X15_addSet l X F k_x0 eo_15) cw_X15_754 hW hZ k_x0 (by decide) rfl rfl rfl hl.1 (Nat.le_of_ble_eq_true rfl) rfl dX15_addAll_154 ⟨Nat.le_of_ble_eq_true rfl, Nat.le_of_ble_eq_true rfl⟩ ⟨Nat.le_refl _, Nat.le_refl _⟩) hZ (fun _ _ hW km hZ => ?_)
      replace hkm := hkm.tr km
      replace k_x0 := km.at k_x0 (by decide)
      refine lv_if_ne (tgt := 162) C.1 C.2.1 dX15_addAll_157 (by decide) (fun c_16 => ?_) (fun c_16 => ?_)
      · have hE := br_n hE c_16
        obtain ⟨v_17, ev_17, hE⟩ := nm_e2 hE
        refine lv_iinc (v := v_17) (lv' := [(4, .int v_17), (0, .ref x0), (1, .int x1), (2, .int x2), (3, .int x3), (5, .int x5)]) C.1 C.2.1 dX15_addAll_162 hl (k := 4) rfl (by rw [ev_17]; rfl) (by decide) rfl (fun ls hl => ?_)
        refine lv_goto (tgt := 61) C.1 C.2.1 dX15_addAll_165 (by decide) ?_
        exact hk_61 _ _ _ _ _ _ _ _ k_x0 hkm hW hZ _ (lv_sub hl [1, 2, 3, 4, 0] rfl) hE
      · have hE := br_p hE c_16
        refine lv_iconst (v := (0 : Int32)) C.1 C.2.1 dX15_addAll_160 (by decide) ?_
        exact x_iret C rfl (by decide) hW hZ hkm hE dX15_addAll_161
    · have hE := br_n hE c_3
      refine lv_aload_n C.1 C.2.1 dX15_addAll_92 rfl (lv_at hl 0 rfl) ?_
      obtain ⟨r_18, er_18, hE⟩ := cl_e hE
      refine gf_X15_359 C hW k_x0 er_18 dX15_addAll_93 (fun k_r_18 => ?_)
      refine lv_iload C.1 C.2.1 dX15_addAll_96 (lv_at hl 5 rfl) ?_
      refine lv_aload_n C.1 C.2.1 dX15_addAll_98 rfl (lv_at hl 0 rfl) ?_
      obtain ⟨r_19, er_19, hE⟩ := cl_e hE
      refine gf_X15_336 C hW k_x0 er_19 dX15_addAll_99 (fun k_r_19 => ?_)
      refine lv_iconst (v := (5 : Int32)) C.1 C.2.1 dX15_addAll_102 (by decide) ?_
      refine lv_iload_n C.1 C.2.1 dX15_addAll_103 rfl (lv_at hl 1 rfl) ?_
      refine lv_imul C.1 C.2.1 dX15_addAll_104 ?_
      refine lv_iload C.1 C.2.1 dX15_addAll_105 (lv_at hl 5 rfl) ?_
      refine lv_iadd C.1 C.2.1 dX15_addAll_107 ?_
      obtain ⟨g_20, hE⟩ := gd_e hE
      refine y_iald C hW k_r_19 g_20 dX15_addAll_108 ?_
      obtain ⟨g_21, hE⟩ := gd_e hE
      obtain ⟨h_22, eh_22, hE⟩ := nm_e2 hE
      refine y_iast C hW hZ k_r_18 g_21 eh_22 dX15_addAll_109 (fun _ _ hW km hZ => ?_)
      replace hkm := hkm.tr km
      replace k_x0 := km.at k_x0 (by decide)
      obtain ⟨v_23, ev_23, hE⟩ := nm_e2 hE
      refine lv_iinc (v := v_23) (lv' := [(5, .int v_23), (0, .ref x0), (1, .int x1), (2, .int x2), (3, .int x3), (4, .int x4)]) C.1 C.2.1 dX15_addAll_110 hl (k := 5) rfl (by rw [ev_23]; rfl) (by decide) rfl (fun ls hl => ?_)
      refine lv_goto (tgt := 81) C.1 C.2.1 dX15_addAll_113 (by decide) ?_
      exact hk_81 _ _ _ _ _ _ _ _ _ k_x0 hkm hW hZ _ (lv_sub hl [1, 2, 3, 4, 5, 0] rfl) hE
set_option maxRecDepth 20000 in
theorem bX15_addAll_61 {p : Program} {l : Launch} {e : Env} {s : State} {m : MethodId} {args : Array Value} {below : List Frame} {meth : Method} {c : Code} {X : Ec} {h0 : Hp} {o : Int32 × Hp} {k_2 : Hp → Nat → Int32 → Option (Int32 × Hp)} {k_12 : Hp → Nat → Int32 → Int32 → Option (Int32 × Hp)} {F : Nat} (C : Cx X p s m args meth c RX15 cX15_addAll 6 (some .boolean) "addAll") (hk_2 : ∀ (h : Hp) (x0 : Nat) (x1 : Int32) (H : Heap) (locs : List Loc), hK h x0 = 15 → Km h0 h → Wx X h H → va_S (aA (eB X)) s.heap H locs → ∀ (ls : Array Slot), lv_has ls 6 [(0, .ref x0), (1, .int x1)] → k_2 h x0 x1 = some o → W p l e (rm 4 93) s m args below meth c H locs 0 0 (MQ below (QI X h0 o.1 o.2) args s 0 0 (aA (eB X))) (F0 m 2 ls [])) (hk_12 : ∀ (h : Hp) (x0 : Nat) (x1 : Int32) (x2 : Int32) (H : Heap) (locs : List Loc), hK h x0 = 15 → Km h0 h → Wx X h H → va_S (aA (eB X)) s.heap H locs → ∀ (ls : Array Slot), lv_has ls 6 [(0, .ref x0), (1, .int x1), (2, .int x2)] → k_12 h x0 x1 x2 = some o → W p l e (rm 4 93) s m args below meth c H locs 0 0 (MQ below (QI X h0 o.1 o.2) args s 0 0 (aA (eB X))) (F0 m 12 ls [])) : ∀ (f : Nat) {h : Hp} {x0 : Nat} {x1 : Int32} {x2 : Int32} {x3 : Int32} {x4 : Int32} {H : Heap} {locs : List Loc} (k_x0 : hK h x0 = 15), Km h0 h → Wx X h H → va_S (aA (eB X)) s.heap H locs → ∀ (ls : Array Slot), lv_has ls 6 [(0, .ref x0), (1, .int x1), (2, .int x2), (3, .int x3), (4, .int x4)] → sX15_addAll_61 F k_2 k_12 f h x0 x1 x2 x3 x4 = some o → W p l e (rm 4 93) s m args below meth c H locs 0 0 (MQ below (QI X h0 o.1 o.2) args s 0 0 (aA (eB X))) (F0 m 61 ls []) := by
  intro f
  induction f with
  | zero =>
    intro h x0 x1 x2 x3 x4 H locs k_x0 hkm hW hZ ls hl hE
    rw [sX15_addAll_61] at hE
    cases hE
  | succ f ih =>
    intro h x0 x1 x2 x3 x4 H locs k_x0 hkm hW hZ ls hl hE
    rw [sX15_addAll_61] at hE
    have hk_61 : ∀ (h : Hp) (x0 : Nat) (x1 : Int32) (x2 : Int32) (x3 : Int32) (x4 : Int32) (H : Heap) (locs : List Loc), hK h x0 = 15 → Km h0 h → Wx X h H → va_S (aA (eB X)) s.heap H locs → ∀ (ls : Array Slot), lv_has ls 6 [(0, .ref x0), (1, .int x1), (2, .int x2), (3, .int x3), (4, .int x4)] → sX15_addAll_61 F k_2 k_12 f h x0 x1 x2 x3 x4 = some o → W p l e (rm 4 93) s m args below meth c H locs 0 0 (MQ below (QI X h0 o.1 o.2) args s 0 0 (aA (eB X))) (F0 m 61 ls []) := fun h x0 x1 x2 x3 x4 H locs k_x0 a b c ls hl hE => ih k_x0 a b c ls hl hE
    refine lv_iload C.1 C.2.1 dX15_addAll_61 (lv_at hl 4 rfl) ?_
    refine lv_aload_n C.1 C.2.1 dX15_addAll_63 rfl (lv_at hl 0 rfl) ?_
    obtain ⟨r_1, er_1, hE⟩ := cl_e hE
    refine gf_X15_252 C hW k_x0 er_1 dX15_addAll_64 (fun k_r_1 => ?_)
    obtain ⟨r_2, er_2, hE⟩ := cl_e hE
    refine gf_X15_215 C hW k_r_1 er_2 dX15_addAll_67 (fun k_r_2 => ?_)
    refine lv_iload_n C.1 C.2.1 dX15_addAll_70 rfl (lv_at hl 3 rfl) ?_
    obtain ⟨o_3, eo_3, hE⟩ := cl_e hE
    refine x_kI (o := o_3) (z_runS (As := [.int x3]) (rest := [.ref r_2, .int x4]) C (ct_X15_manOf l X eo_3) cw_X15_492 hW hZ rfl hl.1 (Nat.le_of_ble_eq_true rfl) rfl dX15_addAll_71 ⟨Nat.le_of_ble_eq_true rfl, Nat.le_of_ble_eq_true rfl⟩ ⟨Nat.le_refl _, Nat.le_refl _⟩) hZ (fun _ _ hW km hZ => ?_)
    replace hkm := hkm.tr km
    replace k_x0 := km.at k_x0 (by decide)
    replace k_r_2 := km.at k_r_2 (by decide)
    obtain ⟨g_4, hE⟩ := gd_e hE
    refine y_iald C hW k_r_2 g_4 dX15_addAll_74 ?_
    refine lv_icmp_ge (tgt := 168) C.1 C.2.1 dX15_addAll_75 (by decide) (fun c_5 => ?_) (fun c_5 => ?_)
    · have hE := br_p hE c_5
      obtain ⟨v_6, ev_6, hE⟩ := nm_e2 hE
      refine lv_iinc (v := v_6) (lv' := [(2, .int v_6), (0, .ref x0), (1, .int x1), (3, .int x3), (4, .int x4)]) C.1 C.2.1 dX15_addAll_168 hl (k := 2) rfl (by rw [ev_6]; rfl) (by decide) rfl (fun ls hl => ?_)
      refine lv_goto (tgt := 12) C.1 C.2.1 dX15_addAll_171 (by decide) ?_
      exact hk_12 _ _ _ _ _ _ k_x0 hkm hW hZ _ (lv_sub hl [1, 2, 0] rfl) hE
    · have hE := br_n hE c_5
      refine lv_iconst (v := (0 : Int32)) C.1 C.2.1 dX15_addAll_78 (by decide) ?_
      refine lv_istore (lv' := [(5, .int (0 : Int32)), (0, .ref x0), (1, .int x1), (2, .int x2), (3, .int x3), (4, .int x4)]) C.1 C.2.1 dX15_addAll_79 hl (by decide) rfl (fun ls hl => ?_)
      exact bX15_addAll_81 C hk_2 hk_12 hk_61 F k_x0 hkm hW hZ _ (lv_sub hl [1, 2, 3, 4, 5, 0] rfl) hE
set_option maxRecDepth 20000 in
theorem bX15_addAll_58 {p : Program} {l : Launch} {e : Env} {s : State} {m : MethodId} {args : Array Value} {below : List Frame} {meth : Method} {c : Code} {X : Ec} {h0 : Hp} {o : Int32 × Hp} {k_2 : Hp → Nat → Int32 → Option (Int32 × Hp)} {k_12 : Hp → Nat → Int32 → Int32 → Option (Int32 × Hp)} {F : Nat} (C : Cx X p s m args meth c RX15 cX15_addAll 6 (some .boolean) "addAll") (hk_2 : ∀ (h : Hp) (x0 : Nat) (x1 : Int32) (H : Heap) (locs : List Loc), hK h x0 = 15 → Km h0 h → Wx X h H → va_S (aA (eB X)) s.heap H locs → ∀ (ls : Array Slot), lv_has ls 6 [(0, .ref x0), (1, .int x1)] → k_2 h x0 x1 = some o → W p l e (rm 4 93) s m args below meth c H locs 0 0 (MQ below (QI X h0 o.1 o.2) args s 0 0 (aA (eB X))) (F0 m 2 ls [])) (hk_12 : ∀ (h : Hp) (x0 : Nat) (x1 : Int32) (x2 : Int32) (H : Heap) (locs : List Loc), hK h x0 = 15 → Km h0 h → Wx X h H → va_S (aA (eB X)) s.heap H locs → ∀ (ls : Array Slot), lv_has ls 6 [(0, .ref x0), (1, .int x1), (2, .int x2)] → k_12 h x0 x1 x2 = some o → W p l e (rm 4 93) s m args below meth c H locs 0 0 (MQ below (QI X h0 o.1 o.2) args s 0 0 (aA (eB X))) (F0 m 12 ls [])) {h : Hp} {x0 : Nat} {x1 : Int32} {x2 : Int32} {x3 : Int32} {H : Heap} {locs : List Loc} (k_x0 : hK h x0 = 15) (hkm : Km h0 h) (hW : Wx X h H) (hZ : va_S (aA (eB X)) s.heap H locs) (ls : Array Slot) (hl : lv_has ls 6 [(0, .ref x0), (1, .int x1), (2, .int x2), (3, .int x3)]) (hE : sX15_addAll_58 F k_2 k_12 h x0 x1 x2 x3 = some o) : W p l e (rm 4 93) s m args below meth c H locs 0 0 (MQ below (QI X h0 o.1 o.2) args s 0 0 (aA (eB X))) (F0 m 58 ls []) := by
  refine lv_iconst (v := (0 : Int32)) C.1 C.2.1 dX15_addAll_58 (by decide) ?_
  refine lv_istore (lv' := [(4, .int (0 : Int32)), (0, .ref x0), (1, .int x1), (2, .int x2), (3, .int x3)]) C.1 C.2.1 dX15_addAll_59 hl (by decide) rfl (fun ls hl => ?_)
  exact bX15_addAll_61 C hk_2 hk_12 F k_x0 hkm hW hZ _ (lv_sub hl [1, 2, 3, 4, 0] rfl) hE
set_option maxRecDepth 20000 in
theorem bX15_addAll_12 {p : Program} {l : Launch} {e : Env} {s : State} {m : MethodId} {args : Array Value} {below : List Frame} {meth : Method} {c : Code} {X : Ec} {h0 : Hp} {o : Int32 × Hp} {k_2 : Hp → Nat → Int32 → Option (Int32 × Hp)} {F : Nat} (C : Cx X p s m args meth c RX15 cX15_addAll 6 (some .boolean) "addAll") (hk_2 : ∀ (h : Hp) (x0 : Nat) (x1 : Int32) (H : Heap) (locs : List Loc), hK h x0 = 15 → Km h0 h → Wx X h H → va_S (aA (eB X)) s.heap H locs → ∀ (ls : Array Slot), lv_has ls 6 [(0, .ref x0), (1, .int x1)] → k_2 h x0 x1 = some o → W p l e (rm 4 93) s m args below meth c H locs 0 0 (MQ below (QI X h0 o.1 o.2) args s 0 0 (aA (eB X))) (F0 m 2 ls [])) : ∀ (f : Nat) {h : Hp} {x0 : Nat} {x1 : Int32} {x2 : Int32} {H : Heap} {locs : List Loc} (k_x0 : hK h x0 = 15), Km h0 h → Wx X h H → va_S (aA (eB X)) s.heap H locs → ∀ (ls : Array Slot), lv_has ls 6 [(0, .ref x0), (1, .int x1), (2, .int x2)] → sX15_addAll_12 F k_2 f h x0 x1 x2 = some o → W p l e (rm 4 93) s m args below meth c H locs 0 0 (MQ below (QI X h0 o.1 o.2) args s 0 0 (aA (eB X))) (F0 m 12 ls []) := by
  intro f
  induction f with
  | zero =>
    intro h x0 x1 x2 H locs k_x0 hkm hW hZ ls hl hE
    rw [sX15_addAll_12] at hE
    cases hE
  | succ f ih =>
    intro h x0 x1 x2 H locs k_x0 hkm hW hZ ls hl hE
    rw [sX15_addAll_12] at hE
    have hk_12 : ∀ (h : Hp) (x0 : Nat) (x1 : Int32) (x2 : Int32) (H : Heap) (locs : List Loc), hK h x0 = 15 → Km h0 h → Wx X h H → va_S (aA (eB X)) s.heap H locs → ∀ (ls : Array Slot), lv_has ls 6 [(0, .ref x0), (1, .int x1), (2, .int x2)] → sX15_addAll_12 F k_2 f h x0 x1 x2 = some o → W p l e (rm 4 93) s m args below meth c H locs 0 0 (MQ below (QI X h0 o.1 o.2) args s 0 0 (aA (eB X))) (F0 m 12 ls []) := fun h x0 x1 x2 H locs k_x0 a b c ls hl hE => ih k_x0 a b c ls hl hE
    refine lv_iload_n C.1 C.2.1 dX15_addAll_12 rfl (lv_at hl 2 rfl) ?_
    refine lv_aload_n C.1 C.2.1 dX15_addAll_13 rfl (lv_at hl 0 rfl) ?_
    obtain ⟨r_1, er_1, hE⟩ := cl_e hE
    refine gf_X15_333 C hW k_x0 er_1 dX15_addAll_14 (fun k_r_1 => ?_)
    refine lv_iload_n C.1 C.2.1 dX15_addAll_17 rfl (lv_at hl 1 rfl) ?_
    obtain ⟨g_2, hE⟩ := gd_e hE
    refine y_iald C hW k_r_1 g_2 dX15_addAll_18 ?_
    refine lv_icmp_ge (tgt := 174) C.1 C.2.1 dX15_addAll_19 (by decide) (fun c_3 => ?_) (fun c_3 => ?_)
    · have hE := br_p hE c_3
      obtain ⟨v_4, ev_4, hE⟩ := nm_e2 hE
      refine lv_iinc (v := v_4) (lv' := [(1, .int v_4), (0, .ref x0), (2, .int x2)]) C.1 C.2.1 dX15_addAll_174 hl (k := 1) rfl (by rw [ev_4]; rfl) (by decide) rfl (fun ls hl => ?_)
      refine lv_goto (tgt := 2) C.1 C.2.1 dX15_addAll_177 (by decide) ?_
      exact hk_2 _ _ _ _ _ k_x0 hkm hW hZ _ (lv_sub hl [1, 0] rfl) hE
    · have hE := br_n hE c_3
      refine lv_aload_n C.1 C.2.1 dX15_addAll_22 rfl (lv_at hl 0 rfl) ?_
      obtain ⟨r_5, er_5, hE⟩ := cl_e hE
      refine gf_X15_336 C hW k_x0 er_5 dX15_addAll_23 (fun k_r_5 => ?_)
      refine lv_iconst (v := (5 : Int32)) C.1 C.2.1 dX15_addAll_26 (by decide) ?_
      refine lv_iload_n C.1 C.2.1 dX15_addAll_27 rfl (lv_at hl 1 rfl) ?_
      refine lv_imul C.1 C.2.1 dX15_addAll_28 ?_
      refine lv_iload_n C.1 C.2.1 dX15_addAll_29 rfl (lv_at hl 2 rfl) ?_
      refine lv_iadd C.1 C.2.1 dX15_addAll_30 ?_
      obtain ⟨g_6, hE⟩ := gd_e hE
      refine y_iald C hW k_r_5 g_6 dX15_addAll_31 ?_
      obtain ⟨v_7, ev_7, hE⟩ := nm_e2 hE
      refine x_nmI ev_7 ?_
      refine lv_istore_n (lv' := [(3, .int v_7), (0, .ref x0), (1, .int x1), (2, .int x2)]) C.1 C.2.1 dX15_addAll_32 rfl hl (by decide) rfl (fun ls hl => ?_)
      refine lv_iload_n C.1 C.2.1 dX15_addAll_33 rfl (lv_at hl 0 rfl) ?_
      obtain ⟨o_8, eo_8, hE⟩ := cl_e hE
      refine x_kI (o := o_8) (z_runS (As := [.int v_7]) (rest := []) C (ct_X15_manOf l X eo_8) cw_X15_492 hW hZ rfl hl.1 (Nat.le_of_ble_eq_true rfl) rfl dX15_addAll_34 ⟨Nat.le_of_ble_eq_true rfl, Nat.le_of_ble_eq_true rfl⟩ ⟨Nat.le_refl _, Nat.le_refl _⟩) hZ (fun _ _ hW km hZ => ?_)
      replace hkm := hkm.tr km
      replace k_x0 := km.at k_x0 (by decide)
      refine lv_aload_n C.1 C.2.1 dX15_addAll_37 rfl (lv_at hl 1 rfl) ?_
      obtain ⟨r_9, er_9, hE⟩ := cl_e hE
      refine gf_X15_252 C hW k_x0 er_9 dX15_addAll_38 (fun k_r_9 => ?_)
      refine gf_X15_221 C hW k_r_9 dX15_addAll_41 ?_
      refine lv_icmp_eq (tgt := 58) C.1 C.2.1 dX15_addAll_44 (by decide) (fun c_10 => ?_) (fun c_10 => ?_)
      · have hE := br_p hE c_10
        exact bX15_addAll_58 C hk_2 hk_12 k_x0 hkm hW hZ _ (lv_sub hl [1, 2, 3, 0] rfl) hE
      · have hE := br_n hE c_10
        refine lv_aload_n C.1 C.2.1 dX15_addAll_47 rfl (lv_at hl 1 rfl) ?_
        refine lv_iload_n C.1 C.2.1 dX15_addAll_48 rfl (lv_at hl 2 rfl) ?_
        refine lv_iload_n C.1 C.2.1 dX15_addAll_49 rfl (lv_at hl 3 rfl) ?_
        obtain ⟨o_11, eo_11, hE⟩ := cl_e hE
        refine x_kI (o := o_11) (z_runV (As := [.int x1, .int x2]) (rest := []) C (ct_X15_copyWithout l X F k_x0 eo_11) cw_X15_757 hW hZ k_x0 (by decide) rfl rfl rfl hl.1 (Nat.le_of_ble_eq_true rfl) rfl dX15_addAll_50 ⟨Nat.le_of_ble_eq_true rfl, Nat.le_of_ble_eq_true rfl⟩ ⟨Nat.le_refl _, Nat.le_refl _⟩) hZ (fun _ _ hW km hZ => ?_)
        replace hkm := hkm.tr km
        replace k_x0 := km.at k_x0 (by decide)
        refine lv_if_ne (tgt := 58) C.1 C.2.1 dX15_addAll_53 (by decide) (fun c_12 => ?_) (fun c_12 => ?_)
        · have hE := br_n hE c_12
          exact bX15_addAll_58 C hk_2 hk_12 k_x0 hkm hW hZ _ (lv_sub hl [1, 2, 3, 0] rfl) hE
        · have hE := br_p hE c_12
          refine lv_iconst (v := (0 : Int32)) C.1 C.2.1 dX15_addAll_56 (by decide) ?_
          exact x_iret C rfl (by decide) hW hZ hkm hE dX15_addAll_57
set_option maxRecDepth 20000 in
theorem bX15_addAll_2 {p : Program} {l : Launch} {e : Env} {s : State} {m : MethodId} {args : Array Value} {below : List Frame} {meth : Method} {c : Code} {X : Ec} {h0 : Hp} {o : Int32 × Hp} {F : Nat} (C : Cx X p s m args meth c RX15 cX15_addAll 6 (some .boolean) "addAll") : ∀ (f : Nat) {h : Hp} {x0 : Nat} {x1 : Int32} {H : Heap} {locs : List Loc} (k_x0 : hK h x0 = 15), Km h0 h → Wx X h H → va_S (aA (eB X)) s.heap H locs → ∀ (ls : Array Slot), lv_has ls 6 [(0, .ref x0), (1, .int x1)] → sX15_addAll_2 F f h x0 x1 = some o → W p l e (rm 4 93) s m args below meth c H locs 0 0 (MQ below (QI X h0 o.1 o.2) args s 0 0 (aA (eB X))) (F0 m 2 ls []) := by
  intro f
  induction f with
  | zero =>
    intro h x0 x1 H locs k_x0 hkm hW hZ ls hl hE
    rw [sX15_addAll_2] at hE
    cases hE
  | succ f ih =>
    intro h x0 x1 H locs k_x0 hkm hW hZ ls hl hE
    rw [sX15_addAll_2] at hE
    have hk_2 : ∀ (h : Hp) (x0 : Nat) (x1 : Int32) (H : Heap) (locs : List Loc), hK h x0 = 15 → Km h0 h → Wx X h H → va_S (aA (eB X)) s.heap H locs → ∀ (ls : Array Slot), lv_has ls 6 [(0, .ref x0), (1, .int x1)] → sX15_addAll_2 F f h x0 x1 = some o → W p l e (rm 4 93) s m args below meth c H locs 0 0 (MQ below (QI X h0 o.1 o.2) args s 0 0 (aA (eB X))) (F0 m 2 ls []) := fun h x0 x1 H locs k_x0 a b c ls hl hE => ih k_x0 a b c ls hl hE
    refine lv_iload_n C.1 C.2.1 dX15_addAll_2 rfl (lv_at hl 1 rfl) ?_
    refine lv_aload_n C.1 C.2.1 dX15_addAll_3 rfl (lv_at hl 0 rfl) ?_
    refine gf_X15_751 C hW k_x0 dX15_addAll_4 ?_
    refine lv_icmp_ge (tgt := 180) C.1 C.2.1 dX15_addAll_7 (by decide) (fun c_1 => ?_) (fun c_1 => ?_)
    · have hE := br_p hE c_1
      refine lv_iconst (v := (1 : Int32)) C.1 C.2.1 dX15_addAll_180 (by decide) ?_
      exact x_iret C rfl (by decide) hW hZ hkm hE dX15_addAll_181
    · have hE := br_n hE c_1
      refine lv_iconst (v := (0 : Int32)) C.1 C.2.1 dX15_addAll_10 (by decide) ?_
      refine lv_istore_n (lv' := [(2, .int (0 : Int32)), (0, .ref x0), (1, .int x1)]) C.1 C.2.1 dX15_addAll_11 rfl hl (by decide) rfl (fun ls hl => ?_)
      exact bX15_addAll_12 C hk_2 F k_x0 hkm hW hZ _ (lv_sub hl [1, 2, 0] rfl) hE
set_option maxRecDepth 20000 in
theorem ct_X15_addAll (l : Launch) (X : Ec) (F : Nat) {h : Hp} {x0 : Nat} {o : Int32 × Hp} (k_x0 : hK h x0 = 15) (hE : sX15_addAll F h x0 = some o) : MetI l yX15_addAll cX15_addAll 6 (some .boolean) 4 93 X [.ref x0] h o := by
  refine x_met (by decide) (Nat.le_of_ble_eq_true rfl) ?_
  intro p e s m below meth c ls C hl hW hZ
  have hl : lv_has ls 6 [(0, .ref x0)] := hl
  have hkm : Km h h := Km.rf h
  refine lv_iconst (v := (0 : Int32)) C.1 C.2.1 dX15_addAll_0 (by decide) ?_
  refine lv_istore_n (lv' := [(1, .int (0 : Int32)), (0, .ref x0)]) C.1 C.2.1 dX15_addAll_1 rfl hl (by decide) rfl (fun ls hl => ?_)
  exact bX15_addAll_2 C F k_x0 hkm hW hZ _ (lv_sub hl [1, 0] rfl) hE
