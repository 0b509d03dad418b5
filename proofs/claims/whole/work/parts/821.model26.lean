theorem dX15_stateOfBoard_0 : decode cX15_stateOfBoard 0 = .ok (.iconst 0, 1) := by decide +kernel
theorem dX15_stateOfBoard_1 : decode cX15_stateOfBoard 1 = .ok (.istore_n 2, 1) := by decide +kernel
theorem dX15_stateOfBoard_2 : decode cX15_stateOfBoard 2 = .ok (.iconst 0, 1) := by decide +kernel
theorem dX15_stateOfBoard_3 : decode cX15_stateOfBoard 3 = .ok (.istore_n 3, 1) := by decide +kernel
theorem dX15_stateOfBoard_4 : decode cX15_stateOfBoard 4 = .ok (.iload_n 3, 1) := by decide +kernel
theorem dX15_stateOfBoard_5 : decode cX15_stateOfBoard 5 = .ok (.aload_n 0, 1) := by decide +kernel
theorem dX15_stateOfBoard_6 : decode cX15_stateOfBoard 6 = .ok (.getfield 384, 3) := by decide +kernel
theorem dX15_stateOfBoard_9 : decode cX15_stateOfBoard 9 = .ok (.if_icmp .ge 47, 3) := by decide +kernel
theorem dX15_stateOfBoard_12 : decode cX15_stateOfBoard 12 = .ok (.aload_n 1, 1) := by decide +kernel
theorem dX15_stateOfBoard_13 : decode cX15_stateOfBoard 13 = .ok (.getfield 396, 3) := by decide +kernel
theorem dX15_stateOfBoard_16 : decode cX15_stateOfBoard 16 = .ok (.iload_n 3, 1) := by decide +kernel
theorem dX15_stateOfBoard_17 : decode cX15_stateOfBoard 17 = .ok (.iaload, 1) := by decide +kernel
theorem dX15_stateOfBoard_18 : decode cX15_stateOfBoard 18 = .ok (.ifCond .le 32, 3) := by decide +kernel
theorem dX15_stateOfBoard_21 : decode cX15_stateOfBoard 21 = .ok (.iload_n 2, 1) := by decide +kernel
theorem dX15_stateOfBoard_22 : decode cX15_stateOfBoard 22 = .ok (.iconst 5, 1) := by decide +kernel
theorem dX15_stateOfBoard_23 : decode cX15_stateOfBoard 23 = .ok (.if_icmp .ne 5, 3) := by decide +kernel
theorem dX15_stateOfBoard_26 : decode cX15_stateOfBoard 26 = .ok (.iconst (-1), 1) := by decide +kernel
theorem dX15_stateOfBoard_27 : decode cX15_stateOfBoard 27 = .ok (.ireturn, 1) := by decide +kernel
theorem dX15_stateOfBoard_28 : decode cX15_stateOfBoard 28 = .ok (.aload_n 0, 1) := by decide +kernel
theorem dX15_stateOfBoard_29 : decode cX15_stateOfBoard 29 = .ok (.getfield 359, 3) := by decide +kernel
theorem dX15_stateOfBoard_32 : decode cX15_stateOfBoard 32 = .ok (.iload_n 2, 1) := by decide +kernel
theorem dX15_stateOfBoard_33 : decode cX15_stateOfBoard 33 = .ok (.aload_n 1, 1) := by decide +kernel
theorem dX15_stateOfBoard_34 : decode cX15_stateOfBoard 34 = .ok (.getfield 396, 3) := by decide +kernel
theorem dX15_stateOfBoard_37 : decode cX15_stateOfBoard 37 = .ok (.iload_n 3, 1) := by decide +kernel
theorem dX15_stateOfBoard_38 : decode cX15_stateOfBoard 38 = .ok (.iaload, 1) := by decide +kernel
theorem dX15_stateOfBoard_39 : decode cX15_stateOfBoard 39 = .ok (.iastore, 1) := by decide +kernel
theorem dX15_stateOfBoard_40 : decode cX15_stateOfBoard 40 = .ok (.aload_n 0, 1) := by decide +kernel
theorem dX15_stateOfBoard_41 : decode cX15_stateOfBoard 41 = .ok (.getfield 362, 3) := by decide +kernel
theorem dX15_stateOfBoard_44 : decode cX15_stateOfBoard 44 = .ok (.iload_n 2, 1) := by decide +kernel
theorem dX15_stateOfBoard_45 : decode cX15_stateOfBoard 45 = .ok (.iload_n 3, 1) := by decide +kernel
theorem dX15_stateOfBoard_46 : decode cX15_stateOfBoard 46 = .ok (.iastore, 1) := by decide +kernel
theorem dX15_stateOfBoard_47 : decode cX15_stateOfBoard 47 = .ok (.iinc 2 1, 3) := by decide +kernel
theorem dX15_stateOfBoard_50 : decode cX15_stateOfBoard 50 = .ok (.iinc 3 1, 3) := by decide +kernel
theorem dX15_stateOfBoard_53 : decode cX15_stateOfBoard 53 = .ok (.goto (-49), 3) := by decide +kernel
theorem dX15_stateOfBoard_56 : decode cX15_stateOfBoard 56 = .ok (.aload_n 0, 1) := by decide +kernel
theorem dX15_stateOfBoard_57 : decode cX15_stateOfBoard 57 = .ok (.iload_n 2, 1) := by decide +kernel
theorem dX15_stateOfBoard_58 : decode cX15_stateOfBoard 58 = .ok (.aload_n 1, 1) := by decide +kernel
theorem dX15_stateOfBoard_59 : decode cX15_stateOfBoard 59 = .ok (.getfield 452, 3) := by decide +kernel
theorem dX15_stateOfBoard_62 : decode cX15_stateOfBoard 62 = .ok (.invokevirtual 760, 3) := by decide +kernel
theorem dX15_stateOfBoard_65 : decode cX15_stateOfBoard 65 = .ok (.ireturn, 1) := by decide +kernel
set_option maxRecDepth 20000 in
theorem moX15_stateOfBoard_50 {o : Int32 × Hp} {k_4 : Hp → Nat → Nat → Int32 → Int32 → Option (Int32 × Hp)} {F : Nat} (mk_4 : ∀ (h : Hp) (x0 : Nat) (x1 : Nat) (x2 : Int32) (x3 : Int32), k_4 h x0 x1 x2 x3 = some o → Le h o.2) {h : Hp} {x0 : Nat} {x1 : Nat} {x2 : Int32} {x3 : Int32} (hE : sX15_stateOfBoard_50 F k_4 h x0 x1 x2 x3 = some o) : Le h o.2 := by
  obtain ⟨v_1, ev_1, hE⟩ := nm_e2 hE
  exact mk_4 _ _ _ _ _ hE
set_option maxRecDepth 20000 in
theorem moX15_stateOfBoard_4 {o : Int32 × Hp} {F : Nat} : ∀ (f : Nat) {h : Hp} {x0 : Nat} {x1 : Nat} {x2 : Int32} {x3 : Int32}, sX15_stateOfBoard_4 F f h x0 x1 x2 x3 = some o → Le h o.2 := by
  intro f
  induction f with
  | zero =>
    intro h x0 x1 x2 x3 hE
    rw [sX15_stateOfBoard_4] at hE
    cases hE
  | succ f ih =>
    intro h x0 x1 x2 x3 hE
    rw [sX15_stateOfBoard_4] at hE
    have mk_4 : ∀ (h : Hp) (x0 : Nat) (x1 : Nat) (x2 : Int32) (x3 : Int32), sX15_stateOfBoard_4 F f h x0 x1 x2 x3 = some o → Le h o.2 := fun h x0 x1 x2 x3 hE => ih hE
    rcases br_e hE with ⟨_, hE⟩ | ⟨_, hE⟩
    · obtain ⟨o_2, eo_2, hE⟩ := cl_e hE
      refine (moX15_stateOf eo_2).tr ?_
      exact le_some2 hE
    · obtain ⟨r_3, er_3, hE⟩ := cl_e hE
      obtain ⟨g_4, hE⟩ := gd_e hE
      rcases br_e hE with ⟨_, hE⟩ | ⟨_, hE⟩
      · exact moX15_stateOfBoard_50 mk_4 hE
      · rcases br_e hE with ⟨_, hE⟩ | ⟨_, hE⟩
        · exact le_some2 hE
        · obtain ⟨r_7, er_7, hE⟩ := cl_e hE
          obtain ⟨r_8, er_8, hE⟩ := cl_e hE
          obtain ⟨g_9, hE⟩ := gd_e hE
          obtain ⟨g_10, hE⟩ := gd_e hE
          obtain ⟨h_11, eh_11, hE⟩ := nm_e2 hE
          refine (le_I eh_11).tr ?_
          obtain ⟨r_12, er_12, hE⟩ := cl_e hE
          obtain ⟨g_13, hE⟩ := gd_e hE
          obtain ⟨h_14, eh_14, hE⟩ := nm_e2 hE
          refine (le_I eh_14).tr ?_
          obtain ⟨v_15, ev_15, hE⟩ := nm_e2 hE
          exact moX15_stateOfBoard_50 mk_4 hE
set_option maxRecDepth 20000 in
theorem moX15_stateOfBoard {o : Int32 × Hp} {F : Nat} {h : Hp} {x0 : Nat} {x1 : Nat} (hE : sX15_stateOfBoard F h x0 x1 = some o) : Le h o.2 := by
  exact moX15_stateOfBoard_4 _ hE
set_option maxRecDepth 20000 in
theorem bX15_stateOfBoard_50 {p : Program} {l : Launch} {e : Env} {s : State} {m : MethodId} {args : Array Value} {below : List Frame} {meth : Method} {c : Code} {X : Ec} {h0 : Hp} {o : Int32 × Hp} {k_4 : Hp → Nat → Nat → Int32 → Int32 → Option (Int32 × Hp)} {F : Nat} (C : Cx X p s m args meth c RX15 cX15_stateOfBoard 4 (some .int) "stateOfBoard") (hk_4 : ∀ (h : Hp) (x0 : Nat) (x1 : Nat) (x2 : Int32) (x3 : Int32) (H : Heap) (locs : List Loc), hK h x0 = 15 → hK h x1 = 12 → Km h0 h → Wx X h H → va_S (aA (eB X)) s.heap H locs → ∀ (ls : Array Slot), lv_has ls 4 [(0, .ref x0), (1, .ref x1), (2, .int x2), (3, .int x3)] → k_4 h x0 x1 x2 x3 = some o → W p l e (rm 3 71) s m args below meth c H locs 0 0 (MQ below (QI X h0 o.1 o.2) args s 0 0 (aA (eB X))) (F0 m 4 ls [])) {h : Hp} {x0 : Nat} {x1 : Nat} {x2 : Int32} {x3 : Int32} {H : Heap} {locs : List Loc} (k_x0 : hK h x0 = 15) (k_x1 : hK h x1 = 12) (hkm : Km h0 h) (hW : Wx X h H) (hZ : va_S (aA (eB X)) s.heap H locs) (ls : Array Slot) (hl : lv_has ls 4 [(0, .ref x0), (1, .ref x1), (2, .int x2), (3, .int x3)]) (hE : sX15_stateOfBoard_50 F k_4 h x0 x1 x2 x3 = some o) : W p l e (rm 3 71) s m args below meth c H locs 0 0 (MQ below (QI X h0 o.1 o.2) args s 0 0 (aA (eB X))) (F0 m 50 ls []) := by
  obtain ⟨v_1, ev_1, hE⟩ := nm_e2 hE
  refine lv_iinc (v := v_1) (lv' := [(3, .int v_1), (0, .ref x0), (1, .ref x1), (2, .int x2)]) C.1 C.2.1 dX15_stateOfBoard_50 hl (k := 3) rfl (by rw [ev_1]; rfl) (by decide) rfl (fun ls hl => ?_)
  refine lv_goto (tgt := 4) C.1 C.2.1 dX15_stateOfBoard_53 (by decide) ?_
  exact hk_4 _ _ _ _ _ _ _ k_x0 k_x1 hkm hW hZ _ (lv_sub hl [1, 2, 3, 0] rfl) hE
set_option maxRecDepth 20000 in
theorem bX15_stateOfBoard_4 {p : Program} {l : Launch} {e : Env} {s : State} {m : MethodId} {args : Array Value} {below : List Frame} {meth : Method} {c : Code} {X : Ec} {h0 : Hp} {o : Int32 × Hp} {F : Nat} (C : Cx X p s m args meth c RX15 cX15_stateOfBoard 4 (some .int) "stateOfBoard") : ∀ (f : Nat) {h : Hp} {x0 : Nat} {x1 : Nat} {x2 : Int32} {x3 : Int32} {H : Heap} {locs : List Loc} (k_x0 : hK h x0 = 15) (k_x1 : hK h x1 = 12), Km h0 h → Wx X h H → va_S (aA (eB X)) s.heap H locs → ∀ (ls : Array Slot), lv_has ls 4 [(0, .ref x0), (1, .ref x1), (2, .int x2), (3, .int x3)] → sX15_stateOfBoard_4 F f h x0 x1 x2 x3 = some o → W p l e (rm 3 71) s m args below meth c H locs 0 0 (MQ below (QI X h0 o.1 o.2) args s 0 0 (aA (eB X))) (F0 m 4 ls []) := by
  intro f
  induction f with
  | zero =>
    intro h x0 x1 x2 x3 H locs k_x0 k_x1 hkm hW hZ ls hl hE
    rw [sX15_stateOfBoard_4] at hE
    cases hE
  | succ f ih =>
    intro h x0 x1 x2 x3 H locs k_x0 k_x1 hkm hW hZ ls hl hE
    rw [sX15_stateOfBoard_4] at hE
    have hk_4 : ∀ (h : Hp) (x0 : Nat) (x1 : Nat) (x2 : Int32) (x3 : Int32) (H : Heap) (locs : List Loc), hK h x0 = 15 → hK h x1 = 12 → Km h0 h → Wx X h H → va_S (aA (eB X)) s.heap H locs → ∀ (ls : Array Slot), lv_has ls 4 [(0, .ref x0), (1, .ref x1), (2, .int x2), (3, .int x3)] → sX15_stateOfBoard_4 F f h x0 x1 x2 x3 = some o → W p l e (rm 3 71) s m args below meth c H locs 0 0 (MQ below (QI X h0 o.1 o.2) args s 0 0 (aA (eB X))) (F0 m 4 ls []) := fun h x0 x1 x2 x3 H locs k_x0 k_x1 a b c ls hl hE => ih k_x0 k_x1 a b c ls hl hE
    refine lv_iload_n C.1 C.2.1 dX15_stateOfBoard_4 rfl (lv_at hl 3 rfl) ?_
    refine lv_aload_n C.1 C.2.1 dX15_stateOfBoard_5 rfl (lv_at hl 0 rfl) ?_
    refine gf_X15_384 C hW k_x0 dX15_stateOfBoard_6 ?_
    refine lv_icmp_ge (tgt := 56) C.1 C.2.1 dX15_stateOfBoard_9 (by decide) (fun c_1 => ?_) (fun c_1 => ?_)
    · have hE := br_p hE c_1
      refine lv_aload_n C.1 C.2.1 dX15_stateOfBoard_56 rfl (lv_at hl 0 rfl) ?_
      refine lv_iload_n C.1 C.2.1 dX15_stateOfBoard_57 rfl (lv_at hl 2 rfl) ?_
      refine lv_aload_n C.1 C.2.1 dX15_stateOfBoard_58 rfl (lv_at hl 1 rfl) ?_
      refine gf_X15_452 C hW k_x1 dX15_stateOfBoard_59 ?_
      obtain ⟨o_2, eo_2, hE⟩ := cl_e hE
      refine x_kI (o := o_2) (z_runV (As := [.int x2, .int (hI h x1 1)]) (rest := []) C (ct_X15_stateOf l X F k_x0 eo_2) cw_X15_760 hW hZ k_x0 (by decide) rfl rfl rfl hl.1 (Nat.le_of_ble_eq_true rfl) rfl dX15_stateOfBoard_62 ⟨Nat.le_of_ble_eq_true rfl, Nat.le_of_ble_eq_true rfl⟩ ⟨Nat.le_refl _, Nat.le_refl _⟩) hZ (fun _ _ hW km hZ => ?_)
      replace hkm := hkm.tr km
      replace k_x0 := km.at k_x0 (by decide)
      replace k_x1 := km.at k_x1 (by decide)
      exact x_iret C rfl rfl hW hZ hkm hE dX15_stateOfBoard_65
    · have hE := br_n hE c_1
      refine lv_aload_n C.1 C.2.1 dX15_stateOfBoard_12 rfl (lv_at hl 1 rfl) ?_
      obtain ⟨r_3, er_3, hE⟩ := cl_e hE
      refine gf_X15_396 C hW k_x1 er_3 dX15_stateOfBoard_13 (fun k_r_3 => ?_)
      refine lv_iload_n C.1 C.2.1 dX15_stateOfBoard_16 rfl (lv_at hl 3 rfl) ?_
      obtain ⟨g_4, hE⟩ := gd_e hE
      refine y_iald C hW k_r_3 g_4 dX15_stateOfBoard_17 ?_
      refine lv_if_le (tgt := 50) C.1 C.2.1 dX15_stateOfBoard_18 (by decide) (fun c_5 => ?_) (fun c_5 => ?_)
      · have hE := br_p hE c_5
        exact bX15_stateOfBoard_50 C hk_4 k_x0 k_x1 hkm hW hZ _ (lv_sub hl [0, 1, 2, 3] rfl) hE
      · have hE := br_n hE c_5
        refine lv_iload_n C.1 C.2.1 dX15_stateOfBoard_21 rfl (lv_at hl 2 rfl) ?_
        refine lv_iconst (v := (5 : Int32)) C.1 C.2.1 dX15_stateOfBoard_22 (by decide) ?_
        refine lv_icmp_ne (tgt := 28) C.1 C.2.1 dX15_stateOfBoard_23 (by decide) (fun c_6 => ?_) (fun c_6 => ?_)
        · have hE := br_n hE c_6
          refine lv_aload_n C.1 C.2.1 dX15_stateOfBoard_28 rfl (lv_at hl 0 rfl) ?_
          obtain ⟨r_7, er_7, hE⟩ := cl_e hE
          refine gf_X15_359 C hW k_x0 er_7 dX15_stateOfBoard_29 (fun k_r_7 => ?_)
          refine lv_iload_n C.1 C.2.1 dX15_stateOfBoard_32 rfl (lv_at hl 2 rfl) ?_
          refine lv_aload_n C.1 C.2.1 dX15_stateOfBoard_33 rfl (lv_at hl 1 rfl) ?_
          obtain ⟨r_8, er_8, hE⟩ := cl_e hE
          refine gf_X15_396 C hW k_x1 er_8 dX15_stateOfBoard_34 (fun k_r_8 => ?_)
          refine lv_iload_n C.1 C.2.1 dX15_stateOfBoard_37 rfl (lv_at hl 3 rfl) ?_
          obtain ⟨g_9, hE⟩ := gd_e hE
          refine y_iald C hW k_r_8 g_9 dX15_stateOfBoard_38 ?_
          obtain ⟨g_10, hE⟩ := gd_e hE
          obtain ⟨h_11, eh_11, hE⟩ := nm_e2 hE
          refine y_iast C hW hZ k_r_7 g_10 eh_11 dX15_stateOfBoard_39 (fun _ _ hW km hZ => ?_)
          replace hkm := hkm.tr km
          replace k_x0 := km.at k_x0 (by decide)
          replace k_x1 := km.at k_x1 (by decide)
          refine lv_aload_n C.1 C.2.1 dX15_stateOfBoard_40 rfl (lv_at hl 0 rfl) ?_
          obtain ⟨r_12, er_12, hE⟩ := cl_e hE
          refine gf_X15_362 C hW k_x0 er_12 dX15_stateOfBoard_41 (fun k_r_12 => ?_)
          refine lv_iload_n C.1 C.2.1 dX15_stateOfBoard_44 rfl (lv_at hl 2 rfl) ?_
          refine lv_iload_n C.1 C.2.1 dX15_stateOfBoard_45 rfl (lv_at hl 3 rfl) ?_
          obtain ⟨g_13, hE⟩ := gd_e hE
          obtain ⟨h_14, eh_14, hE⟩ := nm_e2 hE
          refine y_iast C hW hZ k_r_12 g_13 eh_14 dX15_stateOfBoard_46 (fun _ _ hW km hZ => ?_)
          replace hkm := hkm.tr km
          replace k_x0 := km.at k_x0 (by decide)
          replace k_x1 := km.at k_x1 (by decide)
          obtain ⟨v_15, ev_15, hE⟩ := nm_e2 hE
          refine lv_iinc (v := v_15) (lv' := [(2, .int v_15), (0, .ref x0), (1, .ref x1), (3, .int x3)]) C.1 C.2.1 dX15_stateOfBoard_47 hl (k := 2) rfl (by rw [ev_15]; rfl) (by decide) rfl (fun ls hl => ?_)
          exact bX15_stateOfBoard_50 C hk_4 k_x0 k_x1 hkm hW hZ _ (lv_sub hl [1, 2, 0, 3] rfl) hE
        · have hE := br_p hE c_6
          refine lv_iconst (v := (-1 : Int32)) C.1 C.2.1 dX15_stateOfBoard_26 (by decide) ?_
          exact x_iret C rfl rfl hW hZ hkm hE dX15_stateOfBoard_27
set_option maxRecDepth 20000 in
theorem ct_X15_stateOfBoard (l : Launch) (X : Ec) (F : Nat) {h : Hp} {x0 : Nat} {x1 : Nat} {o : Int32 × Hp} (k_x0 : hK h x0 = 15) (k_x1 : hK h x1 = 12) (hE : sX15_stateOfBoard F h x0 x1 = some o) : MetI l yX15_stateOfBoard cX15_stateOfBoard 4 (some .int) 3 71 X [.ref x0, .ref x1] h o := by
  refine x_met (by decide) (Nat.le_of_ble_eq_true rfl) ?_
  intro p e s m below meth c ls C hl hW hZ
  have hl : lv_has ls 4 [(0, .ref x0), (1, .ref x1)] := hl
  have hkm : Km h h := Km.rf h
  refine lv_iconst (v := (0 : Int32)) C.1 C.2.1 dX15_stateOfBoard_0 (by decide) ?_
  refine lv_istore_n (lv' := [(2, .int (0 : Int32)), (0, .ref x0), (1, .ref x1)]) C.1 C.2.1 dX15_stateOfBoard_1 rfl hl (by decide) rfl (fun ls hl => ?_)
  refine lv_iconst (v := (0 : Int32)) C.1 C.2.1 dX15_stateOfBoard_2 (by decide) ?_
  refine lv_istore_n (lv' := [(3, .int (0 : Int32)), (2, .int (0 : Int32)), (0, .ref x0), (1, .ref x1)]) C.1 C.2.1 dX15_stateOfBoard_3 rfl hl (by decide) rfl (fun ls hl => ?_)
  exact bX15_stateOfBoard_4 C F k_x0 k_x1 hkm hW hZ _ (lv_sub hl [2, 3, 1, 0] rfl) hE
set_option maxRecDepth 100000 in
theorem ms_216 : Cond.selects RX15 yX15_stateOfBoard yX15_stateOfBoard ∈ W0 := w0_in (List.mem_append_left _ (List.mem_of_getElem? (i := 216) rfl)) rfl
set_option maxRecDepth 100000 in
theorem m_2833 : Cond.methodLink RX15 820 yX15_stateOfBoard ∈ W0 := w0_in (List.mem_append_right _ (List.mem_of_getElem? (i := 2833) rfl)) rfl
set_option maxRecDepth 100000 in
theorem m_2835 : Cond.instanceMethod yX15_stateOfBoard ∈ W0 := w0_in (List.mem_append_right _ (List.mem_of_getElem? (i := 2835) rfl)) rfl
set_option maxRecDepth 100000 in
theorem m_2836 : Cond.code yX15_stateOfBoard cX15_stateOfBoard 4 (some .int) ∈ W0 := w0_in (List.mem_append_right _ (List.mem_of_getElem? (i := 2836) rfl)) rfl
section
variable {p : Program} {l : Launch} {e : Env} {R : Room} {s : State} {m : MethodId} {args : Array Value} {below : List Frame} {meth : Method} {c : Code} {H : Heap} {locs : List Loc} {cells slots : Nat} {Q : State → Prop}
variable {cc : ByteArray} {pc : Nat} {ls : Array Slot} {rest : List Value} {X : Ec} {h h1 : Hp} {nL : Nat} {rt : Option FieldType} {mn : String}
theorem gf_X15_387 {a : Nat} (C : Cx X p s m args meth c RX15 cc nL rt mn) (hW : Wx X h H) (ha : hK h a = 15) (hdg : decode cc pc = .ok (.getfield 387, 3)) (kk : W p l e R s m args below meth c H locs cells slots Q (F0 m (pc + 3) ls (.int (hI h a 50) :: rest))) : W p l e R s m args below meth c H locs cells slots Q (F0 m pc ls (.ref a :: rest)) :=
  y_geti C hW ha i_X15 (by decide) rfl (by decide) m_2161 rfl hdg kk
end
theorem cw_X15_820 : cwd RX15 820 yX15_stateOfBoard cX15_stateOfBoard 4 (some .int) false 1 := ⟨m_2836, m_2833, m_19, ⟨m_2835, ms_216⟩, by decide, by decide, by decide +kernel⟩
theorem dX15_worth_0 : decode cX15_worth 0 = .ok (.aload_n 0, 1) := by decide +kernel
theorem dX15_worth_1 : decode cX15_worth 1 = .ok (.iload_n 1, 1) := by decide +kernel
theorem dX15_worth_2 : decode cX15_worth 2 = .ok (.invokevirtual 486, 3) := by decide +kernel
theorem dX15_worth_5 : decode cX15_worth 5 = .ok (.ifCond .ne 6, 3) := by decide +kernel
theorem dX15_worth_8 : decode cX15_worth 8 = .ok (.bipush (-102), 2) := by decide +kernel
theorem dX15_worth_10 : decode cX15_worth 10 = .ok (.ireturn, 1) := by decide +kernel
theorem dX15_worth_11 : decode cX15_worth 11 = .ok (.aload_n 0, 1) := by decide +kernel
theorem dX15_worth_12 : decode cX15_worth 12 = .ok (.getfield 387, 3) := by decide +kernel
theorem dX15_worth_15 : decode cX15_worth 15 = .ok (.ifCond .ne 7, 3) := by decide +kernel
theorem dX15_worth_18 : decode cX15_worth 18 = .ok (.iconst (-1), 1) := by decide +kernel
theorem dX15_worth_19 : decode cX15_worth 19 = .ok (.goto 13, 3) := by decide +kernel
theorem dX15_worth_22 : decode cX15_worth 22 = .ok (.aload_n 0, 1) := by decide +kernel
theorem dX15_worth_23 : decode cX15_worth 23 = .ok (.aload_n 0, 1) := by decide +kernel
theorem dX15_worth_24 : decode cX15_worth 24 = .ok (.getfield 257, 3) := by decide +kernel
theorem dX15_worth_27 : decode cX15_worth 27 = .ok (.iload_n 1, 1) := by decide +kernel
theorem dX15_worth_28 : decode cX15_worth 28 = .ok (.aaload, 1) := by decide +kernel
theorem dX15_worth_29 : decode cX15_worth 29 = .ok (.invokevirtual 820, 3) := by decide +kernel
theorem dX15_worth_32 : decode cX15_worth 32 = .ok (.istore_n 2, 1) := by decide +kernel
theorem dX15_worth_33 : decode cX15_worth 33 = .ok (.iload_n 2, 1) := by decide +kernel
theorem dX15_worth_34 : decode cX15_worth 34 = .ok (.iconst (-1), 1) := by decide +kernel
theorem dX15_worth_35 : decode cX15_worth 35 = .ok (.if_icmp .ne 8, 3) := by decide +kernel
theorem dX15_worth_38 : decode cX15_worth 38 = .ok (.bipush (-103), 2) := by decide +kernel
theorem dX15_worth_40 : decode cX15_worth 40 = .ok (.goto 13, 3) := by decide +kernel
theorem dX15_worth_43 : decode cX15_worth 43 = .ok (.ldc_w 769, 3) := by decide +kernel
theorem dX15_worth_46 : decode cX15_worth 46 = .ok (.aload_n 0, 1) := by decide +kernel
theorem dX15_worth_47 : decode cX15_worth 47 = .ok (.getfield 343, 3) := by decide +kernel
theorem dX15_worth_50 : decode cX15_worth 50 = .ok (.iload_n 2, 1) := by decide +kernel
theorem dX15_worth_51 : decode cX15_worth 51 = .ok (.iaload, 1) := by decide +kernel
theorem dX15_worth_52 : decode cX15_worth 52 = .ok (.iadd, 1) := by decide +kernel
theorem dX15_worth_53 : decode cX15_worth 53 = .ok (.ireturn, 1) := by decide +kernel
set_option maxRecDepth 20000 in
theorem moX15_worth_53 {o : Int32 × Hp} {F : Nat} {h : Hp} {t0 : Int32} (hE : sX15_worth_53 F h  t0 = some o) : Le h o.2 := by
  exact le_some2 hE
set_option maxRecDepth 20000 in
theorem moX15_worth_32 {o : Int32 × Hp} {F : Nat} {h : Hp} {x0 : Nat} {t0 : Int32} (hE : sX15_worth_32 F h x0 t0 = some o) : Le h o.2 := by
  rcases br_e hE with ⟨_, hE⟩ | ⟨_, hE⟩
  · exact moX15_worth_53 hE
  · obtain ⟨r_2, er_2, hE⟩ := cl_e hE
    obtain ⟨g_3, hE⟩ := gd_e hE
    exact moX15_worth_53 hE
set_option maxRecDepth 20000 in
theorem moX15_worth {o : Int32 × Hp} {F : Nat} {h : Hp} {x0 : Nat} {x1 : Int32} (hE : sX15_worth F h x0 x1 = some o) : Le h o.2 := by
  obtain ⟨o_1, eo_1, hE⟩ := cl_e hE
  refine (moX15_has eo_1).tr ?_
  rcases br_e hE with ⟨_, hE⟩ | ⟨_, hE⟩
  · exact le_some2 hE
  · rcases br_e hE with ⟨_, hE⟩ | ⟨_, hE⟩
    · exact moX15_worth_32 hE
    · obtain ⟨r_4, er_4, hE⟩ := cl_e hE
      obtain ⟨g_5, hE⟩ := gd_e hE
      obtain ⟨r_6, er_6, hE⟩ := cl_e hE
      obtain ⟨o_7, eo_7, hE⟩ := cl_e hE
      refine (moX15_stateOfBoard eo_7).tr ?_
      exact moX15_worth_32 hE
set_option maxRecDepth 20000 in
theorem bX15_worth_53 {p : Program} {l : Launch} {e : Env} {s : State} {m : MethodId} {args : Array Value} {below : List Frame} {meth : Method} {c : Code} {X : Ec} {h0 : Hp} {o : Int32 × Hp} {F : Nat} (C : Cx X p s m args meth c RX15 cX15_worth 3 (some .int) "worth") {h : Hp} {t0 : Int32} {H : Heap} {locs : List Loc} (hkm : Km h0 h) (hW : Wx X h H) (hZ : va_S (aA (eB X)) s.heap H locs) (ls : Array Slot) (hl : lv_has ls 3 []) (hE : sX15_worth_53 F h  t0 = some o) : W p l e (rm 4 94) s m args below meth c H locs 0 0 (MQ below (QI X h0 o.1 o.2) args s 0 0 (aA (eB X))) (F0 m 53 ls [.int t0]) := by
  exact x_iret C rfl rfl hW hZ hkm hE dX15_worth_53
set_option maxRecDepth 20000 in
theorem bX15_worth_32 {p : Program} {l : Launch} {e : Env} {s : State} {m : MethodId} {args : Array Value} {below : List Frame} {meth : Method} {c : Code} {X : Ec} {h0 : Hp} {o : Int32 × Hp} {F : Nat} (C : Cx X p s m args meth c RX15 cX15_worth 3 (some .int) "worth") {h : Hp} {x0 : Nat} {t0 : Int32} {H : Heap} {locs : List Loc} (k_x0 : hK h x0 = 15) (hkm : Km h0 h) (hW : Wx X h H) (hZ : va_S (aA (eB X)) s.heap H locs) (ls : Array Slot) (hl : lv_has ls 3 [(0, .ref x0)]) (hE : sX15_worth_32 F h x0 t0 = some o) : W p l e (rm 4 94) s m args below meth c H locs 0 0 (MQ below (QI X h0 o.1 o.2) args s 0 0 (aA (eB X))) (F0 m 32 ls [.int t0]) := by
  refine lv_istore_n (lv' := [(2, .int t0), (0, .ref x0)]) C.1 C.2.1 dX15_worth_32 rfl hl (by decide) rfl (fun ls hl => ?_)
  refine lv_iload_n C.1 C.2.1 dX15_worth_33 rfl (lv_at hl 0 rfl) ?_
  refine lv_iconst (v := (-1 : Int32)) C.1 C.2.1 dX15_worth_34 (by decide) ?_
  refine lv_icmp_ne (tgt := 43) C.1 C.2.1 dX15_worth_35 (by decide) (fun c_1 => ?_) (fun c_1 => ?_)
  · have hE := br_n hE c_1
    refine lv_ldcw (v := (2000000 : Int32)) C.1 C.2.1 C.2.2.2.1 (C.2.2.2.2.1 _ m_2789) dX15_worth_43 ?_
    refine lv_aload_n C.1 C.2.1 dX15_worth_46 rfl (lv_at hl 1 rfl) ?_
    obtain ⟨r_2, er_2, hE⟩ := cl_e hE
    refine gf_X15_343 C hW k_x0 er_2 dX15_worth_47 (fun k_r_2 => ?_)
    refine lv_iload_n C.1 C.2.1 dX15_worth_50 rfl (lv_at hl 0 rfl) ?_
    obtain ⟨g_3, hE⟩ := gd_e hE
    refine y_iald C hW k_r_2 g_3 dX15_worth_51 ?_
    refine lv_iadd C.1 C.2.1 dX15_worth_52 ?_
    exact bX15_worth_53 C hkm hW hZ _ (lv_sub hl [] rfl) hE
  · have hE := br_p hE c_1
    refine lv_bipush (v := (-103 : Int32)) C.1 C.2.1 dX15_worth_38 (by decide) ?_
    refine lv_goto (tgt := 53) C.1 C.2.1 dX15_worth_40 (by decide) ?_
    exact bX15_worth_53 C hkm hW hZ _ (lv_sub hl [] rfl) hE
set_option maxRecDepth 20000 in
theorem ct_X15_worth (l : Launch) (X : Ec) (F : Nat) {h : Hp} {x0 : Nat} {x1 : Int32} {o : Int32 × Hp} (k_x0 : hK h x0 = 15) (hE : sX15_worth F h x0 x1 = some o) : MetI l yX15_worth cX15_worth 3 (some .int) 4 94 X [.ref x0, .int x1] h o := by
  refine x_met (by decide) (Nat.le_of_ble_eq_true rfl) ?_
  intro p e s m below meth c ls C hl hW hZ
  have hl : lv_has ls 3 [(0, .ref x0), (1, .int x1)] := hl
  have hkm : Km h h := Km.rf h
  refine lv_aload_n C.1 C.2.1 dX15_worth_0 rfl (lv_at hl 0 rfl) ?_
  refine lv_iload_n C.1 C.2.1 dX15_worth_1 rfl (lv_at hl 1 rfl) ?_
  obtain ⟨o_1, eo_1, hE⟩ := cl_e hE
  refine x_kI (o := o_1) (z_runV (As := [.int x1]) (rest := []) C (ct_X15_has l X k_x0 eo_1) cw_X15_486 hW hZ k_x0 (by decide) rfl rfl rfl hl.1 (Nat.le_of_ble_eq_true rfl) rfl dX15_worth_2 ⟨Nat.le_of_ble_eq_true rfl, Nat.le_of_ble_eq_true rfl⟩ ⟨Nat.le_refl _, Nat.le_refl _⟩) hZ (fun _ _ hW km hZ => ?_)
  replace hkm := hkm.tr km
  replace k_x0 := km.at k_x0 (by decide)
  refine lv_if_ne (tgt := 11) C.1 C.2.1 dX15_worth_5 (by decide) (fun c_2 => ?_) (fun c_2 => ?_)
  · have hE := br_n hE c_2
    refine lv_aload_n C.1 C.2.1 dX15_worth_11 rfl (lv_at hl 0 rfl) ?_
    refine gf_X15_387 C hW k_x0 dX15_worth_12 ?_
    refine lv_if_ne (tgt := 22) C.1 C.2.1 dX15_worth_15 (by decide) (fun c_3 => ?_) (fun c_3 => ?_)
    · have hE := br_n hE c_3
      refine lv_aload_n C.1 C.2.1 dX15_worth_22 rfl (lv_at hl 0 rfl) ?_
      refine lv_aload_n C.1 C.2.1 dX15_worth_23 rfl (lv_at hl 0 rfl) ?_
      obtain ⟨r_4, er_4, hE⟩ := cl_e hE
      refine gf_X15_257 C hW k_x0 er_4 dX15_worth_24 (fun k_r_4 => ?_)
      refine lv_iload_n C.1 C.2.1 dX15_worth_27 rfl (lv_at hl 1 rfl) ?_
      obtain ⟨g_5, hE⟩ := gd_e hE
      obtain ⟨r_6, er_6, hE⟩ := cl_e hE
      refine y_aald (t0 := 5) C hW k_r_4 (by decide) (by decide) rfl rfl rfl (fun _ => rfl) g_5 er_6 dX15_worth_28 (fun k_r_6 => ?_)
      obtain ⟨o_7, eo_7, hE⟩ := cl_e hE
      refine x_kI (o := o_7) (z_runV (As := [.ref r_6]) (rest := []) C (ct_X15_stateOfBoard l X F k_x0 k_r_6 eo_7) cw_X15_820 hW hZ k_x0 (by decide) rfl rfl rfl hl.1 (Nat.le_of_ble_eq_true rfl) rfl dX15_worth_29 ⟨Nat.le_of_ble_eq_true rfl, Nat.le_of_ble_eq_true rfl⟩ ⟨Nat.le_refl _, Nat.le_refl _⟩) hZ (fun _ _ hW km hZ => ?_)
      replace hkm := hkm.tr km
      replace k_x0 := km.at k_x0 (by decide)
      exact bX15_worth_32 C k_x0 hkm hW hZ _ (lv_sub hl [0] rfl) hE
    · have hE := br_p hE c_3
      refine lv_iconst (v := (-1 : Int32)) C.1 C.2.1 dX15_worth_18 (by decide) ?_
      refine lv_goto (tgt := 32) C.1 C.2.1 dX15_worth_19 (by decide) ?_
      exact bX15_worth_32 C k_x0 hkm hW hZ _ (lv_sub hl [0] rfl) hE
  · have hE := br_p hE c_2
    refine lv_bipush (v := (-102 : Int32)) C.1 C.2.1 dX15_worth_8 (by decide) ?_
    exact x_iret C rfl rfl hW hZ hkm hE dX15_worth_10
theorem dX15_tally_0 : decode cX15_tally 0 = .ok (.iload_n 1, 1) := by decide +kernel
theorem dX15_tally_1 : decode cX15_tally 1 = .ok (.ifCond .lt 22, 3) := by decide +kernel
theorem dX15_tally_4 : decode cX15_tally 4 = .ok (.iload_n 1, 1) := by decide +kernel
theorem dX15_tally_5 : decode cX15_tally 5 = .ok (.iconst 1, 1) := by decide +kernel
theorem dX15_tally_6 : decode cX15_tally 6 = .ok (.if_icmp .gt 17, 3) := by decide +kernel
theorem dX15_tally_9 : decode cX15_tally 9 = .ok (.iload_n 2, 1) := by decide +kernel
theorem dX15_tally_10 : decode cX15_tally 10 = .ok (.ldc_w 768, 3) := by decide +kernel
theorem dX15_tally_13 : decode cX15_tally 13 = .ok (.if_icmp .lt 10, 3) := by decide +kernel
theorem dX15_tally_16 : decode cX15_tally 16 = .ok (.iload_n 2, 1) := by decide +kernel
theorem dX15_tally_17 : decode cX15_tally 17 = .ok (.ldc_w 767, 3) := by decide +kernel
theorem dX15_tally_20 : decode cX15_tally 20 = .ok (.if_icmp .le 6, 3) := by decide +kernel
theorem dX15_tally_23 : decode cX15_tally 23 = .ok (.bipush (-101), 2) := by decide +kernel
theorem dX15_tally_25 : decode cX15_tally 25 = .ok (.ireturn, 1) := by decide +kernel
theorem dX15_tally_26 : decode cX15_tally 26 = .ok (.aload_n 0, 1) := by decide +kernel
theorem dX15_tally_27 : decode cX15_tally 27 = .ok (.getfield 387, 3) := by decide +kernel
theorem dX15_tally_30 : decode cX15_tally 30 = .ok (.ifCond .ne 6, 3) := by decide +kernel
theorem dX15_tally_33 : decode cX15_tally 33 = .ok (.bipush (-103), 2) := by decide +kernel
theorem dX15_tally_35 : decode cX15_tally 35 = .ok (.ireturn, 1) := by decide +kernel
theorem dX15_tally_36 : decode cX15_tally 36 = .ok (.iconst 0, 1) := by decide +kernel
theorem dX15_tally_37 : decode cX15_tally 37 = .ok (.istore_n 3, 1) := by decide +kernel
theorem dX15_tally_38 : decode cX15_tally 38 = .ok (.aload_n 0, 1) := by decide +kernel
theorem dX15_tally_39 : decode cX15_tally 39 = .ok (.iconst 0, 1) := by decide +kernel
theorem dX15_tally_40 : decode cX15_tally 40 = .ok (.invokevirtual 801, 3) := by decide +kernel
theorem dX15_tally_43 : decode cX15_tally 43 = .ok (.istore 4, 2) := by decide +kernel
theorem dX15_tally_45 : decode cX15_tally 45 = .ok (.iload_n 1, 1) := by decide +kernel
theorem dX15_tally_46 : decode cX15_tally 46 = .ok (.istore 5, 2) := by decide +kernel
theorem dX15_tally_48 : decode cX15_tally 48 = .ok (.iload 5, 2) := by decide +kernel
theorem dX15_tally_50 : decode cX15_tally 50 = .ok (.iload 4, 2) := by decide +kernel
theorem dX15_tally_52 : decode cX15_tally 52 = .ok (.if_icmp .ge 35, 3) := by decide +kernel
theorem dX15_tally_55 : decode cX15_tally 55 = .ok (.iload_n 3, 1) := by decide +kernel
theorem dX15_tally_56 : decode cX15_tally 56 = .ok (.aload_n 0, 1) := by decide +kernel
theorem dX15_tally_57 : decode cX15_tally 57 = .ok (.getfield 343, 3) := by decide +kernel
theorem dX15_tally_60 : decode cX15_tally 60 = .ok (.aload_n 0, 1) := by decide +kernel
theorem dX15_tally_61 : decode cX15_tally 61 = .ok (.getfield 339, 3) := by decide +kernel
theorem dX15_tally_64 : decode cX15_tally 64 = .ok (.iconst 0, 1) := by decide +kernel
theorem dX15_tally_65 : decode cX15_tally 65 = .ok (.iaload, 1) := by decide +kernel
theorem dX15_tally_66 : decode cX15_tally 66 = .ok (.iload 5, 2) := by decide +kernel
theorem dX15_tally_68 : decode cX15_tally 68 = .ok (.iadd, 1) := by decide +kernel
theorem dX15_tally_69 : decode cX15_tally 69 = .ok (.iaload, 1) := by decide +kernel
theorem dX15_tally_70 : decode cX15_tally 70 = .ok (.iload_n 2, 1) := by decide +kernel
theorem dX15_tally_71 : decode cX15_tally 71 = .ok (.if_icmp .ne 7, 3) := by decide +kernel
theorem dX15_tally_74 : decode cX15_tally 74 = .ok (.iconst 1, 1) := by decide +kernel
theorem dX15_tally_75 : decode cX15_tally 75 = .ok (.goto 4, 3) := by decide +kernel
theorem dX15_tally_78 : decode cX15_tally 78 = .ok (.iconst 0, 1) := by decide +kernel
theorem dX15_tally_79 : decode cX15_tally 79 = .ok (.iadd, 1) := by decide +kernel
theorem dX15_tally_80 : decode cX15_tally 80 = .ok (.istore_n 3, 1) := by decide +kernel
theorem dX15_tally_81 : decode cX15_tally 81 = .ok (.iinc 5 2, 3) := by decide +kernel
theorem dX15_tally_84 : decode cX15_tally 84 = .ok (.goto (-36), 3) := by decide +kernel
theorem dX15_tally_87 : decode cX15_tally 87 = .ok (.iload_n 3, 1) := by decide +kernel
theorem dX15_tally_88 : decode cX15_tally 88 = .ok (.ireturn, 1) := by decide +kernel
set_option maxRecDepth 20000 in
theorem moX15_tally_23 {o : Int32 × Hp} {F : Nat} {h : Hp} (hE : sX15_tally_23 F h  = some o) : Le h o.2 := by
  exact le_some2 hE
set_option maxRecDepth 20000 in
theorem moX15_tally_79 {o : Int32 × Hp} {k_48 : Hp → Nat → Int32 → Int32 → Int32 → Int32 → Option (Int32 × Hp)} {F : Nat} (mk_48 : ∀ (h : Hp) (x0 : Nat) (x2 : Int32) (x3 : Int32) (x4 : Int32) (x5 : Int32), k_48 h x0 x2 x3 x4 x5 = some o → Le h o.2) {h : Hp} {x0 : Nat} {x2 : Int32} {x4 : Int32} {x5 : Int32} {t0 : Int32} {t1 : Int32} (hE : sX15_tally_79 F k_48 h x0 x2 x4 x5 t0 t1 = some o) : Le h o.2 := by
  obtain ⟨v_1, ev_1, hE⟩ := nm_e2 hE
  obtain ⟨v_2, ev_2, hE⟩ := nm_e2 hE
  exact mk_48 _ _ _ _ _ _ hE
set_option maxRecDepth 20000 in
theorem moX15_tally_48 {o : Int32 × Hp} {F : Nat} : ∀ (f : Nat) {h : Hp} {x0 : Nat} {x2 : Int32} {x3 : Int32} {x4 : Int32} {x5 : Int32}, sX15_tally_48 F f h x0 x2 x3 x4 x5 = some o → Le h o.2 := by
  intro f
  induction f with
  | zero =>
    intro h x0 x2 x3 x4 x5 hE
    rw [sX15_tally_48] at hE
    cases hE
  | succ f ih =>
    intro h x0 x2 x3 x4 x5 hE
    rw [sX15_tally_48] at hE
    have mk_48 : ∀ (h : Hp) (x0 : Nat) (x2 : Int32) (x3 : Int32) (x4 : Int32) (x5 : Int32), sX15_tally_48 F f h x0 x2 x3 x4 x5 = some o → Le h o.2 := fun h x0 x2 x3 x4 x5 hE => ih hE
    rcases br_e hE with ⟨_, hE⟩ | ⟨_, hE⟩
    · exact le_some2 hE
    · obtain ⟨r_2, er_2, hE⟩ := cl_e hE
      obtain ⟨r_3, er_3, hE⟩ := cl_e hE
      obtain ⟨g_4, hE⟩ := gd_e hE
      obtain ⟨g_5, hE⟩ := gd_e hE
      rcases br_e hE with ⟨_, hE⟩ | ⟨_, hE⟩
      · exact moX15_tally_79 mk_48 hE
      · exact moX15_tally_79 mk_48 hE
set_option maxRecDepth 20000 in
theorem moX15_tally {o : Int32 × Hp} {F : Nat} {h : Hp} {x0 : Nat} {x1 : Int32} {x2 : Int32} (hE : sX15_tally F h x0 x1 x2 = some o) : Le h o.2 := by
  rcases br_e hE with ⟨_, hE⟩ | ⟨_, hE⟩
  · exact moX15_tally_23 hE
  · rcases br_e hE with ⟨_, hE⟩ | ⟨_, hE⟩
    · exact moX15_tally_23 hE
    · rcases br_e hE with ⟨_, hE⟩ | ⟨_, hE⟩
      · exact moX15_tally_23 hE
      · rcases br_e hE with ⟨_, hE⟩ | ⟨_, hE⟩
        · rcases br_e hE with ⟨_, hE⟩ | ⟨_, hE⟩
          · exact le_some2 hE
          · obtain ⟨o_6, eo_6, hE⟩ := cl_e hE
            refine (moX15_sizeOf eo_6).tr ?_
            exact moX15_tally_48 _ hE
        · exact moX15_tally_23 hE
set_option maxRecDepth 20000 in
theorem bX15_tally_23 {p : Program} {l : Launch} {e : Env} {s : State} {m : MethodId} {args : Array Value} {below : List Frame} {meth : Method} {c : Code} {X : Ec} {h0 : Hp} {o : Int32 × Hp} {F : Nat} (C : Cx X p s m args meth c RX15 cX15_tally 6 (some .int) "tally") {h : Hp} {H : Heap} {locs : List Loc} (hkm : Km h0 h) (hW : Wx X h H) (hZ : va_S (aA (eB X)) s.heap H locs) (ls : Array Slot) (hl : lv_has ls 6 []) (hE : sX15_tally_23 F h  = some o) : W p l e (rm 1 23) s m args below meth c H locs 0 0 (MQ below (QI X h0 o.1 o.2) args s 0 0 (aA (eB X))) (F0 m 23 ls []) := by
  refine lv_bipush (v := (-101 : Int32)) C.1 C.2.1 dX15_tally_23 (by decide) ?_
  exact x_iret C rfl rfl hW hZ hkm hE dX15_tally_25
set_option maxRecDepth 20000 in
theorem bX15_tally_79 {p : Program} {l : Launch} {e : Env} {s : State} {m : MethodId} {args : Array Value} {below : List Frame} {meth : Method} {c : Code} {X : Ec} {h0 : Hp} {o : Int32 × Hp} {k_48 : Hp → Nat → Int32 → Int32 → Int32 → Int32 → Option (Int32 × Hp)} {F : Nat} (C : Cx X p s m args meth c RX15 cX15_tally 6 (some .int) "tally") (hk_48 : ∀ (h : Hp) (x0 : Nat) (x2 : Int32) (x3 : Int32) (x4 : Int32) (x5 : Int32) (H : Heap) (locs : List Loc), hK h x0 = 15 → Km h0 h → Wx X h H → va_S (aA (eB X)) s.heap H locs → ∀ (ls : Array Slot), lv_has ls 6 [(0, .ref x0), (2, .int x2), (3, .int x3), (4, .int x4), (5, .int x5)] → k_48 h x0 x2 x3 x4 x5 = some o → W p l e (rm 1 23) s m args below meth c H locs 0 0 (MQ below (QI X h0 o.1 o.2) args s 0 0 (aA (eB X))) (F0 m 48 ls [])) {h : Hp} {x0 : Nat} {x2 : Int32} {x4 : Int32} {x5 : Int32} {t0 : Int32} {t1 : Int32} {H : Heap} {locs : List Loc} (k_x0 : hK h x0 = 15) (hkm : Km h0 h) (hW : Wx X h H) (hZ : va_S (aA (eB X)) s.heap H locs) (ls : Array Slot) (hl : lv_has ls 6 [(0, .ref x0), (2, .int x2), (4, .int x4), (5, .int x5)]) (hE : sX15_tally_79 F k_48 h x0 x2 x4 x5 t0 t1 = some o) : W p l e (rm 1 23) s m args below meth c H locs 0 0 (MQ below (QI X h0 o.1 o.2) args s 0 0 (aA (eB X))) (F0 m 79 ls [.int t0, .int t1]) := by
  refine lv_iadd C.1 C.2.1 dX15_tally_79 ?_
  obtain ⟨v_1, ev_1, hE⟩ := nm_e2 hE
  refine x_nmI ev_1 ?_
  refine lv_istore_n (lv' := [(3, .int v_1), (0, .ref x0), (2, .int x2), (4, .int x4), (5, .int x5)]) C.1 C.2.1 dX15_tally_80 rfl hl (by decide) rfl (fun ls hl => ?_)
  obtain ⟨v_2, ev_2, hE⟩ := nm_e2 hE
  refine lv_iinc (v := v_2) (lv' := [(5, .int v_2), (3, .int v_1), (0, .ref x0), (2, .int x2), (4, .int x4)]) C.1 C.2.1 dX15_tally_81 hl (k := 4) rfl (by rw [ev_2]; rfl) (by decide) rfl (fun ls hl => ?_)
  refine lv_goto (tgt := 48) C.1 C.2.1 dX15_tally_84 (by decide) ?_
  exact hk_48 _ _ _ _ _ _ _ _ k_x0 hkm hW hZ _ (lv_sub hl [2, 3, 1, 4, 0] rfl) hE
set_option maxRecDepth 20000 in
theorem bX15_tally_48 {p : Program} {l : Launch} {e : Env} {s : State} {m : MethodId} {args : Array Value} {below : List Frame} {meth : Method} {c : Code} {X : Ec} {h0 : Hp} {o : Int32 × Hp} {F : Nat} (C : Cx X p s m args meth c RX15 cX15_tally 6 (some .int) "tally") : ∀ (f : Nat) {h : Hp} {x0 : Nat} {x2 : Int32} {x3 : Int32} {x4 : Int32} {x5 : Int32} {H : Heap} {locs : List Loc} (k_x0 : hK h x0 = 15), Km h0 h → Wx X h H → va_S (aA (eB X)) s.heap H locs → ∀ (ls : Array Slot), lv_has ls 6 [(0, .ref x0), (2, .int x2), (3, .int x3), (4, .int x4), (5, .int x5)] → sX15_tally_48 F f h x0 x2 x3 x4 x5 = some o → W p l e (rm 1 23) s m args below meth c H locs 0 0 (MQ below (QI X h0 o.1 o.2) args s 0 0 (aA (eB X))) (F0 m 48 ls []) := by
  intro f
  induction f with
  | zero =>
    intro h x0 x2 x3 x4 x5 H locs k_x0 hkm hW hZ ls hl hE
    rw [sX15_tally_48] at hE
    cases hE
  | succ f ih =>
    intro h x0 x2 x3 x4 x5 H locs k_x0 hkm hW hZ ls hl hE
    rw [sX15_tally_48] at hE
    have hk_48 : ∀ (h : Hp) (x0 : Nat) (x2 : Int32) (x3 : Int32) (x4 : Int32) (x5 : Int32) (H : Heap) (locs : List Loc), hK h x0 = 15 → Km h0 h → Wx X h H → va_S (aA (eB X)) s.heap H locs → ∀ (ls : Array Slot), lv_has ls 6 [(0, .ref x0), (2, .int x2), (3, .int x3), (4, .int x4), (5, .int x5)] → sX15_tally_48 F f h x0 x2 x3 x4 x5 = some o → W p l e (rm 1 23) s m args below meth c H locs 0 0 (MQ below (QI X h0 o.1 o.2) args s 0 0 (aA (eB X))) (F0 m 48 ls []) := fun h x0 x2 x3 x4 x5 H locs k_x0 a b c ls hl hE => ih k_x0 a b c ls hl hE
    refine lv_iload C.1 C.2.1 dX15_tally_48 (lv_at hl 4 rfl) ?_
    refine lv_iload C.1 C.2.1 dX15_tally_50 (lv_at hl 3 rfl) ?_
    refine lv_icmp_ge (tgt := 87) C.1 C.2.1 dX15_tally_52 (by decide) (fun c_1 => ?_) (fun c_1 => ?_)
    · have hE := br_p hE c_1
      refine lv_iload_n C.1 C.2.1 dX15_tally_87 rfl (lv_at hl 2 rfl) ?_
      exact x_iret C rfl rfl hW hZ hkm hE dX15_tally_88
    · have hE := br_n hE c_1
      refine lv_iload_n C.1 C.2.1 dX15_tally_55 rfl (lv_at hl 2 rfl) ?_
      refine lv_aload_n C.1 C.2.1 dX15_tally_56 rfl (lv_at hl 0 rfl) ?_
      obtain ⟨r_2, er_2, hE⟩ := cl_e hE
      refine gf_X15_343 C hW k_x0 er_2 dX15_tally_57 (fun k_r_2 => ?_)
      refine lv_aload_n C.1 C.2.1 dX15_tally_60 rfl (lv_at hl 0 rfl) ?_
      obtain ⟨r_3, er_3, hE⟩ := cl_e hE
      refine gf_X15_339 C hW k_x0 er_3 dX15_tally_61 (fun k_r_3 => ?_)
      refine lv_iconst (v := (0 : Int32)) C.1 C.2.1 dX15_tally_64 (by decide) ?_
      obtain ⟨g_4, hE⟩ := gd_e hE
      refine y_iald C hW k_r_3 g_4 dX15_tally_65 ?_
      refine lv_iload C.1 C.2.1 dX15_tally_66 (lv_at hl 4 rfl) ?_
      refine lv_iadd C.1 C.2.1 dX15_tally_68 ?_
      obtain ⟨g_5, hE⟩ := gd_e hE
      refine y_iald C hW k_r_2 g_5 dX15_tally_69 ?_
      refine lv_iload_n C.1 C.2.1 dX15_tally_70 rfl (lv_at hl 1 rfl) ?_
      refine lv_icmp_ne (tgt := 78) C.1 C.2.1 dX15_tally_71 (by decide) (fun c_6 => ?_) (fun c_6 => ?_)
      · have hE := br_n hE c_6
        refine lv_iconst (v := (0 : Int32)) C.1 C.2.1 dX15_tally_78 (by decide) ?_
        exact bX15_tally_79 C hk_48 k_x0 hkm hW hZ _ (lv_sub hl [0, 1, 3, 4] rfl) hE
      · have hE := br_p hE c_6
        refine lv_iconst (v := (1 : Int32)) C.1 C.2.1 dX15_tally_74 (by decide) ?_
        refine lv_goto (tgt := 79) C.1 C.2.1 dX15_tally_75 (by decide) ?_
        exact bX15_tally_79 C hk_48 k_x0 hkm hW hZ _ (lv_sub hl [0, 1, 3, 4] rfl) hE
set_option maxRecDepth 20000 in
theorem ct_X15_tally (l : Launch) (X : Ec) (F : Nat) {h : Hp} {x0 : Nat} {x1 : Int32} {x2 : Int32} {o : Int32 × Hp} (k_x0 : hK h x0 = 15) (hE : sX15_tally F h x0 x1 x2 = some o) : MetI l yX15_tally cX15_tally 6 (some .int) 1 23 X [.ref x0, .int x1, .int x2] h o := by
  refine x_met (by decide) (Nat.le_of_ble_eq_true rfl) ?_
  intro p e s m below meth c ls C hl hW hZ
  have hl : lv_has ls 6 [(0, .ref x0), (1, .int x1), (2, .int x2)] := hl
  have hkm : Km h h := Km.rf h
  refine lv_iload_n C.1 C.2.1 dX15_tally_0 rfl (lv_at hl 1 rfl) ?_
  refine lv_if_lt (tgt := 23) C.1 C.2.1 dX15_tally_1 (by decide) (fun c_1 => ?_) (fun c_1 => ?_)
  · have hE := br_p hE c_1
    exact bX15_tally_23 C hkm hW hZ _ (lv_sub hl [] rfl) hE
  · have hE := br_n hE c_1
    refine lv_iload_n C.1 C.2.1 dX15_tally_4 rfl (lv_at hl 1 rfl) ?_
    refine lv_iconst (v := (1 : Int32)) C.1 C.2.1 dX15_tally_5 (by decide) ?_
    refine lv_icmp_gt (tgt := 23) C.1 C.2.1 dX15_tally_6 (by decide) (fun c_2 => ?_) (fun c_2 => ?_)
    · have hE := br_p hE c_2
      exact bX15_tally_23 C hkm hW hZ _ (lv_sub hl [] rfl) hE
    · have hE := br_n hE c_2
      refine lv_iload_n C.1 C.2.1 dX15_tally_9 rfl (lv_at hl 2 rfl) ?_
      refine lv_ldcw (v := (-1000000 : Int32)) C.1 C.2.1 C.2.2.2.1 (C.2.2.2.2.1 _ m_2788) dX15_tally_10 ?_
      refine lv_icmp_lt (tgt := 23) C.1 C.2.1 dX15_tally_13 (by decide) (fun c_3 => ?_) (fun c_3 => ?_)
      · have hE := br_p hE c_3
        exact bX15_tally_23 C hkm hW hZ _ (lv_sub hl [] rfl) hE
      · have hE := br_n hE c_3
        refine lv_iload_n C.1 C.2.1 dX15_tally_16 rfl (lv_at hl 2 rfl) ?_
        refine lv_ldcw (v := (1000000 : Int32)) C.1 C.2.1 C.2.2.2.1 (C.2.2.2.2.1 _ m_2787) dX15_tally_17 ?_
        refine lv_icmp_le (tgt := 26) C.1 C.2.1 dX15_tally_20 (by decide) (fun c_4 => ?_) (fun c_4 => ?_)
        · have hE := br_p hE c_4
          refine lv_aload_n C.1 C.2.1 dX15_tally_26 rfl (lv_at hl 0 rfl) ?_
          refine gf_X15_387 C hW k_x0 dX15_tally_27 ?_
          refine lv_if_ne (tgt := 36) C.1 C.2.1 dX15_tally_30 (by decide) (fun c_5 => ?_) (fun c_5 => ?_)
          · have hE := br_n hE c_5
            refine lv_iconst (v := (0 : Int32)) C.1 C.2.1 dX15_tally_36 (by decide) ?_
            refine lv_istore_n (lv' := [(3, .int (0 : Int32)), (0, .ref x0), (1, .int x1), (2, .int x2)]) C.1 C.2.1 dX15_tally_37 rfl hl (by decide) rfl (fun ls hl => ?_)
            refine lv_aload_n C.1 C.2.1 dX15_tally_38 rfl (lv_at hl 1 rfl) ?_
            refine lv_iconst (v := (0 : Int32)) C.1 C.2.1 dX15_tally_39 (by decide) ?_
            obtain ⟨o_6, eo_6, hE⟩ := cl_e hE
            refine x_kI (o := o_6) (z_runV (As := [.int (0 : Int32)]) (rest := []) C (ct_X15_sizeOf l X F k_x0 eo_6) cw_X15_801 hW hZ k_x0 (by decide) rfl rfl rfl hl.1 (Nat.le_of_ble_eq_true rfl) rfl dX15_tally_40 ⟨Nat.le_of_ble_eq_true rfl, Nat.le_of_ble_eq_true rfl⟩ ⟨Nat.le_refl _, Nat.le_refl _⟩) hZ (fun _ _ hW km hZ => ?_)
            replace hkm := hkm.tr km
            replace k_x0 := km.at k_x0 (by decide)
            refine lv_istore (lv' := [(4, .int o_6.1), (3, .int (0 : Int32)), (0, .ref x0), (1, .int x1), (2, .int x2)]) C.1 C.2.1 dX15_tally_43 hl (by decide) rfl (fun ls hl => ?_)
            refine lv_iload_n C.1 C.2.1 dX15_tally_45 rfl (lv_at hl 3 rfl) ?_
            refine lv_istore (lv' := [(5, .int x1), (4, .int o_6.1), (3, .int (0 : Int32)), (0, .ref x0), (1, .int x1), (2, .int x2)]) C.1 C.2.1 dX15_tally_46 hl (by decide) rfl (fun ls hl => ?_)
            exact bX15_tally_48 C F k_x0 hkm hW hZ _ (lv_sub hl [3, 5, 2, 1, 0] rfl) hE
          · have hE := br_p hE c_5
            refine lv_bipush (v := (-103 : Int32)) C.1 C.2.1 dX15_tally_33 (by decide) ?_
            exact x_iret C rfl rfl hW hZ hkm hE dX15_tally_35
        · have hE := br_n hE c_4
          exact bX15_tally_23 C hkm hW hZ _ (lv_sub hl [] rfl) hE
theorem dX15_step_0 : decode cX15_step 0 = .ok (.aload_n 0, 1) := by decide +kernel
theorem dX15_step_1 : decode cX15_step 1 = .ok (.aload_n 0, 1) := by decide +kernel
theorem dX15_step_2 : decode cX15_step 2 = .ok (.iload_n 1, 1) := by decide +kernel
theorem dX15_step_3 : decode cX15_step 3 = .ok (.invokevirtual 671, 3) := by decide +kernel
theorem dX15_step_6 : decode cX15_step 6 = .ok (.aload_n 0, 1) := by decide +kernel
theorem dX15_step_7 : decode cX15_step 7 = .ok (.getfield 301, 3) := by decide +kernel
theorem dX15_step_10 : decode cX15_step 10 = .ok (.iload_n 1, 1) := by decide +kernel
theorem dX15_step_11 : decode cX15_step 11 = .ok (.aaload, 1) := by decide +kernel
theorem dX15_step_12 : decode cX15_step 12 = .ok (.iload_n 2, 1) := by decide +kernel
theorem dX15_step_13 : decode cX15_step 13 = .ok (.aload_n 0, 1) := by decide +kernel
theorem dX15_step_14 : decode cX15_step 14 = .ok (.iload_n 1, 1) := by decide +kernel
theorem dX15_step_15 : decode cX15_step 15 = .ok (.iconst 1, 1) := by decide +kernel
theorem dX15_step_16 : decode cX15_step 16 = .ok (.iadd, 1) := by decide +kernel
theorem dX15_step_17 : decode cX15_step 17 = .ok (.invokevirtual 671, 3) := by decide +kernel
theorem dX15_step_20 : decode cX15_step 20 = .ok (.invokevirtual 627, 3) := by decide +kernel
theorem dX15_step_23 : decode cX15_step 23 = .ok (.aload_n 0, 1) := by decide +kernel
theorem dX15_step_24 : decode cX15_step 24 = .ok (.aload_n 0, 1) := by decide +kernel
theorem dX15_step_25 : decode cX15_step 25 = .ok (.iload_n 1, 1) := by decide +kernel
theorem dX15_step_26 : decode cX15_step 26 = .ok (.iconst 1, 1) := by decide +kernel
theorem dX15_step_27 : decode cX15_step 27 = .ok (.iadd, 1) := by decide +kernel
theorem dX15_step_28 : decode cX15_step 28 = .ok (.invokevirtual 671, 3) := by decide +kernel
theorem dX15_step_31 : decode cX15_step 31 = .ok (.aload_n 0, 1) := by decide +kernel
theorem dX15_step_32 : decode cX15_step 32 = .ok (.getfield 301, 3) := by decide +kernel
theorem dX15_step_35 : decode cX15_step 35 = .ok (.iload_n 1, 1) := by decide +kernel
theorem dX15_step_36 : decode cX15_step 36 = .ok (.iconst 1, 1) := by decide +kernel
theorem dX15_step_37 : decode cX15_step 37 = .ok (.iadd, 1) := by decide +kernel
theorem dX15_step_38 : decode cX15_step 38 = .ok (.aaload, 1) := by decide +kernel
theorem dX15_step_39 : decode cX15_step 39 = .ok (.invokevirtual 652, 3) := by decide +kernel
theorem dX15_step_42 : decode cX15_step 42 = .ok (.return_, 1) := by decide +kernel
set_option maxRecDepth 20000 in
theorem moX15_step_42 {o : Hp} {F : Nat} {h : Hp} (hE : sX15_step_42 F h  = some o) : Le h o := by
  exact le_some1 hE
set_option maxRecDepth 20000 in
theorem moX15_step_31 {o : Hp} {F : Nat} {h : Hp} {x0 : Nat} {x1 : Int32} {t0 : Nat} {t1 : Nat} (hE : sX15_step_31 F h x0 x1 t0 t1 = some o) : Le h o := by
  obtain ⟨r_1, er_1, hE⟩ := cl_e hE
  obtain ⟨g_2, hE⟩ := gd_e hE
  obtain ⟨r_3, er_3, hE⟩ := cl_e hE
  obtain ⟨o_4, eo_4, hE⟩ := cl_e hE
  refine (moX15_legal eo_4).tr ?_
  exact moX15_step_42 hE
set_option maxRecDepth 20000 in
theorem moX15_step_23 {o : Hp} {F : Nat} {h : Hp} {x0 : Nat} {x1 : Int32} (hE : sX15_step_23 F h x0 x1 = some o) : Le h o := by
  obtain ⟨o_1, eo_1, hE⟩ := cl_e hE
  refine (moX15_deepBoard eo_1).tr ?_
  exact moX15_step_31 hE
set_option maxRecDepth 20000 in
theorem moX15_step_20 {o : Hp} {F : Nat} {h : Hp} {x0 : Nat} {x1 : Int32} {t0 : Nat} {t1 : Int32} {t2 : Nat} {t3 : Nat} {t4 : Nat} (hE : sX15_step_20 F h x0 x1 t0 t1 t2 t3 t4 = some o) : Le h o := by
  obtain ⟨o_1, eo_1, hE⟩ := cl_e hE
  refine (moX15_make eo_1).tr ?_
  exact moX15_step_23 hE
set_option maxRecDepth 20000 in
theorem moX15_step_6 {o : Hp} {F : Nat} {h : Hp} {x0 : Nat} {x1 : Int32} {x2 : Int32} {t0 : Nat} {t1 : Nat} (hE : sX15_step_6 F h x0 x1 x2 t0 t1 = some o) : Le h o := by
  obtain ⟨r_1, er_1, hE⟩ := cl_e hE
  obtain ⟨g_2, hE⟩ := gd_e hE
  obtain ⟨r_3, er_3, hE⟩ := cl_e hE
  obtain ⟨o_4, eo_4, hE⟩ := cl_e hE
  refine (moX15_deepBoard eo_4).tr ?_
  exact moX15_step_20 hE
set_option maxRecDepth 20000 in
theorem moX15_step {o : Hp} {F : Nat} {h : Hp} {x0 : Nat} {x1 : Int32} {x2 : Int32} (hE : sX15_step F h x0 x1 x2 = some o) : Le h o := by
  obtain ⟨o_1, eo_1, hE⟩ := cl_e hE
  refine (moX15_deepBoard eo_1).tr ?_
  exact moX15_step_6 hE
set_option maxRecDepth 20000 in
theorem bX15_step_42 {p : Program} {l : Launch} {e : Env} {s : State} {m : MethodId} {args : Array Value} {below : List Frame} {meth : Method} {c : Code} {X : Ec} {h0 : Hp} {o : Hp} {F : Nat} (C : Cx X p s m args meth c RX15 cX15_step 3 none "step") {h : Hp} {H : Heap} {locs : List Loc} (hkl : Kl h0 h) (hW : Wx X h H) (hZ : va_S (aA (eB X)) s.heap H locs) (ls : Array Slot) (hl : lv_has ls 3 []) (hE : sX15_step_42 F h  = some o) : W p l e (rmA 7 191 h0 o) s m args below meth c H locs (hS h - hS h0) (hL h - hL h0) (MQ below (QVA X h0 o) args s (hS o - hS h0) (hL o - hL h0) (aA (eB X))) (F0 m 42 ls []) := by
  exact x_vretA C rfl hW hZ hkl hE dX15_step_42
set_option maxRecDepth 20000 in
theorem bX15_step_31 {p : Program} {l : Launch} {e : Env} {s : State} {m : MethodId} {args : Array Value} {below : List Frame} {meth : Method} {c : Code} {X : Ec} {h0 : Hp} {o : Hp} {F : Nat} (C : Cx X p s m args meth c RX15 cX15_step 3 none "step") {h : Hp} {x0 : Nat} {x1 : Int32} {t0 : Nat} {t1 : Nat} {H : Heap} {locs : List Loc} (k_x0 : hK h x0 = 15) (k_t0 : hK h t0 = 12) (k_t1 : hK h t1 = 15) (hkl : Kl h0 h) (hW : Wx X h H) (hZ : va_S (aA (eB X)) s.heap H locs) (ls : Array Slot) (hl : lv_has ls 3 [(0, .ref x0), (1, .int x1)]) (hE : sX15_step_31 F h x0 x1 t0 t1 = some o) : W p l e (rmA 7 191 h0 o) s m args below meth c H locs (hS h - hS h0) (hL h - hL h0) (MQ below (QVA X h0 o) args s (hS o - hS h0) (hL o - hL h0) (aA (eB X))) (F0 m 31 ls [.ref t0, .ref t1]) := by
  refine lv_aload_n C.1 C.2.1 dX15_step_31 rfl (lv_at hl 0 rfl) ?_
  obtain ⟨r_1, er_1, hE⟩ := cl_e hE
  refine gf_X15_301 C hW k_x0 er_1 dX15_step_32 (fun k_r_1 => ?_)
  refine lv_iload_n C.1 C.2.1 dX15_step_35 rfl (lv_at hl 1 rfl) ?_
  refine lv_iconst (v := (1 : Int32)) C.1 C.2.1 dX15_step_36 (by decide) ?_
  refine lv_iadd C.1 C.2.1 dX15_step_37 ?_
  obtain ⟨g_2, hE⟩ := gd_e hE
  obtain ⟨r_3, er_3, hE⟩ := cl_e hE
  refine y_aald (t0 := 6) C hW k_r_1 (by decide) (by decide) rfl rfl rfl (fun _ => rfl) g_2 er_3 dX15_step_38 (fun k_r_3 => ?_)
  obtain ⟨o_4, eo_4, hE⟩ := cl_e hE
  have m1 := moX15_legal eo_4
  have m2 := moX15_step_42 hE
  refine x_kV (o := o_4) (z_runV (As := [.ref t0, .ref r_3]) (rest := []) C (ct_X15_legal l X F k_t1 k_t0 k_r_3 eo_4) cw_X15_652 hW hZ k_t1 (by decide) rfl rfl rfl hl.1 (Nat.le_of_ble_eq_true rfl) rfl dX15_step_39 ⟨Nat.le_of_ble_eq_true rfl, Nat.le_of_ble_eq_true rfl⟩ (rm_ok0 hkl m1 m2)) hZ (fun _ _ hW km hZ => ?_)
  replace hkl := hkl.tr km.l
  refine x_wc km ?_
  replace k_x0 := km.at k_x0 (by decide)
  exact bX15_step_42 C hkl hW hZ _ (lv_sub hl [] rfl) hE
set_option maxRecDepth 20000 in
theorem bX15_step_23 {p : Program} {l : Launch} {e : Env} {s : State} {m : MethodId} {args : Array Value} {below : List Frame} {meth : Method} {c : Code} {X : Ec} {h0 : Hp} {o : Hp} {F : Nat} (C : Cx X p s m args meth c RX15 cX15_step 3 none "step") {h : Hp} {x0 : Nat} {x1 : Int32} {H : Heap} {locs : List Loc} (k_x0 : hK h x0 = 15) (hkl : Kl h0 h) (hW : Wx X h H) (hZ : va_S (aA (eB X)) s.heap H locs) (ls : Array Slot) (hl : lv_has ls 3 [(0, .ref x0), (1, .int x1)]) (hE : sX15_step_23 F h x0 x1 = some o) : W p l e (rmA 7 191 h0 o) s m args below meth c H locs (hS h - hS h0) (hL h - hL h0) (MQ below (QVA X h0 o) args s (hS o - hS h0) (hL o - hL h0) (aA (eB X))) (F0 m 23 ls []) := by
  refine lv_aload_n C.1 C.2.1 dX15_step_23 rfl (lv_at hl 0 rfl) ?_
  refine lv_aload_n C.1 C.2.1 dX15_step_24 rfl (lv_at hl 0 rfl) ?_
  refine lv_iload_n C.1 C.2.1 dX15_step_25 rfl (lv_at hl 1 rfl) ?_
  refine lv_iconst (v := (1 : Int32)) C.1 C.2.1 dX15_step_26 (by decide) ?_
  refine lv_iadd C.1 C.2.1 dX15_step_27 ?_
  obtain ⟨o_1, eo_1, hE⟩ := cl_e hE
  have m1 := moX15_deepBoard eo_1
  have m2 := moX15_step_31 hE
  refine x_kRA (o := o_1) hkl (z_runV (As := [.int (x1 + (1 : Int32))]) (rest := [.ref x0]) C (ct_X15_deepBoard l X k_x0 eo_1) cw_X15_671 hW hZ k_x0 (by decide) rfl rfl rfl hl.1 (Nat.le_of_ble_eq_true rfl) rfl dX15_step_28 ⟨Nat.le_of_ble_eq_true rfl, Nat.le_of_ble_eq_true rfl⟩ (rm_ok hkl m1 m2)) hZ (fun _ _ hW km k_o_1_1 hZ => ?_)
  replace hkl := hkl.tr km
  replace k_x0 := km.at k_x0 (by decide)
  exact bX15_step_31 C k_x0 k_o_1_1 k_x0 hkl hW hZ _ (lv_sub hl [0, 1] rfl) hE
set_option maxRecDepth 20000 in
theorem bX15_step_20 {p : Program} {l : Launch} {e : Env} {s : State} {m : MethodId} {args : Array Value} {below : List Frame} {meth : Method} {c : Code} {X : Ec} {h0 : Hp} {o : Hp} {F : Nat} (C : Cx X p s m args meth c RX15 cX15_step 3 none "step") {h : Hp} {x0 : Nat} {x1 : Int32} {t0 : Nat} {t1 : Int32} {t2 : Nat} {t3 : Nat} {t4 : Nat} {H : Heap} {locs : List Loc} (k_x0 : hK h x0 = 15) (k_t0 : hK h t0 = 12) (k_t2 : hK h t2 = 13) (k_t3 : hK h t3 = 12) (k_t4 : hK h t4 = 15) (hkl : Kl h0 h) (hW : Wx X h H) (hZ : va_S (aA (eB X)) s.heap H locs) (ls : Array Slot) (hl : lv_has ls 3 [(0, .ref x0), (1, .int x1)]) (hE : sX15_step_20 F h x0 x1 t0 t1 t2 t3 t4 = some o) : W p l e (rmA 7 191 h0 o) s m args below meth c H locs (hS h - hS h0) (hL h - hL h0) (MQ below (QVA X h0 o) args s (hS o - hS h0) (hL o - hL h0) (aA (eB X))) (F0 m 20 ls [.ref t0, .int t1, .ref t2, .ref t3, .ref t4]) := by
  obtain ⟨o_1, eo_1, hE⟩ := cl_e hE
  have m1 := moX15_make eo_1
  have m2 := moX15_step_23 hE
  refine x_kV (o := o_1) (z_runV (As := [.ref t3, .ref t2, .int t1, .ref t0]) (rest := []) C (ct_X15_make l X F k_t4 k_t3 k_t2 k_t0 eo_1) cw_X15_627 hW hZ k_t4 (by decide) rfl rfl rfl hl.1 (Nat.le_of_ble_eq_true rfl) rfl dX15_step_20 ⟨Nat.le_of_ble_eq_true rfl, Nat.le_of_ble_eq_true rfl⟩ (rm_ok0 hkl m1 m2)) hZ (fun _ _ hW km hZ => ?_)
  replace hkl := hkl.tr km.l
  refine x_wc km ?_
  replace k_x0 := km.at k_x0 (by decide)
  exact bX15_step_23 C k_x0 hkl hW hZ _ (lv_sub hl [0, 1] rfl) hE
set_option maxRecDepth 20000 in
theorem bX15_step_6 {p : Program} {l : Launch} {e : Env} {s : State} {m : MethodId} {args : Array Value} {below : List Frame} {meth : Method} {c : Code} {X : Ec} {h0 : Hp} {o : Hp} {F : Nat} (C : Cx X p s m args meth c RX15 cX15_step 3 none "step") {h : Hp} {x0 : Nat} {x1 : Int32} {x2 : Int32} {t0 : Nat} {t1 : Nat} {H : Heap} {locs : List Loc} (k_x0 : hK h x0 = 15) (k_t0 : hK h t0 = 12) (k_t1 : hK h t1 = 15) (hkl : Kl h0 h) (hW : Wx X h H) (hZ : va_S (aA (eB X)) s.heap H locs) (ls : Array Slot) (hl : lv_has ls 3 [(0, .ref x0), (1, .int x1), (2, .int x2)]) (hE : sX15_step_6 F h x0 x1 x2 t0 t1 = some o) : W p l e (rmA 7 191 h0 o) s m args below meth c H locs (hS h - hS h0) (hL h - hL h0) (MQ below (QVA X h0 o) args s (hS o - hS h0) (hL o - hL h0) (aA (eB X))) (F0 m 6 ls [.ref t0, .ref t1]) := by
  refine lv_aload_n C.1 C.2.1 dX15_step_6 rfl (lv_at hl 0 rfl) ?_
  obtain ⟨r_1, er_1, hE⟩ := cl_e hE
  refine gf_X15_301 C hW k_x0 er_1 dX15_step_7 (fun k_r_1 => ?_)
  refine lv_iload_n C.1 C.2.1 dX15_step_10 rfl (lv_at hl 1 rfl) ?_
  obtain ⟨g_2, hE⟩ := gd_e hE
  obtain ⟨r_3, er_3, hE⟩ := cl_e hE
  refine y_aald (t0 := 6) C hW k_r_1 (by decide) (by decide) rfl rfl rfl (fun _ => rfl) g_2 er_3 dX15_step_11 (fun k_r_3 => ?_)
  refine lv_iload_n C.1 C.2.1 dX15_step_12 rfl (lv_at hl 2 rfl) ?_
  refine lv_aload_n C.1 C.2.1 dX15_step_13 rfl (lv_at hl 0 rfl) ?_
  refine lv_iload_n C.1 C.2.1 dX15_step_14 rfl (lv_at hl 1 rfl) ?_
  refine lv_iconst (v := (1 : Int32)) C.1 C.2.1 dX15_step_15 (by decide) ?_
  refine lv_iadd C.1 C.2.1 dX15_step_16 ?_
  obtain ⟨o_4, eo_4, hE⟩ := cl_e hE
  have m1 := moX15_deepBoard eo_4
  have m2 := moX15_step_20 hE
  refine x_kRA (o := o_4) hkl (z_runV (As := [.int (x1 + (1 : Int32))]) (rest := [.int x2, .ref r_3, .ref t0, .ref t1]) C (ct_X15_deepBoard l X k_x0 eo_4) cw_X15_671 hW hZ k_x0 (by decide) rfl rfl rfl hl.1 (Nat.le_of_ble_eq_true rfl) rfl dX15_step_17 ⟨Nat.le_of_ble_eq_true rfl, Nat.le_of_ble_eq_true rfl⟩ (rm_ok hkl m1 m2)) hZ (fun _ _ hW km k_o_4_1 hZ => ?_)
  replace hkl := hkl.tr km
  replace k_x0 := km.at k_x0 (by decide)
  replace k_r_3 := km.at k_r_3 (by decide)
  replace k_t0 := km.at k_t0 (by decide)
  replace k_t1 := km.at k_t1 (by decide)
  exact bX15_step_20 C k_x0 k_o_4_1 k_r_3 k_t0 k_t1 hkl hW hZ _ (lv_sub hl [0, 1] rfl) hE
set_option maxRecDepth 20000 in
theorem ct_X15_step (l : Launch) (X : Ec) (F : Nat) {h : Hp} {x0 : Nat} {x1 : Int32} {x2 : Int32} {o : Hp} (k_x0 : hK h x0 = 15) (hE : sX15_step F h x0 x1 x2 = some o) : MetVA l yX15_step cX15_step 3 none 7 191 X [.ref x0, .int x1, .int x2] h o := by
  refine x_metA (oh := o) (by decide) (Nat.le_of_ble_eq_true rfl) ?_
  intro p e s m below meth c ls C hl hW hZ
  have hl : lv_has ls 3 [(0, .ref x0), (1, .int x1), (2, .int x2)] := hl
  have hkl : Kl h h := Kl.rf h
  refine lv_aload_n C.1 C.2.1 dX15_step_0 rfl (lv_at hl 0 rfl) ?_
  refine lv_aload_n C.1 C.2.1 dX15_step_1 rfl (lv_at hl 0 rfl) ?_
  refine lv_iload_n C.1 C.2.1 dX15_step_2 rfl (lv_at hl 1 rfl) ?_
  obtain ⟨o_1, eo_1, hE⟩ := cl_e hE
  have m1 := moX15_deepBoard eo_1
  have m2 := moX15_step_6 hE
  refine x_kRA (o := o_1) hkl (z_runV (As := [.int x1]) (rest := [.ref x0]) C (ct_X15_deepBoard l X k_x0 eo_1) cw_X15_671 hW hZ k_x0 (by decide) rfl rfl rfl hl.1 (Nat.le_of_ble_eq_true rfl) rfl dX15_step_3 ⟨Nat.le_of_ble_eq_true rfl, Nat.le_of_ble_eq_true rfl⟩ (rm_ok hkl m1 m2)) hZ (fun _ _ hW km k_o_1_1 hZ => ?_)
  replace hkl := hkl.tr km
  replace k_x0 := km.at k_x0 (by decide)
  exact bX15_step_6 C k_x0 k_o_1_1 k_x0 hkl hW hZ _ (lv_sub hl [0, 1, 2] rfl) hE
theorem dX15_isGoal_0 : decode cX15_isGoal 0 = .ok (.aload_n 0, 1) := by decide +kernel
theorem dX15_isGoal_1 : decode cX15_isGoal 1 = .ok (.iload_n 1, 1) := by decide +kernel
theorem dX15_isGoal_2 : decode cX15_isGoal 2 = .ok (.invokevirtual 671, 3) := by decide +kernel
theorem dX15_isGoal_5 : decode cX15_isGoal 5 = .ok (.astore_n 3, 1) := by decide +kernel
theorem dX15_isGoal_6 : decode cX15_isGoal 6 = .ok (.aload_n 0, 1) := by decide +kernel
theorem dX15_isGoal_7 : decode cX15_isGoal 7 = .ok (.aload_n 3, 1) := by decide +kernel
theorem dX15_isGoal_8 : decode cX15_isGoal 8 = .ok (.aload_n 0, 1) := by decide +kernel
theorem dX15_isGoal_9 : decode cX15_isGoal 9 = .ok (.getfield 301, 3) := by decide +kernel
theorem dX15_isGoal_12 : decode cX15_isGoal 12 = .ok (.iload_n 1, 1) := by decide +kernel
theorem dX15_isGoal_13 : decode cX15_isGoal 13 = .ok (.aaload, 1) := by decide +kernel
theorem dX15_isGoal_14 : decode cX15_isGoal 14 = .ok (.getfield 575, 3) := by decide +kernel
theorem dX15_isGoal_17 : decode cX15_isGoal 17 = .ok (.invokevirtual 683, 3) := by decide +kernel
theorem dX15_isGoal_20 : decode cX15_isGoal 20 = .ok (.istore 4, 2) := by decide +kernel
theorem dX15_isGoal_22 : decode cX15_isGoal 22 = .ok (.iload_n 2, 1) := by decide +kernel
theorem dX15_isGoal_23 : decode cX15_isGoal 23 = .ok (.ifCond .ne 17, 3) := by decide +kernel
theorem dX15_isGoal_26 : decode cX15_isGoal 26 = .ok (.iload 4, 2) := by decide +kernel
theorem dX15_isGoal_28 : decode cX15_isGoal 28 = .ok (.iconst 5, 1) := by decide +kernel
theorem dX15_isGoal_29 : decode cX15_isGoal 29 = .ok (.if_icmp .ne 7, 3) := by decide +kernel
theorem dX15_isGoal_32 : decode cX15_isGoal 32 = .ok (.iconst 1, 1) := by decide +kernel
theorem dX15_isGoal_33 : decode cX15_isGoal 33 = .ok (.goto 50, 3) := by decide +kernel
theorem dX15_isGoal_36 : decode cX15_isGoal 36 = .ok (.iconst 0, 1) := by decide +kernel
theorem dX15_isGoal_37 : decode cX15_isGoal 37 = .ok (.goto 46, 3) := by decide +kernel
theorem dX15_isGoal_40 : decode cX15_isGoal 40 = .ok (.iload_n 2, 1) := by decide +kernel
theorem dX15_isGoal_41 : decode cX15_isGoal 41 = .ok (.iconst 1, 1) := by decide +kernel
theorem dX15_isGoal_42 : decode cX15_isGoal 42 = .ok (.if_icmp .ne 18, 3) := by decide +kernel
theorem dX15_isGoal_45 : decode cX15_isGoal 45 = .ok (.iload 4, 2) := by decide +kernel
theorem dX15_isGoal_47 : decode cX15_isGoal 47 = .ok (.bipush 6, 2) := by decide +kernel
theorem dX15_isGoal_49 : decode cX15_isGoal 49 = .ok (.if_icmp .ne 7, 3) := by decide +kernel
theorem dX15_isGoal_52 : decode cX15_isGoal 52 = .ok (.iconst 1, 1) := by decide +kernel
theorem dX15_isGoal_53 : decode cX15_isGoal 53 = .ok (.goto 30, 3) := by decide +kernel
theorem dX15_isGoal_56 : decode cX15_isGoal 56 = .ok (.iconst 0, 1) := by decide +kernel
theorem dX15_isGoal_57 : decode cX15_isGoal 57 = .ok (.goto 26, 3) := by decide +kernel
theorem dX15_isGoal_60 : decode cX15_isGoal 60 = .ok (.iload 4, 2) := by decide +kernel
theorem dX15_isGoal_62 : decode cX15_isGoal 62 = .ok (.ifCond .le 20, 3) := by decide +kernel
theorem dX15_isGoal_65 : decode cX15_isGoal 65 = .ok (.aload_n 0, 1) := by decide +kernel
theorem dX15_isGoal_66 : decode cX15_isGoal 66 = .ok (.getfield 646, 3) := by decide +kernel
theorem dX15_isGoal_69 : decode cX15_isGoal 69 = .ok (.iconst 1, 1) := by decide +kernel
theorem dX15_isGoal_70 : decode cX15_isGoal 70 = .ok (.aload_n 3, 1) := by decide +kernel
theorem dX15_isGoal_71 : decode cX15_isGoal 71 = .ok (.getfield 452, 3) := by decide +kernel
theorem dX15_isGoal_74 : decode cX15_isGoal 74 = .ok (.isub, 1) := by decide +kernel
theorem dX15_isGoal_75 : decode cX15_isGoal 75 = .ok (.if_icmp .ne 7, 3) := by decide +kernel
theorem dX15_isGoal_78 : decode cX15_isGoal 78 = .ok (.iconst 1, 1) := by decide +kernel
theorem dX15_isGoal_79 : decode cX15_isGoal 79 = .ok (.goto 4, 3) := by decide +kernel
theorem dX15_isGoal_82 : decode cX15_isGoal 82 = .ok (.iconst 0, 1) := by decide +kernel
theorem dX15_isGoal_83 : decode cX15_isGoal 83 = .ok (.ireturn, 1) := by decide +kernel
set_option maxRecDepth 20000 in
theorem moX15_isGoal_83 {o : Int32 × Hp} {F : Nat} {h : Hp} {t0 : Int32} (hE : sX15_isGoal_83 F h  t0 = some o) : Le h o.2 := by
  obtain ⟨g_1, hE⟩ := gd_e hE
  exact le_some2 hE
set_option maxRecDepth 20000 in
theorem moX15_isGoal_82 {o : Int32 × Hp} {F : Nat} {h : Hp} (hE : sX15_isGoal_82 F h  = some o) : Le h o.2 := by
  exact moX15_isGoal_83 hE
set_option maxRecDepth 20000 in
theorem moX15_isGoal_20 {o : Int32 × Hp} {F : Nat} {h : Hp} {x0 : Nat} {x2 : Int32} {x3 : Nat} {t0 : Int32} (hE : sX15_isGoal_20 F h x0 x2 x3 t0 = some o) : Le h o.2 := by
  rcases br_e hE with ⟨_, hE⟩ | ⟨_, hE⟩
  · rcases br_e hE with ⟨_, hE⟩ | ⟨_, hE⟩
    · exact moX15_isGoal_83 hE
    · exact moX15_isGoal_83 hE
  · rcases br_e hE with ⟨_, hE⟩ | ⟨_, hE⟩
    · rcases br_e hE with ⟨_, hE⟩ | ⟨_, hE⟩
      · exact moX15_isGoal_83 hE
      · exact moX15_isGoal_83 hE
    · rcases br_e hE with ⟨_, hE⟩ | ⟨_, hE⟩
      · exact moX15_isGoal_82 hE
      · rcases br_e hE with ⟨_, hE⟩ | ⟨_, hE⟩
        · exact moX15_isGoal_83 hE
        · exact moX15_isGoal_82 hE
set_option maxRecDepth 20000 in
theorem moX15_isGoal_5 {o : Int32 × Hp} {F : Nat} {h : Hp} {x0 : Nat} {x1 : Int32} {x2 : Int32} {t0 : Nat} (hE : sX15_isGoal_5 F h x0 x1 x2 t0 = some o) : Le h o.2 := by
  obtain ⟨r_1, er_1, hE⟩ := cl_e hE
  obtain ⟨g_2, hE⟩ := gd_e hE
  obtain ⟨r_3, er_3, hE⟩ := cl_e hE
  obtain ⟨o_4, eo_4, hE⟩ := cl_e hE
  refine (moX15_endedBy eo_4).tr ?_
  exact moX15_isGoal_20 hE
set_option maxRecDepth 20000 in
theorem moX15_isGoal {o : Int32 × Hp} {F : Nat} {h : Hp} {x0 : Nat} {x1 : Int32} {x2 : Int32} (hE : sX15_isGoal F h x0 x1 x2 = some o) : Le h o.2 := by
  obtain ⟨o_1, eo_1, hE⟩ := cl_e hE
  refine (moX15_deepBoard eo_1).tr ?_
  exact moX15_isGoal_5 hE
set_option maxRecDepth 20000 in
theorem bX15_isGoal_83 {p : Program} {l : Launch} {e : Env} {s : State} {m : MethodId} {args : Array Value} {below : List Frame} {meth : Method} {c : Code} {X : Ec} {h0 : Hp} {o : Int32 × Hp} {F : Nat} (C : Cx X p s m args meth c RX15 cX15_isGoal 5 (some .boolean) "isGoal") {h : Hp} {t0 : Int32} {H : Heap} {locs : List Loc} (hkl : Kl h0 h) (hW : Wx X h H) (hZ : va_S (aA (eB X)) s.heap H locs) (ls : Array Slot) (hl : lv_has ls 5 []) (hE : sX15_isGoal_83 F h  t0 = some o) : W p l e (rmA 5 130 h0 o.2) s m args below meth c H locs (hS h - hS h0) (hL h - hL h0) (MQ below (QIA X h0 o.1 o.2) args s (hS o.2 - hS h0) (hL o.2 - hL h0) (aA (eB X))) (F0 m 83 ls [.int t0]) := by
  obtain ⟨g_1, hE⟩ := gd_e hE
  exact x_iretA C rfl (narB g_1) hW hZ hkl hE dX15_isGoal_83
set_option maxRecDepth 20000 in
theorem bX15_isGoal_82 {p : Program} {l : Launch} {e : Env} {s : State} {m : MethodId} {args : Array Value} {below : List Frame} {meth : Method} {c : Code} {X : Ec} {h0 : Hp} {o : Int32 × Hp} {F : Nat} (C : Cx X p s m args meth c RX15 cX15_isGoal 5 (some .boolean) "isGoal") {h : Hp} {H : Heap} {locs : List Loc} (hkl : Kl h0 h) (hW : Wx X h H) (hZ : va_S (aA (eB X)) s.heap H locs) (ls : Array Slot) (hl : lv_has ls 5 []) (hE : sX15_isGoal_82 F h  = some o) : W p l e (rmA 5 130 h0 o.2) s m args below meth c H locs (hS h - hS h0) (hL h - hL h0) (MQ below (QIA X h0 o.1 o.2) args s (hS o.2 - hS h0) (hL o.2 - hL h0) (aA (eB X))) (F0 m 82 ls []) := by
  refine lv_iconst (v := (0 : Int32)) C.1 C.2.1 dX15_isGoal_82 (by decide) ?_
  exact bX15_isGoal_83 C hkl hW hZ _ (lv_sub hl [] rfl) hE
set_option maxRecDepth 20000 in
theorem bX15_isGoal_20 {p : Program} {l : Launch} {e : Env} {s : State} {m : MethodId} {args : Array Value} {below : List Frame} {meth : Method} {c : Code} {X : Ec} {h0 : Hp} {o : Int32 × Hp} {F : Nat} (C : Cx X p s m args meth c RX15 cX15_isGoal 5 (some .boolean) "isGoal") {h : Hp} {x0 : Nat} {x2 : Int32} {x3 : Nat} {t0 : Int32} {H : Heap} {locs : List Loc} (k_x0 : hK h x0 = 15) (k_x3 : hK h x3 = 12) (hkl : Kl h0 h) (hW : Wx X h H) (hZ : va_S (aA (eB X)) s.heap H locs) (ls : Array Slot) (hl : lv_has ls 5 [(0, .ref x0), (2, .int x2), (3, .ref x3)]) (hE : sX15_isGoal_20 F h x0 x2 x3 t0 = some o) : W p l e (rmA 5 130 h0 o.2) s m args below meth c H locs (hS h - hS h0) (hL h - hL h0) (MQ below (QIA X h0 o.1 o.2) args s (hS o.2 - hS h0) (hL o.2 - hL h0) (aA (eB X))) (F0 m 20 ls [.int t0]) := by
  refine lv_istore (lv' := [(4, .int t0), (0, .ref x0), (2, .int x2), (3, .ref x3)]) C.1 C.2.1 dX15_isGoal_20 hl (by decide) rfl (fun ls hl => ?_)
  refine lv_iload_n C.1 C.2.1 dX15_isGoal_22 rfl (lv_at hl 2 rfl) ?_
  refine lv_if_ne (tgt := 40) C.1 C.2.1 dX15_isGoal_23 (by decide) (fun c_1 => ?_) (fun c_1 => ?_)
  · have hE := br_n hE c_1
    refine lv_iload_n C.1 C.2.1 dX15_isGoal_40 rfl (lv_at hl 2 rfl) ?_
    refine lv_iconst (v := (1 : Int32)) C.1 C.2.1 dX15_isGoal_41 (by decide) ?_
    refine lv_icmp_ne (tgt := 60) C.1 C.2.1 dX15_isGoal_42 (by decide) (fun c_2 => ?_) (fun c_2 => ?_)
    · have hE := br_n hE c_2
      refine lv_iload C.1 C.2.1 dX15_isGoal_60 (lv_at hl 0 rfl) ?_
      refine lv_if_le (tgt := 82) C.1 C.2.1 dX15_isGoal_62 (by decide) (fun c_3 => ?_) (fun c_3 => ?_)
      · have hE := br_p hE c_3
        exact bX15_isGoal_82 C hkl hW hZ _ (lv_sub hl [] rfl) hE
      · have hE := br_n hE c_3
        refine lv_aload_n C.1 C.2.1 dX15_isGoal_65 rfl (lv_at hl 1 rfl) ?_
        refine gf_X15_646 C hW k_x0 dX15_isGoal_66 ?_
        refine lv_iconst (v := (1 : Int32)) C.1 C.2.1 dX15_isGoal_69 (by decide) ?_
        refine lv_aload_n C.1 C.2.1 dX15_isGoal_70 rfl (lv_at hl 3 rfl) ?_
        refine gf_X15_452 C hW k_x3 dX15_isGoal_71 ?_
        refine lv_isub C.1 C.2.1 dX15_isGoal_74 ?_
        refine lv_icmp_ne (tgt := 82) C.1 C.2.1 dX15_isGoal_75 (by decide) (fun c_4 => ?_) (fun c_4 => ?_)
        · have hE := br_n hE c_4
          exact bX15_isGoal_82 C hkl hW hZ _ (lv_sub hl [] rfl) hE
        · have hE := br_p hE c_4
          refine lv_iconst (v := (1 : Int32)) C.1 C.2.1 dX15_isGoal_78 (by decide) ?_
          refine lv_goto (tgt := 83) C.1 C.2.1 dX15_isGoal_79 (by decide) ?_
          exact bX15_isGoal_83 C hkl hW hZ _ (lv_sub hl [] rfl) hE
    · have hE := br_p hE c_2
      refine lv_iload C.1 C.2.1 dX15_isGoal_45 (lv_at hl 0 rfl) ?_
      refine lv_bipush (v := (6 : Int32)) C.1 C.2.1 dX15_isGoal_47 (by decide) ?_
      refine lv_icmp_ne (tgt := 56) C.1 C.2.1 dX15_isGoal_49 (by decide) (fun c_5 => ?_) (fun c_5 => ?_)
      · have hE := br_n hE c_5
        refine lv_iconst (v := (0 : Int32)) C.1 C.2.1 dX15_isGoal_56 (by decide) ?_
        refine lv_goto (tgt := 83) C.1 C.2.1 dX15_isGoal_57 (by decide) ?_
        exact bX15_isGoal_83 C hkl hW hZ _ (lv_sub hl [] rfl) hE
      · have hE := br_p hE c_5
        refine lv_iconst (v := (1 : Int32)) C.1 C.2.1 dX15_isGoal_52 (by decide) ?_
        refine lv_goto (tgt := 83) C.1 C.2.1 dX15_isGoal_53 (by decide) ?_
        exact bX15_isGoal_83 C hkl hW hZ _ (lv_sub hl [] rfl) hE
  · have hE := br_p hE c_1
    refine lv_iload C.1 C.2.1 dX15_isGoal_26 (lv_at hl 0 rfl) ?_
    refine lv_iconst (v := (5 : Int32)) C.1 C.2.1 dX15_isGoal_28 (by decide) ?_
    refine lv_icmp_ne (tgt := 36) C.1 C.2.1 dX15_isGoal_29 (by decide) (fun c_6 => ?_) (fun c_6 => ?_)
    · have hE := br_n hE c_6
      refine lv_iconst (v := (0 : Int32)) C.1 C.2.1 dX15_isGoal_36 (by decide) ?_
      refine lv_goto (tgt := 83) C.1 C.2.1 dX15_isGoal_37 (by decide) ?_
      exact bX15_isGoal_83 C hkl hW hZ _ (lv_sub hl [] rfl) hE
    · have hE := br_p hE c_6
      refine lv_iconst (v := (1 : Int32)) C.1 C.2.1 dX15_isGoal_32 (by decide) ?_
      refine lv_goto (tgt := 83) C.1 C.2.1 dX15_isGoal_33 (by decide) ?_
      exact bX15_isGoal_83 C hkl hW hZ _ (lv_sub hl [] rfl) hE
set_option maxRecDepth 20000 in
theorem bX15_isGoal_5 {p : Program} {l : Launch} {e : Env} {s : State} {m : MethodId} {args : Array Value} {below : List Frame} {meth : Method} {c : Code} {X : Ec} {h0 : Hp} {o : Int32 × Hp} {F : Nat} (C : Cx X p s m args meth c RX15 cX15_isGoal 5 (some .boolean) "isGoal") {h : Hp} {x0 : Nat} {x1 : Int32} {x2 : Int32} {t0 : Nat} {H : Heap} {locs : List Loc} (k_x0 : hK h x0 = 15) (k_t0 : hK h t0 = 12) (hkl : Kl h0 h) (hW : Wx X h H) (hZ : va_S (aA (eB X)) s.heap H locs) (ls : Array Slot) (hl : lv_has ls 5 [(0, .ref x0), (1, .int x1), (2, .int x2)]) (hE : sX15_isGoal_5 F h x0 x1 x2 t0 = some o) : W p l e (rmA 5 130 h0 o.2) s m args below meth c H locs (hS h - hS h0) (hL h - hL h0) (MQ below (QIA X h0 o.1 o.2) args s (hS o.2 - hS h0) (hL o.2 - hL h0) (aA (eB X))) (F0 m 5 ls [.ref t0]) := by
  refine lv_astore_n (lv' := [(3, .ref t0), (0, .ref x0), (1, .int x1), (2, .int x2)]) C.1 C.2.1 dX15_isGoal_5 rfl hl (by decide) rfl (fun ls hl => ?_)
  refine lv_aload_n C.1 C.2.1 dX15_isGoal_6 rfl (lv_at hl 1 rfl) ?_
  refine lv_aload_n C.1 C.2.1 dX15_isGoal_7 rfl (lv_at hl 0 rfl) ?_
  refine lv_aload_n C.1 C.2.1 dX15_isGoal_8 rfl (lv_at hl 1 rfl) ?_
  obtain ⟨r_1, er_1, hE⟩ := cl_e hE
  refine gf_X15_301 C hW k_x0 er_1 dX15_isGoal_9 (fun k_r_1 => ?_)
  refine lv_iload_n C.1 C.2.1 dX15_isGoal_12 rfl (lv_at hl 2 rfl) ?_
  obtain ⟨g_2, hE⟩ := gd_e hE
  obtain ⟨r_3, er_3, hE⟩ := cl_e hE
  refine y_aald (t0 := 6) C hW k_r_1 (by decide) (by decide) rfl rfl rfl (fun _ => rfl) g_2 er_3 dX15_isGoal_13 (fun k_r_3 => ?_)
  refine gf_X15_575 C hW k_r_3 dX15_isGoal_14 ?_
  obtain ⟨o_4, eo_4, hE⟩ := cl_e hE
  have m1 := moX15_endedBy eo_4
  have m2 := moX15_isGoal_20 hE
  refine x_kI (o := o_4) (z_runV (As := [.ref t0, .int (hI h r_3 0)]) (rest := []) C (ct_X15_endedBy l X F k_x0 k_t0 eo_4) cw_X15_683 hW hZ k_x0 (by decide) rfl rfl rfl hl.1 (Nat.le_of_ble_eq_true rfl) rfl dX15_isGoal_17 ⟨Nat.le_of_ble_eq_true rfl, Nat.le_of_ble_eq_true rfl⟩ (rm_ok0 hkl m1 m2)) hZ (fun _ _ hW km hZ => ?_)
  replace hkl := hkl.tr km.l
  refine x_wc km ?_
  replace k_t0 := km.at k_t0 (by decide)
  replace k_x0 := km.at k_x0 (by decide)
  exact bX15_isGoal_20 C k_x0 k_t0 hkl hW hZ _ (lv_sub hl [1, 3, 0] rfl) hE
set_option maxRecDepth 20000 in
theorem ct_X15_isGoal (l : Launch) (X : Ec) (F : Nat) {h : Hp} {x0 : Nat} {x1 : Int32} {x2 : Int32} {o : Int32 × Hp} (k_x0 : hK h x0 = 15) (hE : sX15_isGoal F h x0 x1 x2 = some o) : MetIA l yX15_isGoal cX15_isGoal 5 (some .boolean) 5 130 X [.ref x0, .int x1, .int x2] h o := by
  refine x_metA (oh := o.2) (by decide) (Nat.le_of_ble_eq_true rfl) ?_
  intro p e s m below meth c ls C hl hW hZ
  have hl : lv_has ls 5 [(0, .ref x0), (1, .int x1), (2, .int x2)] := hl
  have hkl : Kl h h := Kl.rf h
  refine lv_aload_n C.1 C.2.1 dX15_isGoal_0 rfl (lv_at hl 0 rfl) ?_
  refine lv_iload_n C.1 C.2.1 dX15_isGoal_1 rfl (lv_at hl 1 rfl) ?_
  obtain ⟨o_1, eo_1, hE⟩ := cl_e hE
  have m1 := moX15_deepBoard eo_1
  have m2 := moX15_isGoal_5 hE
  refine x_kRA (o := o_1) hkl (z_runV (As := [.int x1]) (rest := []) C (ct_X15_deepBoard l X k_x0 eo_1) cw_X15_671 hW hZ k_x0 (by decide) rfl rfl rfl hl.1 (Nat.le_of_ble_eq_true rfl) rfl dX15_isGoal_2 ⟨Nat.le_of_ble_eq_true rfl, Nat.le_of_ble_eq_true rfl⟩ (rm_ok hkl m1 m2)) hZ (fun _ _ hW km k_o_1_1 hZ => ?_)
  replace hkl := hkl.tr km
  replace k_x0 := km.at k_x0 (by decide)
  exact bX15_isGoal_5 C k_x0 k_o_1_1 hkl hW hZ _ (lv_sub hl [0, 1, 2] rfl) hE
set_option maxRecDepth 100000 in
theorem ms_220 : Cond.selects RX15 yX15_goalRows yX15_goalRows ∈ W0 := w0_in (List.mem_append_left _ (List.mem_of_getElem? (i := 220) rfl)) rfl
set_option maxRecDepth 100000 in
theorem ms_219 : Cond.selects RX15 yX15_isGoal yX15_isGoal ∈ W0 := w0_in (List.mem_append_left _ (List.mem_of_getElem? (i := 219) rfl)) rfl
set_option maxRecDepth 100000 in
theorem ms_218 : Cond.selects RX15 yX15_step yX15_step ∈ W0 := w0_in (List.mem_append_left _ (List.mem_of_getElem? (i := 218) rfl)) rfl
set_option maxRecDepth 100000 in
theorem ms_217 : Cond.selects RX15 yX15_goalRowsBy yX15_goalRowsBy ∈ W0 := w0_in (List.mem_append_left _ (List.mem_of_getElem? (i := 217) rfl)) rfl
set_option maxRecDepth 100000 in
theorem m_2845 : Cond.methodLink RX15 839 yX15_goalRowsBy ∈ W0 := w0_in (List.mem_append_right _ (List.mem_of_getElem? (i := 2845) rfl)) rfl
set_option maxRecDepth 100000 in
theorem m_2847 : Cond.instanceMethod yX15_goalRowsBy ∈ W0 := w0_in (List.mem_append_right _ (List.mem_of_getElem? (i := 2847) rfl)) rfl
set_option maxRecDepth 100000 in
theorem m_2848 : Cond.code yX15_goalRowsBy cX15_goalRowsBy 6 (some .int) ∈ W0 := w0_in (List.mem_append_right _ (List.mem_of_getElem? (i := 2848) rfl)) rfl
set_option maxRecDepth 100000 in
theorem m_2849 : Cond.methodLink RX15 823 yX15_step ∈ W0 := w0_in (List.mem_append_right _ (List.mem_of_getElem? (i := 2849) rfl)) rfl
set_option maxRecDepth 100000 in
theorem m_2851 : Cond.instanceMethod yX15_step ∈ W0 := w0_in (List.mem_append_right _ (List.mem_of_getElem? (i := 2851) rfl)) rfl
set_option maxRecDepth 100000 in
theorem m_2852 : Cond.code yX15_step cX15_step 3 none ∈ W0 := w0_in (List.mem_append_right _ (List.mem_of_getElem? (i := 2852) rfl)) rfl
set_option maxRecDepth 100000 in
theorem m_2853 : Cond.methodLink RX15 826 yX15_isGoal ∈ W0 := w0_in (List.mem_append_right _ (List.mem_of_getElem? (i := 2853) rfl)) rfl
set_option maxRecDepth 100000 in
theorem m_2855 : Cond.instanceMethod yX15_isGoal ∈ W0 := w0_in (List.mem_append_right _ (List.mem_of_getElem? (i := 2855) rfl)) rfl
set_option maxRecDepth 100000 in
theorem m_2856 : Cond.code yX15_isGoal cX15_isGoal 5 (some .boolean) ∈ W0 := w0_in (List.mem_append_right _ (List.mem_of_getElem? (i := 2856) rfl)) rfl
set_option maxRecDepth 100000 in
theorem m_2857 : Cond.methodLink RX15 843 yX15_goalRows ∈ W0 := w0_in (List.mem_append_right _ (List.mem_of_getElem? (i := 2857) rfl)) rfl
set_option maxRecDepth 100000 in
theorem m_2859 : Cond.instanceMethod yX15_goalRows ∈ W0 := w0_in (List.mem_append_right _ (List.mem_of_getElem? (i := 2859) rfl)) rfl
set_option maxRecDepth 100000 in
theorem m_2860 : Cond.code yX15_goalRows cX15_goalRows 7 (some .int) ∈ W0 := w0_in (List.mem_append_right _ (List.mem_of_getElem? (i := 2860) rfl)) rfl
theorem cw_X15_839 : cwd RX15 839 yX15_goalRowsBy cX15_goalRowsBy 6 (some .int) false 5 := ⟨m_2848, m_2845, m_19, ⟨m_2847, ms_217⟩, by decide, by decide, by decide +kernel⟩
theorem cw_X15_843 : cwd RX15 843 yX15_goalRows cX15_goalRows 7 (some .int) false 4 := ⟨m_2860, m_2857, m_19, ⟨m_2859, ms_220⟩, by decide, by decide, by decide +kernel⟩
theorem cw_X15_826 : cwd RX15 826 yX15_isGoal cX15_isGoal 5 (some .boolean) false 2 := ⟨m_2856, m_2853, m_19, ⟨m_2855, ms_219⟩, by decide, by decide, by decide +kernel⟩
theorem cw_X15_823 : cwd RX15 823 yX15_step cX15_step 3 none false 2 := ⟨m_2852, m_2849, m_19, ⟨m_2851, ms_218⟩, by decide, by decide, by decide +kernel⟩
theorem dX15_goalRows_0 : decode cX15_goalRows 0 = .ok (.iconst 0, 1) := by decide +kernel
theorem dX15_goalRows_1 : decode cX15_goalRows 1 = .ok (.istore 5, 2) := by decide +kernel
theorem dX15_goalRows_3 : decode cX15_goalRows 3 = .ok (.iconst 0, 1) := by decide +kernel
theorem dX15_goalRows_4 : decode cX15_goalRows 4 = .ok (.istore 6, 2) := by decide +kernel
theorem dX15_goalRows_6 : decode cX15_goalRows 6 = .ok (.iload 6, 2) := by decide +kernel
theorem dX15_goalRows_8 : decode cX15_goalRows 8 = .ok (.aload_n 0, 1) := by decide +kernel
theorem dX15_goalRows_9 : decode cX15_goalRows 9 = .ok (.getfield 301, 3) := by decide +kernel
theorem dX15_goalRows_12 : decode cX15_goalRows 12 = .ok (.iload_n 1, 1) := by decide +kernel
theorem dX15_goalRows_13 : decode cX15_goalRows 13 = .ok (.aaload, 1) := by decide +kernel
theorem dX15_goalRows_14 : decode cX15_goalRows 14 = .ok (.getfield 575, 3) := by decide +kernel
theorem dX15_goalRows_17 : decode cX15_goalRows 17 = .ok (.if_icmp .ge 25, 3) := by decide +kernel
theorem dX15_goalRows_20 : decode cX15_goalRows 20 = .ok (.iload 5, 2) := by decide +kernel
theorem dX15_goalRows_22 : decode cX15_goalRows 22 = .ok (.aload_n 0, 1) := by decide +kernel
theorem dX15_goalRows_23 : decode cX15_goalRows 23 = .ok (.iload_n 1, 1) := by decide +kernel
theorem dX15_goalRows_24 : decode cX15_goalRows 24 = .ok (.iload 6, 2) := by decide +kernel
theorem dX15_goalRows_26 : decode cX15_goalRows 26 = .ok (.iload_n 2, 1) := by decide +kernel
theorem dX15_goalRows_27 : decode cX15_goalRows 27 = .ok (.iload_n 3, 1) := by decide +kernel
theorem dX15_goalRows_28 : decode cX15_goalRows 28 = .ok (.iload 4, 2) := by decide +kernel
theorem dX15_goalRows_30 : decode cX15_goalRows 30 = .ok (.invokevirtual 839, 3) := by decide +kernel
theorem dX15_goalRows_33 : decode cX15_goalRows 33 = .ok (.iadd, 1) := by decide +kernel
theorem dX15_goalRows_34 : decode cX15_goalRows 34 = .ok (.istore 5, 2) := by decide +kernel
theorem dX15_goalRows_36 : decode cX15_goalRows 36 = .ok (.iinc 6 1, 3) := by decide +kernel
theorem dX15_goalRows_39 : decode cX15_goalRows 39 = .ok (.goto (-33), 3) := by decide +kernel
theorem dX15_goalRows_42 : decode cX15_goalRows 42 = .ok (.iload 5, 2) := by decide +kernel
theorem dX15_goalRows_44 : decode cX15_goalRows 44 = .ok (.ireturn, 1) := by decide +kernel
theorem dX15_goalRowsBy_0 : decode cX15_goalRowsBy 0 = .ok (.aload_n 0, 1) := by decide +kernel
theorem dX15_goalRowsBy_1 : decode cX15_goalRowsBy 1 = .ok (.iload_n 1, 1) := by decide +kernel
theorem dX15_goalRowsBy_2 : decode cX15_goalRowsBy 2 = .ok (.iload_n 2, 1) := by decide +kernel
theorem dX15_goalRowsBy_3 : decode cX15_goalRowsBy 3 = .ok (.invokevirtual 823, 3) := by decide +kernel
theorem dX15_goalRowsBy_6 : decode cX15_goalRowsBy 6 = .ok (.iload_n 3, 1) := by decide +kernel
theorem dX15_goalRowsBy_7 : decode cX15_goalRowsBy 7 = .ok (.iconst 1, 1) := by decide +kernel
theorem dX15_goalRowsBy_8 : decode cX15_goalRowsBy 8 = .ok (.if_icmp .ne 21, 3) := by decide +kernel
theorem dX15_goalRowsBy_11 : decode cX15_goalRowsBy 11 = .ok (.aload_n 0, 1) := by decide +kernel
theorem dX15_goalRowsBy_12 : decode cX15_goalRowsBy 12 = .ok (.iload_n 1, 1) := by decide +kernel
theorem dX15_goalRowsBy_13 : decode cX15_goalRowsBy 13 = .ok (.iconst 1, 1) := by decide +kernel
theorem dX15_goalRowsBy_14 : decode cX15_goalRowsBy 14 = .ok (.iadd, 1) := by decide +kernel
theorem dX15_goalRowsBy_15 : decode cX15_goalRowsBy 15 = .ok (.iload 5, 2) := by decide +kernel
theorem dX15_goalRowsBy_17 : decode cX15_goalRowsBy 17 = .ok (.invokevirtual 826, 3) := by decide +kernel
theorem dX15_goalRowsBy_20 : decode cX15_goalRowsBy 20 = .ok (.ifCond .eq 7, 3) := by decide +kernel
theorem dX15_goalRowsBy_23 : decode cX15_goalRowsBy 23 = .ok (.iconst 1, 1) := by decide +kernel
theorem dX15_goalRowsBy_24 : decode cX15_goalRowsBy 24 = .ok (.goto 4, 3) := by decide +kernel
theorem dX15_goalRowsBy_27 : decode cX15_goalRowsBy 27 = .ok (.iconst 0, 1) := by decide +kernel
theorem dX15_goalRowsBy_28 : decode cX15_goalRowsBy 28 = .ok (.ireturn, 1) := by decide +kernel
theorem dX15_goalRowsBy_29 : decode cX15_goalRowsBy 29 = .ok (.iload 4, 2) := by decide +kernel
theorem dX15_goalRowsBy_31 : decode cX15_goalRowsBy 31 = .ok (.ifCond .eq 34, 3) := by decide +kernel
theorem dX15_goalRowsBy_34 : decode cX15_goalRowsBy 34 = .ok (.aload_n 0, 1) := by decide +kernel
theorem dX15_goalRowsBy_35 : decode cX15_goalRowsBy 35 = .ok (.iload_n 1, 1) := by decide +kernel
theorem dX15_goalRowsBy_36 : decode cX15_goalRowsBy 36 = .ok (.iconst 1, 1) := by decide +kernel
theorem dX15_goalRowsBy_37 : decode cX15_goalRowsBy 37 = .ok (.iadd, 1) := by decide +kernel
theorem dX15_goalRowsBy_38 : decode cX15_goalRowsBy 38 = .ok (.invokevirtual 676, 3) := by decide +kernel
theorem dX15_goalRowsBy_41 : decode cX15_goalRowsBy 41 = .ok (.ifCond .ne 5, 3) := by decide +kernel
theorem dX15_goalRowsBy_44 : decode cX15_goalRowsBy 44 = .ok (.iconst 0, 1) := by decide +kernel
theorem dX15_goalRowsBy_45 : decode cX15_goalRowsBy 45 = .ok (.ireturn, 1) := by decide +kernel
theorem dX15_goalRowsBy_46 : decode cX15_goalRowsBy 46 = .ok (.aload_n 0, 1) := by decide +kernel
theorem dX15_goalRowsBy_47 : decode cX15_goalRowsBy 47 = .ok (.aload_n 0, 1) := by decide +kernel
theorem dX15_goalRowsBy_48 : decode cX15_goalRowsBy 48 = .ok (.iload_n 1, 1) := by decide +kernel
theorem dX15_goalRowsBy_49 : decode cX15_goalRowsBy 49 = .ok (.iconst 1, 1) := by decide +kernel
theorem dX15_goalRowsBy_50 : decode cX15_goalRowsBy 50 = .ok (.iadd, 1) := by decide +kernel
theorem dX15_goalRowsBy_51 : decode cX15_goalRowsBy 51 = .ok (.invokevirtual 671, 3) := by decide +kernel
theorem dX15_goalRowsBy_54 : decode cX15_goalRowsBy 54 = .ok (.aload_n 0, 1) := by decide +kernel
theorem dX15_goalRowsBy_55 : decode cX15_goalRowsBy 55 = .ok (.getfield 301, 3) := by decide +kernel
theorem dX15_goalRowsBy_58 : decode cX15_goalRowsBy 58 = .ok (.iload_n 1, 1) := by decide +kernel
theorem dX15_goalRowsBy_59 : decode cX15_goalRowsBy 59 = .ok (.iconst 1, 1) := by decide +kernel
theorem dX15_goalRowsBy_60 : decode cX15_goalRowsBy 60 = .ok (.iadd, 1) := by decide +kernel
theorem dX15_goalRowsBy_61 : decode cX15_goalRowsBy 61 = .ok (.aaload, 1) := by decide +kernel
theorem dX15_goalRowsBy_62 : decode cX15_goalRowsBy 62 = .ok (.invokevirtual 652, 3) := by decide +kernel
theorem dX15_goalRowsBy_65 : decode cX15_goalRowsBy 65 = .ok (.aload_n 0, 1) := by decide +kernel
theorem dX15_goalRowsBy_66 : decode cX15_goalRowsBy 66 = .ok (.iload_n 1, 1) := by decide +kernel
theorem dX15_goalRowsBy_67 : decode cX15_goalRowsBy 67 = .ok (.iconst 1, 1) := by decide +kernel
theorem dX15_goalRowsBy_68 : decode cX15_goalRowsBy 68 = .ok (.iadd, 1) := by decide +kernel
theorem dX15_goalRowsBy_69 : decode cX15_goalRowsBy 69 = .ok (.iload_n 3, 1) := by decide +kernel
theorem dX15_goalRowsBy_70 : decode cX15_goalRowsBy 70 = .ok (.iconst 1, 1) := by decide +kernel
theorem dX15_goalRowsBy_71 : decode cX15_goalRowsBy 71 = .ok (.isub, 1) := by decide +kernel
theorem dX15_goalRowsBy_72 : decode cX15_goalRowsBy 72 = .ok (.iload 4, 2) := by decide +kernel
theorem dX15_goalRowsBy_74 : decode cX15_goalRowsBy 74 = .ok (.iload 5, 2) := by decide +kernel
theorem dX15_goalRowsBy_76 : decode cX15_goalRowsBy 76 = .ok (.invokevirtual 843, 3) := by decide +kernel
theorem dX15_goalRowsBy_79 : decode cX15_goalRowsBy 79 = .ok (.ireturn, 1) := by decide +kernel
set_option maxRecDepth 20000 in
theorem moX15_goalRows_33 {o : Int32 × Hp} {k_6 : Hp → Nat → Int32 → Int32 → Int32 → Int32 → Int32 → Int32 → Option (Int32 × Hp)} {F : Nat} {r_X15_goalRows : Hp → Nat → Int32 → Int32 → Int32 → Int32 → Option (Int32 × Hp)} {r_X15_goalRowsBy : Hp → Nat → Int32 → Int32 → Int32 → Int32 → Int32 → Option (Int32 × Hp)} (mr_X15_goalRows : ∀ {h : Hp} {x0 : Nat} {x1 : Int32} {x2 : Int32} {x3 : Int32} {x4 : Int32} {o : Int32 × Hp}, r_X15_goalRows h x0 x1 x2 x3 x4 = some o → Le h o.2) (mr_X15_goalRowsBy : ∀ {h : Hp} {x0 : Nat} {x1 : Int32} {x2 : Int32} {x3 : Int32} {x4 : Int32} {x5 : Int32} {o : Int32 × Hp}, r_X15_goalRowsBy h x0 x1 x2 x3 x4 x5 = some o → Le h o.2) (mk_6 : ∀ (h : Hp) (x0 : Nat) (x1 : Int32) (x2 : Int32) (x3 : Int32) (x4 : Int32) (x5 : Int32) (x6 : Int32), k_6 h x0 x1 x2 x3 x4 x5 x6 = some o → Le h o.2) {h : Hp} {x0 : Nat} {x1 : Int32} {x2 : Int32} {x3 : Int32} {x4 : Int32} {x6 : Int32} {t0 : Int32} {t1 : Int32} (hE : sX15_goalRows_33 F r_X15_goalRows r_X15_goalRowsBy k_6 h x0 x1 x2 x3 x4 x6 t0 t1 = some o) : Le h o.2 := by
  obtain ⟨v_1, ev_1, hE⟩ := nm_e2 hE
  obtain ⟨v_2, ev_2, hE⟩ := nm_e2 hE
  exact mk_6 _ _ _ _ _ _ _ _ hE
set_option maxRecDepth 20000 in
theorem moX15_goalRows_6 {o : Int32 × Hp} {F : Nat} {r_X15_goalRows : Hp → Nat → Int32 → Int32 → Int32 → Int32 → Option (Int32 × Hp)} {r_X15_goalRowsBy : Hp → Nat → Int32 → Int32 → Int32 → Int32 → Int32 → Option (Int32 × Hp)} (mr_X15_goalRows : ∀ {h : Hp} {x0 : Nat} {x1 : Int32} {x2 : Int32} {x3 : Int32} {x4 : Int32} {o : Int32 × Hp}, r_X15_goalRows h x0 x1 x2 x3 x4 = some o → Le h o.2) (mr_X15_goalRowsBy : ∀ {h : Hp} {x0 : Nat} {x1 : Int32} {x2 : Int32} {x3 : Int32} {x4 : Int32} {x5 : Int32} {o : Int32 × Hp}, r_X15_goalRowsBy h x0 x1 x2 x3 x4 x5 = some o → Le h o.2) : ∀ (f : Nat) {h : Hp} {x0 : Nat} {x1 : Int32} {x2 : Int32} {x3 : Int32} {x4 : Int32} {x5 : Int32} {x6 : Int32}, sX15_goalRows_6 F r_X15_goalRows r_X15_goalRowsBy f h x0 x1 x2 x3 x4 x5 x6 = some o → Le h o.2 := by
  intro f
  induction f with
  | zero =>
    intro h x0 x1 x2 x3 x4 x5 x6 hE
    rw [sX15_goalRows_6] at hE
    cases hE
  | succ f ih =>
    intro h x0 x1 x2 x3 x4 x5 x6 hE
    rw [sX15_goalRows_6] at hE
    have mk_6 : ∀ (h : Hp) (x0 : Nat) (x1 : Int32) (x2 : Int32) (x3 : Int32) (x4 : Int32) (x5 : Int32) (x6 : Int32), sX15_goalRows_6 F r_X15_goalRows r_X15_goalRowsBy f h x0 x1 x2 x3 x4 x5 x6 = some o → Le h o.2 := fun h x0 x1 x2 x3 x4 x5 x6 hE => ih hE
    obtain ⟨r_1, er_1, hE⟩ := cl_e hE
    obtain ⟨g_2, hE⟩ := gd_e hE
    obtain ⟨r_3, er_3, hE⟩ := cl_e hE
    rcases br_e hE with ⟨_, hE⟩ | ⟨_, hE⟩
    · exact le_some2 hE
    · obtain ⟨o_5, eo_5, hE⟩ := cl_e hE
      refine (mr_X15_goalRowsBy eo_5).tr ?_
      exact moX15_goalRows_33 mr_X15_goalRows mr_X15_goalRowsBy mk_6 hE
set_option maxRecDepth 20000 in
theorem mooX15_goalRows {o : Int32 × Hp} {F : Nat} {r_X15_goalRows : Hp → Nat → Int32 → Int32 → Int32 → Int32 → Option (Int32 × Hp)} {r_X15_goalRowsBy : Hp → Nat → Int32 → Int32 → Int32 → Int32 → Int32 → Option (Int32 × Hp)} (mr_X15_goalRows : ∀ {h : Hp} {x0 : Nat} {x1 : Int32} {x2 : Int32} {x3 : Int32} {x4 : Int32} {o : Int32 × Hp}, r_X15_goalRows h x0 x1 x2 x3 x4 = some o → Le h o.2) (mr_X15_goalRowsBy : ∀ {h : Hp} {x0 : Nat} {x1 : Int32} {x2 : Int32} {x3 : Int32} {x4 : Int32} {x5 : Int32} {o : Int32 × Hp}, r_X15_goalRowsBy h x0 x1 x2 x3 x4 x5 = some o → Le h o.2) {h : Hp} {x0 : Nat} {x1 : Int32} {x2 : Int32} {x3 : Int32} {x4 : Int32} (hE : oX15_goalRows F r_X15_goalRows r_X15_goalRowsBy h x0 x1 x2 x3 x4 = some o) : Le h o.2 := by
  exact moX15_goalRows_6 mr_X15_goalRows mr_X15_goalRowsBy _ hE
set_option maxRecDepth 20000 in
theorem bX15_goalRows_33 {p : Program} {l : Launch} {e : Env} {s : State} {m : MethodId} {args : Array Value} {below : List Frame} {meth : Method} {c : Code} {X : Ec} {h0 : Hp} {o : Int32 × Hp} {d : Nat} {r_X15_goalRows : Hp → Nat → Int32 → Int32 → Int32 → Int32 → Option (Int32 × Hp)} {r_X15_goalRowsBy : Hp → Nat → Int32 → Int32 → Int32 → Int32 → Int32 → Option (Int32 × Hp)} {k_6 : Hp → Nat → Int32 → Int32 → Int32 → Int32 → Int32 → Int32 → Option (Int32 × Hp)} {F : Nat} (C : Cx X p s m args meth c RX15 cX15_goalRows 7 (some .int) "goalRows") (hr_X15_goalRows : ∀ {h : Hp} {x0 : Nat} {x1 : Int32} {x2 : Int32} {x3 : Int32} {x4 : Int32} {o : Int32 × Hp}, hK h x0 = 15 → r_X15_goalRows h x0 x1 x2 x3 x4 = some o → MetIA l yX15_goalRows cX15_goalRows 7 (some .int)  (d + 9) (d * 26 + 214) X [.ref x0, .int x1, .int x2, .int x3, .int x4] h o) (hr_X15_goalRowsBy : ∀ {h : Hp} {x0 : Nat} {x1 : Int32} {x2 : Int32} {x3 : Int32} {x4 : Int32} {x5 : Int32} {o : Int32 × Hp}, hK h x0 = 15 → r_X15_goalRowsBy h x0 x1 x2 x3 x4 x5 = some o → MetIA l yX15_goalRowsBy cX15_goalRowsBy 6 (some .int)  (d + 9) (d * 26 + 214) X [.ref x0, .int x1, .int x2, .int x3, .int x4, .int x5] h o) (mr_X15_goalRows : ∀ {h : Hp} {x0 : Nat} {x1 : Int32} {x2 : Int32} {x3 : Int32} {x4 : Int32} {o : Int32 × Hp}, r_X15_goalRows h x0 x1 x2 x3 x4 = some o → Le h o.2) (mr_X15_goalRowsBy : ∀ {h : Hp} {x0 : Nat} {x1 : Int32} {x2 : Int32} {x3 : Int32} {x4 : Int32} {x5 : Int32} {o : Int32 × Hp}, r_X15_goalRowsBy h x0 x1 x2 x3 x4 x5 = some o → Le h o.2) (hk_6 : ∀ (h : Hp) (x0 : Nat) (x1 : Int32) (x2 : Int32) (x3 : Int32) (x4 : Int32) (x5 : Int32) (x6 : Int32) (H : Heap) (locs : List Loc), hK h x0 = 15 → Kl h0 h → Wx X h H → va_S (aA (eB X)) s.heap H locs → ∀ (ls : Array Slot), lv_has ls 7 [(0, .ref x0), (1, .int x1), (2, .int x2), (3, .int x3), (4, .int x4), (5, .int x5), (6, .int x6)] → k_6 h x0 x1 x2 x3 x4 x5 x6 = some o → W p l e (rmA (d + 1 + 9) ((d + 1) * 26 + 214) h0 o.2) s m args below meth c H locs (hS h - hS h0) (hL h - hL h0) (MQ below (QIA X h0 o.1 o.2) args s (hS o.2 - hS h0) (hL o.2 - hL h0) (aA (eB X))) (F0 m 6 ls [])) (mk_6 : ∀ (h : Hp) (x0 : Nat) (x1 : Int32) (x2 : Int32) (x3 : Int32) (x4 : Int32) (x5 : Int32) (x6 : Int32), k_6 h x0 x1 x2 x3 x4 x5 x6 = some o → Le h o.2) {h : Hp} {x0 : Nat} {x1 : Int32} {x2 : Int32} {x3 : Int32} {x4 : Int32} {x6 : Int32} {t0 : Int32} {t1 : Int32} {H : Heap} {locs : List Loc} (k_x0 : hK h x0 = 15) (hkl : Kl h0 h) (hW : Wx X h H) (hZ : va_S (aA (eB X)) s.heap H locs) (ls : Array Slot) (hl : lv_has ls 7 [(0, .ref x0), (1, .int x1), (2, .int x2), (3, .int x3), (4, .int x4), (6, .int x6)]) (hE : sX15_goalRows_33 F r_X15_goalRows r_X15_goalRowsBy k_6 h x0 x1 x2 x3 x4 x6 t0 t1 = some o) : W p l e (rmA (d + 1 + 9) ((d + 1) * 26 + 214) h0 o.2) s m args below meth c H locs (hS h - hS h0) (hL h - hL h0) (MQ below (QIA X h0 o.1 o.2) args s (hS o.2 - hS h0) (hL o.2 - hL h0) (aA (eB X))) (F0 m 33 ls [.int t0, .int t1]) := by
  refine lv_iadd C.1 C.2.1 dX15_goalRows_33 ?_
  obtain ⟨v_1, ev_1, hE⟩ := nm_e2 hE
  refine x_nmI ev_1 ?_
  refine lv_istore (lv' := [(5, .int v_1), (0, .ref x0), (1, .int x1), (2, .int x2), (3, .int x3), (4, .int x4), (6, .int x6)]) C.1 C.2.1 dX15_goalRows_34 hl (by decide) rfl (fun ls hl => ?_)
  obtain ⟨v_2, ev_2, hE⟩ := nm_e2 hE
  refine lv_iinc (v := v_2) (lv' := [(6, .int v_2), (5, .int v_1), (0, .ref x0), (1, .int x1), (2, .int x2), (3, .int x3), (4, .int x4)]) C.1 C.2.1 dX15_goalRows_36 hl (k := 6) rfl (by rw [ev_2]; rfl) (by decide) rfl (fun ls hl => ?_)
  refine lv_goto (tgt := 6) C.1 C.2.1 dX15_goalRows_39 (by decide) ?_
  exact hk_6 _ _ _ _ _ _ _ _ _ _ k_x0 hkl hW hZ _ (lv_sub hl [2, 3, 4, 5, 6, 1, 0] rfl) hE
set_option maxRecDepth 20000 in
theorem bX15_goalRows_6 {p : Program} {l : Launch} {e : Env} {s : State} {m : MethodId} {args : Array Value} {below : List Frame} {meth : Method} {c : Code} {X : Ec} {h0 : Hp} {o : Int32 × Hp} {d : Nat} {r_X15_goalRows : Hp → Nat → Int32 → Int32 → Int32 → Int32 → Option (Int32 × Hp)} {r_X15_goalRowsBy : Hp → Nat → Int32 → Int32 → Int32 → Int32 → Int32 → Option (Int32 × Hp)} {F : Nat} (C : Cx X p s m args meth c RX15 cX15_goalRows 7 (some .int) "goalRows") (hr_X15_goalRows : ∀ {h : Hp} {x0 : Nat} {x1 : Int32} {x2 : Int32} {x3 : Int32} {x4 : Int32} {o : Int32 × Hp}, hK h x0 = 15 → r_X15_goalRows h x0 x1 x2 x3 x4 = some o → MetIA l yX15_goalRows cX15_goalRows 7 (some .int)  (d + 9) (d * 26 + 214) X [.ref x0, .int x1, .int x2, .int x3, .int x4] h o) (hr_X15_goalRowsBy : ∀ {h : Hp} {x0 : Nat} {x1 : Int32} {x2 : Int32} {x3 : Int32} {x4 : Int32} {x5 : Int32} {o : Int32 × Hp}, hK h x0 = 15 → r_X15_goalRowsBy h x0 x1 x2 x3 x4 x5 = some o → MetIA l yX15_goalRowsBy cX15_goalRowsBy 6 (some .int)  (d + 9) (d * 26 + 214) X [.ref x0, .int x1, .int x2, .int x3, .int x4, .int x5] h o) (mr_X15_goalRows : ∀ {h : Hp} {x0 : Nat} {x1 : Int32} {x2 : Int32} {x3 : Int32} {x4 : Int32} {o : Int32 × Hp}, r_X15_goalRows h x0 x1 x2 x3 x4 = some o → Le h o.2) (mr_X15_goalRowsBy : ∀ {h : Hp} {x0 : Nat} {x1 : Int32} {x2 : Int32} {x3 : Int32} {x4 : Int32} {x5 : Int32} {o : Int32 × Hp}, r_X15_goalRowsBy h x0 x1 x2 x3 x4 x5 = some o → Le h o.2) : ∀ (f : Nat) {h : Hp} {x0 : Nat} {x1 : Int32} {x2 : Int32} {x3 : Int32} {x4 : Int32} {x5 : Int32} {x6 : Int32} {H : Heap} {locs : List Loc} (k_x0 : hK h x0 = 15), Kl h0 h → Wx X h H → va_S (aA (eB X)) s.heap H locs → ∀ (ls : Array Slot), lv_has ls 7 [(0, .ref x0), (1, .int x1), (2, .int x2), (3, .int x3), (4, .int x4), (5, .int x5), (6, .int x6)] → sX15_goalRows_6 F r_X15_goalRows r_X15_goalRowsBy f h x0 x1 x2 x3 x4 x5 x6 = some o → W p l e (rmA (d + 1 + 9) ((d + 1) * 26 + 214) h0 o.2) s m args below meth c H locs (hS h - hS h0) (hL h - hL h0) (MQ below (QIA X h0 o.1 o.2) args s (hS o.2 - hS h0) (hL o.2 - hL h0) (aA (eB X))) (F0 m 6 ls []) := by
  intro f
  induction f with
  | zero =>
    intro h x0 x1 x2 x3 x4 x5 x6 H locs k_x0 hkl hW hZ ls hl hE
    rw [sX15_goalRows_6] at hE
    cases hE
  | succ f ih =>
    intro h x0 x1 x2 x3 x4 x5 x6 H locs k_x0 hkl hW hZ ls hl hE
    rw [sX15_goalRows_6] at hE
    have mk_6 : ∀ (h : Hp) (x0 : Nat) (x1 : Int32) (x2 : Int32) (x3 : Int32) (x4 : Int32) (x5 : Int32) (x6 : Int32), sX15_goalRows_6 F r_X15_goalRows r_X15_goalRowsBy f h x0 x1 x2 x3 x4 x5 x6 = some o → Le h o.2 := fun h x0 x1 x2 x3 x4 x5 x6 hE => moX15_goalRows_6 mr_X15_goalRows mr_X15_goalRowsBy _ hE
    have hk_6 : ∀ (h : Hp) (x0 : Nat) (x1 : Int32) (x2 : Int32) (x3 : Int32) (x4 : Int32) (x5 : Int32) (x6 : Int32) (H : Heap) (locs : List Loc), hK h x0 = 15 → Kl h0 h → Wx X h H → va_S (aA (eB X)) s.heap H locs → ∀ (ls : Array Slot), lv_has ls 7 [(0, .ref x0), (1, .int x1), (2, .int x2), (3, .int x3), (4, .int x4), (5, .int x5), (6, .int x6)] → sX15_goalRows_6 F r_X15_goalRows r_X15_goalRowsBy f h x0 x1 x2 x3 x4 x5 x6 = some o → W p l e (rmA (d + 1 + 9) ((d + 1) * 26 + 214) h0 o.2) s m args below meth c H locs (hS h - hS h0) (hL h - hL h0) (MQ below (QIA X h0 o.1 o.2) args s (hS o.2 - hS h0) (hL o.2 - hL h0) (aA (eB X))) (F0 m 6 ls []) := fun h x0 x1 x2 x3 x4 x5 x6 H locs k_x0 a b c ls hl hE => ih k_x0 a b c ls hl hE
    refine lv_iload C.1 C.2.1 dX15_goalRows_6 (lv_at hl 6 rfl) ?_
    refine lv_aload_n C.1 C.2.1 dX15_goalRows_8 rfl (lv_at hl 0 rfl) ?_
    obtain ⟨r_1, er_1, hE⟩ := cl_e hE
    refine gf_X15_301 C hW k_x0 er_1 dX15_goalRows_9 (fun k_r_1 => ?_)
    refine lv_iload_n C.1 C.2.1 dX15_goalRows_12 rfl (lv_at hl 1 rfl) ?_
    obtain ⟨g_2, hE⟩ := gd_e hE
    obtain ⟨r_3, er_3, hE⟩ := cl_e hE
    refine y_aald (t0 := 6) C hW k_r_1 (by decide) (by decide) rfl rfl rfl (fun _ => rfl) g_2 er_3 dX15_goalRows_13 (fun k_r_3 => ?_)
    refine gf_X15_575 C hW k_r_3 dX15_goalRows_14 ?_
    refine lv_icmp_ge (tgt := 42) C.1 C.2.1 dX15_goalRows_17 (by decide) (fun c_4 => ?_) (fun c_4 => ?_)
    · have hE := br_p hE c_4
      refine lv_iload C.1 C.2.1 dX15_goalRows_42 (lv_at hl 5 rfl) ?_
      exact x_iretA C rfl rfl hW hZ hkl hE dX15_goalRows_44
    · have hE := br_n hE c_4
      refine lv_iload C.1 C.2.1 dX15_goalRows_20 (lv_at hl 5 rfl) ?_
      refine lv_aload_n C.1 C.2.1 dX15_goalRows_22 rfl (lv_at hl 0 rfl) ?_
      refine lv_iload_n C.1 C.2.1 dX15_goalRows_23 rfl (lv_at hl 1 rfl) ?_
      refine lv_iload C.1 C.2.1 dX15_goalRows_24 (lv_at hl 6 rfl) ?_
      refine lv_iload_n C.1 C.2.1 dX15_goalRows_26 rfl (lv_at hl 2 rfl) ?_
      refine lv_iload_n C.1 C.2.1 dX15_goalRows_27 rfl (lv_at hl 3 rfl) ?_
      refine lv_iload C.1 C.2.1 dX15_goalRows_28 (lv_at hl 4 rfl) ?_
      obtain ⟨o_5, eo_5, hE⟩ := cl_e hE
      have m1 := mr_X15_goalRowsBy eo_5
      have m2 := moX15_goalRows_33 mr_X15_goalRows mr_X15_goalRowsBy mk_6 hE
      refine x_kIA (o := o_5) hkl (z_runV (As := [.int x1, .int x6, .int x2, .int x3, .int x4]) (rest := [.int x5]) C (hr_X15_goalRowsBy k_x0 eo_5) cw_X15_839 hW hZ k_x0 (by decide) rfl rfl rfl hl.1 (Nat.le_of_ble_eq_true rfl) rfl dX15_goalRows_30 ⟨by dsimp only [rm, rmA]; omega, by dsimp only [rm, rmA]; omega⟩ (rm_ok hkl m1 m2)) hZ (fun _ _ hW km hZ => ?_)
      replace hkl := hkl.tr km
      replace k_x0 := km.at k_x0 (by decide)
      exact bX15_goalRows_33 C hr_X15_goalRows hr_X15_goalRowsBy mr_X15_goalRows mr_X15_goalRowsBy hk_6 mk_6 k_x0 hkl hW hZ _ (lv_sub hl [0, 1, 2, 3, 4, 6] rfl) hE
set_option maxRecDepth 20000 in
theorem ot_X15_goalRows (l : Launch) (X : Ec) (F : Nat) {d : Nat} {r_X15_goalRows : Hp → Nat → Int32 → Int32 → Int32 → Int32 → Option (Int32 × Hp)} {r_X15_goalRowsBy : Hp → Nat → Int32 → Int32 → Int32 → Int32 → Int32 → Option (Int32 × Hp)} (hr_X15_goalRows : ∀ {h : Hp} {x0 : Nat} {x1 : Int32} {x2 : Int32} {x3 : Int32} {x4 : Int32} {o : Int32 × Hp}, hK h x0 = 15 → r_X15_goalRows h x0 x1 x2 x3 x4 = some o → MetIA l yX15_goalRows cX15_goalRows 7 (some .int)  (d + 9) (d * 26 + 214) X [.ref x0, .int x1, .int x2, .int x3, .int x4] h o) (hr_X15_goalRowsBy : ∀ {h : Hp} {x0 : Nat} {x1 : Int32} {x2 : Int32} {x3 : Int32} {x4 : Int32} {x5 : Int32} {o : Int32 × Hp}, hK h x0 = 15 → r_X15_goalRowsBy h x0 x1 x2 x3 x4 x5 = some o → MetIA l yX15_goalRowsBy cX15_goalRowsBy 6 (some .int)  (d + 9) (d * 26 + 214) X [.ref x0, .int x1, .int x2, .int x3, .int x4, .int x5] h o) (mr_X15_goalRows : ∀ {h : Hp} {x0 : Nat} {x1 : Int32} {x2 : Int32} {x3 : Int32} {x4 : Int32} {o : Int32 × Hp}, r_X15_goalRows h x0 x1 x2 x3 x4 = some o → Le h o.2) (mr_X15_goalRowsBy : ∀ {h : Hp} {x0 : Nat} {x1 : Int32} {x2 : Int32} {x3 : Int32} {x4 : Int32} {x5 : Int32} {o : Int32 × Hp}, r_X15_goalRowsBy h x0 x1 x2 x3 x4 x5 = some o → Le h o.2) {h : Hp} {x0 : Nat} {x1 : Int32} {x2 : Int32} {x3 : Int32} {x4 : Int32} {o : Int32 × Hp} (k_x0 : hK h x0 = 15) (hE : oX15_goalRows F r_X15_goalRows r_X15_goalRowsBy h x0 x1 x2 x3 x4 = some o) : MetIA l yX15_goalRows cX15_goalRows 7 (some .int) (d + 1 + 9) ((d + 1) * 26 + 214) X [.ref x0, .int x1, .int x2, .int x3, .int x4] h o := by
  refine x_metA (oh := o.2) (by decide) (Nat.le_of_ble_eq_true rfl) ?_
  intro p e s m below meth c ls C hl hW hZ
  have hl : lv_has ls 7 [(0, .ref x0), (1, .int x1), (2, .int x2), (3, .int x3), (4, .int x4)] := hl
  have hkl : Kl h h := Kl.rf h
  refine lv_iconst (v := (0 : Int32)) C.1 C.2.1 dX15_goalRows_0 (by decide) ?_
  refine lv_istore (lv' := [(5, .int (0 : Int32)), (0, .ref x0), (1, .int x1), (2, .int x2), (3, .int x3), (4, .int x4)]) C.1 C.2.1 dX15_goalRows_1 hl (by decide) rfl (fun ls hl => ?_)
  refine lv_iconst (v := (0 : Int32)) C.1 C.2.1 dX15_goalRows_3 (by decide) ?_
  refine lv_istore (lv' := [(6, .int (0 : Int32)), (5, .int (0 : Int32)), (0, .ref x0), (1, .int x1), (2, .int x2), (3, .int x3), (4, .int x4)]) C.1 C.2.1 dX15_goalRows_4 hl (by decide) rfl (fun ls hl => ?_)
  exact bX15_goalRows_6 C hr_X15_goalRows hr_X15_goalRowsBy mr_X15_goalRows mr_X15_goalRowsBy F k_x0 hkl hW hZ _ (lv_sub hl [2, 3, 4, 5, 6, 1, 0] rfl) hE
set_option maxRecDepth 20000 in
theorem moX15_goalRowsBy_79 {o : Int32 × Hp} {F : Nat} {r_X15_goalRows : Hp → Nat → Int32 → Int32 → Int32 → Int32 → Option (Int32 × Hp)} {r_X15_goalRowsBy : Hp → Nat → Int32 → Int32 → Int32 → Int32 → Int32 → Option (Int32 × Hp)} (mr_X15_goalRows : ∀ {h : Hp} {x0 : Nat} {x1 : Int32} {x2 : Int32} {x3 : Int32} {x4 : Int32} {o : Int32 × Hp}, r_X15_goalRows h x0 x1 x2 x3 x4 = some o → Le h o.2) (mr_X15_goalRowsBy : ∀ {h : Hp} {x0 : Nat} {x1 : Int32} {x2 : Int32} {x3 : Int32} {x4 : Int32} {x5 : Int32} {o : Int32 × Hp}, r_X15_goalRowsBy h x0 x1 x2 x3 x4 x5 = some o → Le h o.2) {h : Hp} {t0 : Int32} (hE : sX15_goalRowsBy_79 F r_X15_goalRows r_X15_goalRowsBy h  t0 = some o) : Le h o.2 := by
  exact le_some2 hE
set_option maxRecDepth 20000 in
theorem moX15_goalRowsBy_65 {o : Int32 × Hp} {F : Nat} {r_X15_goalRows : Hp → Nat → Int32 → Int32 → Int32 → Int32 → Option (Int32 × Hp)} {r_X15_goalRowsBy : Hp → Nat → Int32 → Int32 → Int32 → Int32 → Int32 → Option (Int32 × Hp)} (mr_X15_goalRows : ∀ {h : Hp} {x0 : Nat} {x1 : Int32} {x2 : Int32} {x3 : Int32} {x4 : Int32} {o : Int32 × Hp}, r_X15_goalRows h x0 x1 x2 x3 x4 = some o → Le h o.2) (mr_X15_goalRowsBy : ∀ {h : Hp} {x0 : Nat} {x1 : Int32} {x2 : Int32} {x3 : Int32} {x4 : Int32} {x5 : Int32} {o : Int32 × Hp}, r_X15_goalRowsBy h x0 x1 x2 x3 x4 x5 = some o → Le h o.2) {h : Hp} {x0 : Nat} {x1 : Int32} {x3 : Int32} {x4 : Int32} {x5 : Int32} (hE : sX15_goalRowsBy_65 F r_X15_goalRows r_X15_goalRowsBy h x0 x1 x3 x4 x5 = some o) : Le h o.2 := by
  obtain ⟨o_1, eo_1, hE⟩ := cl_e hE
  refine (mr_X15_goalRows eo_1).tr ?_
  exact moX15_goalRowsBy_79 mr_X15_goalRows mr_X15_goalRowsBy hE
set_option maxRecDepth 20000 in
theorem moX15_goalRowsBy_54 {o : Int32 × Hp} {F : Nat} {r_X15_goalRows : Hp → Nat → Int32 → Int32 → Int32 → Int32 → Option (Int32 × Hp)} {r_X15_goalRowsBy : Hp → Nat → Int32 → Int32 → Int32 → Int32 → Int32 → Option (Int32 × Hp)} (mr_X15_goalRows : ∀ {h : Hp} {x0 : Nat} {x1 : Int32} {x2 : Int32} {x3 : Int32} {x4 : Int32} {o : Int32 × Hp}, r_X15_goalRows h x0 x1 x2 x3 x4 = some o → Le h o.2) (mr_X15_goalRowsBy : ∀ {h : Hp} {x0 : Nat} {x1 : Int32} {x2 : Int32} {x3 : Int32} {x4 : Int32} {x5 : Int32} {o : Int32 × Hp}, r_X15_goalRowsBy h x0 x1 x2 x3 x4 x5 = some o → Le h o.2) {h : Hp} {x0 : Nat} {x1 : Int32} {x3 : Int32} {x4 : Int32} {x5 : Int32} {t0 : Nat} {t1 : Nat} (hE : sX15_goalRowsBy_54 F r_X15_goalRows r_X15_goalRowsBy h x0 x1 x3 x4 x5 t0 t1 = some o) : Le h o.2 := by
  obtain ⟨r_1, er_1, hE⟩ := cl_e hE
  obtain ⟨g_2, hE⟩ := gd_e hE
  obtain ⟨r_3, er_3, hE⟩ := cl_e hE
  obtain ⟨o_4, eo_4, hE⟩ := cl_e hE
  refine (moX15_legal eo_4).tr ?_
  exact moX15_goalRowsBy_65 mr_X15_goalRows mr_X15_goalRowsBy hE
set_option maxRecDepth 20000 in
theorem moX15_goalRowsBy_41 {o : Int32 × Hp} {F : Nat} {r_X15_goalRows : Hp → Nat → Int32 → Int32 → Int32 → Int32 → Option (Int32 × Hp)} {r_X15_goalRowsBy : Hp → Nat → Int32 → Int32 → Int32 → Int32 → Int32 → Option (Int32 × Hp)} (mr_X15_goalRows : ∀ {h : Hp} {x0 : Nat} {x1 : Int32} {x2 : Int32} {x3 : Int32} {x4 : Int32} {o : Int32 × Hp}, r_X15_goalRows h x0 x1 x2 x3 x4 = some o → Le h o.2) (mr_X15_goalRowsBy : ∀ {h : Hp} {x0 : Nat} {x1 : Int32} {x2 : Int32} {x3 : Int32} {x4 : Int32} {x5 : Int32} {o : Int32 × Hp}, r_X15_goalRowsBy h x0 x1 x2 x3 x4 x5 = some o → Le h o.2) {h : Hp} {x0 : Nat} {x1 : Int32} {x3 : Int32} {x4 : Int32} {x5 : Int32} {t0 : Int32} (hE : sX15_goalRowsBy_41 F r_X15_goalRows r_X15_goalRowsBy h x0 x1 x3 x4 x5 t0 = some o) : Le h o.2 := by
  rcases br_e hE with ⟨_, hE⟩ | ⟨_, hE⟩
  · exact le_some2 hE
  · obtain ⟨o_2, eo_2, hE⟩ := cl_e hE
    refine (moX15_deepBoard eo_2).tr ?_
    exact moX15_goalRowsBy_54 mr_X15_goalRows mr_X15_goalRowsBy hE
set_option maxRecDepth 20000 in
theorem moX15_goalRowsBy_28 {o : Int32 × Hp} {F : Nat} {r_X15_goalRows : Hp → Nat → Int32 → Int32 → Int32 → Int32 → Option (Int32 × Hp)} {r_X15_goalRowsBy : Hp → Nat → Int32 → Int32 → Int32 → Int32 → Int32 → Option (Int32 × Hp)} (mr_X15_goalRows : ∀ {h : Hp} {x0 : Nat} {x1 : Int32} {x2 : Int32} {x3 : Int32} {x4 : Int32} {o : Int32 × Hp}, r_X15_goalRows h x0 x1 x2 x3 x4 = some o → Le h o.2) (mr_X15_goalRowsBy : ∀ {h : Hp} {x0 : Nat} {x1 : Int32} {x2 : Int32} {x3 : Int32} {x4 : Int32} {x5 : Int32} {o : Int32 × Hp}, r_X15_goalRowsBy h x0 x1 x2 x3 x4 x5 = some o → Le h o.2) {h : Hp} {t0 : Int32} (hE : sX15_goalRowsBy_28 F r_X15_goalRows r_X15_goalRowsBy h  t0 = some o) : Le h o.2 := by
  exact le_some2 hE
set_option maxRecDepth 20000 in
theorem moX15_goalRowsBy_20 {o : Int32 × Hp} {F : Nat} {r_X15_goalRows : Hp → Nat → Int32 → Int32 → Int32 → Int32 → Option (Int32 × Hp)} {r_X15_goalRowsBy : Hp → Nat → Int32 → Int32 → Int32 → Int32 → Int32 → Option (Int32 × Hp)} (mr_X15_goalRows : ∀ {h : Hp} {x0 : Nat} {x1 : Int32} {x2 : Int32} {x3 : Int32} {x4 : Int32} {o : Int32 × Hp}, r_X15_goalRows h x0 x1 x2 x3 x4 = some o → Le h o.2) (mr_X15_goalRowsBy : ∀ {h : Hp} {x0 : Nat} {x1 : Int32} {x2 : Int32} {x3 : Int32} {x4 : Int32} {x5 : Int32} {o : Int32 × Hp}, r_X15_goalRowsBy h x0 x1 x2 x3 x4 x5 = some o → Le h o.2) {h : Hp} {t0 : Int32} (hE : sX15_goalRowsBy_20 F r_X15_goalRows r_X15_goalRowsBy h  t0 = some o) : Le h o.2 := by
  rcases br_e hE with ⟨_, hE⟩ | ⟨_, hE⟩
  · exact moX15_goalRowsBy_28 mr_X15_goalRows mr_X15_goalRowsBy hE
  · exact moX15_goalRowsBy_28 mr_X15_goalRows mr_X15_goalRowsBy hE
set_option maxRecDepth 20000 in
theorem moX15_goalRowsBy_6 {o : Int32 × Hp} {F : Nat} {r_X15_goalRows : Hp → Nat → Int32 → Int32 → Int32 → Int32 → Option (Int32 × Hp)} {r_X15_goalRowsBy : Hp → Nat → Int32 → Int32 → Int32 → Int32 → Int32 → Option (Int32 × Hp)} (mr_X15_goalRows : ∀ {h : Hp} {x0 : Nat} {x1 : Int32} {x2 : Int32} {x3 : Int32} {x4 : Int32} {o : Int32 × Hp}, r_X15_goalRows h x0 x1 x2 x3 x4 = some o → Le h o.2) (mr_X15_goalRowsBy : ∀ {h : Hp} {x0 : Nat} {x1 : Int32} {x2 : Int32} {x3 : Int32} {x4 : Int32} {x5 : Int32} {o : Int32 × Hp}, r_X15_goalRowsBy h x0 x1 x2 x3 x4 x5 = some o → Le h o.2) {h : Hp} {x0 : Nat} {x1 : Int32} {x3 : Int32} {x4 : Int32} {x5 : Int32} (hE : sX15_goalRowsBy_6 F r_X15_goalRows r_X15_goalRowsBy h x0 x1 x3 x4 x5 = some o) : Le h o.2 := by
  rcases br_e hE with ⟨_, hE⟩ | ⟨_, hE⟩
  · obtain ⟨o_4, eo_4, hE⟩ := cl_e hE
    refine (moX15_isGoal eo_4).tr ?_
    exact moX15_goalRowsBy_20 mr_X15_goalRows mr_X15_goalRowsBy hE
  · rcases br_e hE with ⟨_, hE⟩ | ⟨_, hE⟩
    · exact moX15_goalRowsBy_65 mr_X15_goalRows mr_X15_goalRowsBy hE
    · obtain ⟨o_3, eo_3, hE⟩ := cl_e hE
      refine (moX15_turnsBack eo_3).tr ?_
      exact moX15_goalRowsBy_41 mr_X15_goalRows mr_X15_goalRowsBy hE
set_option maxRecDepth 20000 in
theorem mooX15_goalRowsBy {o : Int32 × Hp} {F : Nat} {r_X15_goalRows : Hp → Nat → Int32 → Int32 → Int32 → Int32 → Option (Int32 × Hp)} {r_X15_goalRowsBy : Hp → Nat → Int32 → Int32 → Int32 → Int32 → Int32 → Option (Int32 × Hp)} (mr_X15_goalRows : ∀ {h : Hp} {x0 : Nat} {x1 : Int32} {x2 : Int32} {x3 : Int32} {x4 : Int32} {o : Int32 × Hp}, r_X15_goalRows h x0 x1 x2 x3 x4 = some o → Le h o.2) (mr_X15_goalRowsBy : ∀ {h : Hp} {x0 : Nat} {x1 : Int32} {x2 : Int32} {x3 : Int32} {x4 : Int32} {x5 : Int32} {o : Int32 × Hp}, r_X15_goalRowsBy h x0 x1 x2 x3 x4 x5 = some o → Le h o.2) {h : Hp} {x0 : Nat} {x1 : Int32} {x2 : Int32} {x3 : Int32} {x4 : Int32} {x5 : Int32} (hE : oX15_goalRowsBy F r_X15_goalRows r_X15_goalRowsBy h x0 x1 x2 x3 x4 x5 = some o) : Le h o.2 := by
  obtain ⟨o_1, eo_1, hE⟩ := cl_e hE
  refine (moX15_step eo_1).tr ?_
  exact moX15_goalRowsBy_6 mr_X15_goalRows mr_X15_goalRowsBy hE
set_option maxRecDepth 20000 in
theorem bX15_goalRowsBy_79 {p : Program} {l : Launch} {e : Env} {s : State} {m : MethodId} {args : Array Value} {below : List Frame} {meth : Method} {c : Code} {X : Ec} {h0 : Hp} {o : Int32 × Hp} {d : Nat} {r_X15_goalRows : Hp → Nat → Int32 → Int32 → Int32 → Int32 → Option (Int32 × Hp)} {r_X15_goalRowsBy : Hp → Nat → Int32 → Int32 → Int32 → Int32 → Int32 → Option (Int32 × Hp)} {F : Nat} (C : Cx X p s m args meth c RX15 cX15_goalRowsBy 6 (some .int) "goalRowsBy") (hr_X15_goalRows : ∀ {h : Hp} {x0 : Nat} {x1 : Int32} {x2 : Int32} {x3 : Int32} {x4 : Int32} {o : Int32 × Hp}, hK h x0 = 15 → r_X15_goalRows h x0 x1 x2 x3 x4 = some o → MetIA l yX15_goalRows cX15_goalRows 7 (some .int)  (d + 9) (d * 26 + 214) X [.ref x0, .int x1, .int x2, .int x3, .int x4] h o) (hr_X15_goalRowsBy : ∀ {h : Hp} {x0 : Nat} {x1 : Int32} {x2 : Int32} {x3 : Int32} {x4 : Int32} {x5 : Int32} {o : Int32 × Hp}, hK h x0 = 15 → r_X15_goalRowsBy h x0 x1 x2 x3 x4 x5 = some o → MetIA l yX15_goalRowsBy cX15_goalRowsBy 6 (some .int)  (d + 9) (d * 26 + 214) X [.ref x0, .int x1, .int x2, .int x3, .int x4, .int x5] h o) (mr_X15_goalRows : ∀ {h : Hp} {x0 : Nat} {x1 : Int32} {x2 : Int32} {x3 : Int32} {x4 : Int32} {o : Int32 × Hp}, r_X15_goalRows h x0 x1 x2 x3 x4 = some o → Le h o.2) (mr_X15_goalRowsBy : ∀ {h : Hp} {x0 : Nat} {x1 : Int32} {x2 : Int32} {x3 : Int32} {x4 : Int32} {x5 : Int32} {o : Int32 × Hp}, r_X15_goalRowsBy h x0 x1 x2 x3 x4 x5 = some o → Le h o.2) {h : Hp} {t0 : Int32} {H : Heap} {locs : List Loc} (hkl : Kl h0 h) (hW : Wx X h H) (hZ : va_S (aA (eB X)) s.heap H locs) (ls : Array Slot) (hl : lv_has ls 6 []) (hE : sX15_goalRowsBy_79 F r_X15_goalRows r_X15_goalRowsBy h  t0 = some o) : W p l e (rmA (d + 1 + 9) ((d + 1) * 26 + 214) h0 o.2) s m args below meth c H locs (hS h - hS h0) (hL h - hL h0) (MQ below (QIA X h0 o.1 o.2) args s (hS o.2 - hS h0) (hL o.2 - hL h0) (aA (eB X))) (F0 m 79 ls [.int t0]) := by
  exact x_iretA C rfl rfl hW hZ hkl hE dX15_goalRowsBy_79
set_option maxRecDepth 20000 in
theorem bX15_goalRowsBy_65 {p : Program} {l : Launch} {e : Env} {s : State} {m : MethodId} {args : Array Value} {below : List Frame} {meth : Method} {c : Code} {X : Ec} {h0 : Hp} {o : Int32 × Hp} {d : Nat} {r_X15_goalRows : Hp → Nat → Int32 → Int32 → Int32 → Int32 → Option (Int32 × Hp)} {r_X15_goalRowsBy : Hp → Nat → Int32 → Int32 → Int32 → Int32 → Int32 → Option (Int32 × Hp)} {F : Nat} (C : Cx X p s m args meth c RX15 cX15_goalRowsBy 6 (some .int) "goalRowsBy") (hr_X15_goalRows : ∀ {h : Hp} {x0 : Nat} {x1 : Int32} {x2 : Int32} {x3 : Int32} {x4 : Int32} {o : Int32 × Hp}, hK h x0 = 15 → r_X15_goalRows h x0 x1 x2 x3 x4 = some o → MetIA l yX15_goalRows cX15_goalRows 7 (some .int)  (d + 9) (d * 26 + 214) X [.ref x0, .int x1, .int x2, .int x3, .int x4] h o) (hr_X15_goalRowsBy : ∀ {h : Hp} {x0 : Nat} {x1 : Int32} {x2 : Int32} {x3 : Int32} {x4 : Int32} {x5 : Int32} {o : Int32 × Hp}, hK h x0 = 15 → r_X15_goalRowsBy h x0 x1 x2 x3 x4 x5 = some o → MetIA l yX15_goalRowsBy cX15_goalRowsBy 6 (some .int)  (d + 9) (d * 26 + 214) X [.ref x0, .int x1, .int x2, .int x3, .int x4, .int x5] h o) (mr_X15_goalRows : ∀ {h : Hp} {x0 : Nat} {x1 : Int32} {x2 : Int32} {x3 : Int32} {x4 : Int32} {o : Int32 × Hp}, r_X15_goalRows h x0 x1 x2 x3 x4 = some o → Le h o.2) (mr_X15_goalRowsBy : ∀ {h : Hp} {x0 : Nat} {x1 : Int32} {x2 : Int32} {x3 : Int32} {x4 : Int32} {x5 : Int32} {o : Int32 × Hp}, r_X15_goalRowsBy h x0 x1 x2 x3 x4 x5 = some o → Le h o.2) {h : Hp} {x0 : Nat} {x1 : Int32} {x3 : Int32} {x4 : Int32} {x5 : Int32} {H : Heap} {locs : List Loc} (k_x0 : hK h x0 = 15) (hkl : Kl h0 h) (hW : Wx X h H) (hZ : va_S (aA (eB X)) s.heap H locs) (ls : Array Slot) (hl : lv_has ls 6 [(0, .ref x0), (1, .int x1), (3, .int x3), (4, .int x4), (5, .int x5)]) (hE : sX15_goalRowsBy_65 F r_X15_goalRows r_X15_goalRowsBy h x0 x1 x3 x4 x5 = some o) : W p l e (rmA (d + 1 + 9) ((d + 1) * 26 + 214) h0 o.2) s m args below meth c H locs (hS h - hS h0) (hL h - hL h0) (MQ below (QIA X h0 o.1 o.2) args s (hS o.2 - hS h0) (hL o.2 - hL h0) (aA (eB X))) (F0 m 65 ls []) := by
  refine lv_aload_n C.1 C.2.1 dX15_goalRowsBy_65 rfl (lv_at hl 0 rfl) ?_
  refine lv_iload_n C.1 C.2.1 dX15_goalRowsBy_66 rfl (lv_at hl 1 rfl) ?_
  refine lv_iconst (v := (1 : Int32)) C.1 C.2.1 dX15_goalRowsBy_67 (by decide) ?_
  refine lv_iadd C.1 C.2.1 dX15_goalRowsBy_68 ?_
  refine lv_iload_n C.1 C.2.1 dX15_goalRowsBy_69 rfl (lv_at hl 2 rfl) ?_
  refine lv_iconst (v := (1 : Int32)) C.1 C.2.1 dX15_goalRowsBy_70 (by decide) ?_
  refine lv_isub C.1 C.2.1 dX15_goalRowsBy_71 ?_
  refine lv_iload C.1 C.2.1 dX15_goalRowsBy_72 (lv_at hl 3 rfl) ?_
  refine lv_iload C.1 C.2.1 dX15_goalRowsBy_74 (lv_at hl 4 rfl) ?_
  obtain ⟨o_1, eo_1, hE⟩ := cl_e hE
  have m1 := mr_X15_goalRows eo_1
  have m2 := moX15_goalRowsBy_79 mr_X15_goalRows mr_X15_goalRowsBy hE
  refine x_kIA (o := o_1) hkl (z_runV (As := [.int (x1 + (1 : Int32)), .int (x3 - (1 : Int32)), .int x4, .int x5]) (rest := []) C (hr_X15_goalRows k_x0 eo_1) cw_X15_843 hW hZ k_x0 (by decide) rfl rfl rfl hl.1 (Nat.le_of_ble_eq_true rfl) rfl dX15_goalRowsBy_76 ⟨by dsimp only [rm, rmA]; omega, by dsimp only [rm, rmA]; omega⟩ (rm_ok hkl m1 m2)) hZ (fun _ _ hW km hZ => ?_)
  replace hkl := hkl.tr km
  replace k_x0 := km.at k_x0 (by decide)
  exact bX15_goalRowsBy_79 C hr_X15_goalRows hr_X15_goalRowsBy mr_X15_goalRows mr_X15_goalRowsBy hkl hW hZ _ (lv_sub hl [] rfl) hE
set_option maxRecDepth 20000 in
theorem bX15_goalRowsBy_54 {p : Program} {l : Launch} {e : Env} {s : State} {m : MethodId} {args : Array Value} {below : List Frame} {meth : Method} {c : Code} {X : Ec} {h0 : Hp} {o : Int32 × Hp} {d : Nat} {r_X15_goalRows : Hp → Nat → Int32 → Int32 → Int32 → Int32 → Option (Int32 × Hp)} {r_X15_goalRowsBy : Hp → Nat → Int32 → Int32 → Int32 → Int32 → Int32 → Option (Int32 × Hp)} {F : Nat} (C : Cx X p s m args meth c RX15 cX15_goalRowsBy 6 (some .int) "goalRowsBy") (hr_X15_goalRows : ∀ {h : Hp} {x0 : Nat} {x1 : Int32} {x2 : Int32} {x3 : Int32} {x4 : Int32} {o : Int32 × Hp}, hK h x0 = 15 → r_X15_goalRows h x0 x1 x2 x3 x4 = some o → MetIA l yX15_goalRows cX15_goalRows 7 (some .int)  (d + 9) (d * 26 + 214) X [.ref x0, .int x1, .int x2, .int x3, .int x4] h o) (hr_X15_goalRowsBy : ∀ {h : Hp} {x0 : Nat} {x1 : Int32} {x2 : Int32} {x3 : Int32} {x4 : Int32} {x5 : Int32} {o : Int32 × Hp}, hK h x0 = 15 → r_X15_goalRowsBy h x0 x1 x2 x3 x4 x5 = some o → MetIA l yX15_goalRowsBy cX15_goalRowsBy 6 (some .int)  (d + 9) (d * 26 + 214) X [.ref x0, .int x1, .int x2, .int x3, .int x4, .int x5] h o) (mr_X15_goalRows : ∀ {h : Hp} {x0 : Nat} {x1 : Int32} {x2 : Int32} {x3 : Int32} {x4 : Int32} {o : Int32 × Hp}, r_X15_goalRows h x0 x1 x2 x3 x4 = some o → Le h o.2) (mr_X15_goalRowsBy : ∀ {h : Hp} {x0 : Nat} {x1 : Int32} {x2 : Int32} {x3 : Int32} {x4 : Int32} {x5 : Int32} {o : Int32 × Hp}, r_X15_goalRowsBy h x0 x1 x2 x3 x4 x5 = some o → Le h o.2) {h : Hp} {x0 : Nat} {x1 : Int32} {x3 : Int32} {x4 : Int32} {x5 : Int32} {t0 : Nat} {t1 : Nat} {H : Heap} {locs : List Loc} (k_x0 : hK h x0 = 15) (k_t0 : hK h t0 = 12) (k_t1 : hK h t1 = 15) (hkl : Kl h0 h) (hW : Wx X h H) (hZ : va_S (aA (eB X)) s.heap H locs) (ls : Array Slot) (hl : lv_has ls 6 [(0, .ref x0), (1, .int x1), (3, .int x3), (4, .int x4), (5, .int x5)]) (hE : sX15_goalRowsBy_54 F r_X15_goalRows r_X15_goalRowsBy h x0 x1 x3 x4 x5 t0 t1 = some o) : W p l e (rmA (d + 1 + 9) ((d + 1) * 26 + 214) h0 o.2) s m args below meth c H locs (hS h - hS h0) (hL h - hL h0) (MQ below (QIA X h0 o.1 o.2) args s (hS o.2 - hS h0) (hL o.2 - hL h0) (aA (eB X))) (F0 m 54 ls [.ref t0, .ref t1]) := by
  refine lv_aload_n C.1 C.2.1 dX15_goalRowsBy_54 rfl (lv_at hl 0 rfl) ?_
  obtain ⟨r_1, er_1, hE⟩ := cl_e hE
  refine gf_X15_301 C hW k_x0 er_1 dX15_goalRowsBy_55 (fun k_r_1 => ?_)
  refine lv_iload_n C.1 C.2.1 dX15_goalRowsBy_58 rfl (lv_at hl 1 rfl) ?_
  refine lv_iconst (v := (1 : Int32)) C.1 C.2.1 dX15_goalRowsBy_59 (by decide) ?_
  refine lv_iadd C.1 C.2.1 dX15_goalRowsBy_60 ?_
  obtain ⟨g_2, hE⟩ := gd_e hE
  obtain ⟨r_3, er_3, hE⟩ := cl_e hE
  refine y_aald (t0 := 6) C hW k_r_1 (by decide) (by decide) rfl rfl rfl (fun _ => rfl) g_2 er_3 dX15_goalRowsBy_61 (fun k_r_3 => ?_)
  obtain ⟨o_4, eo_4, hE⟩ := cl_e hE
  have m1 := moX15_legal eo_4
  have m2 := moX15_goalRowsBy_65 mr_X15_goalRows mr_X15_goalRowsBy hE
  refine x_kV (o := o_4) (z_runV (As := [.ref t0, .ref r_3]) (rest := []) C (ct_X15_legal l X F k_t1 k_t0 k_r_3 eo_4) cw_X15_652 hW hZ k_t1 (by decide) rfl rfl rfl hl.1 (Nat.le_of_ble_eq_true rfl) rfl dX15_goalRowsBy_62 ⟨by dsimp only [rm, rmA]; omega, by dsimp only [rm, rmA]; omega⟩ (rm_ok0 hkl m1 m2)) hZ (fun _ _ hW km hZ => ?_)
  replace hkl := hkl.tr km.l
  refine x_wc km ?_
  replace k_x0 := km.at k_x0 (by decide)
  exact bX15_goalRowsBy_65 C hr_X15_goalRows hr_X15_goalRowsBy mr_X15_goalRows mr_X15_goalRowsBy k_x0 hkl hW hZ _ (lv_sub hl [0, 1, 2, 3, 4] rfl) hE
set_option maxRecDepth 20000 in
theorem bX15_goalRowsBy_41 {p : Program} {l : Launch} {e : Env} {s : State} {m : MethodId} {args : Array Value} {below : List Frame} {meth : Method} {c : Code} {X : Ec} {h0 : Hp} {o : Int32 × Hp} {d : Nat} {r_X15_goalRows : Hp → Nat → Int32 → Int32 → Int32 → Int32 → Option (Int32 × Hp)} {r_X15_goalRowsBy : Hp → Nat → Int32 → Int32 → Int32 → Int32 → Int32 → Option (Int32 × Hp)} {F : Nat} (C : Cx X p s m args meth c RX15 cX15_goalRowsBy 6 (some .int) "goalRowsBy") (hr_X15_goalRows : ∀ {h : Hp} {x0 : Nat} {x1 : Int32} {x2 : Int32} {x3 : Int32} {x4 : Int32} {o : Int32 × Hp}, hK h x0 = 15 → r_X15_goalRows h x0 x1 x2 x3 x4 = some o → MetIA l yX15_goalRows cX15_goalRows 7 (some .int)  (d + 9) (d * 26 + 214) X [.ref x0, .int x1, .int x2, .int x3, .int x4] h o) (hr_X15_goalRowsBy : ∀ {h : Hp} {x0 : Nat} {x1 : Int32} {x2 : Int32} {x3 : Int32} {x4 : Int32} {x5 : Int32} {o : Int32 × Hp}, hK h x0 = 15 → r_X15_goalRowsBy h x0 x1 x2 x3 x4 x5 = some o → MetIA l yX15_goalRowsBy cX15_goalRowsBy 6 (some .int)  (d + 9) (d * 26 + 214) X [.ref x0, .int x1, .int x2, .int x3, .int x4, .int x5] h o) (mr_X15_goalRows : ∀ {h : Hp} {x0 : Nat} {x1 : Int32} {x2 : Int32} {x3 : Int32} {x4 : Int32} {o : Int32 × Hp}, r_X15_goalRows h x0 x1 x2 x3 x4 = some o → Le h o.2) (mr_X15_goalRowsBy : ∀ {h : Hp} {x0 : Nat} {x1 : Int32} {x2 : Int32} {x3 : Int32} {x4 : Int32} {x5 : Int32} {o : Int32 × Hp}, r_X15_goalRowsBy h x0 x1 x2 x3 x4 x5 = some o → Le h o.2) {h : Hp} {x0 : Nat} {x1 : Int32} {x3 : Int32} {x4 : Int32} {x5 : Int32} {t0 : Int32} {H : Heap} {locs : List Loc} (k_x0 : hK h x0 = 15) (hkl : Kl h0 h) (hW : Wx X h H) (hZ : va_S (aA (eB X)) s.heap H locs) (ls : Array Slot) (hl : lv_has ls 6 [(0, .ref x0), (1, .int x1), (3, .int x3), (4, .int x4), (5, .int x5)]) (hE : sX15_goalRowsBy_41 F r_X15_goalRows r_X15_goalRowsBy h x0 x1 x3 x4 x5 t0 = some o) : W p l e (rmA (d + 1 + 9) ((d + 1) * 26 + 214) h0 o.2) s m args below meth c H locs (hS h - hS h0) (hL h - hL h0) (MQ below (QIA X h0 o.1 o.2) args s (hS o.2 - hS h0) (hL o.2 - hL h0) (aA (eB X))) (F0 m 41 ls [.int t0]) := by
  refine lv_if_ne (tgt := 46) C.1 C.2.1 dX15_goalRowsBy_41 (by decide) (fun c_1 => ?_) (fun c_1 => ?_)
  · have hE := br_n hE c_1
    refine lv_aload_n C.1 C.2.1 dX15_goalRowsBy_46 rfl (lv_at hl 0 rfl) ?_
    refine lv_aload_n C.1 C.2.1 dX15_goalRowsBy_47 rfl (lv_at hl 0 rfl) ?_
    refine lv_iload_n C.1 C.2.1 dX15_goalRowsBy_48 rfl (lv_at hl 1 rfl) ?_
    refine lv_iconst (v := (1 : Int32)) C.1 C.2.1 dX15_goalRowsBy_49 (by decide) ?_
    refine lv_iadd C.1 C.2.1 dX15_goalRowsBy_50 ?_
    obtain ⟨o_2, eo_2, hE⟩ := cl_e hE
    have m1 := moX15_deepBoard eo_2
    have m2 := moX15_goalRowsBy_54 mr_X15_goalRows mr_X15_goalRowsBy hE
    refine x_kRA (o := o_2) hkl (z_runV (As := [.int (x1 + (1 : Int32))]) (rest := [.ref x0]) C (ct_X15_deepBoard l X k_x0 eo_2) cw_X15_671 hW hZ k_x0 (by decide) rfl rfl rfl hl.1 (Nat.le_of_ble_eq_true rfl) rfl dX15_goalRowsBy_51 ⟨by dsimp only [rm, rmA]; omega, by dsimp only [rm, rmA]; omega⟩ (rm_ok hkl m1 m2)) hZ (fun _ _ hW km k_o_2_1 hZ => ?_)
    replace hkl := hkl.tr km
    replace k_x0 := km.at k_x0 (by decide)
    exact bX15_goalRowsBy_54 C hr_X15_goalRows hr_X15_goalRowsBy mr_X15_goalRows mr_X15_goalRowsBy k_x0 k_o_2_1 k_x0 hkl hW hZ _ (lv_sub hl [0, 1, 2, 3, 4] rfl) hE
  · have hE := br_p hE c_1
    refine lv_iconst (v := (0 : Int32)) C.1 C.2.1 dX15_goalRowsBy_44 (by decide) ?_
    exact x_iretA C rfl rfl hW hZ hkl hE dX15_goalRowsBy_45
set_option maxRecDepth 20000 in
theorem bX15_goalRowsBy_28 {p : Program} {l : Launch} {e : Env} {s : State} {m : MethodId} {args : Array Value} {below : List Frame} {meth : Method} {c : Code} {X : Ec} {h0 : Hp} {o : Int32 × Hp} {d : Nat} {r_X15_goalRows : Hp → Nat → Int32 → Int32 → Int32 → Int32 → Option (Int32 × Hp)} {r_X15_goalRowsBy : Hp → Nat → Int32 → Int32 → Int32 → Int32 → Int32 → Option (Int32 × Hp)} {F : Nat} (C : Cx X p s m args meth c RX15 cX15_goalRowsBy 6 (some .int) "goalRowsBy") (hr_X15_goalRows : ∀ {h : Hp} {x0 : Nat} {x1 : Int32} {x2 : Int32} {x3 : Int32} {x4 : Int32} {o : Int32 × Hp}, hK h x0 = 15 → r_X15_goalRows h x0 x1 x2 x3 x4 = some o → MetIA l yX15_goalRows cX15_goalRows 7 (some .int)  (d + 9) (d * 26 + 214) X [.ref x0, .int x1, .int x2, .int x3, .int x4] h o) (hr_X15_goalRowsBy : ∀ {h : Hp} {x0 : Nat} {x1 : Int32} {x2 : Int32} {x3 : Int32} {x4 : Int32} {x5 : Int32} {o : Int32 × Hp}, hK h x0 = 15 → r_X15_goalRowsBy h x0 x1 x2 x3 x4 x5 = some o → MetIA l yX15_goalRowsBy cX15_goalRowsBy 6 (some .int)  (d + 9) (d * 26 + 214) X [.ref x0, .int x1, .int x2, .int x3, .int x4, .int x5] h o) (mr_X15_goalRows : ∀ {h : Hp} {x0 : Nat} {x1 : Int32} {x2 : Int32} {x3 : Int32} {x4 : Int32} {o : Int32 × Hp}, r_X15_goalRows h x0 x1 x2 x3 x4 = some o → Le h o.2) (mr_X15_goalRowsBy : ∀ {h : Hp} {x0 : Nat} {x1 : Int32} {x2 : Int32} {x3 : Int32} {x4 : Int32} {x5 : Int32} {o : Int32 × Hp}, r_X15_goalRowsBy h x0 x1 x2 x3 x4 x5 = some o → Le h o.2) {h : Hp} {t0 : Int32} {H : Heap} {locs : List Loc} (hkl : Kl h0 h) (hW : Wx X h H) (hZ : va_S (aA (eB X)) s.heap H locs) (ls : Array Slot) (hl : lv_has ls 6 []) (hE : sX15_goalRowsBy_28 F r_X15_goalRows r_X15_goalRowsBy h  t0 = some o) : W p l e (rmA (d + 1 + 9) ((d + 1) * 26 + 214) h0 o.2) s m args below meth c H locs (hS h - hS h0) (hL h - hL h0) (MQ below (QIA X h0 o.1 o.2) args s (hS o.2 - hS h0) (hL o.2 - hL h0) (aA (eB X))) (F0 m 28 ls [.int t0]) := by
  exact x_iretA C rfl rfl hW hZ hkl hE dX15_goalRowsBy_28
set_option maxRecDepth 20000 in
theorem bX15_goalRowsBy_20 {p : Program} {l : Launch} {e : Env} {s : State} {m : MethodId} {args : Array Value} {below : List Frame} {meth : Method} {c : Code} {X : Ec} {h0 : Hp} {o : Int32 × Hp} {d : Nat} {r_X15_goalRows : Hp → Nat → Int32 → Int32 → Int32 → Int32 → Option (Int32 × Hp)} {r_X15_goalRowsBy : Hp → Nat → Int32 → Int32 → Int32 → Int32 → Int32 → Option (Int32 × Hp)} {F : Nat} (C : Cx X p s m args meth c RX15 cX15_goalRowsBy 6 (some .int) "goalRowsBy") (hr_X15_goalRows : ∀ {h : Hp} {x0 : Nat} {x1 : Int32} {x2 : Int32} {x3 : Int32} {x4 : Int32} {o : Int32 × Hp}, hK h x0 = 15 → r_X15_goalRows h x0 x1 x2 x3 x4 = some o → MetIA l yX15_goalRows cX15_goalRows 7 (some .int)  (d + 9) (d * 26 + 214) X [.ref x0, .int x1, .int x2, .int x3, .int x4] h o) (hr_X15_goalRowsBy : ∀ {h : Hp} {x0 : Nat} {x1 : Int32} {x2 : Int32} {x3 : Int32} {x4 : Int32} {x5 : Int32} {o : Int32 × Hp}, hK h x0 = 15 → r_X15_goalRowsBy h x0 x1 x2 x3 x4 x5 = some o → MetIA l yX15_goalRowsBy cX15_goalRowsBy 6 (some .int)  (d + 9) (d * 26 + 214) X [.ref x0, .int x1, .int x2, .int x3, .int x4, .int x5] h o) (mr_X15_goalRows : ∀ {h : Hp} {x0 : Nat} {x1 : Int32} {x2 : Int32} {x3 : Int32} {x4 : Int32} {o : Int32 × Hp}, r_X15_goalRows h x0 x1 x2 x3 x4 = some o → Le h o.2) (mr_X15_goalRowsBy : ∀ {h : Hp} {x0 : Nat} {x1 : Int32} {x2 : Int32} {x3 : Int32} {x4 : Int32} {x5 : Int32} {o : Int32 × Hp}, r_X15_goalRowsBy h x0 x1 x2 x3 x4 x5 = some o → Le h o.2) {h : Hp} {t0 : Int32} {H : Heap} {locs : List Loc} (hkl : Kl h0 h) (hW : Wx X h H) (hZ : va_S (aA (eB X)) s.heap H locs) (ls : Array Slot) (hl : lv_has ls 6 []) (hE : sX15_goalRowsBy_20 F r_X15_goalRows r_X15_goalRowsBy h  t0 = some o) : W p l e (rmA (d + 1 + 9) ((d + 1) * 26 + 214) h0 o.2) s m args below meth c H locs (hS h - hS h0) (hL h - hL h0) (MQ below (QIA X h0 o.1 o.2) args s (hS o.2 - hS h0) (hL o.2 - hL h0) (aA (eB X))) (F0 m 20 ls [.int t0]) := by
  refine lv_if_eq (tgt := 27) C.1 C.2.1 dX15_goalRowsBy_20 (by decide) (fun c_1 => ?_) (fun c_1 => ?_)
  · have hE := br_p hE c_1
    refine lv_iconst (v := (0 : Int32)) C.1 C.2.1 dX15_goalRowsBy_27 (by decide) ?_
    exact bX15_goalRowsBy_28 C hr_X15_goalRows hr_X15_goalRowsBy mr_X15_goalRows mr_X15_goalRowsBy hkl hW hZ _ (lv_sub hl [] rfl) hE
  · have hE := br_n hE c_1
    refine lv_iconst (v := (1 : Int32)) C.1 C.2.1 dX15_goalRowsBy_23 (by decide) ?_
    refine lv_goto (tgt := 28) C.1 C.2.1 dX15_goalRowsBy_24 (by decide) ?_
    exact bX15_goalRowsBy_28 C hr_X15_goalRows hr_X15_goalRowsBy mr_X15_goalRows mr_X15_goalRowsBy hkl hW hZ _ (lv_sub hl [] rfl) hE
set_option maxRecDepth 20000 in
theorem bX15_goalRowsBy_6 {p : Program} {l : Launch} {e : Env} {s : State} {m : MethodId} {args : Array Value} {below : List Frame} {meth : Method} {c : Code} {X : Ec} {h0 : Hp} {o : Int32 × Hp} {d : Nat} {r_X15_goalRows : Hp → Nat → Int32 → Int32 → Int32 → Int32 → Option (Int32 × Hp)} {r_X15_goalRowsBy : Hp → Nat → Int32 → Int32 → Int32 → Int32 → Int32 → Option (Int32 × Hp)} {F : Nat} (C : Cx X p s m args meth c RX15 cX15_goalRowsBy 6 (some .int) "goalRowsBy") (hr_X15_goalRows : ∀ {h : Hp} {x0 : Nat} {x1 : Int32} {x2 : Int32} {x3 : Int32} {x4 : Int32} {o : Int32 × Hp}, hK h x0 = 15 → r_X15_goalRows h x0 x1 x2 x3 x4 = some o → MetIA l yX15_goalRows cX15_goalRows 7 (some .int)  (d + 9) (d * 26 + 214) X [.ref x0, .int x1, .int x2, .int x3, .int x4] h o) (hr_X15_goalRowsBy : ∀ {h : Hp} {x0 : Nat} {x1 : Int32} {x2 : Int32} {x3 : Int32} {x4 : Int32} {x5 : Int32} {o : Int32 × Hp}, hK h x0 = 15 → r_X15_goalRowsBy h x0 x1 x2 x3 x4 x5 = some o → MetIA l yX15_goalRowsBy cX15_goalRowsBy 6 (some .int)  (d + 9) (d * 26 + 214) X [.ref x0, .int x1, .int x2, .int x3, .int x4, .int x5] h o) (mr_X15_goalRows : ∀ {h : Hp} {x0 : Nat} {x1 : Int32} {x2 : Int32} {x3 : Int32} {x4 : Int32} {o : Int32 × Hp}, r_X15_goalRows h x0 x1 x2 x3 x4 = some o → Le h o.2) (mr_X15_goalRowsBy : ∀ {h : Hp} {x0 : Nat} {x1 : Int32} {x2 : Int32} {x3 : Int32} {x4 : Int32} {x5 : Int32} {o : Int32 × Hp}, r_X15_goalRowsBy h x0 x1 x2 x3 x4 x5 = some o → Le h o.2) {h : Hp} {x0 : Nat} {x1 : Int32} {x3 : Int32} {x4 : Int32} {x5 : Int32} {H : Heap} {locs : List Loc} (k_x0 : hK h x0 = 15) (hkl : Kl h0 h) (hW : Wx X h H) (hZ : va_S (aA (eB X)) s.heap H locs) (ls : Array Slot) (hl : lv_has ls 6 [(0, .ref x0), (1, .int x1), (3, .int x3), (4, .int x4), (5, .int x5)]) (hE : sX15_goalRowsBy_6 F r_X15_goalRows r_X15_goalRowsBy h x0 x1 x3 x4 x5 = some o) : W p l e (rmA (d + 1 + 9) ((d + 1) * 26 + 214) h0 o.2) s m args below meth c H locs (hS h - hS h0) (hL h - hL h0) (MQ below (QIA X h0 o.1 o.2) args s (hS o.2 - hS h0) (hL o.2 - hL h0) (aA (eB X))) (F0 m 6 ls []) := by
  refine lv_iload_n C.1 C.2.1 dX15_goalRowsBy_6 rfl (lv_at hl 2 rfl) ?_
  refine lv_iconst (v := (1 : Int32)) C.1 C.2.1 dX15_goalRowsBy_7 (by decide) ?_
  refine lv_icmp_ne (tgt := 29) C.1 C.2.1 dX15_goalRowsBy_8 (by decide) (fun c_1 => ?_) (fun c_1 => ?_)
  · have hE := br_n hE c_1
    refine lv_iload C.1 C.2.1 dX15_goalRowsBy_29 (lv_at hl 3 rfl) ?_
    refine lv_if_eq (tgt := 65) C.1 C.2.1 dX15_goalRowsBy_31 (by decide) (fun c_2 => ?_) (fun c_2 => ?_)
    · have hE := br_p hE c_2
      exact bX15_goalRowsBy_65 C hr_X15_goalRows hr_X15_goalRowsBy mr_X15_goalRows mr_X15_goalRowsBy k_x0 hkl hW hZ _ (lv_sub hl [0, 1, 2, 3, 4] rfl) hE
    · have hE := br_n hE c_2
      refine lv_aload_n C.1 C.2.1 dX15_goalRowsBy_34 rfl (lv_at hl 0 rfl) ?_
      refine lv_iload_n C.1 C.2.1 dX15_goalRowsBy_35 rfl (lv_at hl 1 rfl) ?_
      refine lv_iconst (v := (1 : Int32)) C.1 C.2.1 dX15_goalRowsBy_36 (by decide) ?_
      refine lv_iadd C.1 C.2.1 dX15_goalRowsBy_37 ?_
      obtain ⟨o_3, eo_3, hE⟩ := cl_e hE
      have m1 := moX15_turnsBack eo_3
      have m2 := moX15_goalRowsBy_41 mr_X15_goalRows mr_X15_goalRowsBy hE
      refine x_kIA (o := o_3) hkl (z_runV (As := [.int (x1 + (1 : Int32))]) (rest := []) C (ct_X15_turnsBack l X F k_x0 eo_3) cw_X15_676 hW hZ k_x0 (by decide) rfl rfl rfl hl.1 (Nat.le_of_ble_eq_true rfl) rfl dX15_goalRowsBy_38 ⟨by dsimp only [rm, rmA]; omega, by dsimp only [rm, rmA]; omega⟩ (rm_ok hkl m1 m2)) hZ (fun _ _ hW km hZ => ?_)
      replace hkl := hkl.tr km
      replace k_x0 := km.at k_x0 (by decide)
      exact bX15_goalRowsBy_41 C hr_X15_goalRows hr_X15_goalRowsBy mr_X15_goalRows mr_X15_goalRowsBy k_x0 hkl hW hZ _ (lv_sub hl [0, 1, 2, 3, 4] rfl) hE
  · have hE := br_p hE c_1
    refine lv_aload_n C.1 C.2.1 dX15_goalRowsBy_11 rfl (lv_at hl 0 rfl) ?_
    refine lv_iload_n C.1 C.2.1 dX15_goalRowsBy_12 rfl (lv_at hl 1 rfl) ?_
    refine lv_iconst (v := (1 : Int32)) C.1 C.2.1 dX15_goalRowsBy_13 (by decide) ?_
    refine lv_iadd C.1 C.2.1 dX15_goalRowsBy_14 ?_
    refine lv_iload C.1 C.2.1 dX15_goalRowsBy_15 (lv_at hl 4 rfl) ?_
    obtain ⟨o_4, eo_4, hE⟩ := cl_e hE
    have m1 := moX15_isGoal eo_4
    have m2 := moX15_goalRowsBy_20 mr_X15_goalRows mr_X15_goalRowsBy hE
    refine x_kIA (o := o_4) hkl (z_runV (As := [.int (x1 + (1 : Int32)), .int x5]) (rest := []) C (ct_X15_isGoal l X F k_x0 eo_4) cw_X15_826 hW hZ k_x0 (by decide) rfl rfl rfl hl.1 (Nat.le_of_ble_eq_true rfl) rfl dX15_goalRowsBy_17 ⟨by dsimp only [rm, rmA]; omega, by dsimp only [rm, rmA]; omega⟩ (rm_ok hkl m1 m2)) hZ (fun _ _ hW km hZ => ?_)
    replace hkl := hkl.tr km
    replace k_x0 := km.at k_x0 (by decide)
    exact bX15_goalRowsBy_20 C hr_X15_goalRows hr_X15_goalRowsBy mr_X15_goalRows mr_X15_goalRowsBy hkl hW hZ _ (lv_sub hl [] rfl) hE
set_option maxRecDepth 20000 in
theorem ot_X15_goalRowsBy (l : Launch) (X : Ec) (F : Nat) {d : Nat} {r_X15_goalRows : Hp → Nat → Int32 → Int32 → Int32 → Int32 → Option (Int32 × Hp)} {r_X15_goalRowsBy : Hp → Nat → Int32 → Int32 → Int32 → Int32 → Int32 → Option (Int32 × Hp)} (hr_X15_goalRows : ∀ {h : Hp} {x0 : Nat} {x1 : Int32} {x2 : Int32} {x3 : Int32} {x4 : Int32} {o : Int32 × Hp}, hK h x0 = 15 → r_X15_goalRows h x0 x1 x2 x3 x4 = some o → MetIA l yX15_goalRows cX15_goalRows 7 (some .int)  (d + 9) (d * 26 + 214) X [.ref x0, .int x1, .int x2, .int x3, .int x4] h o) (hr_X15_goalRowsBy : ∀ {h : Hp} {x0 : Nat} {x1 : Int32} {x2 : Int32} {x3 : Int32} {x4 : Int32} {x5 : Int32} {o : Int32 × Hp}, hK h x0 = 15 → r_X15_goalRowsBy h x0 x1 x2 x3 x4 x5 = some o → MetIA l yX15_goalRowsBy cX15_goalRowsBy 6 (some .int)  (d + 9) (d * 26 + 214) X [.ref x0, .int x1, .int x2, .int x3, .int x4, .int x5] h o) (mr_X15_goalRows : ∀ {h : Hp} {x0 : Nat} {x1 : Int32} {x2 : Int32} {x3 : Int32} {x4 : Int32} {o : Int32 × Hp}, r_X15_goalRows h x0 x1 x2 x3 x4 = some o → Le h o.2) (mr_X15_goalRowsBy : ∀ {h : Hp} {x0 : Nat} {x1 : Int32} {x2 : Int32} {x3 : Int32} {x4 : Int32} {x5 : Int32} {o : Int32 × Hp}, r_X15_goalRowsBy h x0 x1 x2 x3 x4 x5 = some o → Le h o.2) {h : Hp} {x0 : Nat} {x1 : Int32} {x2 : Int32} {x3 : Int32} {x4 : Int32} {x5 : Int32} {o : Int32 × Hp} (k_x0 : hK h x0 = 15) (hE : oX15_goalRowsBy F r_X15_goalRows r_X15_goalRowsBy h x0 x1 x2 x3 x4 x5 = some o) : MetIA l yX15_goalRowsBy cX15_goalRowsBy 6 (some .int) (d + 1 + 9) ((d + 1) * 26 + 214) X [.ref x0, .int x1, .int x2, .int x3, .int x4, .int x5] h o := by
  refine x_metA (oh := o.2) (by decide) (Nat.le_of_ble_eq_true rfl) ?_
  intro p e s m below meth c ls C hl hW hZ
  have hl : lv_has ls 6 [(0, .ref x0), (1, .int x1), (2, .int x2), (3, .int x3), (4, .int x4), (5, .int x5)] := hl
  have hkl : Kl h h := Kl.rf h
  refine lv_aload_n C.1 C.2.1 dX15_goalRowsBy_0 rfl (lv_at hl 0 rfl) ?_
  refine lv_iload_n C.1 C.2.1 dX15_goalRowsBy_1 rfl (lv_at hl 1 rfl) ?_
  refine lv_iload_n C.1 C.2.1 dX15_goalRowsBy_2 rfl (lv_at hl 2 rfl) ?_
  obtain ⟨o_1, eo_1, hE⟩ := cl_e hE
  have m1 := moX15_step eo_1
  have m2 := moX15_goalRowsBy_6 mr_X15_goalRows mr_X15_goalRowsBy hE
  refine x_kVA (o := o_1) hkl (z_runV (As := [.int x1, .int x2]) (rest := []) C (ct_X15_step l X F k_x0 eo_1) cw_X15_823 hW hZ k_x0 (by decide) rfl rfl rfl hl.1 (Nat.le_of_ble_eq_true rfl) rfl dX15_goalRowsBy_3 ⟨by dsimp only [rm, rmA]; omega, by dsimp only [rm, rmA]; omega⟩ (rm_ok hkl m1 m2)) hZ (fun _ _ hW km hZ => ?_)
  replace hkl := hkl.tr km
  replace k_x0 := km.at k_x0 (by decide)
  exact bX15_goalRowsBy_6 C hr_X15_goalRows hr_X15_goalRowsBy mr_X15_goalRows mr_X15_goalRowsBy k_x0 hkl hW hZ _ (lv_sub hl [0, 1, 3, 4, 5] rfl) hE
theorem qmX15_goalRows (F : Nat) : ∀ (d : Nat), (∀ {h : Hp} {x0 : Nat} {x1 : Int32} {x2 : Int32} {x3 : Int32} {x4 : Int32} {o : Int32 × Hp}, (qX15_goalRows F d).1 h x0 x1 x2 x3 x4 = some o → Le h o.2) ∧ (∀ {h : Hp} {x0 : Nat} {x1 : Int32} {x2 : Int32} {x3 : Int32} {x4 : Int32} {x5 : Int32} {o : Int32 × Hp}, (qX15_goalRows F d).2 h x0 x1 x2 x3 x4 x5 = some o → Le h o.2) := by
  intro d
  induction d with
  | zero => exact ⟨fun hE => (by cases hE), fun hE => (by cases hE)⟩
  | succ d ih => exact ⟨fun hE => mooX15_goalRows (ih).1 (ih).2 hE, fun hE => mooX15_goalRowsBy (ih).1 (ih).2 hE⟩
theorem qtX15_goalRows (l : Launch) (X : Ec) (F : Nat) : ∀ (d : Nat), (∀ {h : Hp} {x0 : Nat} {x1 : Int32} {x2 : Int32} {x3 : Int32} {x4 : Int32} {o : Int32 × Hp}, hK h x0 = 15 → (qX15_goalRows F d).1 h x0 x1 x2 x3 x4 = some o → MetIA l yX15_goalRows cX15_goalRows 7 (some .int)  (d + 9) (d * 26 + 214) X [.ref x0, .int x1, .int x2, .int x3, .int x4] h o) ∧ (∀ {h : Hp} {x0 : Nat} {x1 : Int32} {x2 : Int32} {x3 : Int32} {x4 : Int32} {x5 : Int32} {o : Int32 × Hp}, hK h x0 = 15 → (qX15_goalRows F d).2 h x0 x1 x2 x3 x4 x5 = some o → MetIA l yX15_goalRowsBy cX15_goalRowsBy 6 (some .int)  (d + 9) (d * 26 + 214) X [.ref x0, .int x1, .int x2, .int x3, .int x4, .int x5] h o) := by
  intro d
  induction d with
  | zero => exact ⟨fun k_x0 hE => (by cases hE), fun k_x0 hE => (by cases hE)⟩
  | succ d ih => exact ⟨fun k_x0 hE => ot_X15_goalRows l X F (ih).1 (ih).2 (qmX15_goalRows F d).1 (qmX15_goalRows F d).2 k_x0 hE, fun k_x0 hE => ot_X15_goalRowsBy l X F (ih).1 (ih).2 (qmX15_goalRows F d).1 (qmX15_goalRows F d).2 k_x0 hE⟩
theorem moX15_goalRows {o : Int32 × Hp} {F : Nat} {h : Hp} {x0 : Nat} {x1 : Int32} {x2 : Int32} {x3 : Int32} {x4 : Int32} (hE : sX15_goalRows F h x0 x1 x2 x3 x4 = some o) : Le h o.2 := (qmX15_goalRows F 40).1 hE
theorem ct_X15_goalRows (l : Launch) (X : Ec) (F : Nat) {h : Hp} {x0 : Nat} {x1 : Int32} {x2 : Int32} {x3 : Int32} {x4 : Int32} {o : Int32 × Hp} (k_x0 : hK h x0 = 15) (hE : sX15_goalRows F h x0 x1 x2 x3 x4 = some o) : MetIA l yX15_goalRows cX15_goalRows 7 (some .int) 49 1254 X [.ref x0, .int x1, .int x2, .int x3, .int x4] h o := (qtX15_goalRows l X F 40).1 k_x0 hE
theorem moX15_goalRowsBy {o : Int32 × Hp} {F : Nat} {h : Hp} {x0 : Nat} {x1 : Int32} {x2 : Int32} {x3 : Int32} {x4 : Int32} {x5 : Int32} (hE : sX15_goalRowsBy F h x0 x1 x2 x3 x4 x5 = some o) : Le h o.2 := (qmX15_goalRows F 40).2 hE
theorem ct_X15_goalRowsBy (l : Launch) (X : Ec) (F : Nat) {h : Hp} {x0 : Nat} {x1 : Int32} {x2 : Int32} {x3 : Int32} {x4 : Int32} {x5 : Int32} {o : Int32 × Hp} (k_x0 : hK h x0 = 15) (hE : sX15_goalRowsBy F h x0 x1 x2 x3 x4 x5 = some o) : MetIA l yX15_goalRowsBy cX15_goalRowsBy 6 (some .int) 49 1254 X [.ref x0, .int x1, .int x2, .int x3, .int x4, .int x5] h o := (qtX15_goalRows l X F 40).2 k_x0 hE
