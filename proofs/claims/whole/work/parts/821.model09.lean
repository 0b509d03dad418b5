set_option maxRecDepth 100000 in
theorem ms_156 : Cond.selects RX15 yX15_attacks yX15_attacks ∈ W0 := w0_in (List.mem_append_left _ (List.mem_of_getElem? (i := 156) rfl)) rfl
set_option maxRecDepth 100000 in
theorem m_2439 : Cond.methodLink RX15 556 yX15_attacks ∈ W0 := w0_in (List.mem_append_right _ (List.mem_of_getElem? (i := 2439) rfl)) rfl
set_option maxRecDepth 100000 in
theorem m_2441 : Cond.instanceMethod yX15_attacks ∈ W0 := w0_in (List.mem_append_right _ (List.mem_of_getElem? (i := 2441) rfl)) rfl
set_option maxRecDepth 100000 in
theorem m_2442 : Cond.code yX15_attacks cX15_attacks 10 (some .boolean) ∈ W0 := w0_in (List.mem_append_right _ (List.mem_of_getElem? (i := 2442) rfl)) rfl
theorem cw_X15_556 : cwd RX15 556 yX15_attacks cX15_attacks 10 (some .boolean) false 4 := ⟨m_2442, m_2439, m_19, ⟨m_2441, ms_156⟩, by decide, by decide, by decide +kernel⟩
theorem dX15_isAttacked_0 : decode cX15_isAttacked 0 = .ok (.iconst 0, 1) := by decide +kernel
theorem dX15_isAttacked_1 : decode cX15_isAttacked 1 = .ok (.istore 4, 2) := by decide +kernel
theorem dX15_isAttacked_3 : decode cX15_isAttacked 3 = .ok (.iload 4, 2) := by decide +kernel
theorem dX15_isAttacked_5 : decode cX15_isAttacked 5 = .ok (.aload_n 0, 1) := by decide +kernel
theorem dX15_isAttacked_6 : decode cX15_isAttacked 6 = .ok (.getfield 384, 3) := by decide +kernel
theorem dX15_isAttacked_9 : decode cX15_isAttacked 9 = .ok (.if_icmp .ge 53, 3) := by decide +kernel
theorem dX15_isAttacked_12 : decode cX15_isAttacked 12 = .ok (.aload_n 1, 1) := by decide +kernel
theorem dX15_isAttacked_13 : decode cX15_isAttacked 13 = .ok (.getfield 396, 3) := by decide +kernel
theorem dX15_isAttacked_16 : decode cX15_isAttacked 16 = .ok (.iload 4, 2) := by decide +kernel
theorem dX15_isAttacked_18 : decode cX15_isAttacked 18 = .ok (.iaload, 1) := by decide +kernel
theorem dX15_isAttacked_19 : decode cX15_isAttacked 19 = .ok (.istore 5, 2) := by decide +kernel
theorem dX15_isAttacked_21 : decode cX15_isAttacked 21 = .ok (.iload 5, 2) := by decide +kernel
theorem dX15_isAttacked_23 : decode cX15_isAttacked 23 = .ok (.ifCond .le 33, 3) := by decide +kernel
theorem dX15_isAttacked_26 : decode cX15_isAttacked 26 = .ok (.iload 5, 2) := by decide +kernel
theorem dX15_isAttacked_28 : decode cX15_isAttacked 28 = .ok (.invokestatic 489, 3) := by decide +kernel
theorem dX15_isAttacked_31 : decode cX15_isAttacked 31 = .ok (.iload_n 3, 1) := by decide +kernel
theorem dX15_isAttacked_32 : decode cX15_isAttacked 32 = .ok (.if_icmp .ne 24, 3) := by decide +kernel
theorem dX15_isAttacked_35 : decode cX15_isAttacked 35 = .ok (.iload 4, 2) := by decide +kernel
theorem dX15_isAttacked_37 : decode cX15_isAttacked 37 = .ok (.iload_n 2, 1) := by decide +kernel
theorem dX15_isAttacked_38 : decode cX15_isAttacked 38 = .ok (.if_icmp .eq 18, 3) := by decide +kernel
theorem dX15_isAttacked_41 : decode cX15_isAttacked 41 = .ok (.aload_n 0, 1) := by decide +kernel
theorem dX15_isAttacked_42 : decode cX15_isAttacked 42 = .ok (.aload_n 1, 1) := by decide +kernel
theorem dX15_isAttacked_43 : decode cX15_isAttacked 43 = .ok (.iload 4, 2) := by decide +kernel
theorem dX15_isAttacked_45 : decode cX15_isAttacked 45 = .ok (.iload 5, 2) := by decide +kernel
theorem dX15_isAttacked_47 : decode cX15_isAttacked 47 = .ok (.iload_n 2, 1) := by decide +kernel
theorem dX15_isAttacked_48 : decode cX15_isAttacked 48 = .ok (.invokevirtual 556, 3) := by decide +kernel
theorem dX15_isAttacked_51 : decode cX15_isAttacked 51 = .ok (.ifCond .eq 5, 3) := by decide +kernel
theorem dX15_isAttacked_54 : decode cX15_isAttacked 54 = .ok (.iconst 1, 1) := by decide +kernel
theorem dX15_isAttacked_55 : decode cX15_isAttacked 55 = .ok (.ireturn, 1) := by decide +kernel
theorem dX15_isAttacked_56 : decode cX15_isAttacked 56 = .ok (.iinc 4 1, 3) := by decide +kernel
theorem dX15_isAttacked_59 : decode cX15_isAttacked 59 = .ok (.goto (-56), 3) := by decide +kernel
theorem dX15_isAttacked_62 : decode cX15_isAttacked 62 = .ok (.iconst 0, 1) := by decide +kernel
theorem dX15_isAttacked_63 : decode cX15_isAttacked 63 = .ok (.ireturn, 1) := by decide +kernel
set_option maxRecDepth 20000 in
theorem moX15_isAttacked_56 {o : Int32 × Hp} {k_3 : Hp → Nat → Nat → Int32 → Int32 → Int32 → Option (Int32 × Hp)} {F : Nat} (mk_3 : ∀ (h : Hp) (x0 : Nat) (x1 : Nat) (x2 : Int32) (x3 : Int32) (x4 : Int32), k_3 h x0 x1 x2 x3 x4 = some o → Le h o.2) {h : Hp} {x0 : Nat} {x1 : Nat} {x2 : Int32} {x3 : Int32} {x4 : Int32} (hE : sX15_isAttacked_56 F k_3 h x0 x1 x2 x3 x4 = some o) : Le h o.2 := by
  obtain ⟨v_1, ev_1, hE⟩ := nm_e2 hE
  exact mk_3 _ _ _ _ _ _ hE
set_option maxRecDepth 20000 in
theorem moX15_isAttacked_3 {o : Int32 × Hp} {F : Nat} : ∀ (f : Nat) {h : Hp} {x0 : Nat} {x1 : Nat} {x2 : Int32} {x3 : Int32} {x4 : Int32}, sX15_isAttacked_3 F f h x0 x1 x2 x3 x4 = some o → Le h o.2 := by
  intro f
  induction f with
  | zero =>
    intro h x0 x1 x2 x3 x4 hE
    rw [sX15_isAttacked_3] at hE
    cases hE
  | succ f ih =>
    intro h x0 x1 x2 x3 x4 hE
    rw [sX15_isAttacked_3] at hE
    have mk_3 : ∀ (h : Hp) (x0 : Nat) (x1 : Nat) (x2 : Int32) (x3 : Int32) (x4 : Int32), sX15_isAttacked_3 F f h x0 x1 x2 x3 x4 = some o → Le h o.2 := fun h x0 x1 x2 x3 x4 hE => ih hE
    rcases br_e hE with ⟨_, hE⟩ | ⟨_, hE⟩
    · exact le_some2 hE
    · obtain ⟨r_2, er_2, hE⟩ := cl_e hE
      obtain ⟨g_3, hE⟩ := gd_e hE
      obtain ⟨v_4, ev_4, hE⟩ := nm_e2 hE
      rcases br_e hE with ⟨_, hE⟩ | ⟨_, hE⟩
      · exact moX15_isAttacked_56 mk_3 hE
      · obtain ⟨o_6, eo_6, hE⟩ := cl_e hE
        refine (moX15_sideOf eo_6).tr ?_
        rcases br_e hE with ⟨_, hE⟩ | ⟨_, hE⟩
        · rcases br_e hE with ⟨_, hE⟩ | ⟨_, hE⟩
          · exact moX15_isAttacked_56 mk_3 hE
          · obtain ⟨o_9, eo_9, hE⟩ := cl_e hE
            refine (moX15_attacks eo_9).tr ?_
            rcases br_e hE with ⟨_, hE⟩ | ⟨_, hE⟩
            · exact moX15_isAttacked_56 mk_3 hE
            · exact le_some2 hE
        · exact moX15_isAttacked_56 mk_3 hE
set_option maxRecDepth 20000 in
theorem moX15_isAttacked {o : Int32 × Hp} {F : Nat} {h : Hp} {x0 : Nat} {x1 : Nat} {x2 : Int32} {x3 : Int32} (hE : sX15_isAttacked F h x0 x1 x2 x3 = some o) : Le h o.2 := by
  exact moX15_isAttacked_3 _ hE
set_option maxRecDepth 20000 in
theorem bX15_isAttacked_56 {p : Program} {l : Launch} {e : Env} {s : State} {m : MethodId} {args : Array Value} {below : List Frame} {meth : Method} {c : Code} {X : Ec} {h0 : Hp} {o : Int32 × Hp} {k_3 : Hp → Nat → Nat → Int32 → Int32 → Int32 → Option (Int32 × Hp)} {F : Nat} (C : Cx X p s m args meth c RX15 cX15_isAttacked 6 (some .boolean) "isAttacked") (hk_3 : ∀ (h : Hp) (x0 : Nat) (x1 : Nat) (x2 : Int32) (x3 : Int32) (x4 : Int32) (H : Heap) (locs : List Loc), hK h x0 = 15 → hK h x1 = 12 → Km h0 h → Wx X h H → va_S (aA (eB X)) s.heap H locs → ∀ (ls : Array Slot), lv_has ls 6 [(0, .ref x0), (1, .ref x1), (2, .int x2), (3, .int x3), (4, .int x4)] → k_3 h x0 x1 x2 x3 x4 = some o → W p l e (rm 3 81) s m args below meth c H locs 0 0 (MQ below (QI X h0 o.1 o.2) args s 0 0 (aA (eB X))) (F0 m 3 ls [])) {h : Hp} {x0 : Nat} {x1 : Nat} {x2 : Int32} {x3 : Int32} {x4 : Int32} {H : Heap} {locs : List Loc} (k_x0 : hK h x0 = 15) (k_x1 : hK h x1 = 12) (hkm : Km h0 h) (hW : Wx X h H) (hZ : va_S (aA (eB X)) s.heap H locs) (ls : Array Slot) (hl : lv_has ls 6 [(0, .ref x0), (1, .ref x1), (2, .int x2), (3, .int x3), (4, .int x4)]) (hE : sX15_isAttacked_56 F k_3 h x0 x1 x2 x3 x4 = some o) : W p l e (rm 3 81) s m args below meth c H locs 0 0 (MQ below (QI X h0 o.1 o.2) args s 0 0 (aA (eB X))) (F0 m 56 ls []) := by
  obtain ⟨v_1, ev_1, hE⟩ := nm_e2 hE
  refine lv_iinc (v := v_1) (lv' := [(4, .int v_1), (0, .ref x0), (1, .ref x1), (2, .int x2), (3, .int x3)]) C.1 C.2.1 dX15_isAttacked_56 hl (k := 4) rfl (by rw [ev_1]; rfl) (by decide) rfl (fun ls hl => ?_)
  refine lv_goto (tgt := 3) C.1 C.2.1 dX15_isAttacked_59 (by decide) ?_
  exact hk_3 _ _ _ _ _ _ _ _ k_x0 k_x1 hkm hW hZ _ (lv_sub hl [1, 2, 3, 4, 0] rfl) hE
set_option maxRecDepth 20000 in
theorem bX15_isAttacked_3 {p : Program} {l : Launch} {e : Env} {s : State} {m : MethodId} {args : Array Value} {below : List Frame} {meth : Method} {c : Code} {X : Ec} {h0 : Hp} {o : Int32 × Hp} {F : Nat} (C : Cx X p s m args meth c RX15 cX15_isAttacked 6 (some .boolean) "isAttacked") : ∀ (f : Nat) {h : Hp} {x0 : Nat} {x1 : Nat} {x2 : Int32} {x3 : Int32} {x4 : Int32} {H : Heap} {locs : List Loc} (k_x0 : hK h x0 = 15) (k_x1 : hK h x1 = 12), Km h0 h → Wx X h H → va_S (aA (eB X)) s.heap H locs → ∀ (ls : Array Slot), lv_has ls 6 [(0, .ref x0), (1, .ref x1), (2, .int x2), (3, .int x3), (4, .int x4)] → sX15_isAttacked_3 F f h x0 x1 x2 x3 x4 = some o → W p l e (rm 3 81) s m args below meth c H locs 0 0 (MQ below (QI X h0 o.1 o.2) args s 0 0 (aA (eB X))) (F0 m 3 ls []) := by
  intro f
  induction f with
  | zero =>
    intro h x0 x1 x2 x3 x4 H locs k_x0 k_x1 hkm hW hZ ls hl hE
    rw [sX15_isAttacked_3] at hE
    cases hE
  | succ f ih =>
    intro h x0 x1 x2 x3 x4 H locs k_x0 k_x1 hkm hW hZ ls hl hE
    rw [sX15_isAttacked_3] at hE
    have hk_3 : ∀ (h : Hp) (x0 : Nat) (x1 : Nat) (x2 : Int32) (x3 : Int32) (x4 : Int32) (H : Heap) (locs : List Loc), hK h x0 = 15 → hK h x1 = 12 → Km h0 h → Wx X h H → va_S (aA (eB X)) s.heap H locs → ∀ (ls : Array Slot), lv_has ls 6 [(0, .ref x0), (1, .ref x1), (2, .int x2), (3, .int x3), (4, .int x4)] → sX15_isAttacked_3 F f h x0 x1 x2 x3 x4 = some o → W p l e (rm 3 81) s m args below meth c H locs 0 0 (MQ below (QI X h0 o.1 o.2) args s 0 0 (aA (eB X))) (F0 m 3 ls []) := fun h x0 x1 x2 x3 x4 H locs k_x0 k_x1 a b c ls hl hE => ih k_x0 k_x1 a b c ls hl hE
    refine lv_iload C.1 C.2.1 dX15_isAttacked_3 (lv_at hl 4 rfl) ?_
    refine lv_aload_n C.1 C.2.1 dX15_isAttacked_5 rfl (lv_at hl 0 rfl) ?_
    refine gf_X15_384 C hW k_x0 dX15_isAttacked_6 ?_
    refine lv_icmp_ge (tgt := 62) C.1 C.2.1 dX15_isAttacked_9 (by decide) (fun c_1 => ?_) (fun c_1 => ?_)
    · have hE := br_p hE c_1
      refine lv_iconst (v := (0 : Int32)) C.1 C.2.1 dX15_isAttacked_62 (by decide) ?_
      exact x_iret C rfl (by decide) hW hZ hkm hE dX15_isAttacked_63
    · have hE := br_n hE c_1
      refine lv_aload_n C.1 C.2.1 dX15_isAttacked_12 rfl (lv_at hl 1 rfl) ?_
      obtain ⟨r_2, er_2, hE⟩ := cl_e hE
      refine gf_X15_396 C hW k_x1 er_2 dX15_isAttacked_13 (fun k_r_2 => ?_)
      refine lv_iload C.1 C.2.1 dX15_isAttacked_16 (lv_at hl 4 rfl) ?_
      obtain ⟨g_3, hE⟩ := gd_e hE
      refine y_iald C hW k_r_2 g_3 dX15_isAttacked_18 ?_
      obtain ⟨v_4, ev_4, hE⟩ := nm_e2 hE
      refine x_nmI ev_4 ?_
      refine lv_istore (lv' := [(5, .int v_4), (0, .ref x0), (1, .ref x1), (2, .int x2), (3, .int x3), (4, .int x4)]) C.1 C.2.1 dX15_isAttacked_19 hl (by decide) rfl (fun ls hl => ?_)
      refine lv_iload C.1 C.2.1 dX15_isAttacked_21 (lv_at hl 0 rfl) ?_
      refine lv_if_le (tgt := 56) C.1 C.2.1 dX15_isAttacked_23 (by decide) (fun c_5 => ?_) (fun c_5 => ?_)
      · have hE := br_p hE c_5
        exact bX15_isAttacked_56 C hk_3 k_x0 k_x1 hkm hW hZ _ (lv_sub hl [1, 2, 3, 4, 5] rfl) hE
      · have hE := br_n hE c_5
        refine lv_iload C.1 C.2.1 dX15_isAttacked_26 (lv_at hl 0 rfl) ?_
        obtain ⟨o_6, eo_6, hE⟩ := cl_e hE
        refine x_kI (o := o_6) (z_runS (As := [.int v_4]) (rest := []) C (ct_X15_sideOf l X eo_6) cw_X15_489 hW hZ rfl hl.1 (Nat.le_of_ble_eq_true rfl) rfl dX15_isAttacked_28 ⟨Nat.le_of_ble_eq_true rfl, Nat.le_of_ble_eq_true rfl⟩ ⟨Nat.le_refl _, Nat.le_refl _⟩) hZ (fun _ _ hW km hZ => ?_)
        replace hkm := hkm.tr km
        replace k_x0 := km.at k_x0 (by decide)
        replace k_x1 := km.at k_x1 (by decide)
        refine lv_iload_n C.1 C.2.1 dX15_isAttacked_31 rfl (lv_at hl 4 rfl) ?_
        refine lv_icmp_ne (tgt := 56) C.1 C.2.1 dX15_isAttacked_32 (by decide) (fun c_7 => ?_) (fun c_7 => ?_)
        · have hE := br_n hE c_7
          exact bX15_isAttacked_56 C hk_3 k_x0 k_x1 hkm hW hZ _ (lv_sub hl [1, 2, 3, 4, 5] rfl) hE
        · have hE := br_p hE c_7
          refine lv_iload C.1 C.2.1 dX15_isAttacked_35 (lv_at hl 5 rfl) ?_
          refine lv_iload_n C.1 C.2.1 dX15_isAttacked_37 rfl (lv_at hl 3 rfl) ?_
          refine lv_icmp_eq (tgt := 56) C.1 C.2.1 dX15_isAttacked_38 (by decide) (fun c_8 => ?_) (fun c_8 => ?_)
          · have hE := br_p hE c_8
            exact bX15_isAttacked_56 C hk_3 k_x0 k_x1 hkm hW hZ _ (lv_sub hl [1, 2, 3, 4, 5] rfl) hE
          · have hE := br_n hE c_8
            refine lv_aload_n C.1 C.2.1 dX15_isAttacked_41 rfl (lv_at hl 1 rfl) ?_
            refine lv_aload_n C.1 C.2.1 dX15_isAttacked_42 rfl (lv_at hl 2 rfl) ?_
            refine lv_iload C.1 C.2.1 dX15_isAttacked_43 (lv_at hl 5 rfl) ?_
            refine lv_iload C.1 C.2.1 dX15_isAttacked_45 (lv_at hl 0 rfl) ?_
            refine lv_iload_n C.1 C.2.1 dX15_isAttacked_47 rfl (lv_at hl 3 rfl) ?_
            obtain ⟨o_9, eo_9, hE⟩ := cl_e hE
            refine x_kI (o := o_9) (z_runV (As := [.ref x1, .int x4, .int v_4, .int x2]) (rest := []) C (ct_X15_attacks l X F k_x0 k_x1 eo_9) cw_X15_556 hW hZ k_x0 (by decide) rfl rfl rfl hl.1 (Nat.le_of_ble_eq_true rfl) rfl dX15_isAttacked_48 ⟨Nat.le_of_ble_eq_true rfl, Nat.le_of_ble_eq_true rfl⟩ ⟨Nat.le_refl _, Nat.le_refl _⟩) hZ (fun _ _ hW km hZ => ?_)
            replace hkm := hkm.tr km
            replace k_x0 := km.at k_x0 (by decide)
            replace k_x1 := km.at k_x1 (by decide)
            refine lv_if_eq (tgt := 56) C.1 C.2.1 dX15_isAttacked_51 (by decide) (fun c_10 => ?_) (fun c_10 => ?_)
            · have hE := br_p hE c_10
              exact bX15_isAttacked_56 C hk_3 k_x0 k_x1 hkm hW hZ _ (lv_sub hl [1, 2, 3, 4, 5] rfl) hE
            · have hE := br_n hE c_10
              refine lv_iconst (v := (1 : Int32)) C.1 C.2.1 dX15_isAttacked_54 (by decide) ?_
              exact x_iret C rfl (by decide) hW hZ hkm hE dX15_isAttacked_55
set_option maxRecDepth 20000 in
theorem ct_X15_isAttacked (l : Launch) (X : Ec) (F : Nat) {h : Hp} {x0 : Nat} {x1 : Nat} {x2 : Int32} {x3 : Int32} {o : Int32 × Hp} (k_x0 : hK h x0 = 15) (k_x1 : hK h x1 = 12) (hE : sX15_isAttacked F h x0 x1 x2 x3 = some o) : MetI l yX15_isAttacked cX15_isAttacked 6 (some .boolean) 3 81 X [.ref x0, .ref x1, .int x2, .int x3] h o := by
  refine x_met (by decide) (Nat.le_of_ble_eq_true rfl) ?_
  intro p e s m below meth c ls C hl hW hZ
  have hl : lv_has ls 6 [(0, .ref x0), (1, .ref x1), (2, .int x2), (3, .int x3)] := hl
  have hkm : Km h h := Km.rf h
  refine lv_iconst (v := (0 : Int32)) C.1 C.2.1 dX15_isAttacked_0 (by decide) ?_
  refine lv_istore (lv' := [(4, .int (0 : Int32)), (0, .ref x0), (1, .ref x1), (2, .int x2), (3, .int x3)]) C.1 C.2.1 dX15_isAttacked_1 hl (by decide) rfl (fun ls hl => ?_)
  exact bX15_isAttacked_3 C F k_x0 k_x1 hkm hW hZ _ (lv_sub hl [1, 2, 3, 4, 0] rfl) hE
set_option maxRecDepth 100000 in
theorem ms_155 : Cond.selects RX15 yX15_isAttacked yX15_isAttacked ∈ W0 := w0_in (List.mem_append_left _ (List.mem_of_getElem? (i := 155) rfl)) rfl
set_option maxRecDepth 100000 in
theorem ms_151 : Cond.selects RX15 yX15_isPass yX15_isPass ∈ W0 := w0_in (List.mem_append_left _ (List.mem_of_getElem? (i := 151) rfl)) rfl
set_option maxRecDepth 100000 in
theorem ms_149 : Cond.selects RX15 yX15_isRight yX15_isRight ∈ W0 := w0_in (List.mem_append_left _ (List.mem_of_getElem? (i := 149) rfl)) rfl
set_option maxRecDepth 100000 in
theorem ms_147 : Cond.selects RX15 yX15_becomesOthers yX15_becomesOthers ∈ W0 := w0_in (List.mem_append_left _ (List.mem_of_getElem? (i := 147) rfl)) rfl
set_option maxRecDepth 100000 in
theorem m_2402 : Cond.methodLink RX15 495 yX15_becomesOthers ∈ W0 := w0_in (List.mem_append_right _ (List.mem_of_getElem? (i := 2402) rfl)) rfl
set_option maxRecDepth 100000 in
theorem m_2404 : Cond.instanceMethod yX15_becomesOthers ∈ W0 := w0_in (List.mem_append_right _ (List.mem_of_getElem? (i := 2404) rfl)) rfl
set_option maxRecDepth 100000 in
theorem m_2405 : Cond.code yX15_becomesOthers cX15_becomesOthers 2 (some .boolean) ∈ W0 := w0_in (List.mem_append_right _ (List.mem_of_getElem? (i := 2405) rfl)) rfl
set_option maxRecDepth 100000 in
theorem m_2410 : Cond.methodLink RX15 501 yX15_isRight ∈ W0 := w0_in (List.mem_append_right _ (List.mem_of_getElem? (i := 2410) rfl)) rfl
set_option maxRecDepth 100000 in
theorem m_2412 : Cond.instanceMethod yX15_isRight ∈ W0 := w0_in (List.mem_append_right _ (List.mem_of_getElem? (i := 2412) rfl)) rfl
set_option maxRecDepth 100000 in
theorem m_2413 : Cond.code yX15_isRight cX15_isRight 5 (some .boolean) ∈ W0 := w0_in (List.mem_append_right _ (List.mem_of_getElem? (i := 2413) rfl)) rfl
set_option maxRecDepth 100000 in
theorem m_2418 : Cond.methodLink RX15 505 yX15_isPass ∈ W0 := w0_in (List.mem_append_right _ (List.mem_of_getElem? (i := 2418) rfl)) rfl
set_option maxRecDepth 100000 in
theorem m_2420 : Cond.instanceMethod yX15_isPass ∈ W0 := w0_in (List.mem_append_right _ (List.mem_of_getElem? (i := 2420) rfl)) rfl
set_option maxRecDepth 100000 in
theorem m_2421 : Cond.code yX15_isPass cX15_isPass 8 (some .boolean) ∈ W0 := w0_in (List.mem_append_right _ (List.mem_of_getElem? (i := 2421) rfl)) rfl
set_option maxRecDepth 100000 in
theorem m_2435 : Cond.methodLink RX15 512 yX15_isAttacked ∈ W0 := w0_in (List.mem_append_right _ (List.mem_of_getElem? (i := 2435) rfl)) rfl
set_option maxRecDepth 100000 in
theorem m_2437 : Cond.instanceMethod yX15_isAttacked ∈ W0 := w0_in (List.mem_append_right _ (List.mem_of_getElem? (i := 2437) rfl)) rfl
set_option maxRecDepth 100000 in
theorem m_2438 : Cond.code yX15_isAttacked cX15_isAttacked 6 (some .boolean) ∈ W0 := w0_in (List.mem_append_right _ (List.mem_of_getElem? (i := 2438) rfl)) rfl
section
variable {p : Program} {l : Launch} {e : Env} {R : Room} {s : State} {m : MethodId} {args : Array Value} {below : List Frame} {meth : Method} {c : Code} {H : Heap} {locs : List Loc} {cells slots : Nat} {Q : State → Prop}
variable {cc : ByteArray} {pc : Nat} {ls : Array Slot} {rest : List Value} {X : Ec} {h h1 : Hp} {nL : Nat} {rt : Option FieldType} {mn : String}
theorem gf_X15_126 {a : Nat} (C : Cx X p s m args meth c RX15 cc nL rt mn) (hW : Wx X h H) (ha : hK h a = 14) (hdg : decode cc pc = .ok (.getfield 126, 3)) (kk : W p l e R s m args below meth c H locs cells slots Q (F0 m (pc + 3) ls (.int (hI h a 15) :: rest))) : W p l e R s m args below meth c H locs cells slots Q (F0 m pc ls (.ref a :: rest)) :=
  y_getiN C hW ha i_X14 (by decide) rfl (by decide) n_1835 rfl hdg kk
theorem gf_X15_233 {a : Nat} (C : Cx X p s m args meth c RX15 cc nL rt mn) (hW : Wx X h H) (ha : hK h a = 14) (hdg : decode cc pc = .ok (.getfield 233, 3)) (kk : W p l e R s m args below meth c H locs cells slots Q (F0 m (pc + 3) ls (.int (hI h a 20) :: rest))) : W p l e R s m args below meth c H locs cells slots Q (F0 m pc ls (.ref a :: rest)) :=
  y_getiN C hW ha i_X14 (by decide) rfl (by decide) n_1845 rfl hdg kk
theorem gf_X15_269 {a r : Nat} (C : Cx X p s m args meth c RX15 cc nL rt mn) (hW : Wx X h H) (ha : hK h a = 15) (hr : hR h a 22 = some r) (hdg : decode cc pc = .ok (.getfield 269, 3)) (kk : hK h r = 17 → W p l e R s m args below meth c H locs cells slots Q (F0 m (pc + 3) ls (.ref r :: rest))) : W p l e R s m args below meth c H locs cells slots Q (F0 m pc ls (.ref a :: rest)) :=
  y_getr C hW ha i_X15 (by decide) rfl (by decide) m_2133 rfl rfl hr hdg kk
theorem gf_X15_142 {a : Nat} (C : Cx X p s m args meth c RX15 cc nL rt mn) (hW : Wx X h H) (ha : hK h a = 14) (hdg : decode cc pc = .ok (.getfield 142, 3)) (kk : W p l e R s m args below meth c H locs cells slots Q (F0 m (pc + 3) ls (.int (hI h a 18) :: rest))) : W p l e R s m args below meth c H locs cells slots Q (F0 m pc ls (.ref a :: rest)) :=
  y_getiN C hW ha i_X14 (by decide) rfl (by decide) n_1841 rfl hdg kk
end
theorem cw_X15_512 : cwd RX15 512 yX15_isAttacked cX15_isAttacked 6 (some .boolean) false 3 := ⟨m_2438, m_2435, m_19, ⟨m_2437, ms_155⟩, by decide, by decide, by decide +kernel⟩
theorem cw_X15_505 : cwd RX15 505 yX15_isPass cX15_isPass 8 (some .boolean) false 1 := ⟨m_2421, m_2418, m_19, ⟨m_2420, ms_151⟩, by decide, by decide, by decide +kernel⟩
theorem cw_X15_501 : cwd RX15 501 yX15_isRight cX15_isRight 5 (some .boolean) false 2 := ⟨m_2413, m_2410, m_19, ⟨m_2412, ms_149⟩, by decide, by decide, by decide +kernel⟩
theorem cw_X15_495 : cwd RX15 495 yX15_becomesOthers cX15_becomesOthers 2 (some .boolean) false 1 := ⟨m_2405, m_2402, m_19, ⟨m_2404, ms_147⟩, by decide, by decide, by decide +kernel⟩
theorem dX15_wrongOf_0 : decode cX15_wrongOf 0 = .ok (.aload_n 0, 1) := by decide +kernel
theorem dX15_wrongOf_1 : decode cX15_wrongOf 1 = .ok (.getfield 269, 3) := by decide +kernel
theorem dX15_wrongOf_4 : decode cX15_wrongOf 4 = .ok (.iconst 0, 1) := by decide +kernel
theorem dX15_wrongOf_5 : decode cX15_wrongOf 5 = .ok (.iconst 0, 1) := by decide +kernel
theorem dX15_wrongOf_6 : decode cX15_wrongOf 6 = .ok (.iastore, 1) := by decide +kernel
theorem dX15_wrongOf_7 : decode cX15_wrongOf 7 = .ok (.aload_n 0, 1) := by decide +kernel
theorem dX15_wrongOf_8 : decode cX15_wrongOf 8 = .ok (.getfield 269, 3) := by decide +kernel
theorem dX15_wrongOf_11 : decode cX15_wrongOf 11 = .ok (.iconst 1, 1) := by decide +kernel
theorem dX15_wrongOf_12 : decode cX15_wrongOf 12 = .ok (.iconst 0, 1) := by decide +kernel
theorem dX15_wrongOf_13 : decode cX15_wrongOf 13 = .ok (.iastore, 1) := by decide +kernel
theorem dX15_wrongOf_14 : decode cX15_wrongOf 14 = .ok (.iconst 0, 1) := by decide +kernel
theorem dX15_wrongOf_15 : decode cX15_wrongOf 15 = .ok (.istore_n 2, 1) := by decide +kernel
theorem dX15_wrongOf_16 : decode cX15_wrongOf 16 = .ok (.iconst 0, 1) := by decide +kernel
theorem dX15_wrongOf_17 : decode cX15_wrongOf 17 = .ok (.istore_n 3, 1) := by decide +kernel
theorem dX15_wrongOf_18 : decode cX15_wrongOf 18 = .ok (.iload_n 3, 1) := by decide +kernel
theorem dX15_wrongOf_19 : decode cX15_wrongOf 19 = .ok (.aload_n 0, 1) := by decide +kernel
theorem dX15_wrongOf_20 : decode cX15_wrongOf 20 = .ok (.getfield 384, 3) := by decide +kernel
theorem dX15_wrongOf_23 : decode cX15_wrongOf 23 = .ok (.if_icmp .ge 92, 3) := by decide +kernel
theorem dX15_wrongOf_26 : decode cX15_wrongOf 26 = .ok (.aload_n 1, 1) := by decide +kernel
theorem dX15_wrongOf_27 : decode cX15_wrongOf 27 = .ok (.getfield 396, 3) := by decide +kernel
theorem dX15_wrongOf_30 : decode cX15_wrongOf 30 = .ok (.iload_n 3, 1) := by decide +kernel
theorem dX15_wrongOf_31 : decode cX15_wrongOf 31 = .ok (.iaload, 1) := by decide +kernel
theorem dX15_wrongOf_32 : decode cX15_wrongOf 32 = .ok (.istore 4, 2) := by decide +kernel
theorem dX15_wrongOf_34 : decode cX15_wrongOf 34 = .ok (.iload 4, 2) := by decide +kernel
theorem dX15_wrongOf_36 : decode cX15_wrongOf 36 = .ok (.ifCond .le 73, 3) := by decide +kernel
theorem dX15_wrongOf_39 : decode cX15_wrongOf 39 = .ok (.aload_n 0, 1) := by decide +kernel
theorem dX15_wrongOf_40 : decode cX15_wrongOf 40 = .ok (.getfield 269, 3) := by decide +kernel
theorem dX15_wrongOf_43 : decode cX15_wrongOf 43 = .ok (.iload 4, 2) := by decide +kernel
theorem dX15_wrongOf_45 : decode cX15_wrongOf 45 = .ok (.invokestatic 489, 3) := by decide +kernel
theorem dX15_wrongOf_48 : decode cX15_wrongOf 48 = .ok (.dup2, 1) := by decide +kernel
theorem dX15_wrongOf_49 : decode cX15_wrongOf 49 = .ok (.iaload, 1) := by decide +kernel
theorem dX15_wrongOf_50 : decode cX15_wrongOf 50 = .ok (.iload 4, 2) := by decide +kernel
theorem dX15_wrongOf_52 : decode cX15_wrongOf 52 = .ok (.invokestatic 492, 3) := by decide +kernel
theorem dX15_wrongOf_55 : decode cX15_wrongOf 55 = .ok (.aload_n 0, 1) := by decide +kernel
theorem dX15_wrongOf_56 : decode cX15_wrongOf 56 = .ok (.getfield 252, 3) := by decide +kernel
theorem dX15_wrongOf_59 : decode cX15_wrongOf 59 = .ok (.getfield 221, 3) := by decide +kernel
theorem dX15_wrongOf_62 : decode cX15_wrongOf 62 = .ok (.if_icmp .ne 7, 3) := by decide +kernel
theorem dX15_wrongOf_65 : decode cX15_wrongOf 65 = .ok (.iconst 1, 1) := by decide +kernel
theorem dX15_wrongOf_66 : decode cX15_wrongOf 66 = .ok (.goto 4, 3) := by decide +kernel
theorem dX15_wrongOf_69 : decode cX15_wrongOf 69 = .ok (.iconst 0, 1) := by decide +kernel
theorem dX15_wrongOf_70 : decode cX15_wrongOf 70 = .ok (.iadd, 1) := by decide +kernel
theorem dX15_wrongOf_71 : decode cX15_wrongOf 71 = .ok (.iastore, 1) := by decide +kernel
theorem dX15_wrongOf_72 : decode cX15_wrongOf 72 = .ok (.iload_n 2, 1) := by decide +kernel
theorem dX15_wrongOf_73 : decode cX15_wrongOf 73 = .ok (.aload_n 0, 1) := by decide +kernel
theorem dX15_wrongOf_74 : decode cX15_wrongOf 74 = .ok (.iload 4, 2) := by decide +kernel
theorem dX15_wrongOf_76 : decode cX15_wrongOf 76 = .ok (.invokestatic 492, 3) := by decide +kernel
theorem dX15_wrongOf_79 : decode cX15_wrongOf 79 = .ok (.invokevirtual 495, 3) := by decide +kernel
theorem dX15_wrongOf_82 : decode cX15_wrongOf 82 = .ok (.ifCond .eq 24, 3) := by decide +kernel
theorem dX15_wrongOf_85 : decode cX15_wrongOf 85 = .ok (.aload_n 0, 1) := by decide +kernel
theorem dX15_wrongOf_86 : decode cX15_wrongOf 86 = .ok (.iload_n 3, 1) := by decide +kernel
theorem dX15_wrongOf_87 : decode cX15_wrongOf 87 = .ok (.iload 4, 2) := by decide +kernel
theorem dX15_wrongOf_89 : decode cX15_wrongOf 89 = .ok (.invokestatic 489, 3) := by decide +kernel
theorem dX15_wrongOf_92 : decode cX15_wrongOf 92 = .ok (.invokevirtual 498, 3) := by decide +kernel
theorem dX15_wrongOf_95 : decode cX15_wrongOf 95 = .ok (.aload_n 0, 1) := by decide +kernel
theorem dX15_wrongOf_96 : decode cX15_wrongOf 96 = .ok (.getfield 383, 3) := by decide +kernel
theorem dX15_wrongOf_99 : decode cX15_wrongOf 99 = .ok (.if_icmp .ne 7, 3) := by decide +kernel
theorem dX15_wrongOf_102 : decode cX15_wrongOf 102 = .ok (.iconst 1, 1) := by decide +kernel
theorem dX15_wrongOf_103 : decode cX15_wrongOf 103 = .ok (.goto 4, 3) := by decide +kernel
theorem dX15_wrongOf_106 : decode cX15_wrongOf 106 = .ok (.iconst 0, 1) := by decide +kernel
theorem dX15_wrongOf_107 : decode cX15_wrongOf 107 = .ok (.ior, 1) := by decide +kernel
theorem dX15_wrongOf_108 : decode cX15_wrongOf 108 = .ok (.istore_n 2, 1) := by decide +kernel
theorem dX15_wrongOf_109 : decode cX15_wrongOf 109 = .ok (.iinc 3 1, 3) := by decide +kernel
theorem dX15_wrongOf_112 : decode cX15_wrongOf 112 = .ok (.goto (-94), 3) := by decide +kernel
theorem dX15_wrongOf_115 : decode cX15_wrongOf 115 = .ok (.aload_n 0, 1) := by decide +kernel
theorem dX15_wrongOf_116 : decode cX15_wrongOf 116 = .ok (.getfield 252, 3) := by decide +kernel
theorem dX15_wrongOf_119 : decode cX15_wrongOf 119 = .ok (.getfield 221, 3) := by decide +kernel
theorem dX15_wrongOf_122 : decode cX15_wrongOf 122 = .ok (.iconst (-1), 1) := by decide +kernel
theorem dX15_wrongOf_123 : decode cX15_wrongOf 123 = .ok (.if_icmp .eq 41, 3) := by decide +kernel
theorem dX15_wrongOf_126 : decode cX15_wrongOf 126 = .ok (.aload_n 1, 1) := by decide +kernel
theorem dX15_wrongOf_127 : decode cX15_wrongOf 127 = .ok (.getfield 444, 3) := by decide +kernel
theorem dX15_wrongOf_130 : decode cX15_wrongOf 130 = .ok (.iconst 2, 1) := by decide +kernel
theorem dX15_wrongOf_131 : decode cX15_wrongOf 131 = .ok (.aload_n 0, 1) := by decide +kernel
theorem dX15_wrongOf_132 : decode cX15_wrongOf 132 = .ok (.getfield 252, 3) := by decide +kernel
theorem dX15_wrongOf_135 : decode cX15_wrongOf 135 = .ok (.getfield 221, 3) := by decide +kernel
theorem dX15_wrongOf_138 : decode cX15_wrongOf 138 = .ok (.imul, 1) := by decide +kernel
theorem dX15_wrongOf_139 : decode cX15_wrongOf 139 = .ok (.iaload, 1) := by decide +kernel
theorem dX15_wrongOf_140 : decode cX15_wrongOf 140 = .ok (.aload_n 1, 1) := by decide +kernel
theorem dX15_wrongOf_141 : decode cX15_wrongOf 141 = .ok (.getfield 444, 3) := by decide +kernel
theorem dX15_wrongOf_144 : decode cX15_wrongOf 144 = .ok (.iconst 2, 1) := by decide +kernel
theorem dX15_wrongOf_145 : decode cX15_wrongOf 145 = .ok (.aload_n 0, 1) := by decide +kernel
theorem dX15_wrongOf_146 : decode cX15_wrongOf 146 = .ok (.getfield 252, 3) := by decide +kernel
theorem dX15_wrongOf_149 : decode cX15_wrongOf 149 = .ok (.getfield 221, 3) := by decide +kernel
theorem dX15_wrongOf_152 : decode cX15_wrongOf 152 = .ok (.imul, 1) := by decide +kernel
theorem dX15_wrongOf_153 : decode cX15_wrongOf 153 = .ok (.iconst 1, 1) := by decide +kernel
theorem dX15_wrongOf_154 : decode cX15_wrongOf 154 = .ok (.iadd, 1) := by decide +kernel
theorem dX15_wrongOf_155 : decode cX15_wrongOf 155 = .ok (.iaload, 1) := by decide +kernel
theorem dX15_wrongOf_156 : decode cX15_wrongOf 156 = .ok (.iadd, 1) := by decide +kernel
theorem dX15_wrongOf_157 : decode cX15_wrongOf 157 = .ok (.ifCond .le 7, 3) := by decide +kernel
theorem dX15_wrongOf_160 : decode cX15_wrongOf 160 = .ok (.iconst 1, 1) := by decide +kernel
theorem dX15_wrongOf_161 : decode cX15_wrongOf 161 = .ok (.goto 4, 3) := by decide +kernel
theorem dX15_wrongOf_164 : decode cX15_wrongOf 164 = .ok (.iconst 0, 1) := by decide +kernel
theorem dX15_wrongOf_165 : decode cX15_wrongOf 165 = .ok (.istore_n 3, 1) := by decide +kernel
theorem dX15_wrongOf_166 : decode cX15_wrongOf 166 = .ok (.aload_n 0, 1) := by decide +kernel
theorem dX15_wrongOf_167 : decode cX15_wrongOf 167 = .ok (.getfield 269, 3) := by decide +kernel
theorem dX15_wrongOf_170 : decode cX15_wrongOf 170 = .ok (.iconst 0, 1) := by decide +kernel
theorem dX15_wrongOf_171 : decode cX15_wrongOf 171 = .ok (.iaload, 1) := by decide +kernel
theorem dX15_wrongOf_172 : decode cX15_wrongOf 172 = .ok (.iconst 1, 1) := by decide +kernel
theorem dX15_wrongOf_173 : decode cX15_wrongOf 173 = .ok (.if_icmp .gt 58, 3) := by decide +kernel
theorem dX15_wrongOf_176 : decode cX15_wrongOf 176 = .ok (.aload_n 0, 1) := by decide +kernel
theorem dX15_wrongOf_177 : decode cX15_wrongOf 177 = .ok (.getfield 269, 3) := by decide +kernel
theorem dX15_wrongOf_180 : decode cX15_wrongOf 180 = .ok (.iconst 1, 1) := by decide +kernel
theorem dX15_wrongOf_181 : decode cX15_wrongOf 181 = .ok (.iaload, 1) := by decide +kernel
theorem dX15_wrongOf_182 : decode cX15_wrongOf 182 = .ok (.iconst 1, 1) := by decide +kernel
theorem dX15_wrongOf_183 : decode cX15_wrongOf 183 = .ok (.if_icmp .gt 48, 3) := by decide +kernel
theorem dX15_wrongOf_186 : decode cX15_wrongOf 186 = .ok (.iload_n 3, 1) := by decide +kernel
theorem dX15_wrongOf_187 : decode cX15_wrongOf 187 = .ok (.ifCond .ne 44, 3) := by decide +kernel
theorem dX15_wrongOf_190 : decode cX15_wrongOf 190 = .ok (.aload_n 0, 1) := by decide +kernel
theorem dX15_wrongOf_191 : decode cX15_wrongOf 191 = .ok (.getfield 252, 3) := by decide +kernel
theorem dX15_wrongOf_194 : decode cX15_wrongOf 194 = .ok (.getfield 142, 3) := by decide +kernel
theorem dX15_wrongOf_197 : decode cX15_wrongOf 197 = .ok (.ifCond .eq 36, 3) := by decide +kernel
theorem dX15_wrongOf_200 : decode cX15_wrongOf 200 = .ok (.aload_n 0, 1) := by decide +kernel
theorem dX15_wrongOf_201 : decode cX15_wrongOf 201 = .ok (.getfield 252, 3) := by decide +kernel
theorem dX15_wrongOf_204 : decode cX15_wrongOf 204 = .ok (.getfield 221, 3) := by decide +kernel
theorem dX15_wrongOf_207 : decode cX15_wrongOf 207 = .ok (.iconst (-1), 1) := by decide +kernel
theorem dX15_wrongOf_208 : decode cX15_wrongOf 208 = .ok (.if_icmp .eq 25, 3) := by decide +kernel
theorem dX15_wrongOf_211 : decode cX15_wrongOf 211 = .ok (.aload_n 0, 1) := by decide +kernel
theorem dX15_wrongOf_212 : decode cX15_wrongOf 212 = .ok (.getfield 269, 3) := by decide +kernel
theorem dX15_wrongOf_215 : decode cX15_wrongOf 215 = .ok (.iconst 0, 1) := by decide +kernel
theorem dX15_wrongOf_216 : decode cX15_wrongOf 216 = .ok (.iaload, 1) := by decide +kernel
theorem dX15_wrongOf_217 : decode cX15_wrongOf 217 = .ok (.iconst 1, 1) := by decide +kernel
theorem dX15_wrongOf_218 : decode cX15_wrongOf 218 = .ok (.if_icmp .ne 13, 3) := by decide +kernel
theorem dX15_wrongOf_221 : decode cX15_wrongOf 221 = .ok (.aload_n 0, 1) := by decide +kernel
theorem dX15_wrongOf_222 : decode cX15_wrongOf 222 = .ok (.getfield 269, 3) := by decide +kernel
theorem dX15_wrongOf_225 : decode cX15_wrongOf 225 = .ok (.iconst 1, 1) := by decide +kernel
theorem dX15_wrongOf_226 : decode cX15_wrongOf 226 = .ok (.iaload, 1) := by decide +kernel
theorem dX15_wrongOf_227 : decode cX15_wrongOf 227 = .ok (.iconst 1, 1) := by decide +kernel
theorem dX15_wrongOf_228 : decode cX15_wrongOf 228 = .ok (.if_icmp .eq 5, 3) := by decide +kernel
theorem dX15_wrongOf_231 : decode cX15_wrongOf 231 = .ok (.iconst 2, 1) := by decide +kernel
theorem dX15_wrongOf_232 : decode cX15_wrongOf 232 = .ok (.ireturn, 1) := by decide +kernel
theorem dX15_wrongOf_233 : decode cX15_wrongOf 233 = .ok (.iload_n 2, 1) := by decide +kernel
theorem dX15_wrongOf_234 : decode cX15_wrongOf 234 = .ok (.ifCond .eq 5, 3) := by decide +kernel
theorem dX15_wrongOf_237 : decode cX15_wrongOf 237 = .ok (.iconst 3, 1) := by decide +kernel
theorem dX15_wrongOf_238 : decode cX15_wrongOf 238 = .ok (.ireturn, 1) := by decide +kernel
theorem dX15_wrongOf_239 : decode cX15_wrongOf 239 = .ok (.iconst 0, 1) := by decide +kernel
theorem dX15_wrongOf_240 : decode cX15_wrongOf 240 = .ok (.istore 4, 2) := by decide +kernel
theorem dX15_wrongOf_242 : decode cX15_wrongOf 242 = .ok (.iload 4, 2) := by decide +kernel
theorem dX15_wrongOf_244 : decode cX15_wrongOf 244 = .ok (.aload_n 0, 1) := by decide +kernel
theorem dX15_wrongOf_245 : decode cX15_wrongOf 245 = .ok (.getfield 384, 3) := by decide +kernel
theorem dX15_wrongOf_248 : decode cX15_wrongOf 248 = .ok (.if_icmp .ge 35, 3) := by decide +kernel
theorem dX15_wrongOf_251 : decode cX15_wrongOf 251 = .ok (.aload_n 1, 1) := by decide +kernel
theorem dX15_wrongOf_252 : decode cX15_wrongOf 252 = .ok (.getfield 436, 3) := by decide +kernel
theorem dX15_wrongOf_255 : decode cX15_wrongOf 255 = .ok (.iload 4, 2) := by decide +kernel
theorem dX15_wrongOf_257 : decode cX15_wrongOf 257 = .ok (.lshr, 1) := by decide +kernel
theorem dX15_wrongOf_258 : decode cX15_wrongOf 258 = .ok (.lconst 1, 1) := by decide +kernel
theorem dX15_wrongOf_259 : decode cX15_wrongOf 259 = .ok (.land, 1) := by decide +kernel
theorem dX15_wrongOf_260 : decode cX15_wrongOf 260 = .ok (.lconst 1, 1) := by decide +kernel
theorem dX15_wrongOf_261 : decode cX15_wrongOf 261 = .ok (.lcmp, 1) := by decide +kernel
theorem dX15_wrongOf_262 : decode cX15_wrongOf 262 = .ok (.ifCond .ne 15, 3) := by decide +kernel
theorem dX15_wrongOf_265 : decode cX15_wrongOf 265 = .ok (.aload_n 0, 1) := by decide +kernel
theorem dX15_wrongOf_266 : decode cX15_wrongOf 266 = .ok (.aload_n 1, 1) := by decide +kernel
theorem dX15_wrongOf_267 : decode cX15_wrongOf 267 = .ok (.iload 4, 2) := by decide +kernel
theorem dX15_wrongOf_269 : decode cX15_wrongOf 269 = .ok (.invokevirtual 501, 3) := by decide +kernel
theorem dX15_wrongOf_272 : decode cX15_wrongOf 272 = .ok (.ifCond .ne 5, 3) := by decide +kernel
theorem dX15_wrongOf_275 : decode cX15_wrongOf 275 = .ok (.iconst 4, 1) := by decide +kernel
theorem dX15_wrongOf_276 : decode cX15_wrongOf 276 = .ok (.ireturn, 1) := by decide +kernel
theorem dX15_wrongOf_277 : decode cX15_wrongOf 277 = .ok (.iinc 4 1, 3) := by decide +kernel
theorem dX15_wrongOf_280 : decode cX15_wrongOf 280 = .ok (.goto (-38), 3) := by decide +kernel
theorem dX15_wrongOf_283 : decode cX15_wrongOf 283 = .ok (.aload_n 1, 1) := by decide +kernel
theorem dX15_wrongOf_284 : decode cX15_wrongOf 284 = .ok (.getfield 441, 3) := by decide +kernel
theorem dX15_wrongOf_287 : decode cX15_wrongOf 287 = .ok (.ifCond .le 13, 3) := by decide +kernel
theorem dX15_wrongOf_290 : decode cX15_wrongOf 290 = .ok (.aload_n 0, 1) := by decide +kernel
theorem dX15_wrongOf_291 : decode cX15_wrongOf 291 = .ok (.aload_n 1, 1) := by decide +kernel
theorem dX15_wrongOf_292 : decode cX15_wrongOf 292 = .ok (.invokevirtual 505, 3) := by decide +kernel
theorem dX15_wrongOf_295 : decode cX15_wrongOf 295 = .ok (.ifCond .ne 5, 3) := by decide +kernel
theorem dX15_wrongOf_298 : decode cX15_wrongOf 298 = .ok (.iconst 5, 1) := by decide +kernel
theorem dX15_wrongOf_299 : decode cX15_wrongOf 299 = .ok (.ireturn, 1) := by decide +kernel
theorem dX15_wrongOf_300 : decode cX15_wrongOf 300 = .ok (.aload_n 0, 1) := by decide +kernel
theorem dX15_wrongOf_301 : decode cX15_wrongOf 301 = .ok (.aload_n 1, 1) := by decide +kernel
theorem dX15_wrongOf_302 : decode cX15_wrongOf 302 = .ok (.iconst 1, 1) := by decide +kernel
theorem dX15_wrongOf_303 : decode cX15_wrongOf 303 = .ok (.aload_n 1, 1) := by decide +kernel
theorem dX15_wrongOf_304 : decode cX15_wrongOf 304 = .ok (.getfield 452, 3) := by decide +kernel
theorem dX15_wrongOf_307 : decode cX15_wrongOf 307 = .ok (.isub, 1) := by decide +kernel
theorem dX15_wrongOf_308 : decode cX15_wrongOf 308 = .ok (.invokevirtual 508, 3) := by decide +kernel
theorem dX15_wrongOf_311 : decode cX15_wrongOf 311 = .ok (.istore 4, 2) := by decide +kernel
theorem dX15_wrongOf_313 : decode cX15_wrongOf 313 = .ok (.iload 4, 2) := by decide +kernel
theorem dX15_wrongOf_315 : decode cX15_wrongOf 315 = .ok (.iconst (-1), 1) := by decide +kernel
theorem dX15_wrongOf_316 : decode cX15_wrongOf 316 = .ok (.if_icmp .eq 20, 3) := by decide +kernel
theorem dX15_wrongOf_319 : decode cX15_wrongOf 319 = .ok (.aload_n 0, 1) := by decide +kernel
theorem dX15_wrongOf_320 : decode cX15_wrongOf 320 = .ok (.aload_n 1, 1) := by decide +kernel
theorem dX15_wrongOf_321 : decode cX15_wrongOf 321 = .ok (.iload 4, 2) := by decide +kernel
theorem dX15_wrongOf_323 : decode cX15_wrongOf 323 = .ok (.aload_n 1, 1) := by decide +kernel
theorem dX15_wrongOf_324 : decode cX15_wrongOf 324 = .ok (.getfield 452, 3) := by decide +kernel
theorem dX15_wrongOf_327 : decode cX15_wrongOf 327 = .ok (.invokevirtual 512, 3) := by decide +kernel
theorem dX15_wrongOf_330 : decode cX15_wrongOf 330 = .ok (.ifCond .eq 6, 3) := by decide +kernel
theorem dX15_wrongOf_333 : decode cX15_wrongOf 333 = .ok (.bipush 6, 2) := by decide +kernel
theorem dX15_wrongOf_335 : decode cX15_wrongOf 335 = .ok (.ireturn, 1) := by decide +kernel
theorem dX15_wrongOf_336 : decode cX15_wrongOf 336 = .ok (.aload_n 0, 1) := by decide +kernel
theorem dX15_wrongOf_337 : decode cX15_wrongOf 337 = .ok (.getfield 252, 3) := by decide +kernel
theorem dX15_wrongOf_340 : decode cX15_wrongOf 340 = .ok (.getfield 233, 3) := by decide +kernel
theorem dX15_wrongOf_343 : decode cX15_wrongOf 343 = .ok (.ifCond .ne 22, 3) := by decide +kernel
theorem dX15_wrongOf_346 : decode cX15_wrongOf 346 = .ok (.aload_n 1, 1) := by decide +kernel
theorem dX15_wrongOf_347 : decode cX15_wrongOf 347 = .ok (.getfield 447, 3) := by decide +kernel
theorem dX15_wrongOf_350 : decode cX15_wrongOf 350 = .ok (.iconst 0, 1) := by decide +kernel
theorem dX15_wrongOf_351 : decode cX15_wrongOf 351 = .ok (.iaload, 1) := by decide +kernel
theorem dX15_wrongOf_352 : decode cX15_wrongOf 352 = .ok (.aload_n 1, 1) := by decide +kernel
theorem dX15_wrongOf_353 : decode cX15_wrongOf 353 = .ok (.getfield 447, 3) := by decide +kernel
theorem dX15_wrongOf_356 : decode cX15_wrongOf 356 = .ok (.iconst 1, 1) := by decide +kernel
theorem dX15_wrongOf_357 : decode cX15_wrongOf 357 = .ok (.iaload, 1) := by decide +kernel
theorem dX15_wrongOf_358 : decode cX15_wrongOf 358 = .ok (.iadd, 1) := by decide +kernel
theorem dX15_wrongOf_359 : decode cX15_wrongOf 359 = .ok (.ifCond .le 6, 3) := by decide +kernel
theorem dX15_wrongOf_362 : decode cX15_wrongOf 362 = .ok (.bipush 7, 2) := by decide +kernel
theorem dX15_wrongOf_364 : decode cX15_wrongOf 364 = .ok (.ireturn, 1) := by decide +kernel
theorem dX15_wrongOf_365 : decode cX15_wrongOf 365 = .ok (.iconst 0, 1) := by decide +kernel
theorem dX15_wrongOf_366 : decode cX15_wrongOf 366 = .ok (.istore 5, 2) := by decide +kernel
theorem dX15_wrongOf_368 : decode cX15_wrongOf 368 = .ok (.iload 5, 2) := by decide +kernel
theorem dX15_wrongOf_370 : decode cX15_wrongOf 370 = .ok (.bipush 24, 2) := by decide +kernel
theorem dX15_wrongOf_372 : decode cX15_wrongOf 372 = .ok (.if_icmp .ge 32, 3) := by decide +kernel
theorem dX15_wrongOf_375 : decode cX15_wrongOf 375 = .ok (.aload_n 0, 1) := by decide +kernel
theorem dX15_wrongOf_376 : decode cX15_wrongOf 376 = .ok (.getfield 252, 3) := by decide +kernel
theorem dX15_wrongOf_379 : decode cX15_wrongOf 379 = .ok (.getfield 126, 3) := by decide +kernel
theorem dX15_wrongOf_382 : decode cX15_wrongOf 382 = .ok (.ifCond .ne 22, 3) := by decide +kernel
theorem dX15_wrongOf_385 : decode cX15_wrongOf 385 = .ok (.aload_n 1, 1) := by decide +kernel
theorem dX15_wrongOf_386 : decode cX15_wrongOf 386 = .ok (.getfield 444, 3) := by decide +kernel
theorem dX15_wrongOf_389 : decode cX15_wrongOf 389 = .ok (.iload 5, 2) := by decide +kernel
theorem dX15_wrongOf_391 : decode cX15_wrongOf 391 = .ok (.iaload, 1) := by decide +kernel
theorem dX15_wrongOf_392 : decode cX15_wrongOf 392 = .ok (.ifCond .le 6, 3) := by decide +kernel
theorem dX15_wrongOf_395 : decode cX15_wrongOf 395 = .ok (.bipush 8, 2) := by decide +kernel
theorem dX15_wrongOf_397 : decode cX15_wrongOf 397 = .ok (.ireturn, 1) := by decide +kernel
theorem dX15_wrongOf_398 : decode cX15_wrongOf 398 = .ok (.iinc 5 1, 3) := by decide +kernel
theorem dX15_wrongOf_401 : decode cX15_wrongOf 401 = .ok (.goto (-33), 3) := by decide +kernel
theorem dX15_wrongOf_404 : decode cX15_wrongOf 404 = .ok (.iconst 0, 1) := by decide +kernel
theorem dX15_wrongOf_405 : decode cX15_wrongOf 405 = .ok (.ireturn, 1) := by decide +kernel
set_option maxRecDepth 20000 in
theorem moX15_wrongOf_231 {o : Int32 × Hp} {F : Nat} {h : Hp} (hE : sX15_wrongOf_231 F h  = some o) : Le h o.2 := by
  exact le_some2 hE
set_option maxRecDepth 20000 in
theorem moX15_wrongOf_404 {o : Int32 × Hp} {F : Nat} {h : Hp} (hE : sX15_wrongOf_404 F h  = some o) : Le h o.2 := by
  exact le_some2 hE
set_option maxRecDepth 20000 in
theorem moX15_wrongOf_368 {o : Int32 × Hp} {F : Nat} : ∀ (f : Nat) {h : Hp} {x0 : Nat} {x1 : Nat} {x5 : Int32}, sX15_wrongOf_368 F f h x0 x1 x5 = some o → Le h o.2 := by
  intro f
  induction f with
  | zero =>
    intro h x0 x1 x5 hE
    rw [sX15_wrongOf_368] at hE
    cases hE
  | succ f ih =>
    intro h x0 x1 x5 hE
    rw [sX15_wrongOf_368] at hE
    have mk_368 : ∀ (h : Hp) (x0 : Nat) (x1 : Nat) (x5 : Int32), sX15_wrongOf_368 F f h x0 x1 x5 = some o → Le h o.2 := fun h x0 x1 x5 hE => ih hE
    rcases br_e hE with ⟨_, hE⟩ | ⟨_, hE⟩
    · exact moX15_wrongOf_404 hE
    · obtain ⟨r_2, er_2, hE⟩ := cl_e hE
      rcases br_e hE with ⟨_, hE⟩ | ⟨_, hE⟩
      · obtain ⟨r_4, er_4, hE⟩ := cl_e hE
        obtain ⟨g_5, hE⟩ := gd_e hE
        rcases br_e hE with ⟨_, hE⟩ | ⟨_, hE⟩
        · obtain ⟨v_7, ev_7, hE⟩ := nm_e2 hE
          exact mk_368 _ _ _ _ hE
        · exact le_some2 hE
      · exact moX15_wrongOf_404 hE
set_option maxRecDepth 20000 in
theorem moX15_wrongOf_365 {o : Int32 × Hp} {F : Nat} {h : Hp} {x0 : Nat} {x1 : Nat} (hE : sX15_wrongOf_365 F h x0 x1 = some o) : Le h o.2 := by
  exact moX15_wrongOf_368 _ hE
set_option maxRecDepth 20000 in
theorem moX15_wrongOf_336 {o : Int32 × Hp} {F : Nat} {h : Hp} {x0 : Nat} {x1 : Nat} (hE : sX15_wrongOf_336 F h x0 x1 = some o) : Le h o.2 := by
  obtain ⟨r_1, er_1, hE⟩ := cl_e hE
  rcases br_e hE with ⟨_, hE⟩ | ⟨_, hE⟩
  · obtain ⟨r_3, er_3, hE⟩ := cl_e hE
    obtain ⟨g_4, hE⟩ := gd_e hE
    obtain ⟨r_5, er_5, hE⟩ := cl_e hE
    obtain ⟨g_6, hE⟩ := gd_e hE
    rcases br_e hE with ⟨_, hE⟩ | ⟨_, hE⟩
    · exact moX15_wrongOf_365 hE
    · exact le_some2 hE
  · exact moX15_wrongOf_365 hE
set_option maxRecDepth 20000 in
theorem moX15_wrongOf_300 {o : Int32 × Hp} {F : Nat} {h : Hp} {x0 : Nat} {x1 : Nat} (hE : sX15_wrongOf_300 F h x0 x1 = some o) : Le h o.2 := by
  obtain ⟨o_1, eo_1, hE⟩ := cl_e hE
  refine (moX15_royalOf eo_1).tr ?_
  rcases br_e hE with ⟨_, hE⟩ | ⟨_, hE⟩
  · exact moX15_wrongOf_336 hE
  · obtain ⟨o_3, eo_3, hE⟩ := cl_e hE
    refine (moX15_isAttacked eo_3).tr ?_
    rcases br_e hE with ⟨_, hE⟩ | ⟨_, hE⟩
    · exact moX15_wrongOf_336 hE
    · exact le_some2 hE
set_option maxRecDepth 20000 in
theorem moX15_wrongOf_277 {o : Int32 × Hp} {k_242 : Hp → Nat → Nat → Int32 → Option (Int32 × Hp)} {F : Nat} (mk_242 : ∀ (h : Hp) (x0 : Nat) (x1 : Nat) (x4 : Int32), k_242 h x0 x1 x4 = some o → Le h o.2) {h : Hp} {x0 : Nat} {x1 : Nat} {x4 : Int32} (hE : sX15_wrongOf_277 F k_242 h x0 x1 x4 = some o) : Le h o.2 := by
  obtain ⟨v_1, ev_1, hE⟩ := nm_e2 hE
  exact mk_242 _ _ _ _ hE
set_option maxRecDepth 20000 in
theorem moX15_wrongOf_242 {o : Int32 × Hp} {F : Nat} : ∀ (f : Nat) {h : Hp} {x0 : Nat} {x1 : Nat} {x4 : Int32}, sX15_wrongOf_242 F f h x0 x1 x4 = some o → Le h o.2 := by
  intro f
  induction f with
  | zero =>
    intro h x0 x1 x4 hE
    rw [sX15_wrongOf_242] at hE
    cases hE
  | succ f ih =>
    intro h x0 x1 x4 hE
    rw [sX15_wrongOf_242] at hE
    have mk_242 : ∀ (h : Hp) (x0 : Nat) (x1 : Nat) (x4 : Int32), sX15_wrongOf_242 F f h x0 x1 x4 = some o → Le h o.2 := fun h x0 x1 x4 hE => ih hE
    rcases br_e hE with ⟨_, hE⟩ | ⟨_, hE⟩
    · rcases br_e hE with ⟨_, hE⟩ | ⟨_, hE⟩
      · exact moX15_wrongOf_300 hE
      · obtain ⟨o_3, eo_3, hE⟩ := cl_e hE
        refine (moX15_isPass eo_3).tr ?_
        rcases br_e hE with ⟨_, hE⟩ | ⟨_, hE⟩
        · exact le_some2 hE
        · exact moX15_wrongOf_300 hE
    · rcases br_e hE with ⟨_, hE⟩ | ⟨_, hE⟩
      · obtain ⟨o_6, eo_6, hE⟩ := cl_e hE
        refine (moX15_isRight eo_6).tr ?_
        rcases br_e hE with ⟨_, hE⟩ | ⟨_, hE⟩
        · exact le_some2 hE
        · exact moX15_wrongOf_277 mk_242 hE
      · exact moX15_wrongOf_277 mk_242 hE
set_option maxRecDepth 20000 in
theorem moX15_wrongOf_233 {o : Int32 × Hp} {F : Nat} {h : Hp} {x0 : Nat} {x1 : Nat} {x2 : Int32} (hE : sX15_wrongOf_233 F h x0 x1 x2 = some o) : Le h o.2 := by
  rcases br_e hE with ⟨_, hE⟩ | ⟨_, hE⟩
  · exact moX15_wrongOf_242 _ hE
  · exact le_some2 hE
set_option maxRecDepth 20000 in
theorem moX15_wrongOf_165 {o : Int32 × Hp} {F : Nat} {h : Hp} {x0 : Nat} {x1 : Nat} {x2 : Int32} {t0 : Int32} (hE : sX15_wrongOf_165 F h x0 x1 x2 t0 = some o) : Le h o.2 := by
  obtain ⟨r_1, er_1, hE⟩ := cl_e hE
  obtain ⟨g_2, hE⟩ := gd_e hE
  rcases br_e hE with ⟨_, hE⟩ | ⟨_, hE⟩
  · exact moX15_wrongOf_231 hE
  · obtain ⟨r_4, er_4, hE⟩ := cl_e hE
    obtain ⟨g_5, hE⟩ := gd_e hE
    rcases br_e hE with ⟨_, hE⟩ | ⟨_, hE⟩
    · exact moX15_wrongOf_231 hE
    · rcases br_e hE with ⟨_, hE⟩ | ⟨_, hE⟩
      · obtain ⟨r_8, er_8, hE⟩ := cl_e hE
        rcases br_e hE with ⟨_, hE⟩ | ⟨_, hE⟩
        · exact moX15_wrongOf_233 hE
        · obtain ⟨r_10, er_10, hE⟩ := cl_e hE
          rcases br_e hE with ⟨_, hE⟩ | ⟨_, hE⟩
          · exact moX15_wrongOf_233 hE
          · obtain ⟨r_12, er_12, hE⟩ := cl_e hE
            obtain ⟨g_13, hE⟩ := gd_e hE
            rcases br_e hE with ⟨_, hE⟩ | ⟨_, hE⟩
            · obtain ⟨r_15, er_15, hE⟩ := cl_e hE
              obtain ⟨g_16, hE⟩ := gd_e hE
              rcases br_e hE with ⟨_, hE⟩ | ⟨_, hE⟩
              · exact moX15_wrongOf_233 hE
              · exact moX15_wrongOf_231 hE
            · exact moX15_wrongOf_231 hE
      · exact moX15_wrongOf_231 hE
set_option maxRecDepth 20000 in
theorem moX15_wrongOf_164 {o : Int32 × Hp} {F : Nat} {h : Hp} {x0 : Nat} {x1 : Nat} {x2 : Int32} (hE : sX15_wrongOf_164 F h x0 x1 x2 = some o) : Le h o.2 := by
  exact moX15_wrongOf_165 hE
set_option maxRecDepth 20000 in
theorem moX15_wrongOf_109 {o : Int32 × Hp} {k_18 : Hp → Nat → Nat → Int32 → Int32 → Option (Int32 × Hp)} {F : Nat} (mk_18 : ∀ (h : Hp) (x0 : Nat) (x1 : Nat) (x2 : Int32) (x3 : Int32), k_18 h x0 x1 x2 x3 = some o → Le h o.2) {h : Hp} {x0 : Nat} {x1 : Nat} {x2 : Int32} {x3 : Int32} (hE : sX15_wrongOf_109 F k_18 h x0 x1 x2 x3 = some o) : Le h o.2 := by
  obtain ⟨v_1, ev_1, hE⟩ := nm_e2 hE
  exact mk_18 _ _ _ _ _ hE
set_option maxRecDepth 20000 in
theorem moX15_wrongOf_107 {o : Int32 × Hp} {k_18 : Hp → Nat → Nat → Int32 → Int32 → Option (Int32 × Hp)} {F : Nat} (mk_18 : ∀ (h : Hp) (x0 : Nat) (x1 : Nat) (x2 : Int32) (x3 : Int32), k_18 h x0 x1 x2 x3 = some o → Le h o.2) {h : Hp} {x0 : Nat} {x1 : Nat} {x3 : Int32} {t0 : Int32} {t1 : Int32} (hE : sX15_wrongOf_107 F k_18 h x0 x1 x3 t0 t1 = some o) : Le h o.2 := by
  obtain ⟨v_1, ev_1, hE⟩ := nm_e2 hE
  exact moX15_wrongOf_109 mk_18 hE
set_option maxRecDepth 20000 in
theorem moX15_wrongOf_106 {o : Int32 × Hp} {k_18 : Hp → Nat → Nat → Int32 → Int32 → Option (Int32 × Hp)} {F : Nat} (mk_18 : ∀ (h : Hp) (x0 : Nat) (x1 : Nat) (x2 : Int32) (x3 : Int32), k_18 h x0 x1 x2 x3 = some o → Le h o.2) {h : Hp} {x0 : Nat} {x1 : Nat} {x3 : Int32} {t0 : Int32} (hE : sX15_wrongOf_106 F k_18 h x0 x1 x3 t0 = some o) : Le h o.2 := by
  exact moX15_wrongOf_107 mk_18 hE
set_option maxRecDepth 20000 in
theorem moX15_wrongOf_70 {o : Int32 × Hp} {k_18 : Hp → Nat → Nat → Int32 → Int32 → Option (Int32 × Hp)} {F : Nat} (mk_18 : ∀ (h : Hp) (x0 : Nat) (x1 : Nat) (x2 : Int32) (x3 : Int32), k_18 h x0 x1 x2 x3 = some o → Le h o.2) {h : Hp} {x0 : Nat} {x1 : Nat} {x2 : Int32} {x3 : Int32} {x4 : Int32} {t0 : Int32} {t1 : Int32} {t2 : Int32} {t3 : Nat} (hE : sX15_wrongOf_70 F k_18 h x0 x1 x2 x3 x4 t0 t1 t2 t3 = some o) : Le h o.2 := by
  obtain ⟨g_1, hE⟩ := gd_e hE
  obtain ⟨h_2, eh_2, hE⟩ := nm_e2 hE
  refine (le_I eh_2).tr ?_
  obtain ⟨o_3, eo_3, hE⟩ := cl_e hE
  refine (moX15_manOf eo_3).tr ?_
  obtain ⟨o_4, eo_4, hE⟩ := cl_e hE
  refine (moX15_becomesOthers eo_4).tr ?_
  rcases br_e hE with ⟨_, hE⟩ | ⟨_, hE⟩
  · exact moX15_wrongOf_106 mk_18 hE
  · obtain ⟨o_6, eo_6, hE⟩ := cl_e hE
    refine (moX15_sideOf eo_6).tr ?_
    obtain ⟨o_7, eo_7, hE⟩ := cl_e hE
    refine (moX15_rankFor eo_7).tr ?_
    rcases br_e hE with ⟨_, hE⟩ | ⟨_, hE⟩
    · exact moX15_wrongOf_107 mk_18 hE
    · exact moX15_wrongOf_106 mk_18 hE
set_option maxRecDepth 20000 in
theorem moX15_wrongOf_18 {o : Int32 × Hp} {F : Nat} : ∀ (f : Nat) {h : Hp} {x0 : Nat} {x1 : Nat} {x2 : Int32} {x3 : Int32}, sX15_wrongOf_18 F f h x0 x1 x2 x3 = some o → Le h o.2 := by
  intro f
  induction f with
  | zero =>
    intro h x0 x1 x2 x3 hE
    rw [sX15_wrongOf_18] at hE
    cases hE
  | succ f ih =>
    intro h x0 x1 x2 x3 hE
    rw [sX15_wrongOf_18] at hE
    have mk_18 : ∀ (h : Hp) (x0 : Nat) (x1 : Nat) (x2 : Int32) (x3 : Int32), sX15_wrongOf_18 F f h x0 x1 x2 x3 = some o → Le h o.2 := fun h x0 x1 x2 x3 hE => ih hE
    rcases br_e hE with ⟨_, hE⟩ | ⟨_, hE⟩
    · obtain ⟨r_2, er_2, hE⟩ := cl_e hE
      rcases br_e hE with ⟨_, hE⟩ | ⟨_, hE⟩
      · exact moX15_wrongOf_164 hE
      · obtain ⟨r_4, er_4, hE⟩ := cl_e hE
        obtain ⟨r_5, er_5, hE⟩ := cl_e hE
        obtain ⟨g_6, hE⟩ := gd_e hE
        obtain ⟨r_7, er_7, hE⟩ := cl_e hE
        obtain ⟨r_8, er_8, hE⟩ := cl_e hE
        obtain ⟨g_9, hE⟩ := gd_e hE
        rcases br_e hE with ⟨_, hE⟩ | ⟨_, hE⟩
        · exact moX15_wrongOf_164 hE
        · exact moX15_wrongOf_165 hE
    · obtain ⟨r_11, er_11, hE⟩ := cl_e hE
      obtain ⟨g_12, hE⟩ := gd_e hE
      obtain ⟨v_13, ev_13, hE⟩ := nm_e2 hE
      rcases br_e hE with ⟨_, hE⟩ | ⟨_, hE⟩
      · exact moX15_wrongOf_109 mk_18 hE
      · obtain ⟨r_15, er_15, hE⟩ := cl_e hE
        obtain ⟨o_16, eo_16, hE⟩ := cl_e hE
        refine (moX15_sideOf eo_16).tr ?_
        obtain ⟨g_17, hE⟩ := gd_e hE
        obtain ⟨o_18, eo_18, hE⟩ := cl_e hE
        refine (moX15_manOf eo_18).tr ?_
        obtain ⟨r_19, er_19, hE⟩ := cl_e hE
        rcases br_e hE with ⟨_, hE⟩ | ⟨_, hE⟩
        · exact moX15_wrongOf_70 mk_18 hE
        · exact moX15_wrongOf_70 mk_18 hE
set_option maxRecDepth 20000 in
theorem moX15_wrongOf {o : Int32 × Hp} {F : Nat} {h : Hp} {x0 : Nat} {x1 : Nat} (hE : sX15_wrongOf F h x0 x1 = some o) : Le h o.2 := by
  obtain ⟨r_1, er_1, hE⟩ := cl_e hE
  obtain ⟨g_2, hE⟩ := gd_e hE
  obtain ⟨h_3, eh_3, hE⟩ := nm_e2 hE
  refine (le_I eh_3).tr ?_
  obtain ⟨r_4, er_4, hE⟩ := cl_e hE
  obtain ⟨g_5, hE⟩ := gd_e hE
  obtain ⟨h_6, eh_6, hE⟩ := nm_e2 hE
  refine (le_I eh_6).tr ?_
  exact moX15_wrongOf_18 _ hE
set_option maxRecDepth 20000 in
theorem bX15_wrongOf_231 {p : Program} {l : Launch} {e : Env} {s : State} {m : MethodId} {args : Array Value} {below : List Frame} {meth : Method} {c : Code} {X : Ec} {h0 : Hp} {o : Int32 × Hp} {F : Nat} (C : Cx X p s m args meth c RX15 cX15_wrongOf 6 (some .int) "wrongOf") {h : Hp} {H : Heap} {locs : List Loc} (hkm : Km h0 h) (hW : Wx X h H) (hZ : va_S (aA (eB X)) s.heap H locs) (ls : Array Slot) (hl : lv_has ls 6 []) (hE : sX15_wrongOf_231 F h  = some o) : W p l e (rm 4 106) s m args below meth c H locs 0 0 (MQ below (QI X h0 o.1 o.2) args s 0 0 (aA (eB X))) (F0 m 231 ls []) := by
  refine lv_iconst (v := (2 : Int32)) C.1 C.2.1 dX15_wrongOf_231 (by decide) ?_
  exact x_iret C rfl rfl hW hZ hkm hE dX15_wrongOf_232
set_option maxRecDepth 20000 in
theorem bX15_wrongOf_404 {p : Program} {l : Launch} {e : Env} {s : State} {m : MethodId} {args : Array Value} {below : List Frame} {meth : Method} {c : Code} {X : Ec} {h0 : Hp} {o : Int32 × Hp} {F : Nat} (C : Cx X p s m args meth c RX15 cX15_wrongOf 6 (some .int) "wrongOf") {h : Hp} {H : Heap} {locs : List Loc} (hkm : Km h0 h) (hW : Wx X h H) (hZ : va_S (aA (eB X)) s.heap H locs) (ls : Array Slot) (hl : lv_has ls 6 []) (hE : sX15_wrongOf_404 F h  = some o) : W p l e (rm 4 106) s m args below meth c H locs 0 0 (MQ below (QI X h0 o.1 o.2) args s 0 0 (aA (eB X))) (F0 m 404 ls []) := by
  refine lv_iconst (v := (0 : Int32)) C.1 C.2.1 dX15_wrongOf_404 (by decide) ?_
  exact x_iret C rfl rfl hW hZ hkm hE dX15_wrongOf_405
set_option maxRecDepth 20000 in
theorem bX15_wrongOf_368 {p : Program} {l : Launch} {e : Env} {s : State} {m : MethodId} {args : Array Value} {below : List Frame} {meth : Method} {c : Code} {X : Ec} {h0 : Hp} {o : Int32 × Hp} {F : Nat} (C : Cx X p s m args meth c RX15 cX15_wrongOf 6 (some .int) "wrongOf") : ∀ (f : Nat) {h : Hp} {x0 : Nat} {x1 : Nat} {x5 : Int32} {H : Heap} {locs : List Loc} (k_x0 : hK h x0 = 15) (k_x1 : hK h x1 = 12), Km h0 h → Wx X h H → va_S (aA (eB X)) s.heap H locs → ∀ (ls : Array Slot), lv_has ls 6 [(0, .ref x0), (1, .ref x1), (5, .int x5)] → sX15_wrongOf_368 F f h x0 x1 x5 = some o → W p l e (rm 4 106) s m args below meth c H locs 0 0 (MQ below (QI X h0 o.1 o.2) args s 0 0 (aA (eB X))) (F0 m 368 ls []) := by
  intro f
  induction f with
  | zero =>
    intro h x0 x1 x5 H locs k_x0 k_x1 hkm hW hZ ls hl hE
    rw [sX15_wrongOf_368] at hE
    cases hE
  | succ f ih =>
    intro h x0 x1 x5 H locs k_x0 k_x1 hkm hW hZ ls hl hE
    rw [sX15_wrongOf_368] at hE
    have hk_368 : ∀ (h : Hp) (x0 : Nat) (x1 : Nat) (x5 : Int32) (H : Heap) (locs : List Loc), hK h x0 = 15 → hK h x1 = 12 → Km h0 h → Wx X h H → va_S (aA (eB X)) s.heap H locs → ∀ (ls : Array Slot), lv_has ls 6 [(0, .ref x0), (1, .ref x1), (5, .int x5)] → sX15_wrongOf_368 F f h x0 x1 x5 = some o → W p l e (rm 4 106) s m args below meth c H locs 0 0 (MQ below (QI X h0 o.1 o.2) args s 0 0 (aA (eB X))) (F0 m 368 ls []) := fun h x0 x1 x5 H locs k_x0 k_x1 a b c ls hl hE => ih k_x0 k_x1 a b c ls hl hE
    refine lv_iload C.1 C.2.1 dX15_wrongOf_368 (lv_at hl 2 rfl) ?_
    refine lv_bipush (v := (24 : Int32)) C.1 C.2.1 dX15_wrongOf_370 (by decide) ?_
    refine lv_icmp_ge (tgt := 404) C.1 C.2.1 dX15_wrongOf_372 (by decide) (fun c_1 => ?_) (fun c_1 => ?_)
    · have hE := br_p hE c_1
      exact bX15_wrongOf_404 C hkm hW hZ _ (lv_sub hl [] rfl) hE
    · have hE := br_n hE c_1
      refine lv_aload_n C.1 C.2.1 dX15_wrongOf_375 rfl (lv_at hl 0 rfl) ?_
      obtain ⟨r_2, er_2, hE⟩ := cl_e hE
      refine gf_X15_252 C hW k_x0 er_2 dX15_wrongOf_376 (fun k_r_2 => ?_)
      refine gf_X15_126 C hW k_r_2 dX15_wrongOf_379 ?_
      refine lv_if_ne (tgt := 404) C.1 C.2.1 dX15_wrongOf_382 (by decide) (fun c_3 => ?_) (fun c_3 => ?_)
      · have hE := br_n hE c_3
        exact bX15_wrongOf_404 C hkm hW hZ _ (lv_sub hl [] rfl) hE
      · have hE := br_p hE c_3
        refine lv_aload_n C.1 C.2.1 dX15_wrongOf_385 rfl (lv_at hl 1 rfl) ?_
        obtain ⟨r_4, er_4, hE⟩ := cl_e hE
        refine gf_X15_444 C hW k_x1 er_4 dX15_wrongOf_386 (fun k_r_4 => ?_)
        refine lv_iload C.1 C.2.1 dX15_wrongOf_389 (lv_at hl 2 rfl) ?_
        obtain ⟨g_5, hE⟩ := gd_e hE
        refine y_iald C hW k_r_4 g_5 dX15_wrongOf_391 ?_
        refine lv_if_le (tgt := 398) C.1 C.2.1 dX15_wrongOf_392 (by decide) (fun c_6 => ?_) (fun c_6 => ?_)
        · have hE := br_p hE c_6
          obtain ⟨v_7, ev_7, hE⟩ := nm_e2 hE
          refine lv_iinc (v := v_7) (lv' := [(5, .int v_7), (0, .ref x0), (1, .ref x1)]) C.1 C.2.1 dX15_wrongOf_398 hl (k := 2) rfl (by rw [ev_7]; rfl) (by decide) rfl (fun ls hl => ?_)
          refine lv_goto (tgt := 368) C.1 C.2.1 dX15_wrongOf_401 (by decide) ?_
          exact hk_368 _ _ _ _ _ _ k_x0 k_x1 hkm hW hZ _ (lv_sub hl [1, 2, 0] rfl) hE
        · have hE := br_n hE c_6
          refine lv_bipush (v := (8 : Int32)) C.1 C.2.1 dX15_wrongOf_395 (by decide) ?_
          exact x_iret C rfl rfl hW hZ hkm hE dX15_wrongOf_397
set_option maxRecDepth 20000 in
theorem bX15_wrongOf_365 {p : Program} {l : Launch} {e : Env} {s : State} {m : MethodId} {args : Array Value} {below : List Frame} {meth : Method} {c : Code} {X : Ec} {h0 : Hp} {o : Int32 × Hp} {F : Nat} (C : Cx X p s m args meth c RX15 cX15_wrongOf 6 (some .int) "wrongOf") {h : Hp} {x0 : Nat} {x1 : Nat} {H : Heap} {locs : List Loc} (k_x0 : hK h x0 = 15) (k_x1 : hK h x1 = 12) (hkm : Km h0 h) (hW : Wx X h H) (hZ : va_S (aA (eB X)) s.heap H locs) (ls : Array Slot) (hl : lv_has ls 6 [(0, .ref x0), (1, .ref x1)]) (hE : sX15_wrongOf_365 F h x0 x1 = some o) : W p l e (rm 4 106) s m args below meth c H locs 0 0 (MQ below (QI X h0 o.1 o.2) args s 0 0 (aA (eB X))) (F0 m 365 ls []) := by
  refine lv_iconst (v := (0 : Int32)) C.1 C.2.1 dX15_wrongOf_365 (by decide) ?_
  refine lv_istore (lv' := [(5, .int (0 : Int32)), (0, .ref x0), (1, .ref x1)]) C.1 C.2.1 dX15_wrongOf_366 hl (by decide) rfl (fun ls hl => ?_)
  exact bX15_wrongOf_368 C F k_x0 k_x1 hkm hW hZ _ (lv_sub hl [1, 2, 0] rfl) hE
set_option maxRecDepth 20000 in
theorem bX15_wrongOf_336 {p : Program} {l : Launch} {e : Env} {s : State} {m : MethodId} {args : Array Value} {below : List Frame} {meth : Method} {c : Code} {X : Ec} {h0 : Hp} {o : Int32 × Hp} {F : Nat} (C : Cx X p s m args meth c RX15 cX15_wrongOf 6 (some .int) "wrongOf") {h : Hp} {x0 : Nat} {x1 : Nat} {H : Heap} {locs : List Loc} (k_x0 : hK h x0 = 15) (k_x1 : hK h x1 = 12) (hkm : Km h0 h) (hW : Wx X h H) (hZ : va_S (aA (eB X)) s.heap H locs) (ls : Array Slot) (hl : lv_has ls 6 [(0, .ref x0), (1, .ref x1)]) (hE : sX15_wrongOf_336 F h x0 x1 = some o) : W p l e (rm 4 106) s m args below meth c H locs 0 0 (MQ below (QI X h0 o.1 o.2) args s 0 0 (aA (eB X))) (F0 m 336 ls []) := by
  refine lv_aload_n C.1 C.2.1 dX15_wrongOf_336 rfl (lv_at hl 0 rfl) ?_
  obtain ⟨r_1, er_1, hE⟩ := cl_e hE
  refine gf_X15_252 C hW k_x0 er_1 dX15_wrongOf_337 (fun k_r_1 => ?_)
  refine gf_X15_233 C hW k_r_1 dX15_wrongOf_340 ?_
  refine lv_if_ne (tgt := 365) C.1 C.2.1 dX15_wrongOf_343 (by decide) (fun c_2 => ?_) (fun c_2 => ?_)
  · have hE := br_n hE c_2
    exact bX15_wrongOf_365 C k_x0 k_x1 hkm hW hZ _ (lv_sub hl [0, 1] rfl) hE
  · have hE := br_p hE c_2
    refine lv_aload_n C.1 C.2.1 dX15_wrongOf_346 rfl (lv_at hl 1 rfl) ?_
    obtain ⟨r_3, er_3, hE⟩ := cl_e hE
    refine gf_X15_447 C hW k_x1 er_3 dX15_wrongOf_347 (fun k_r_3 => ?_)
    refine lv_iconst (v := (0 : Int32)) C.1 C.2.1 dX15_wrongOf_350 (by decide) ?_
    obtain ⟨g_4, hE⟩ := gd_e hE
    refine y_iald C hW k_r_3 g_4 dX15_wrongOf_351 ?_
    refine lv_aload_n C.1 C.2.1 dX15_wrongOf_352 rfl (lv_at hl 1 rfl) ?_
    obtain ⟨r_5, er_5, hE⟩ := cl_e hE
    refine gf_X15_447 C hW k_x1 er_5 dX15_wrongOf_353 (fun k_r_5 => ?_)
    refine lv_iconst (v := (1 : Int32)) C.1 C.2.1 dX15_wrongOf_356 (by decide) ?_
    obtain ⟨g_6, hE⟩ := gd_e hE
    refine y_iald C hW k_r_5 g_6 dX15_wrongOf_357 ?_
    refine lv_iadd C.1 C.2.1 dX15_wrongOf_358 ?_
    refine lv_if_le (tgt := 365) C.1 C.2.1 dX15_wrongOf_359 (by decide) (fun c_7 => ?_) (fun c_7 => ?_)
    · have hE := br_p hE c_7
      exact bX15_wrongOf_365 C k_x0 k_x1 hkm hW hZ _ (lv_sub hl [0, 1] rfl) hE
    · have hE := br_n hE c_7
      refine lv_bipush (v := (7 : Int32)) C.1 C.2.1 dX15_wrongOf_362 (by decide) ?_
      exact x_iret C rfl rfl hW hZ hkm hE dX15_wrongOf_364
set_option maxRecDepth 20000 in
theorem bX15_wrongOf_300 {p : Program} {l : Launch} {e : Env} {s : State} {m : MethodId} {args : Array Value} {below : List Frame} {meth : Method} {c : Code} {X : Ec} {h0 : Hp} {o : Int32 × Hp} {F : Nat} (C : Cx X p s m args meth c RX15 cX15_wrongOf 6 (some .int) "wrongOf") {h : Hp} {x0 : Nat} {x1 : Nat} {H : Heap} {locs : List Loc} (k_x0 : hK h x0 = 15) (k_x1 : hK h x1 = 12) (hkm : Km h0 h) (hW : Wx X h H) (hZ : va_S (aA (eB X)) s.heap H locs) (ls : Array Slot) (hl : lv_has ls 6 [(0, .ref x0), (1, .ref x1)]) (hE : sX15_wrongOf_300 F h x0 x1 = some o) : W p l e (rm 4 106) s m args below meth c H locs 0 0 (MQ below (QI X h0 o.1 o.2) args s 0 0 (aA (eB X))) (F0 m 300 ls []) := by
  refine lv_aload_n C.1 C.2.1 dX15_wrongOf_300 rfl (lv_at hl 0 rfl) ?_
  refine lv_aload_n C.1 C.2.1 dX15_wrongOf_301 rfl (lv_at hl 1 rfl) ?_
  refine lv_iconst (v := (1 : Int32)) C.1 C.2.1 dX15_wrongOf_302 (by decide) ?_
  refine lv_aload_n C.1 C.2.1 dX15_wrongOf_303 rfl (lv_at hl 1 rfl) ?_
  refine gf_X15_452 C hW k_x1 dX15_wrongOf_304 ?_
  refine lv_isub C.1 C.2.1 dX15_wrongOf_307 ?_
  obtain ⟨o_1, eo_1, hE⟩ := cl_e hE
  refine x_kI (o := o_1) (z_runV (As := [.ref x1, .int ((1 : Int32) - (hI h x1 1))]) (rest := []) C (ct_X15_royalOf l X F k_x0 k_x1 eo_1) cw_X15_508 hW hZ k_x0 (by decide) rfl rfl rfl hl.1 (Nat.le_of_ble_eq_true rfl) rfl dX15_wrongOf_308 ⟨Nat.le_of_ble_eq_true rfl, Nat.le_of_ble_eq_true rfl⟩ ⟨Nat.le_refl _, Nat.le_refl _⟩) hZ (fun _ _ hW km hZ => ?_)
  replace hkm := hkm.tr km
  replace k_x0 := km.at k_x0 (by decide)
  replace k_x1 := km.at k_x1 (by decide)
  refine lv_istore (lv' := [(4, .int o_1.1), (0, .ref x0), (1, .ref x1)]) C.1 C.2.1 dX15_wrongOf_311 hl (by decide) rfl (fun ls hl => ?_)
  refine lv_iload C.1 C.2.1 dX15_wrongOf_313 (lv_at hl 0 rfl) ?_
  refine lv_iconst (v := (-1 : Int32)) C.1 C.2.1 dX15_wrongOf_315 (by decide) ?_
  refine lv_icmp_eq (tgt := 336) C.1 C.2.1 dX15_wrongOf_316 (by decide) (fun c_2 => ?_) (fun c_2 => ?_)
  · have hE := br_p hE c_2
    exact bX15_wrongOf_336 C k_x0 k_x1 hkm hW hZ _ (lv_sub hl [1, 2] rfl) hE
  · have hE := br_n hE c_2
    refine lv_aload_n C.1 C.2.1 dX15_wrongOf_319 rfl (lv_at hl 1 rfl) ?_
    refine lv_aload_n C.1 C.2.1 dX15_wrongOf_320 rfl (lv_at hl 2 rfl) ?_
    refine lv_iload C.1 C.2.1 dX15_wrongOf_321 (lv_at hl 0 rfl) ?_
    refine lv_aload_n C.1 C.2.1 dX15_wrongOf_323 rfl (lv_at hl 2 rfl) ?_
    refine gf_X15_452 C hW k_x1 dX15_wrongOf_324 ?_
    obtain ⟨o_3, eo_3, hE⟩ := cl_e hE
    refine x_kI (o := o_3) (z_runV (As := [.ref x1, .int o_1.1, .int (hI o_1.2 x1 1)]) (rest := []) C (ct_X15_isAttacked l X F k_x0 k_x1 eo_3) cw_X15_512 hW hZ k_x0 (by decide) rfl rfl rfl hl.1 (Nat.le_of_ble_eq_true rfl) rfl dX15_wrongOf_327 ⟨Nat.le_of_ble_eq_true rfl, Nat.le_of_ble_eq_true rfl⟩ ⟨Nat.le_refl _, Nat.le_refl _⟩) hZ (fun _ _ hW km hZ => ?_)
    replace hkm := hkm.tr km
    replace k_x0 := km.at k_x0 (by decide)
    replace k_x1 := km.at k_x1 (by decide)
    refine lv_if_eq (tgt := 336) C.1 C.2.1 dX15_wrongOf_330 (by decide) (fun c_4 => ?_) (fun c_4 => ?_)
    · have hE := br_p hE c_4
      exact bX15_wrongOf_336 C k_x0 k_x1 hkm hW hZ _ (lv_sub hl [1, 2] rfl) hE
    · have hE := br_n hE c_4
      refine lv_bipush (v := (6 : Int32)) C.1 C.2.1 dX15_wrongOf_333 (by decide) ?_
      exact x_iret C rfl rfl hW hZ hkm hE dX15_wrongOf_335
set_option maxRecDepth 20000 in
theorem bX15_wrongOf_277 {p : Program} {l : Launch} {e : Env} {s : State} {m : MethodId} {args : Array Value} {below : List Frame} {meth : Method} {c : Code} {X : Ec} {h0 : Hp} {o : Int32 × Hp} {k_242 : Hp → Nat → Nat → Int32 → Option (Int32 × Hp)} {F : Nat} (C : Cx X p s m args meth c RX15 cX15_wrongOf 6 (some .int) "wrongOf") (hk_242 : ∀ (h : Hp) (x0 : Nat) (x1 : Nat) (x4 : Int32) (H : Heap) (locs : List Loc), hK h x0 = 15 → hK h x1 = 12 → Km h0 h → Wx X h H → va_S (aA (eB X)) s.heap H locs → ∀ (ls : Array Slot), lv_has ls 6 [(0, .ref x0), (1, .ref x1), (4, .int x4)] → k_242 h x0 x1 x4 = some o → W p l e (rm 4 106) s m args below meth c H locs 0 0 (MQ below (QI X h0 o.1 o.2) args s 0 0 (aA (eB X))) (F0 m 242 ls [])) {h : Hp} {x0 : Nat} {x1 : Nat} {x4 : Int32} {H : Heap} {locs : List Loc} (k_x0 : hK h x0 = 15) (k_x1 : hK h x1 = 12) (hkm : Km h0 h) (hW : Wx X h H) (hZ : va_S (aA (eB X)) s.heap H locs) (ls : Array Slot) (hl : lv_has ls 6 [(0, .ref x0), (1, .ref x1), (4, .int x4)]) (hE : sX15_wrongOf_277 F k_242 h x0 x1 x4 = some o) : W p l e (rm 4 106) s m args below meth c H locs 0 0 (MQ below (QI X h0 o.1 o.2) args s 0 0 (aA (eB X))) (F0 m 277 ls []) := by
  obtain ⟨v_1, ev_1, hE⟩ := nm_e2 hE
  refine lv_iinc (v := v_1) (lv' := [(4, .int v_1), (0, .ref x0), (1, .ref x1)]) C.1 C.2.1 dX15_wrongOf_277 hl (k := 2) rfl (by rw [ev_1]; rfl) (by decide) rfl (fun ls hl => ?_)
  refine lv_goto (tgt := 242) C.1 C.2.1 dX15_wrongOf_280 (by decide) ?_
  exact hk_242 _ _ _ _ _ _ k_x0 k_x1 hkm hW hZ _ (lv_sub hl [1, 2, 0] rfl) hE
set_option maxRecDepth 20000 in
theorem bX15_wrongOf_242 {p : Program} {l : Launch} {e : Env} {s : State} {m : MethodId} {args : Array Value} {below : List Frame} {meth : Method} {c : Code} {X : Ec} {h0 : Hp} {o : Int32 × Hp} {F : Nat} (C : Cx X p s m args meth c RX15 cX15_wrongOf 6 (some .int) "wrongOf") : ∀ (f : Nat) {h : Hp} {x0 : Nat} {x1 : Nat} {x4 : Int32} {H : Heap} {locs : List Loc} (k_x0 : hK h x0 = 15) (k_x1 : hK h x1 = 12), Km h0 h → Wx X h H → va_S (aA (eB X)) s.heap H locs → ∀ (ls : Array Slot), lv_has ls 6 [(0, .ref x0), (1, .ref x1), (4, .int x4)] → sX15_wrongOf_242 F f h x0 x1 x4 = some o → W p l e (rm 4 106) s m args below meth c H locs 0 0 (MQ below (QI X h0 o.1 o.2) args s 0 0 (aA (eB X))) (F0 m 242 ls []) := by
  intro f
  induction f with
  | zero =>
    intro h x0 x1 x4 H locs k_x0 k_x1 hkm hW hZ ls hl hE
    rw [sX15_wrongOf_242] at hE
    cases hE
  | succ f ih =>
    intro h x0 x1 x4 H locs k_x0 k_x1 hkm hW hZ ls hl hE
    rw [sX15_wrongOf_242] at hE
    have hk_242 : ∀ (h : Hp) (x0 : Nat) (x1 : Nat) (x4 : Int32) (H : Heap) (locs : List Loc), hK h x0 = 15 → hK h x1 = 12 → Km h0 h → Wx X h H → va_S (aA (eB X)) s.heap H locs → ∀ (ls : Array Slot), lv_has ls 6 [(0, .ref x0), (1, .ref x1), (4, .int x4)] → sX15_wrongOf_242 F f h x0 x1 x4 = some o → W p l e (rm 4 106) s m args below meth c H locs 0 0 (MQ below (QI X h0 o.1 o.2) args s 0 0 (aA (eB X))) (F0 m 242 ls []) := fun h x0 x1 x4 H locs k_x0 k_x1 a b c ls hl hE => ih k_x0 k_x1 a b c ls hl hE
    refine lv_iload C.1 C.2.1 dX15_wrongOf_242 (lv_at hl 2 rfl) ?_
    refine lv_aload_n C.1 C.2.1 dX15_wrongOf_244 rfl (lv_at hl 0 rfl) ?_
    refine gf_X15_384 C hW k_x0 dX15_wrongOf_245 ?_
    refine lv_icmp_ge (tgt := 283) C.1 C.2.1 dX15_wrongOf_248 (by decide) (fun c_1 => ?_) (fun c_1 => ?_)
    · have hE := br_p hE c_1
      refine lv_aload_n C.1 C.2.1 dX15_wrongOf_283 rfl (lv_at hl 1 rfl) ?_
      refine gf_X15_441 C hW k_x1 dX15_wrongOf_284 ?_
      refine lv_if_le (tgt := 300) C.1 C.2.1 dX15_wrongOf_287 (by decide) (fun c_2 => ?_) (fun c_2 => ?_)
      · have hE := br_p hE c_2
        exact bX15_wrongOf_300 C k_x0 k_x1 hkm hW hZ _ (lv_sub hl [0, 1] rfl) hE
      · have hE := br_n hE c_2
        refine lv_aload_n C.1 C.2.1 dX15_wrongOf_290 rfl (lv_at hl 0 rfl) ?_
        refine lv_aload_n C.1 C.2.1 dX15_wrongOf_291 rfl (lv_at hl 1 rfl) ?_
        obtain ⟨o_3, eo_3, hE⟩ := cl_e hE
        refine x_kI (o := o_3) (z_runV (As := [.ref x1]) (rest := []) C (ct_X15_isPass l X F k_x0 k_x1 eo_3) cw_X15_505 hW hZ k_x0 (by decide) rfl rfl rfl hl.1 (Nat.le_of_ble_eq_true rfl) rfl dX15_wrongOf_292 ⟨Nat.le_of_ble_eq_true rfl, Nat.le_of_ble_eq_true rfl⟩ ⟨Nat.le_refl _, Nat.le_refl _⟩) hZ (fun _ _ hW km hZ => ?_)
        replace hkm := hkm.tr km
        replace k_x0 := km.at k_x0 (by decide)
        replace k_x1 := km.at k_x1 (by decide)
        refine lv_if_ne (tgt := 300) C.1 C.2.1 dX15_wrongOf_295 (by decide) (fun c_4 => ?_) (fun c_4 => ?_)
        · have hE := br_n hE c_4
          exact bX15_wrongOf_300 C k_x0 k_x1 hkm hW hZ _ (lv_sub hl [0, 1] rfl) hE
        · have hE := br_p hE c_4
          refine lv_iconst (v := (5 : Int32)) C.1 C.2.1 dX15_wrongOf_298 (by decide) ?_
          exact x_iret C rfl rfl hW hZ hkm hE dX15_wrongOf_299
    · have hE := br_n hE c_1
      refine lv_aload_n C.1 C.2.1 dX15_wrongOf_251 rfl (lv_at hl 1 rfl) ?_
      refine gf_X15_436 C hW k_x1 dX15_wrongOf_252 ?_
      refine lv_iload C.1 C.2.1 dX15_wrongOf_255 (lv_at hl 2 rfl) ?_
      refine lv_lshr C.1 C.2.1 dX15_wrongOf_257 rfl ?_
      refine lv_lconst (v := (1 : Int64)) C.1 C.2.1 dX15_wrongOf_258 (by decide) ?_
      refine lv_land C.1 C.2.1 dX15_wrongOf_259 ?_
      refine lv_lconst (v := (1 : Int64)) C.1 C.2.1 dX15_wrongOf_260 (by decide) ?_
      refine W.lcmp C.1 C.2.1 dX15_wrongOf_261 ?_
      refine lv_if_ne (tgt := 277) C.1 C.2.1 dX15_wrongOf_262 (by decide) (fun c_5 => ?_) (fun c_5 => ?_)
      · have hE := br_n hE c_5
        exact bX15_wrongOf_277 C hk_242 k_x0 k_x1 hkm hW hZ _ (lv_sub hl [0, 1, 2] rfl) hE
      · have hE := br_p hE c_5
        refine lv_aload_n C.1 C.2.1 dX15_wrongOf_265 rfl (lv_at hl 0 rfl) ?_
        refine lv_aload_n C.1 C.2.1 dX15_wrongOf_266 rfl (lv_at hl 1 rfl) ?_
        refine lv_iload C.1 C.2.1 dX15_wrongOf_267 (lv_at hl 2 rfl) ?_
        obtain ⟨o_6, eo_6, hE⟩ := cl_e hE
        refine x_kI (o := o_6) (z_runV (As := [.ref x1, .int x4]) (rest := []) C (ct_X15_isRight l X F k_x0 k_x1 eo_6) cw_X15_501 hW hZ k_x0 (by decide) rfl rfl rfl hl.1 (Nat.le_of_ble_eq_true rfl) rfl dX15_wrongOf_269 ⟨Nat.le_of_ble_eq_true rfl, Nat.le_of_ble_eq_true rfl⟩ ⟨Nat.le_refl _, Nat.le_refl _⟩) hZ (fun _ _ hW km hZ => ?_)
        replace hkm := hkm.tr km
        replace k_x0 := km.at k_x0 (by decide)
        replace k_x1 := km.at k_x1 (by decide)
        refine lv_if_ne (tgt := 277) C.1 C.2.1 dX15_wrongOf_272 (by decide) (fun c_7 => ?_) (fun c_7 => ?_)
        · have hE := br_n hE c_7
          exact bX15_wrongOf_277 C hk_242 k_x0 k_x1 hkm hW hZ _ (lv_sub hl [0, 1, 2] rfl) hE
        · have hE := br_p hE c_7
          refine lv_iconst (v := (4 : Int32)) C.1 C.2.1 dX15_wrongOf_275 (by decide) ?_
          exact x_iret C rfl rfl hW hZ hkm hE dX15_wrongOf_276
set_option maxRecDepth 20000 in
theorem bX15_wrongOf_233 {p : Program} {l : Launch} {e : Env} {s : State} {m : MethodId} {args : Array Value} {below : List Frame} {meth : Method} {c : Code} {X : Ec} {h0 : Hp} {o : Int32 × Hp} {F : Nat} (C : Cx X p s m args meth c RX15 cX15_wrongOf 6 (some .int) "wrongOf") {h : Hp} {x0 : Nat} {x1 : Nat} {x2 : Int32} {H : Heap} {locs : List Loc} (k_x0 : hK h x0 = 15) (k_x1 : hK h x1 = 12) (hkm : Km h0 h) (hW : Wx X h H) (hZ : va_S (aA (eB X)) s.heap H locs) (ls : Array Slot) (hl : lv_has ls 6 [(0, .ref x0), (1, .ref x1), (2, .int x2)]) (hE : sX15_wrongOf_233 F h x0 x1 x2 = some o) : W p l e (rm 4 106) s m args below meth c H locs 0 0 (MQ below (QI X h0 o.1 o.2) args s 0 0 (aA (eB X))) (F0 m 233 ls []) := by
  refine lv_iload_n C.1 C.2.1 dX15_wrongOf_233 rfl (lv_at hl 2 rfl) ?_
  refine lv_if_eq (tgt := 239) C.1 C.2.1 dX15_wrongOf_234 (by decide) (fun c_1 => ?_) (fun c_1 => ?_)
  · have hE := br_p hE c_1
    refine lv_iconst (v := (0 : Int32)) C.1 C.2.1 dX15_wrongOf_239 (by decide) ?_
    refine lv_istore (lv' := [(4, .int (0 : Int32)), (0, .ref x0), (1, .ref x1), (2, .int x2)]) C.1 C.2.1 dX15_wrongOf_240 hl (by decide) rfl (fun ls hl => ?_)
    exact bX15_wrongOf_242 C F k_x0 k_x1 hkm hW hZ _ (lv_sub hl [1, 2, 0] rfl) hE
  · have hE := br_n hE c_1
    refine lv_iconst (v := (3 : Int32)) C.1 C.2.1 dX15_wrongOf_237 (by decide) ?_
    exact x_iret C rfl rfl hW hZ hkm hE dX15_wrongOf_238
set_option maxRecDepth 20000 in
theorem bX15_wrongOf_165 {p : Program} {l : Launch} {e : Env} {s : State} {m : MethodId} {args : Array Value} {below : List Frame} {meth : Method} {c : Code} {X : Ec} {h0 : Hp} {o : Int32 × Hp} {F : Nat} (C : Cx X p s m args meth c RX15 cX15_wrongOf 6 (some .int) "wrongOf") {h : Hp} {x0 : Nat} {x1 : Nat} {x2 : Int32} {t0 : Int32} {H : Heap} {locs : List Loc} (k_x0 : hK h x0 = 15) (k_x1 : hK h x1 = 12) (hkm : Km h0 h) (hW : Wx X h H) (hZ : va_S (aA (eB X)) s.heap H locs) (ls : Array Slot) (hl : lv_has ls 6 [(0, .ref x0), (1, .ref x1), (2, .int x2)]) (hE : sX15_wrongOf_165 F h x0 x1 x2 t0 = some o) : W p l e (rm 4 106) s m args below meth c H locs 0 0 (MQ below (QI X h0 o.1 o.2) args s 0 0 (aA (eB X))) (F0 m 165 ls [.int t0]) := by
  refine lv_istore_n (lv' := [(3, .int t0), (0, .ref x0), (1, .ref x1), (2, .int x2)]) C.1 C.2.1 dX15_wrongOf_165 rfl hl (by decide) rfl (fun ls hl => ?_)
  refine lv_aload_n C.1 C.2.1 dX15_wrongOf_166 rfl (lv_at hl 1 rfl) ?_
  obtain ⟨r_1, er_1, hE⟩ := cl_e hE
  refine gf_X15_269 C hW k_x0 er_1 dX15_wrongOf_167 (fun k_r_1 => ?_)
  refine lv_iconst (v := (0 : Int32)) C.1 C.2.1 dX15_wrongOf_170 (by decide) ?_
  obtain ⟨g_2, hE⟩ := gd_e hE
  refine y_iald C hW k_r_1 g_2 dX15_wrongOf_171 ?_
  refine lv_iconst (v := (1 : Int32)) C.1 C.2.1 dX15_wrongOf_172 (by decide) ?_
  refine lv_icmp_gt (tgt := 231) C.1 C.2.1 dX15_wrongOf_173 (by decide) (fun c_3 => ?_) (fun c_3 => ?_)
  · have hE := br_p hE c_3
    exact bX15_wrongOf_231 C hkm hW hZ _ (lv_sub hl [] rfl) hE
  · have hE := br_n hE c_3
    refine lv_aload_n C.1 C.2.1 dX15_wrongOf_176 rfl (lv_at hl 1 rfl) ?_
    obtain ⟨r_4, er_4, hE⟩ := cl_e hE
    refine gf_X15_269 C hW k_x0 er_4 dX15_wrongOf_177 (fun k_r_4 => ?_)
    refine lv_iconst (v := (1 : Int32)) C.1 C.2.1 dX15_wrongOf_180 (by decide) ?_
    obtain ⟨g_5, hE⟩ := gd_e hE
    refine y_iald C hW k_r_4 g_5 dX15_wrongOf_181 ?_
    refine lv_iconst (v := (1 : Int32)) C.1 C.2.1 dX15_wrongOf_182 (by decide) ?_
    refine lv_icmp_gt (tgt := 231) C.1 C.2.1 dX15_wrongOf_183 (by decide) (fun c_6 => ?_) (fun c_6 => ?_)
    · have hE := br_p hE c_6
      exact bX15_wrongOf_231 C hkm hW hZ _ (lv_sub hl [] rfl) hE
    · have hE := br_n hE c_6
      refine lv_iload_n C.1 C.2.1 dX15_wrongOf_186 rfl (lv_at hl 0 rfl) ?_
      refine lv_if_ne (tgt := 231) C.1 C.2.1 dX15_wrongOf_187 (by decide) (fun c_7 => ?_) (fun c_7 => ?_)
      · have hE := br_n hE c_7
        exact bX15_wrongOf_231 C hkm hW hZ _ (lv_sub hl [] rfl) hE
      · have hE := br_p hE c_7
        refine lv_aload_n C.1 C.2.1 dX15_wrongOf_190 rfl (lv_at hl 1 rfl) ?_
        obtain ⟨r_8, er_8, hE⟩ := cl_e hE
        refine gf_X15_252 C hW k_x0 er_8 dX15_wrongOf_191 (fun k_r_8 => ?_)
        refine gf_X15_142 C hW k_r_8 dX15_wrongOf_194 ?_
        refine lv_if_eq (tgt := 233) C.1 C.2.1 dX15_wrongOf_197 (by decide) (fun c_9 => ?_) (fun c_9 => ?_)
        · have hE := br_p hE c_9
          exact bX15_wrongOf_233 C k_x0 k_x1 hkm hW hZ _ (lv_sub hl [1, 2, 3] rfl) hE
        · have hE := br_n hE c_9
          refine lv_aload_n C.1 C.2.1 dX15_wrongOf_200 rfl (lv_at hl 1 rfl) ?_
          obtain ⟨r_10, er_10, hE⟩ := cl_e hE
          refine gf_X15_252 C hW k_x0 er_10 dX15_wrongOf_201 (fun k_r_10 => ?_)
          refine gf_X15_221 C hW k_r_10 dX15_wrongOf_204 ?_
          refine lv_iconst (v := (-1 : Int32)) C.1 C.2.1 dX15_wrongOf_207 (by decide) ?_
          refine lv_icmp_eq (tgt := 233) C.1 C.2.1 dX15_wrongOf_208 (by decide) (fun c_11 => ?_) (fun c_11 => ?_)
          · have hE := br_p hE c_11
            exact bX15_wrongOf_233 C k_x0 k_x1 hkm hW hZ _ (lv_sub hl [1, 2, 3] rfl) hE
          · have hE := br_n hE c_11
            refine lv_aload_n C.1 C.2.1 dX15_wrongOf_211 rfl (lv_at hl 1 rfl) ?_
            obtain ⟨r_12, er_12, hE⟩ := cl_e hE
            refine gf_X15_269 C hW k_x0 er_12 dX15_wrongOf_212 (fun k_r_12 => ?_)
            refine lv_iconst (v := (0 : Int32)) C.1 C.2.1 dX15_wrongOf_215 (by decide) ?_
            obtain ⟨g_13, hE⟩ := gd_e hE
            refine y_iald C hW k_r_12 g_13 dX15_wrongOf_216 ?_
            refine lv_iconst (v := (1 : Int32)) C.1 C.2.1 dX15_wrongOf_217 (by decide) ?_
            refine lv_icmp_ne (tgt := 231) C.1 C.2.1 dX15_wrongOf_218 (by decide) (fun c_14 => ?_) (fun c_14 => ?_)
            · have hE := br_n hE c_14
              exact bX15_wrongOf_231 C hkm hW hZ _ (lv_sub hl [] rfl) hE
            · have hE := br_p hE c_14
              refine lv_aload_n C.1 C.2.1 dX15_wrongOf_221 rfl (lv_at hl 1 rfl) ?_
              obtain ⟨r_15, er_15, hE⟩ := cl_e hE
              refine gf_X15_269 C hW k_x0 er_15 dX15_wrongOf_222 (fun k_r_15 => ?_)
              refine lv_iconst (v := (1 : Int32)) C.1 C.2.1 dX15_wrongOf_225 (by decide) ?_
              obtain ⟨g_16, hE⟩ := gd_e hE
              refine y_iald C hW k_r_15 g_16 dX15_wrongOf_226 ?_
              refine lv_iconst (v := (1 : Int32)) C.1 C.2.1 dX15_wrongOf_227 (by decide) ?_
              refine lv_icmp_eq (tgt := 233) C.1 C.2.1 dX15_wrongOf_228 (by decide) (fun c_17 => ?_) (fun c_17 => ?_)
              · have hE := br_p hE c_17
                exact bX15_wrongOf_233 C k_x0 k_x1 hkm hW hZ _ (lv_sub hl [1, 2, 3] rfl) hE
              · have hE := br_n hE c_17
                exact bX15_wrongOf_231 C hkm hW hZ _ (lv_sub hl [] rfl) hE
set_option maxRecDepth 20000 in
theorem bX15_wrongOf_164 {p : Program} {l : Launch} {e : Env} {s : State} {m : MethodId} {args : Array Value} {below : List Frame} {meth : Method} {c : Code} {X : Ec} {h0 : Hp} {o : Int32 × Hp} {F : Nat} (C : Cx X p s m args meth c RX15 cX15_wrongOf 6 (some .int) "wrongOf") {h : Hp} {x0 : Nat} {x1 : Nat} {x2 : Int32} {H : Heap} {locs : List Loc} (k_x0 : hK h x0 = 15) (k_x1 : hK h x1 = 12) (hkm : Km h0 h) (hW : Wx X h H) (hZ : va_S (aA (eB X)) s.heap H locs) (ls : Array Slot) (hl : lv_has ls 6 [(0, .ref x0), (1, .ref x1), (2, .int x2)]) (hE : sX15_wrongOf_164 F h x0 x1 x2 = some o) : W p l e (rm 4 106) s m args below meth c H locs 0 0 (MQ below (QI X h0 o.1 o.2) args s 0 0 (aA (eB X))) (F0 m 164 ls []) := by
  refine lv_iconst (v := (0 : Int32)) C.1 C.2.1 dX15_wrongOf_164 (by decide) ?_
  exact bX15_wrongOf_165 C k_x0 k_x1 hkm hW hZ _ (lv_sub hl [0, 1, 2] rfl) hE
set_option maxRecDepth 20000 in
theorem bX15_wrongOf_109 {p : Program} {l : Launch} {e : Env} {s : State} {m : MethodId} {args : Array Value} {below : List Frame} {meth : Method} {c : Code} {X : Ec} {h0 : Hp} {o : Int32 × Hp} {k_18 : Hp → Nat → Nat → Int32 → Int32 → Option (Int32 × Hp)} {F : Nat} (C : Cx X p s m args meth c RX15 cX15_wrongOf 6 (some .int) "wrongOf") (hk_18 : ∀ (h : Hp) (x0 : Nat) (x1 : Nat) (x2 : Int32) (x3 : Int32) (H : Heap) (locs : List Loc), hK h x0 = 15 → hK h x1 = 12 → Km h0 h → Wx X h H → va_S (aA (eB X)) s.heap H locs → ∀ (ls : Array Slot), lv_has ls 6 [(0, .ref x0), (1, .ref x1), (2, .int x2), (3, .int x3)] → k_18 h x0 x1 x2 x3 = some o → W p l e (rm 4 106) s m args below meth c H locs 0 0 (MQ below (QI X h0 o.1 o.2) args s 0 0 (aA (eB X))) (F0 m 18 ls [])) {h : Hp} {x0 : Nat} {x1 : Nat} {x2 : Int32} {x3 : Int32} {H : Heap} {locs : List Loc} (k_x0 : hK h x0 = 15) (k_x1 : hK h x1 = 12) (hkm : Km h0 h) (hW : Wx X h H) (hZ : va_S (aA (eB X)) s.heap H locs) (ls : Array Slot) (hl : lv_has ls 6 [(0, .ref x0), (1, .ref x1), (2, .int x2), (3, .int x3)]) (hE : sX15_wrongOf_109 F k_18 h x0 x1 x2 x3 = some o) : W p l e (rm 4 106) s m args below meth c H locs 0 0 (MQ below (QI X h0 o.1 o.2) args s 0 0 (aA (eB X))) (F0 m 109 ls []) := by
  obtain ⟨v_1, ev_1, hE⟩ := nm_e2 hE
  refine lv_iinc (v := v_1) (lv' := [(3, .int v_1), (0, .ref x0), (1, .ref x1), (2, .int x2)]) C.1 C.2.1 dX15_wrongOf_109 hl (k := 3) rfl (by rw [ev_1]; rfl) (by decide) rfl (fun ls hl => ?_)
  refine lv_goto (tgt := 18) C.1 C.2.1 dX15_wrongOf_112 (by decide) ?_
  exact hk_18 _ _ _ _ _ _ _ k_x0 k_x1 hkm hW hZ _ (lv_sub hl [1, 2, 3, 0] rfl) hE
set_option maxRecDepth 20000 in
theorem bX15_wrongOf_107 {p : Program} {l : Launch} {e : Env} {s : State} {m : MethodId} {args : Array Value} {below : List Frame} {meth : Method} {c : Code} {X : Ec} {h0 : Hp} {o : Int32 × Hp} {k_18 : Hp → Nat → Nat → Int32 → Int32 → Option (Int32 × Hp)} {F : Nat} (C : Cx X p s m args meth c RX15 cX15_wrongOf 6 (some .int) "wrongOf") (hk_18 : ∀ (h : Hp) (x0 : Nat) (x1 : Nat) (x2 : Int32) (x3 : Int32) (H : Heap) (locs : List Loc), hK h x0 = 15 → hK h x1 = 12 → Km h0 h → Wx X h H → va_S (aA (eB X)) s.heap H locs → ∀ (ls : Array Slot), lv_has ls 6 [(0, .ref x0), (1, .ref x1), (2, .int x2), (3, .int x3)] → k_18 h x0 x1 x2 x3 = some o → W p l e (rm 4 106) s m args below meth c H locs 0 0 (MQ below (QI X h0 o.1 o.2) args s 0 0 (aA (eB X))) (F0 m 18 ls [])) {h : Hp} {x0 : Nat} {x1 : Nat} {x3 : Int32} {t0 : Int32} {t1 : Int32} {H : Heap} {locs : List Loc} (k_x0 : hK h x0 = 15) (k_x1 : hK h x1 = 12) (hkm : Km h0 h) (hW : Wx X h H) (hZ : va_S (aA (eB X)) s.heap H locs) (ls : Array Slot) (hl : lv_has ls 6 [(0, .ref x0), (1, .ref x1), (3, .int x3)]) (hE : sX15_wrongOf_107 F k_18 h x0 x1 x3 t0 t1 = some o) : W p l e (rm 4 106) s m args below meth c H locs 0 0 (MQ below (QI X h0 o.1 o.2) args s 0 0 (aA (eB X))) (F0 m 107 ls [.int t0, .int t1]) := by
  refine lv_ior C.1 C.2.1 dX15_wrongOf_107 ?_
  obtain ⟨v_1, ev_1, hE⟩ := nm_e2 hE
  refine x_nmI ev_1 ?_
  refine lv_istore_n (lv' := [(2, .int v_1), (0, .ref x0), (1, .ref x1), (3, .int x3)]) C.1 C.2.1 dX15_wrongOf_108 rfl hl (by decide) rfl (fun ls hl => ?_)
  exact bX15_wrongOf_109 C hk_18 k_x0 k_x1 hkm hW hZ _ (lv_sub hl [1, 2, 0, 3] rfl) hE
set_option maxRecDepth 20000 in
theorem bX15_wrongOf_106 {p : Program} {l : Launch} {e : Env} {s : State} {m : MethodId} {args : Array Value} {below : List Frame} {meth : Method} {c : Code} {X : Ec} {h0 : Hp} {o : Int32 × Hp} {k_18 : Hp → Nat → Nat → Int32 → Int32 → Option (Int32 × Hp)} {F : Nat} (C : Cx X p s m args meth c RX15 cX15_wrongOf 6 (some .int) "wrongOf") (hk_18 : ∀ (h : Hp) (x0 : Nat) (x1 : Nat) (x2 : Int32) (x3 : Int32) (H : Heap) (locs : List Loc), hK h x0 = 15 → hK h x1 = 12 → Km h0 h → Wx X h H → va_S (aA (eB X)) s.heap H locs → ∀ (ls : Array Slot), lv_has ls 6 [(0, .ref x0), (1, .ref x1), (2, .int x2), (3, .int x3)] → k_18 h x0 x1 x2 x3 = some o → W p l e (rm 4 106) s m args below meth c H locs 0 0 (MQ below (QI X h0 o.1 o.2) args s 0 0 (aA (eB X))) (F0 m 18 ls [])) {h : Hp} {x0 : Nat} {x1 : Nat} {x3 : Int32} {t0 : Int32} {H : Heap} {locs : List Loc} (k_x0 : hK h x0 = 15) (k_x1 : hK h x1 = 12) (hkm : Km h0 h) (hW : Wx X h H) (hZ : va_S (aA (eB X)) s.heap H locs) (ls : Array Slot) (hl : lv_has ls 6 [(0, .ref x0), (1, .ref x1), (3, .int x3)]) (hE : sX15_wrongOf_106 F k_18 h x0 x1 x3 t0 = some o) : W p l e (rm 4 106) s m args below meth c H locs 0 0 (MQ below (QI X h0 o.1 o.2) args s 0 0 (aA (eB X))) (F0 m 106 ls [.int t0]) := by
  refine lv_iconst (v := (0 : Int32)) C.1 C.2.1 dX15_wrongOf_106 (by decide) ?_
  exact bX15_wrongOf_107 C hk_18 k_x0 k_x1 hkm hW hZ _ (lv_sub hl [0, 1, 2] rfl) hE
set_option maxRecDepth 20000 in
theorem bX15_wrongOf_70 {p : Program} {l : Launch} {e : Env} {s : State} {m : MethodId} {args : Array Value} {below : List Frame} {meth : Method} {c : Code} {X : Ec} {h0 : Hp} {o : Int32 × Hp} {k_18 : Hp → Nat → Nat → Int32 → Int32 → Option (Int32 × Hp)} {F : Nat} (C : Cx X p s m args meth c RX15 cX15_wrongOf 6 (some .int) "wrongOf") (hk_18 : ∀ (h : Hp) (x0 : Nat) (x1 : Nat) (x2 : Int32) (x3 : Int32) (H : Heap) (locs : List Loc), hK h x0 = 15 → hK h x1 = 12 → Km h0 h → Wx X h H → va_S (aA (eB X)) s.heap H locs → ∀ (ls : Array Slot), lv_has ls 6 [(0, .ref x0), (1, .ref x1), (2, .int x2), (3, .int x3)] → k_18 h x0 x1 x2 x3 = some o → W p l e (rm 4 106) s m args below meth c H locs 0 0 (MQ below (QI X h0 o.1 o.2) args s 0 0 (aA (eB X))) (F0 m 18 ls [])) {h : Hp} {x0 : Nat} {x1 : Nat} {x2 : Int32} {x3 : Int32} {x4 : Int32} {t0 : Int32} {t1 : Int32} {t2 : Int32} {t3 : Nat} {H : Heap} {locs : List Loc} (k_x0 : hK h x0 = 15) (k_x1 : hK h x1 = 12) (k_t3 : hK h t3 = 17) (hkm : Km h0 h) (hW : Wx X h H) (hZ : va_S (aA (eB X)) s.heap H locs) (ls : Array Slot) (hl : lv_has ls 6 [(0, .ref x0), (1, .ref x1), (2, .int x2), (3, .int x3), (4, .int x4)]) (hE : sX15_wrongOf_70 F k_18 h x0 x1 x2 x3 x4 t0 t1 t2 t3 = some o) : W p l e (rm 4 106) s m args below meth c H locs 0 0 (MQ below (QI X h0 o.1 o.2) args s 0 0 (aA (eB X))) (F0 m 70 ls [.int t0, .int t1, .int t2, .ref t3]) := by
  refine lv_iadd C.1 C.2.1 dX15_wrongOf_70 ?_
  obtain ⟨g_1, hE⟩ := gd_e hE
  obtain ⟨h_2, eh_2, hE⟩ := nm_e2 hE
  refine y_iast C hW hZ k_t3 g_1 eh_2 dX15_wrongOf_71 (fun _ _ hW km hZ => ?_)
  replace hkm := hkm.tr km
  replace k_x0 := km.at k_x0 (by decide)
  replace k_x1 := km.at k_x1 (by decide)
  refine lv_iload_n C.1 C.2.1 dX15_wrongOf_72 rfl (lv_at hl 2 rfl) ?_
  refine lv_aload_n C.1 C.2.1 dX15_wrongOf_73 rfl (lv_at hl 0 rfl) ?_
  refine lv_iload C.1 C.2.1 dX15_wrongOf_74 (lv_at hl 4 rfl) ?_
  obtain ⟨o_3, eo_3, hE⟩ := cl_e hE
  refine x_kI (o := o_3) (z_runS (As := [.int x4]) (rest := [.ref x0, .int x2]) C (ct_X15_manOf l X eo_3) cw_X15_492 hW hZ rfl hl.1 (Nat.le_of_ble_eq_true rfl) rfl dX15_wrongOf_76 ⟨Nat.le_of_ble_eq_true rfl, Nat.le_of_ble_eq_true rfl⟩ ⟨Nat.le_refl _, Nat.le_refl _⟩) hZ (fun _ _ hW km hZ => ?_)
  replace hkm := hkm.tr km
  replace k_x0 := km.at k_x0 (by decide)
  replace k_x1 := km.at k_x1 (by decide)
  obtain ⟨o_4, eo_4, hE⟩ := cl_e hE
  refine x_kI (o := o_4) (z_runV (As := [.int o_3.1]) (rest := [.int x2]) C (ct_X15_becomesOthers l X k_x0 eo_4) cw_X15_495 hW hZ k_x0 (by decide) rfl rfl rfl hl.1 (Nat.le_of_ble_eq_true rfl) rfl dX15_wrongOf_79 ⟨Nat.le_of_ble_eq_true rfl, Nat.le_of_ble_eq_true rfl⟩ ⟨Nat.le_refl _, Nat.le_refl _⟩) hZ (fun _ _ hW km hZ => ?_)
  replace hkm := hkm.tr km
  replace k_x0 := km.at k_x0 (by decide)
  replace k_x1 := km.at k_x1 (by decide)
  refine lv_if_eq (tgt := 106) C.1 C.2.1 dX15_wrongOf_82 (by decide) (fun c_5 => ?_) (fun c_5 => ?_)
  · have hE := br_p hE c_5
    exact bX15_wrongOf_106 C hk_18 k_x0 k_x1 hkm hW hZ _ (lv_sub hl [0, 1, 3] rfl) hE
  · have hE := br_n hE c_5
    refine lv_aload_n C.1 C.2.1 dX15_wrongOf_85 rfl (lv_at hl 0 rfl) ?_
    refine lv_iload_n C.1 C.2.1 dX15_wrongOf_86 rfl (lv_at hl 3 rfl) ?_
    refine lv_iload C.1 C.2.1 dX15_wrongOf_87 (lv_at hl 4 rfl) ?_
    obtain ⟨o_6, eo_6, hE⟩ := cl_e hE
    refine x_kI (o := o_6) (z_runS (As := [.int x4]) (rest := [.int x3, .ref x0, .int x2]) C (ct_X15_sideOf l X eo_6) cw_X15_489 hW hZ rfl hl.1 (Nat.le_of_ble_eq_true rfl) rfl dX15_wrongOf_89 ⟨Nat.le_of_ble_eq_true rfl, Nat.le_of_ble_eq_true rfl⟩ ⟨Nat.le_refl _, Nat.le_refl _⟩) hZ (fun _ _ hW km hZ => ?_)
    replace hkm := hkm.tr km
    replace k_x0 := km.at k_x0 (by decide)
    replace k_x1 := km.at k_x1 (by decide)
    obtain ⟨o_7, eo_7, hE⟩ := cl_e hE
    refine x_kI (o := o_7) (z_runV (As := [.int x3, .int o_6.1]) (rest := [.int x2]) C (ct_X15_rankFor l X k_x0 eo_7) cw_X15_498 hW hZ k_x0 (by decide) rfl rfl rfl hl.1 (Nat.le_of_ble_eq_true rfl) rfl dX15_wrongOf_92 ⟨Nat.le_of_ble_eq_true rfl, Nat.le_of_ble_eq_true rfl⟩ ⟨Nat.le_refl _, Nat.le_refl _⟩) hZ (fun _ _ hW km hZ => ?_)
    replace hkm := hkm.tr km
    replace k_x0 := km.at k_x0 (by decide)
    replace k_x1 := km.at k_x1 (by decide)
    refine lv_aload_n C.1 C.2.1 dX15_wrongOf_95 rfl (lv_at hl 0 rfl) ?_
    refine gf_X15_383 C hW k_x0 dX15_wrongOf_96 ?_
    refine lv_icmp_ne (tgt := 106) C.1 C.2.1 dX15_wrongOf_99 (by decide) (fun c_8 => ?_) (fun c_8 => ?_)
    · have hE := br_n hE c_8
      exact bX15_wrongOf_106 C hk_18 k_x0 k_x1 hkm hW hZ _ (lv_sub hl [0, 1, 3] rfl) hE
    · have hE := br_p hE c_8
      refine lv_iconst (v := (1 : Int32)) C.1 C.2.1 dX15_wrongOf_102 (by decide) ?_
      refine lv_goto (tgt := 107) C.1 C.2.1 dX15_wrongOf_103 (by decide) ?_
      exact bX15_wrongOf_107 C hk_18 k_x0 k_x1 hkm hW hZ _ (lv_sub hl [0, 1, 3] rfl) hE
set_option maxRecDepth 20000 in
theorem bX15_wrongOf_18 {p : Program} {l : Launch} {e : Env} {s : State} {m : MethodId} {args : Array Value} {below : List Frame} {meth : Method} {c : Code} {X : Ec} {h0 : Hp} {o : Int32 × Hp} {F : Nat} (C : Cx X p s m args meth c RX15 cX15_wrongOf 6 (some .int) "wrongOf") : ∀ (f : Nat) {h : Hp} {x0 : Nat} {x1 : Nat} {x2 : Int32} {x3 : Int32} {H : Heap} {locs : List Loc} (k_x0 : hK h x0 = 15) (k_x1 : hK h x1 = 12), Km h0 h → Wx X h H → va_S (aA (eB X)) s.heap H locs → ∀ (ls : Array Slot), lv_has ls 6 [(0, .ref x0), (1, .ref x1), (2, .int x2), (3, .int x3)] → sX15_wrongOf_18 F f h x0 x1 x2 x3 = some o → W p l e (rm 4 106) s m args below meth c H locs 0 0 (MQ below (QI X h0 o.1 o.2) args s 0 0 (aA (eB X))) (F0 m 18 ls []) := by
  intro f
  induction f with
  | zero =>
    intro h x0 x1 x2 x3 H locs k_x0 k_x1 hkm hW hZ ls hl hE
    rw [sX15_wrongOf_18] at hE
    cases hE
  | succ f ih =>
    intro h x0 x1 x2 x3 H locs k_x0 k_x1 hkm hW hZ ls hl hE
    rw [sX15_wrongOf_18] at hE
    have hk_18 : ∀ (h : Hp) (x0 : Nat) (x1 : Nat) (x2 : Int32) (x3 : Int32) (H : Heap) (locs : List Loc), hK h x0 = 15 → hK h x1 = 12 → Km h0 h → Wx X h H → va_S (aA (eB X)) s.heap H locs → ∀ (ls : Array Slot), lv_has ls 6 [(0, .ref x0), (1, .ref x1), (2, .int x2), (3, .int x3)] → sX15_wrongOf_18 F f h x0 x1 x2 x3 = some o → W p l e (rm 4 106) s m args below meth c H locs 0 0 (MQ below (QI X h0 o.1 o.2) args s 0 0 (aA (eB X))) (F0 m 18 ls []) := fun h x0 x1 x2 x3 H locs k_x0 k_x1 a b c ls hl hE => ih k_x0 k_x1 a b c ls hl hE
    refine lv_iload_n C.1 C.2.1 dX15_wrongOf_18 rfl (lv_at hl 3 rfl) ?_
    refine lv_aload_n C.1 C.2.1 dX15_wrongOf_19 rfl (lv_at hl 0 rfl) ?_
    refine gf_X15_384 C hW k_x0 dX15_wrongOf_20 ?_
    refine lv_icmp_ge (tgt := 115) C.1 C.2.1 dX15_wrongOf_23 (by decide) (fun c_1 => ?_) (fun c_1 => ?_)
    · have hE := br_p hE c_1
      refine lv_aload_n C.1 C.2.1 dX15_wrongOf_115 rfl (lv_at hl 0 rfl) ?_
      obtain ⟨r_2, er_2, hE⟩ := cl_e hE
      refine gf_X15_252 C hW k_x0 er_2 dX15_wrongOf_116 (fun k_r_2 => ?_)
      refine gf_X15_221 C hW k_r_2 dX15_wrongOf_119 ?_
      refine lv_iconst (v := (-1 : Int32)) C.1 C.2.1 dX15_wrongOf_122 (by decide) ?_
      refine lv_icmp_eq (tgt := 164) C.1 C.2.1 dX15_wrongOf_123 (by decide) (fun c_3 => ?_) (fun c_3 => ?_)
      · have hE := br_p hE c_3
        exact bX15_wrongOf_164 C k_x0 k_x1 hkm hW hZ _ (lv_sub hl [0, 1, 2] rfl) hE
      · have hE := br_n hE c_3
        refine lv_aload_n C.1 C.2.1 dX15_wrongOf_126 rfl (lv_at hl 1 rfl) ?_
        obtain ⟨r_4, er_4, hE⟩ := cl_e hE
        refine gf_X15_444 C hW k_x1 er_4 dX15_wrongOf_127 (fun k_r_4 => ?_)
        refine lv_iconst (v := (2 : Int32)) C.1 C.2.1 dX15_wrongOf_130 (by decide) ?_
        refine lv_aload_n C.1 C.2.1 dX15_wrongOf_131 rfl (lv_at hl 0 rfl) ?_
        obtain ⟨r_5, er_5, hE⟩ := cl_e hE
        refine gf_X15_252 C hW k_x0 er_5 dX15_wrongOf_132 (fun k_r_5 => ?_)
        refine gf_X15_221 C hW k_r_5 dX15_wrongOf_135 ?_
        refine lv_imul C.1 C.2.1 dX15_wrongOf_138 ?_
        obtain ⟨g_6, hE⟩ := gd_e hE
        refine y_iald C hW k_r_4 g_6 dX15_wrongOf_139 ?_
        refine lv_aload_n C.1 C.2.1 dX15_wrongOf_140 rfl (lv_at hl 1 rfl) ?_
        obtain ⟨r_7, er_7, hE⟩ := cl_e hE
        refine gf_X15_444 C hW k_x1 er_7 dX15_wrongOf_141 (fun k_r_7 => ?_)
        refine lv_iconst (v := (2 : Int32)) C.1 C.2.1 dX15_wrongOf_144 (by decide) ?_
        refine lv_aload_n C.1 C.2.1 dX15_wrongOf_145 rfl (lv_at hl 0 rfl) ?_
        obtain ⟨r_8, er_8, hE⟩ := cl_e hE
        refine gf_X15_252 C hW k_x0 er_8 dX15_wrongOf_146 (fun k_r_8 => ?_)
        refine gf_X15_221 C hW k_r_8 dX15_wrongOf_149 ?_
        refine lv_imul C.1 C.2.1 dX15_wrongOf_152 ?_
        refine lv_iconst (v := (1 : Int32)) C.1 C.2.1 dX15_wrongOf_153 (by decide) ?_
        refine lv_iadd C.1 C.2.1 dX15_wrongOf_154 ?_
        obtain ⟨g_9, hE⟩ := gd_e hE
        refine y_iald C hW k_r_7 g_9 dX15_wrongOf_155 ?_
        refine lv_iadd C.1 C.2.1 dX15_wrongOf_156 ?_
        refine lv_if_le (tgt := 164) C.1 C.2.1 dX15_wrongOf_157 (by decide) (fun c_10 => ?_) (fun c_10 => ?_)
        · have hE := br_p hE c_10
          exact bX15_wrongOf_164 C k_x0 k_x1 hkm hW hZ _ (lv_sub hl [0, 1, 2] rfl) hE
        · have hE := br_n hE c_10
          refine lv_iconst (v := (1 : Int32)) C.1 C.2.1 dX15_wrongOf_160 (by decide) ?_
          refine lv_goto (tgt := 165) C.1 C.2.1 dX15_wrongOf_161 (by decide) ?_
          exact bX15_wrongOf_165 C k_x0 k_x1 hkm hW hZ _ (lv_sub hl [0, 1, 2] rfl) hE
    · have hE := br_n hE c_1
      refine lv_aload_n C.1 C.2.1 dX15_wrongOf_26 rfl (lv_at hl 1 rfl) ?_
      obtain ⟨r_11, er_11, hE⟩ := cl_e hE
      refine gf_X15_396 C hW k_x1 er_11 dX15_wrongOf_27 (fun k_r_11 => ?_)
      refine lv_iload_n C.1 C.2.1 dX15_wrongOf_30 rfl (lv_at hl 3 rfl) ?_
      obtain ⟨g_12, hE⟩ := gd_e hE
      refine y_iald C hW k_r_11 g_12 dX15_wrongOf_31 ?_
      obtain ⟨v_13, ev_13, hE⟩ := nm_e2 hE
      refine x_nmI ev_13 ?_
      refine lv_istore (lv' := [(4, .int v_13), (0, .ref x0), (1, .ref x1), (2, .int x2), (3, .int x3)]) C.1 C.2.1 dX15_wrongOf_32 hl (by decide) rfl (fun ls hl => ?_)
      refine lv_iload C.1 C.2.1 dX15_wrongOf_34 (lv_at hl 0 rfl) ?_
      refine lv_if_le (tgt := 109) C.1 C.2.1 dX15_wrongOf_36 (by decide) (fun c_14 => ?_) (fun c_14 => ?_)
      · have hE := br_p hE c_14
        exact bX15_wrongOf_109 C hk_18 k_x0 k_x1 hkm hW hZ _ (lv_sub hl [1, 2, 3, 4] rfl) hE
      · have hE := br_n hE c_14
        refine lv_aload_n C.1 C.2.1 dX15_wrongOf_39 rfl (lv_at hl 1 rfl) ?_
        obtain ⟨r_15, er_15, hE⟩ := cl_e hE
        refine gf_X15_269 C hW k_x0 er_15 dX15_wrongOf_40 (fun k_r_15 => ?_)
        refine lv_iload C.1 C.2.1 dX15_wrongOf_43 (lv_at hl 0 rfl) ?_
        obtain ⟨o_16, eo_16, hE⟩ := cl_e hE
        refine x_kI (o := o_16) (z_runS (As := [.int v_13]) (rest := [.ref r_15]) C (ct_X15_sideOf l X eo_16) cw_X15_489 hW hZ rfl hl.1 (Nat.le_of_ble_eq_true rfl) rfl dX15_wrongOf_45 ⟨Nat.le_of_ble_eq_true rfl, Nat.le_of_ble_eq_true rfl⟩ ⟨Nat.le_refl _, Nat.le_refl _⟩) hZ (fun _ _ hW km hZ => ?_)
        replace hkm := hkm.tr km
        replace k_x0 := km.at k_x0 (by decide)
        replace k_x1 := km.at k_x1 (by decide)
        replace k_r_15 := km.at k_r_15 (by decide)
        refine lv_dup2_11 C.1 C.2.1 dX15_wrongOf_48 rfl rfl ?_
        obtain ⟨g_17, hE⟩ := gd_e hE
        refine y_iald C hW k_r_15 g_17 dX15_wrongOf_49 ?_
        refine lv_iload C.1 C.2.1 dX15_wrongOf_50 (lv_at hl 0 rfl) ?_
        obtain ⟨o_18, eo_18, hE⟩ := cl_e hE
        refine x_kI (o := o_18) (z_runS (As := [.int v_13]) (rest := [.int (hI o_16.2 r_15 o_16.1.toNatClampNeg), .int o_16.1, .ref r_15]) C (ct_X15_manOf l X eo_18) cw_X15_492 hW hZ rfl hl.1 (Nat.le_of_ble_eq_true rfl) rfl dX15_wrongOf_52 ⟨Nat.le_of_ble_eq_true rfl, Nat.le_of_ble_eq_true rfl⟩ ⟨Nat.le_refl _, Nat.le_refl _⟩) hZ (fun _ _ hW km hZ => ?_)
        replace hkm := hkm.tr km
        replace k_x0 := km.at k_x0 (by decide)
        replace k_x1 := km.at k_x1 (by decide)
        replace k_r_15 := km.at k_r_15 (by decide)
        refine lv_aload_n C.1 C.2.1 dX15_wrongOf_55 rfl (lv_at hl 1 rfl) ?_
        obtain ⟨r_19, er_19, hE⟩ := cl_e hE
        refine gf_X15_252 C hW k_x0 er_19 dX15_wrongOf_56 (fun k_r_19 => ?_)
        refine gf_X15_221 C hW k_r_19 dX15_wrongOf_59 ?_
        refine lv_icmp_ne (tgt := 69) C.1 C.2.1 dX15_wrongOf_62 (by decide) (fun c_20 => ?_) (fun c_20 => ?_)
        · have hE := br_n hE c_20
          refine lv_iconst (v := (0 : Int32)) C.1 C.2.1 dX15_wrongOf_69 (by decide) ?_
          exact bX15_wrongOf_70 C hk_18 k_x0 k_x1 k_r_15 hkm hW hZ _ (lv_sub hl [1, 2, 3, 4, 0] rfl) hE
        · have hE := br_p hE c_20
          refine lv_iconst (v := (1 : Int32)) C.1 C.2.1 dX15_wrongOf_65 (by decide) ?_
          refine lv_goto (tgt := 70) C.1 C.2.1 dX15_wrongOf_66 (by decide) ?_
          exact bX15_wrongOf_70 C hk_18 k_x0 k_x1 k_r_15 hkm hW hZ _ (lv_sub hl [1, 2, 3, 4, 0] rfl) hE
set_option maxRecDepth 20000 in
theorem ct_X15_wrongOf (l : Launch) (X : Ec) (F : Nat) {h : Hp} {x0 : Nat} {x1 : Nat} {o : Int32 × Hp} (k_x0 : hK h x0 = 15) (k_x1 : hK h x1 = 12) (hE : sX15_wrongOf F h x0 x1 = some o) : MetI l yX15_wrongOf cX15_wrongOf 6 (some .int) 4 106 X [.ref x0, .ref x1] h o := by
  refine x_met (by decide) (Nat.le_of_ble_eq_true rfl) ?_
  intro p e s m below meth c ls C hl hW hZ
  have hl : lv_has ls 6 [(0, .ref x0), (1, .ref x1)] := hl
  have hkm : Km h h := Km.rf h
  refine lv_aload_n C.1 C.2.1 dX15_wrongOf_0 rfl (lv_at hl 0 rfl) ?_
  obtain ⟨r_1, er_1, hE⟩ := cl_e hE
  refine gf_X15_269 C hW k_x0 er_1 dX15_wrongOf_1 (fun k_r_1 => ?_)
  refine lv_iconst (v := (0 : Int32)) C.1 C.2.1 dX15_wrongOf_4 (by decide) ?_
  refine lv_iconst (v := (0 : Int32)) C.1 C.2.1 dX15_wrongOf_5 (by decide) ?_
  obtain ⟨g_2, hE⟩ := gd_e hE
  obtain ⟨h_3, eh_3, hE⟩ := nm_e2 hE
  refine y_iast C hW hZ k_r_1 g_2 eh_3 dX15_wrongOf_6 (fun _ _ hW km hZ => ?_)
  replace hkm := hkm.tr km
  replace k_x0 := km.at k_x0 (by decide)
  replace k_x1 := km.at k_x1 (by decide)
  refine lv_aload_n C.1 C.2.1 dX15_wrongOf_7 rfl (lv_at hl 0 rfl) ?_
  obtain ⟨r_4, er_4, hE⟩ := cl_e hE
  refine gf_X15_269 C hW k_x0 er_4 dX15_wrongOf_8 (fun k_r_4 => ?_)
  refine lv_iconst (v := (1 : Int32)) C.1 C.2.1 dX15_wrongOf_11 (by decide) ?_
  refine lv_iconst (v := (0 : Int32)) C.1 C.2.1 dX15_wrongOf_12 (by decide) ?_
  obtain ⟨g_5, hE⟩ := gd_e hE
  obtain ⟨h_6, eh_6, hE⟩ := nm_e2 hE
  refine y_iast C hW hZ k_r_4 g_5 eh_6 dX15_wrongOf_13 (fun _ _ hW km hZ => ?_)
  replace hkm := hkm.tr km
  replace k_x0 := km.at k_x0 (by decide)
  replace k_x1 := km.at k_x1 (by decide)
  refine lv_iconst (v := (0 : Int32)) C.1 C.2.1 dX15_wrongOf_14 (by decide) ?_
  refine lv_istore_n (lv' := [(2, .int (0 : Int32)), (0, .ref x0), (1, .ref x1)]) C.1 C.2.1 dX15_wrongOf_15 rfl hl (by decide) rfl (fun ls hl => ?_)
  refine lv_iconst (v := (0 : Int32)) C.1 C.2.1 dX15_wrongOf_16 (by decide) ?_
  refine lv_istore_n (lv' := [(3, .int (0 : Int32)), (2, .int (0 : Int32)), (0, .ref x0), (1, .ref x1)]) C.1 C.2.1 dX15_wrongOf_17 rfl hl (by decide) rfl (fun ls hl => ?_)
  exact bX15_wrongOf_18 C F k_x0 k_x1 hkm hW hZ _ (lv_sub hl [2, 3, 1, 0] rfl) hE
set_option maxRecDepth 100000 in
theorem ms_134 : Cond.selects RX15 yX15_freePlace yX15_freePlace ∈ W0 := w0_in (List.mem_append_left _ (List.mem_of_getElem? (i := 134) rfl)) rfl
set_option maxRecDepth 100000 in
theorem m_2127 : Cond.fieldLink RX15 409 (TX15 16).1 (TX15 16).2.1 (TX15 16).2.2.1 ∈ W0 := w0_in (List.mem_append_right _ (List.mem_of_getElem? (i := 2127) rfl)) rfl
set_option maxRecDepth 100000 in
theorem m_2337 : Cond.methodLink RX15 402 yX15_freePlace ∈ W0 := w0_in (List.mem_append_right _ (List.mem_of_getElem? (i := 2337) rfl)) rfl
set_option maxRecDepth 100000 in
theorem m_2339 : Cond.instanceMethod yX15_freePlace ∈ W0 := w0_in (List.mem_append_right _ (List.mem_of_getElem? (i := 2339) rfl)) rfl
set_option maxRecDepth 100000 in
theorem m_2340 : Cond.code yX15_freePlace cX15_freePlace 2 (some .int) ∈ W0 := w0_in (List.mem_append_right _ (List.mem_of_getElem? (i := 2340) rfl)) rfl
set_option maxRecDepth 100000 in
theorem m_2458 : Cond.methodLink RX15 405 yX12_copy ∈ W0 := w0_in (List.mem_append_right _ (List.mem_of_getElem? (i := 2458) rfl)) rfl
set_option maxRecDepth 100000 in
theorem m_2459 : Cond.instanceMethod yX12_copy ∈ W0 := w0_in (List.mem_append_right _ (List.mem_of_getElem? (i := 2459) rfl)) rfl
set_option maxRecDepth 100000 in
theorem m_2460 : Cond.selects RX12 yX12_copy yX12_copy ∈ W0 := w0_in (List.mem_append_right _ (List.mem_of_getElem? (i := 2460) rfl)) rfl
set_option maxRecDepth 100000 in
theorem m_2461 : Cond.code yX12_copy cX12_copy 2 none ∈ W0 := w0_in (List.mem_append_right _ (List.mem_of_getElem? (i := 2461) rfl)) rfl
section
variable {p : Program} {l : Launch} {e : Env} {R : Room} {s : State} {m : MethodId} {args : Array Value} {below : List Frame} {meth : Method} {c : Code} {H : Heap} {locs : List Loc} {cells slots : Nat} {Q : State → Prop}
variable {cc : ByteArray} {pc : Nat} {ls : Array Slot} {rest : List Value} {X : Ec} {h h1 : Hp} {nL : Nat} {rt : Option FieldType} {mn : String}
theorem gf_X15_409 {a : Nat} (C : Cx X p s m args meth c RX15 cc nL rt mn) (hW : Wx X h H) (ha : hK h a = 15) (hdg : decode cc pc = .ok (.getfield 409, 3)) (kk : W p l e R s m args below meth c H locs cells slots Q (F0 m (pc + 3) ls (.int (hI h a 16) :: rest))) : W p l e R s m args below meth c H locs cells slots Q (F0 m pc ls (.ref a :: rest)) :=
  y_geti C hW ha i_X15 (by decide) rfl (by decide) m_2127 rfl hdg kk
theorem pf_X15_409 {a : Nat} {v : Int32} (C : Cx X p s m args meth c RX15 cc nL rt mn) (hW : Wx X h H) (hZ : va_S (aA (eB X)) s.heap H locs) (ha : hK h a = 15) (eh : h1 = wI h a 16 v) (hdg : decode cc pc = .ok (.putfield 409, 3)) (kk : ∀ (H1 : Heap) (locs1 : List Loc), Wx X h1 H1 → Km h h1 → va_S (aA (eB X)) s.heap H1 locs1 → W p l e R s m args below meth c H1 locs1 cells slots Q (F0 m (pc + 3) ls rest)) : W p l e R s m args below meth c H locs cells slots Q (F0 m pc ls (.int v :: .ref a :: rest)) :=
  y_puti (ty := .int) C hW hZ ha i_X15 tyX15 tyX15_ok nmX15 (by decide) rfl rfl (by decide) m_2127 rfl (by decide +kernel) rfl rfl rfl eh hdg kk
theorem gf_X15_257 {a r : Nat} (C : Cx X p s m args meth c RX15 cc nL rt mn) (hW : Wx X h H) (ha : hK h a = 15) (hr : hR h a 14 = some r) (hdg : decode cc pc = .ok (.getfield 257, 3)) (kk : hK h r = 21 → W p l e R s m args below meth c H locs cells slots Q (F0 m (pc + 3) ls (.ref r :: rest))) : W p l e R s m args below meth c H locs cells slots Q (F0 m pc ls (.ref a :: rest)) :=
  y_getr C hW ha i_X15 (by decide) rfl (by decide) m_2125 rfl rfl hr hdg kk
end
theorem cw_X15_405 : cwd RX15 405 yX12_copy cX12_copy 2 none false 1 := ⟨m_2461, m_2458, m_21, ⟨m_2459, m_2460⟩, by decide, by decide, by decide +kernel⟩
theorem cw_X15_402 : cwd RX15 402 yX15_freePlace cX15_freePlace 2 (some .int) false 0 := ⟨m_2340, m_2337, m_19, ⟨m_2339, ms_134⟩, by decide, by decide, by decide +kernel⟩
theorem dX15_keep_0 : decode cX15_keep 0 = .ok (.aload_n 0, 1) := by decide +kernel
theorem dX15_keep_1 : decode cX15_keep 1 = .ok (.invokevirtual 402, 3) := by decide +kernel
theorem dX15_keep_4 : decode cX15_keep 4 = .ok (.istore_n 2, 1) := by decide +kernel
theorem dX15_keep_5 : decode cX15_keep 5 = .ok (.iload_n 2, 1) := by decide +kernel
theorem dX15_keep_6 : decode cX15_keep 6 = .ok (.iconst (-1), 1) := by decide +kernel
theorem dX15_keep_7 : decode cX15_keep 7 = .ok (.if_icmp .ne 6, 3) := by decide +kernel
theorem dX15_keep_10 : decode cX15_keep 10 = .ok (.bipush (-104), 2) := by decide +kernel
theorem dX15_keep_12 : decode cX15_keep 12 = .ok (.ireturn, 1) := by decide +kernel
theorem dX15_keep_13 : decode cX15_keep 13 = .ok (.aload_n 0, 1) := by decide +kernel
theorem dX15_keep_14 : decode cX15_keep 14 = .ok (.getfield 257, 3) := by decide +kernel
theorem dX15_keep_17 : decode cX15_keep 17 = .ok (.iload_n 2, 1) := by decide +kernel
theorem dX15_keep_18 : decode cX15_keep 18 = .ok (.aaload, 1) := by decide +kernel
theorem dX15_keep_19 : decode cX15_keep 19 = .ok (.ifnonnull 16, 3) := by decide +kernel
theorem dX15_keep_22 : decode cX15_keep 22 = .ok (.aload_n 0, 1) := by decide +kernel
theorem dX15_keep_23 : decode cX15_keep 23 = .ok (.getfield 257, 3) := by decide +kernel
theorem dX15_keep_26 : decode cX15_keep 26 = .ok (.iload_n 2, 1) := by decide +kernel
theorem dX15_keep_27 : decode cX15_keep 27 = .ok (.new 255, 3) := by decide +kernel
theorem dX15_keep_30 : decode cX15_keep 30 = .ok (.dup, 1) := by decide +kernel
theorem dX15_keep_31 : decode cX15_keep 31 = .ok (.invokespecial 264, 3) := by decide +kernel
theorem dX15_keep_34 : decode cX15_keep 34 = .ok (.aastore, 1) := by decide +kernel
theorem dX15_keep_35 : decode cX15_keep 35 = .ok (.aload_n 0, 1) := by decide +kernel
theorem dX15_keep_36 : decode cX15_keep 36 = .ok (.getfield 257, 3) := by decide +kernel
theorem dX15_keep_39 : decode cX15_keep 39 = .ok (.iload_n 2, 1) := by decide +kernel
theorem dX15_keep_40 : decode cX15_keep 40 = .ok (.aaload, 1) := by decide +kernel
theorem dX15_keep_41 : decode cX15_keep 41 = .ok (.aload_n 1, 1) := by decide +kernel
theorem dX15_keep_42 : decode cX15_keep 42 = .ok (.invokevirtual 405, 3) := by decide +kernel
theorem dX15_keep_45 : decode cX15_keep 45 = .ok (.aload_n 0, 1) := by decide +kernel
theorem dX15_keep_46 : decode cX15_keep 46 = .ok (.dup, 1) := by decide +kernel
theorem dX15_keep_47 : decode cX15_keep 47 = .ok (.getfield 409, 3) := by decide +kernel
theorem dX15_keep_50 : decode cX15_keep 50 = .ok (.iconst 1, 1) := by decide +kernel
theorem dX15_keep_51 : decode cX15_keep 51 = .ok (.iadd, 1) := by decide +kernel
theorem dX15_keep_52 : decode cX15_keep 52 = .ok (.putfield 409, 3) := by decide +kernel
theorem dX15_keep_55 : decode cX15_keep 55 = .ok (.aload_n 0, 1) := by decide +kernel
theorem dX15_keep_56 : decode cX15_keep 56 = .ok (.getfield 261, 3) := by decide +kernel
theorem dX15_keep_59 : decode cX15_keep 59 = .ok (.iload_n 2, 1) := by decide +kernel
theorem dX15_keep_60 : decode cX15_keep 60 = .ok (.aload_n 0, 1) := by decide +kernel
theorem dX15_keep_61 : decode cX15_keep 61 = .ok (.getfield 409, 3) := by decide +kernel
theorem dX15_keep_64 : decode cX15_keep 64 = .ok (.iastore, 1) := by decide +kernel
theorem dX15_keep_65 : decode cX15_keep 65 = .ok (.iload_n 2, 1) := by decide +kernel
theorem dX15_keep_66 : decode cX15_keep 66 = .ok (.ireturn, 1) := by decide +kernel
set_option maxRecDepth 20000 in
theorem moX15_keep_45 {o : Int32 × Hp} {F : Nat} {h : Hp} {x0 : Nat} {x2 : Int32} (hE : sX15_keep_45 F h x0 x2 = some o) : Le h o.2 := by
  obtain ⟨h_1, eh_1, hE⟩ := nm_e2 hE
  refine (le_I eh_1).tr ?_
  obtain ⟨r_2, er_2, hE⟩ := cl_e hE
  obtain ⟨g_3, hE⟩ := gd_e hE
  obtain ⟨h_4, eh_4, hE⟩ := nm_e2 hE
  refine (le_I eh_4).tr ?_
  exact le_some2 hE
set_option maxRecDepth 20000 in
theorem moX15_keep_35 {o : Int32 × Hp} {F : Nat} {h : Hp} {x0 : Nat} {x1 : Nat} {x2 : Int32} (hE : sX15_keep_35 F h x0 x1 x2 = some o) : Le h o.2 := by
  obtain ⟨r_1, er_1, hE⟩ := cl_e hE
  obtain ⟨g_2, hE⟩ := gd_e hE
  obtain ⟨r_3, er_3, hE⟩ := cl_e hE
  obtain ⟨o_4, eo_4, hE⟩ := cl_e hE
  refine (moX12_copy eo_4).tr ?_
  exact moX15_keep_45 hE
set_option maxRecDepth 20000 in
theorem moX15_keep_34 {o : Int32 × Hp} {F : Nat} {h : Hp} {x0 : Nat} {x1 : Nat} {x2 : Int32} {t0 : Nat} {t1 : Int32} {t2 : Nat} (hE : sX15_keep_34 F h x0 x1 x2 t0 t1 t2 = some o) : Le h o.2 := by
  obtain ⟨g_1, hE⟩ := gd_e hE
  obtain ⟨h_2, eh_2, hE⟩ := nm_e2 hE
  refine (le_R eh_2).tr ?_
  exact moX15_keep_35 hE
set_option maxRecDepth 20000 in
theorem moX15_keep_30 {o : Int32 × Hp} {F : Nat} {h : Hp} {x0 : Nat} {x1 : Nat} {x2 : Int32} {t0 : Nat} {t1 : Int32} {t2 : Nat} (hE : sX15_keep_30 F h x0 x1 x2 t0 t1 t2 = some o) : Le h o.2 := by
  obtain ⟨o_1, eo_1, hE⟩ := cl_e hE
  refine (moX12_init eo_1).tr ?_
  exact moX15_keep_34 hE
set_option maxRecDepth 20000 in
theorem moX15_keep_4 {o : Int32 × Hp} {F : Nat} {h : Hp} {x0 : Nat} {x1 : Nat} {t0 : Int32} (hE : sX15_keep_4 F h x0 x1 t0 = some o) : Le h o.2 := by
  rcases br_e hE with ⟨_, hE⟩ | ⟨_, hE⟩
  · exact le_some2 hE
  · obtain ⟨r_2, er_2, hE⟩ := cl_e hE
    obtain ⟨g_3, hE⟩ := gd_e hE
    rcases onr_e hE with hE | ⟨r_4, hE⟩
    · obtain ⟨r_6, er_6, hE⟩ := cl_e hE
      obtain ⟨a_7, ea_7, hE⟩ := nm_e2 hE
      obtain ⟨h_8, eh_8, hE⟩ := nm_e2 hE
      refine (le_C eh_8).tr ?_
      exact moX15_keep_30 hE
    · exact moX15_keep_35 hE
set_option maxRecDepth 20000 in
theorem moX15_keep {o : Int32 × Hp} {F : Nat} {h : Hp} {x0 : Nat} {x1 : Nat} (hE : sX15_keep F h x0 x1 = some o) : Le h o.2 := by
  obtain ⟨o_1, eo_1, hE⟩ := cl_e hE
  refine (moX15_freePlace eo_1).tr ?_
  exact moX15_keep_4 hE
set_option maxRecDepth 20000 in
theorem bX15_keep_45 {p : Program} {l : Launch} {e : Env} {s : State} {m : MethodId} {args : Array Value} {below : List Frame} {meth : Method} {c : Code} {X : Ec} {h0 : Hp} {o : Int32 × Hp} {F : Nat} (C : Cx X p s m args meth c RX15 cX15_keep 3 (some .int) "keep") {h : Hp} {x0 : Nat} {x2 : Int32} {H : Heap} {locs : List Loc} (k_x0 : hK h x0 = 15) (hkl : Kl h0 h) (hW : Wx X h H) (hZ : va_S (aA (eB X)) s.heap H locs) (ls : Array Slot) (hl : lv_has ls 3 [(0, .ref x0), (2, .int x2)]) (hE : sX15_keep_45 F h x0 x2 = some o) : W p l e (rmA 2 85 h0 o.2) s m args below meth c H locs (hS h - hS h0) (hL h - hL h0) (MQ below (QIA X h0 o.1 o.2) args s (hS o.2 - hS h0) (hL o.2 - hL h0) (aA (eB X))) (F0 m 45 ls []) := by
  refine lv_aload_n C.1 C.2.1 dX15_keep_45 rfl (lv_at hl 0 rfl) ?_
  refine lv_dup C.1 C.2.1 dX15_keep_46 rfl ?_
  refine gf_X15_409 C hW k_x0 dX15_keep_47 ?_
  refine lv_iconst (v := (1 : Int32)) C.1 C.2.1 dX15_keep_50 (by decide) ?_
  refine lv_iadd C.1 C.2.1 dX15_keep_51 ?_
  obtain ⟨h_1, eh_1, hE⟩ := nm_e2 hE
  refine pf_X15_409 C hW hZ k_x0 eh_1 dX15_keep_52 (fun _ _ hW km hZ => ?_)
  replace hkl := hkl.tr km.l
  refine x_wc km ?_
  replace k_x0 := km.at k_x0 (by decide)
  refine lv_aload_n C.1 C.2.1 dX15_keep_55 rfl (lv_at hl 0 rfl) ?_
  obtain ⟨r_2, er_2, hE⟩ := cl_e hE
  refine gf_X15_261 C hW k_x0 er_2 dX15_keep_56 (fun k_r_2 => ?_)
  refine lv_iload_n C.1 C.2.1 dX15_keep_59 rfl (lv_at hl 1 rfl) ?_
  refine lv_aload_n C.1 C.2.1 dX15_keep_60 rfl (lv_at hl 0 rfl) ?_
  refine gf_X15_409 C hW k_x0 dX15_keep_61 ?_
  obtain ⟨g_3, hE⟩ := gd_e hE
  obtain ⟨h_4, eh_4, hE⟩ := nm_e2 hE
  refine y_iast C hW hZ k_r_2 g_3 eh_4 dX15_keep_64 (fun _ _ hW km hZ => ?_)
  replace hkl := hkl.tr km.l
  refine x_wc km ?_
  replace k_x0 := km.at k_x0 (by decide)
  refine lv_iload_n C.1 C.2.1 dX15_keep_65 rfl (lv_at hl 1 rfl) ?_
  exact x_iretA C rfl rfl hW hZ hkl hE dX15_keep_66
set_option maxRecDepth 20000 in
theorem bX15_keep_35 {p : Program} {l : Launch} {e : Env} {s : State} {m : MethodId} {args : Array Value} {below : List Frame} {meth : Method} {c : Code} {X : Ec} {h0 : Hp} {o : Int32 × Hp} {F : Nat} (C : Cx X p s m args meth c RX15 cX15_keep 3 (some .int) "keep") {h : Hp} {x0 : Nat} {x1 : Nat} {x2 : Int32} {H : Heap} {locs : List Loc} (k_x0 : hK h x0 = 15) (k_x1 : hK h x1 = 12) (hkl : Kl h0 h) (hW : Wx X h H) (hZ : va_S (aA (eB X)) s.heap H locs) (ls : Array Slot) (hl : lv_has ls 3 [(0, .ref x0), (1, .ref x1), (2, .int x2)]) (hE : sX15_keep_35 F h x0 x1 x2 = some o) : W p l e (rmA 2 85 h0 o.2) s m args below meth c H locs (hS h - hS h0) (hL h - hL h0) (MQ below (QIA X h0 o.1 o.2) args s (hS o.2 - hS h0) (hL o.2 - hL h0) (aA (eB X))) (F0 m 35 ls []) := by
  refine lv_aload_n C.1 C.2.1 dX15_keep_35 rfl (lv_at hl 0 rfl) ?_
  obtain ⟨r_1, er_1, hE⟩ := cl_e hE
  refine gf_X15_257 C hW k_x0 er_1 dX15_keep_36 (fun k_r_1 => ?_)
  refine lv_iload_n C.1 C.2.1 dX15_keep_39 rfl (lv_at hl 2 rfl) ?_
  obtain ⟨g_2, hE⟩ := gd_e hE
  obtain ⟨r_3, er_3, hE⟩ := cl_e hE
  refine y_aald (t0 := 5) C hW k_r_1 (by decide) (by decide) rfl rfl rfl (fun _ => rfl) g_2 er_3 dX15_keep_40 (fun k_r_3 => ?_)
  refine lv_aload_n C.1 C.2.1 dX15_keep_41 rfl (lv_at hl 1 rfl) ?_
  obtain ⟨o_4, eo_4, hE⟩ := cl_e hE
  have m1 := moX12_copy eo_4
  have m2 := moX15_keep_45 hE
  refine x_kV (o := o_4) (z_runV (As := [.ref x1]) (rest := []) C (ct_X12_copy l X k_r_3 k_x1 eo_4) cw_X15_405 hW hZ k_r_3 (by decide) rfl rfl rfl hl.1 (Nat.le_of_ble_eq_true rfl) rfl dX15_keep_42 ⟨Nat.le_of_ble_eq_true rfl, Nat.le_of_ble_eq_true rfl⟩ (rm_ok0 hkl m1 m2)) hZ (fun _ _ hW km hZ => ?_)
  replace hkl := hkl.tr km.l
  refine x_wc km ?_
  replace k_x0 := km.at k_x0 (by decide)
  replace k_x1 := km.at k_x1 (by decide)
  exact bX15_keep_45 C k_x0 hkl hW hZ _ (lv_sub hl [0, 2] rfl) hE
set_option maxRecDepth 20000 in
theorem bX15_keep_34 {p : Program} {l : Launch} {e : Env} {s : State} {m : MethodId} {args : Array Value} {below : List Frame} {meth : Method} {c : Code} {X : Ec} {h0 : Hp} {o : Int32 × Hp} {F : Nat} (C : Cx X p s m args meth c RX15 cX15_keep 3 (some .int) "keep") {h : Hp} {x0 : Nat} {x1 : Nat} {x2 : Int32} {t0 : Nat} {t1 : Int32} {t2 : Nat} {H : Heap} {locs : List Loc} (k_x0 : hK h x0 = 15) (k_x1 : hK h x1 = 12) (k_t0 : hK h t0 = 12) (k_t2 : hK h t2 = 21) (hkl : Kl h0 h) (hW : Wx X h H) (hZ : va_S (aA (eB X)) s.heap H locs) (ls : Array Slot) (hl : lv_has ls 3 [(0, .ref x0), (1, .ref x1), (2, .int x2)]) (hE : sX15_keep_34 F h x0 x1 x2 t0 t1 t2 = some o) : W p l e (rmA 2 85 h0 o.2) s m args below meth c H locs (hS h - hS h0) (hL h - hL h0) (MQ below (QIA X h0 o.1 o.2) args s (hS o.2 - hS h0) (hL o.2 - hL h0) (aA (eB X))) (F0 m 34 ls [.ref t0, .int t1, .ref t2]) := by
  obtain ⟨g_1, hE⟩ := gd_e hE
  obtain ⟨h_2, eh_2, hE⟩ := nm_e2 hE
  refine y_aast (t0 := 5) C hW hZ k_t2 (by decide) (by decide) rfl k_t0 (by decide) rfl (fun _ => rfl) g_1 eh_2 dX15_keep_34 (fun _ _ hW km hZ => ?_)
  replace hkl := hkl.tr km.l
  refine x_wc km ?_
  replace k_x0 := km.at k_x0 (by decide)
  replace k_x1 := km.at k_x1 (by decide)
  exact bX15_keep_35 C k_x0 k_x1 hkl hW hZ _ (lv_sub hl [0, 1, 2] rfl) hE
set_option maxRecDepth 20000 in
theorem bX15_keep_30 {p : Program} {l : Launch} {e : Env} {s : State} {m : MethodId} {args : Array Value} {below : List Frame} {meth : Method} {c : Code} {X : Ec} {h0 : Hp} {o : Int32 × Hp} {F : Nat} (C : Cx X p s m args meth c RX15 cX15_keep 3 (some .int) "keep") {h : Hp} {x0 : Nat} {x1 : Nat} {x2 : Int32} {t0 : Nat} {t1 : Int32} {t2 : Nat} {H : Heap} {locs : List Loc} (k_x0 : hK h x0 = 15) (k_x1 : hK h x1 = 12) (k_t0 : hK h t0 = 12) (k_t2 : hK h t2 = 21) (hkl : Kl h0 h) (hW : Wx X h H) (hZ : va_S (aA (eB X)) s.heap H locs) (ls : Array Slot) (hl : lv_has ls 3 [(0, .ref x0), (1, .ref x1), (2, .int x2)]) (hE : sX15_keep_30 F h x0 x1 x2 t0 t1 t2 = some o) : W p l e (rmA 2 85 h0 o.2) s m args below meth c H locs (hS h - hS h0) (hL h - hL h0) (MQ below (QIA X h0 o.1 o.2) args s (hS o.2 - hS h0) (hL o.2 - hL h0) (aA (eB X))) (F0 m 30 ls [.ref t0, .int t1, .ref t2]) := by
  refine lv_dup C.1 C.2.1 dX15_keep_30 rfl ?_
  obtain ⟨o_1, eo_1, hE⟩ := cl_e hE
  have m1 := moX12_init eo_1
  have m2 := moX15_keep_34 hE
  refine x_kVA (o := o_1) hkl (z_runIN (As := []) (rest := [.ref t0, .int t1, .ref t2]) C (ct_X12_init l X k_t0 eo_1) cj_X15_264 hW hZ rfl hl.1 (Nat.le_of_ble_eq_true rfl) rfl dX15_keep_31 ⟨Nat.le_of_ble_eq_true rfl, Nat.le_of_ble_eq_true rfl⟩ (rm_ok hkl m1 m2)) hZ (fun _ _ hW km hZ => ?_)
  replace hkl := hkl.tr km
  replace k_x0 := km.at k_x0 (by decide)
  replace k_x1 := km.at k_x1 (by decide)
  replace k_t0 := km.at k_t0 (by decide)
  replace k_t2 := km.at k_t2 (by decide)
  exact bX15_keep_34 C k_x0 k_x1 k_t0 k_t2 hkl hW hZ _ (lv_sub hl [0, 1, 2] rfl) hE
set_option maxRecDepth 20000 in
theorem bX15_keep_4 {p : Program} {l : Launch} {e : Env} {s : State} {m : MethodId} {args : Array Value} {below : List Frame} {meth : Method} {c : Code} {X : Ec} {h0 : Hp} {o : Int32 × Hp} {F : Nat} (C : Cx X p s m args meth c RX15 cX15_keep 3 (some .int) "keep") {h : Hp} {x0 : Nat} {x1 : Nat} {t0 : Int32} {H : Heap} {locs : List Loc} (k_x0 : hK h x0 = 15) (k_x1 : hK h x1 = 12) (hkl : Kl h0 h) (hW : Wx X h H) (hZ : va_S (aA (eB X)) s.heap H locs) (ls : Array Slot) (hl : lv_has ls 3 [(0, .ref x0), (1, .ref x1)]) (hE : sX15_keep_4 F h x0 x1 t0 = some o) : W p l e (rmA 2 85 h0 o.2) s m args below meth c H locs (hS h - hS h0) (hL h - hL h0) (MQ below (QIA X h0 o.1 o.2) args s (hS o.2 - hS h0) (hL o.2 - hL h0) (aA (eB X))) (F0 m 4 ls [.int t0]) := by
  refine lv_istore_n (lv' := [(2, .int t0), (0, .ref x0), (1, .ref x1)]) C.1 C.2.1 dX15_keep_4 rfl hl (by decide) rfl (fun ls hl => ?_)
  refine lv_iload_n C.1 C.2.1 dX15_keep_5 rfl (lv_at hl 0 rfl) ?_
  refine lv_iconst (v := (-1 : Int32)) C.1 C.2.1 dX15_keep_6 (by decide) ?_
  refine lv_icmp_ne (tgt := 13) C.1 C.2.1 dX15_keep_7 (by decide) (fun c_1 => ?_) (fun c_1 => ?_)
  · have hE := br_n hE c_1
    refine lv_aload_n C.1 C.2.1 dX15_keep_13 rfl (lv_at hl 1 rfl) ?_
    obtain ⟨r_2, er_2, hE⟩ := cl_e hE
    refine gf_X15_257 C hW k_x0 er_2 dX15_keep_14 (fun k_r_2 => ?_)
    refine lv_iload_n C.1 C.2.1 dX15_keep_17 rfl (lv_at hl 0 rfl) ?_
    obtain ⟨g_3, hE⟩ := gd_e hE
    rcases e_5 : hR h r_2 t0.toNatClampNeg with _ | r_4
    · have hE := onr_n hE e_5
      refine y_aald0 (t0 := 5) C hW k_r_2 (by decide) (by decide) rfl rfl g_3 e_5 dX15_keep_18 ?_
      refine lv_ifnonnullN C.1 C.2.1 dX15_keep_19 ?_
      refine lv_aload_n C.1 C.2.1 dX15_keep_22 rfl (lv_at hl 1 rfl) ?_
      obtain ⟨r_6, er_6, hE⟩ := cl_e hE
      refine gf_X15_257 C hW k_x0 er_6 dX15_keep_23 (fun k_r_6 => ?_)
      refine lv_iload_n C.1 C.2.1 dX15_keep_26 rfl (lv_at hl 0 rfl) ?_
      obtain ⟨a_7, ea_7, hE⟩ := nm_e2 hE
      obtain ⟨h_8, eh_8, hE⟩ := nm_e2 hE
      refine y_new C hW hZ hkl (moX15_keep_30 hE) ⟨rfl, rfl⟩ i_X12 tyX12 tyX12_ok (by decide) rfl rfl dv_X12 m_1901 m_1903 m_21 eh_8 dX15_keep_27 (fun _ hW km k_a_7 hZ => ?_)
      replace hkl := hkl.tr km
      refine x_nmA ea_7 ?_
      rw [← ea_7] at k_a_7
      replace k_x0 := km.at k_x0 (by decide)
      replace k_x1 := km.at k_x1 (by decide)
      replace k_r_6 := km.at k_r_6 (by decide)
      exact bX15_keep_30 C k_x0 k_x1 k_a_7 k_r_6 hkl hW hZ _ (lv_sub hl [1, 2, 0] rfl) hE
    · have hE := onr_s hE e_5
      refine y_aald (t0 := 5) C hW k_r_2 (by decide) (by decide) rfl rfl rfl (fun _ => rfl) g_3 e_5 dX15_keep_18 (fun k_r_4 => ?_)
      refine lv_ifnonnull (tgt := 35) C.1 C.2.1 dX15_keep_19 (by decide) ?_
      exact bX15_keep_35 C k_x0 k_x1 hkl hW hZ _ (lv_sub hl [1, 2, 0] rfl) hE
  · have hE := br_p hE c_1
    refine lv_bipush (v := (-104 : Int32)) C.1 C.2.1 dX15_keep_10 (by decide) ?_
    exact x_iretA C rfl rfl hW hZ hkl hE dX15_keep_12
set_option maxRecDepth 20000 in
theorem ct_X15_keep (l : Launch) (X : Ec) (F : Nat) {h : Hp} {x0 : Nat} {x1 : Nat} {o : Int32 × Hp} (k_x0 : hK h x0 = 15) (k_x1 : hK h x1 = 12) (hE : sX15_keep F h x0 x1 = some o) : MetIA l yX15_keep cX15_keep 3 (some .int) 2 85 X [.ref x0, .ref x1] h o := by
  refine x_metA (oh := o.2) (by decide) (Nat.le_of_ble_eq_true rfl) ?_
  intro p e s m below meth c ls C hl hW hZ
  have hl : lv_has ls 3 [(0, .ref x0), (1, .ref x1)] := hl
  have hkl : Kl h h := Kl.rf h
  refine lv_aload_n C.1 C.2.1 dX15_keep_0 rfl (lv_at hl 0 rfl) ?_
  obtain ⟨o_1, eo_1, hE⟩ := cl_e hE
  have m1 := moX15_freePlace eo_1
  have m2 := moX15_keep_4 hE
  refine x_kI (o := o_1) (z_runV (As := []) (rest := []) C (ct_X15_freePlace l X F k_x0 eo_1) cw_X15_402 hW hZ k_x0 (by decide) rfl rfl rfl hl.1 (Nat.le_of_ble_eq_true rfl) rfl dX15_keep_1 ⟨Nat.le_of_ble_eq_true rfl, Nat.le_of_ble_eq_true rfl⟩ (rm_ok0 hkl m1 m2)) hZ (fun _ _ hW km hZ => ?_)
  replace hkl := hkl.tr km.l
  refine x_wc km ?_
  replace k_x0 := km.at k_x0 (by decide)
  replace k_x1 := km.at k_x1 (by decide)
  exact bX15_keep_4 C k_x0 k_x1 hkl hW hZ _ (lv_sub hl [0, 1] rfl) hE
