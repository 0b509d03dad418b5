theorem dX15_isRoom_0 : decode cX15_isRoom 0 = .ok (.iconst 1, 1) := by decide +kernel
theorem dX15_isRoom_1 : decode cX15_isRoom 1 = .ok (.istore 4, 2) := by decide +kernel
theorem dX15_isRoom_3 : decode cX15_isRoom 3 = .ok (.iload 4, 2) := by decide +kernel
theorem dX15_isRoom_5 : decode cX15_isRoom 5 = .ok (.iload_n 2, 1) := by decide +kernel
theorem dX15_isRoom_6 : decode cX15_isRoom 6 = .ok (.if_icmp .gt 34, 3) := by decide +kernel
theorem dX15_isRoom_9 : decode cX15_isRoom 9 = .ok (.aload_n 0, 1) := by decide +kernel
theorem dX15_isRoom_10 : decode cX15_isRoom 10 = .ok (.iconst 0, 1) := by decide +kernel
theorem dX15_isRoom_11 : decode cX15_isRoom 11 = .ok (.invokevirtual 671, 3) := by decide +kernel
theorem dX15_isRoom_14 : decode cX15_isRoom 14 = .ok (.aload_n 1, 1) := by decide +kernel
theorem dX15_isRoom_15 : decode cX15_isRoom 15 = .ok (.invokevirtual 405, 3) := by decide +kernel
theorem dX15_isRoom_18 : decode cX15_isRoom 18 = .ok (.aload_n 0, 1) := by decide +kernel
theorem dX15_isRoom_19 : decode cX15_isRoom 19 = .ok (.iconst 0, 1) := by decide +kernel
theorem dX15_isRoom_20 : decode cX15_isRoom 20 = .ok (.iload 4, 2) := by decide +kernel
theorem dX15_isRoom_22 : decode cX15_isRoom 22 = .ok (.iload_n 3, 1) := by decide +kernel
theorem dX15_isRoom_23 : decode cX15_isRoom 23 = .ok (.invokevirtual 679, 3) := by decide +kernel
theorem dX15_isRoom_26 : decode cX15_isRoom 26 = .ok (.ldc_w 675, 3) := by decide +kernel
theorem dX15_isRoom_29 : decode cX15_isRoom 29 = .ok (.if_icmp .le 5, 3) := by decide +kernel
theorem dX15_isRoom_32 : decode cX15_isRoom 32 = .ok (.iconst 0, 1) := by decide +kernel
theorem dX15_isRoom_33 : decode cX15_isRoom 33 = .ok (.ireturn, 1) := by decide +kernel
theorem dX15_isRoom_34 : decode cX15_isRoom 34 = .ok (.iinc 4 1, 3) := by decide +kernel
theorem dX15_isRoom_37 : decode cX15_isRoom 37 = .ok (.goto (-34), 3) := by decide +kernel
theorem dX15_isRoom_40 : decode cX15_isRoom 40 = .ok (.iconst 1, 1) := by decide +kernel
theorem dX15_isRoom_41 : decode cX15_isRoom 41 = .ok (.ireturn, 1) := by decide +kernel
set_option maxRecDepth 20000 in
theorem moX15_isRoom_26 {o : Int32 × Hp} {k_3 : Hp → Nat → Nat → Int32 → Int32 → Int32 → Option (Int32 × Hp)} {F : Nat} (mk_3 : ∀ (h : Hp) (x0 : Nat) (x1 : Nat) (x2 : Int32) (x3 : Int32) (x4 : Int32), k_3 h x0 x1 x2 x3 x4 = some o → Le h o.2) {h : Hp} {x0 : Nat} {x1 : Nat} {x2 : Int32} {x3 : Int32} {x4 : Int32} {t0 : Int32} (hE : sX15_isRoom_26 F k_3 h x0 x1 x2 x3 x4 t0 = some o) : Le h o.2 := by
  rcases br_e hE with ⟨_, hE⟩ | ⟨_, hE⟩
  · obtain ⟨v_2, ev_2, hE⟩ := nm_e2 hE
    exact mk_3 _ _ _ _ _ _ hE
  · exact le_some2 hE
set_option maxRecDepth 20000 in
theorem moX15_isRoom_18 {o : Int32 × Hp} {k_3 : Hp → Nat → Nat → Int32 → Int32 → Int32 → Option (Int32 × Hp)} {F : Nat} (mk_3 : ∀ (h : Hp) (x0 : Nat) (x1 : Nat) (x2 : Int32) (x3 : Int32) (x4 : Int32), k_3 h x0 x1 x2 x3 x4 = some o → Le h o.2) {h : Hp} {x0 : Nat} {x1 : Nat} {x2 : Int32} {x3 : Int32} {x4 : Int32} (hE : sX15_isRoom_18 F k_3 h x0 x1 x2 x3 x4 = some o) : Le h o.2 := by
  obtain ⟨o_1, eo_1, hE⟩ := cl_e hE
  refine (moX15_countRows eo_1).tr ?_
  exact moX15_isRoom_26 mk_3 hE
set_option maxRecDepth 20000 in
theorem moX15_isRoom_14 {o : Int32 × Hp} {k_3 : Hp → Nat → Nat → Int32 → Int32 → Int32 → Option (Int32 × Hp)} {F : Nat} (mk_3 : ∀ (h : Hp) (x0 : Nat) (x1 : Nat) (x2 : Int32) (x3 : Int32) (x4 : Int32), k_3 h x0 x1 x2 x3 x4 = some o → Le h o.2) {h : Hp} {x0 : Nat} {x1 : Nat} {x2 : Int32} {x3 : Int32} {x4 : Int32} {t0 : Nat} (hE : sX15_isRoom_14 F k_3 h x0 x1 x2 x3 x4 t0 = some o) : Le h o.2 := by
  obtain ⟨o_1, eo_1, hE⟩ := cl_e hE
  refine (moX12_copy eo_1).tr ?_
  exact moX15_isRoom_18 mk_3 hE
set_option maxRecDepth 20000 in
theorem moX15_isRoom_3 {o : Int32 × Hp} {F : Nat} : ∀ (f : Nat) {h : Hp} {x0 : Nat} {x1 : Nat} {x2 : Int32} {x3 : Int32} {x4 : Int32}, sX15_isRoom_3 F f h x0 x1 x2 x3 x4 = some o → Le h o.2 := by
  intro f
  induction f with
  | zero =>
    intro h x0 x1 x2 x3 x4 hE
    rw [sX15_isRoom_3] at hE
    cases hE
  | succ f ih =>
    intro h x0 x1 x2 x3 x4 hE
    rw [sX15_isRoom_3] at hE
    have mk_3 : ∀ (h : Hp) (x0 : Nat) (x1 : Nat) (x2 : Int32) (x3 : Int32) (x4 : Int32), sX15_isRoom_3 F f h x0 x1 x2 x3 x4 = some o → Le h o.2 := fun h x0 x1 x2 x3 x4 hE => ih hE
    rcases br_e hE with ⟨_, hE⟩ | ⟨_, hE⟩
    · exact le_some2 hE
    · obtain ⟨o_2, eo_2, hE⟩ := cl_e hE
      refine (moX15_deepBoard eo_2).tr ?_
      exact moX15_isRoom_14 mk_3 hE
set_option maxRecDepth 20000 in
theorem moX15_isRoom {o : Int32 × Hp} {F : Nat} {h : Hp} {x0 : Nat} {x1 : Nat} {x2 : Int32} {x3 : Int32} (hE : sX15_isRoom F h x0 x1 x2 x3 = some o) : Le h o.2 := by
  exact moX15_isRoom_3 _ hE
set_option maxRecDepth 20000 in
theorem bX15_isRoom_26 {p : Program} {l : Launch} {e : Env} {s : State} {m : MethodId} {args : Array Value} {below : List Frame} {meth : Method} {c : Code} {X : Ec} {h0 : Hp} {o : Int32 × Hp} {k_3 : Hp → Nat → Nat → Int32 → Int32 → Int32 → Option (Int32 × Hp)} {F : Nat} (C : Cx X p s m args meth c RX15 cX15_isRoom 5 (some .boolean) "isRoom") (hk_3 : ∀ (h : Hp) (x0 : Nat) (x1 : Nat) (x2 : Int32) (x3 : Int32) (x4 : Int32) (H : Heap) (locs : List Loc), hK h x0 = 15 → hK h x1 = 12 → Kl h0 h → Wx X h H → va_S (aA (eB X)) s.heap H locs → ∀ (ls : Array Slot), lv_has ls 5 [(0, .ref x0), (1, .ref x1), (2, .int x2), (3, .int x3), (4, .int x4)] → k_3 h x0 x1 x2 x3 x4 = some o → W p l e (rmA 50 1321 h0 o.2) s m args below meth c H locs (hS h - hS h0) (hL h - hL h0) (MQ below (QIA X h0 o.1 o.2) args s (hS o.2 - hS h0) (hL o.2 - hL h0) (aA (eB X))) (F0 m 3 ls [])) (mk_3 : ∀ (h : Hp) (x0 : Nat) (x1 : Nat) (x2 : Int32) (x3 : Int32) (x4 : Int32), k_3 h x0 x1 x2 x3 x4 = some o → Le h o.2) {h : Hp} {x0 : Nat} {x1 : Nat} {x2 : Int32} {x3 : Int32} {x4 : Int32} {t0 : Int32} {H : Heap} {locs : List Loc} (k_x0 : hK h x0 = 15) (k_x1 : hK h x1 = 12) (hkl : Kl h0 h) (hW : Wx X h H) (hZ : va_S (aA (eB X)) s.heap H locs) (ls : Array Slot) (hl : lv_has ls 5 [(0, .ref x0), (1, .ref x1), (2, .int x2), (3, .int x3), (4, .int x4)]) (hE : sX15_isRoom_26 F k_3 h x0 x1 x2 x3 x4 t0 = some o) : W p l e (rmA 50 1321 h0 o.2) s m args below meth c H locs (hS h - hS h0) (hL h - hL h0) (MQ below (QIA X h0 o.1 o.2) args s (hS o.2 - hS h0) (hL o.2 - hL h0) (aA (eB X))) (F0 m 26 ls [.int t0]) := by
  refine lv_ldcw (v := (100000 : Int32)) C.1 C.2.1 C.2.2.2.1 (C.2.2.2.2.1 _ m_2626) dX15_isRoom_26 ?_
  refine lv_icmp_le (tgt := 34) C.1 C.2.1 dX15_isRoom_29 (by decide) (fun c_1 => ?_) (fun c_1 => ?_)
  · have hE := br_p hE c_1
    obtain ⟨v_2, ev_2, hE⟩ := nm_e2 hE
    refine lv_iinc (v := v_2) (lv' := [(4, .int v_2), (0, .ref x0), (1, .ref x1), (2, .int x2), (3, .int x3)]) C.1 C.2.1 dX15_isRoom_34 hl (k := 4) rfl (by rw [ev_2]; rfl) (by decide) rfl (fun ls hl => ?_)
    refine lv_goto (tgt := 3) C.1 C.2.1 dX15_isRoom_37 (by decide) ?_
    exact hk_3 _ _ _ _ _ _ _ _ k_x0 k_x1 hkl hW hZ _ (lv_sub hl [1, 2, 3, 4, 0] rfl) hE
  · have hE := br_n hE c_1
    refine lv_iconst (v := (0 : Int32)) C.1 C.2.1 dX15_isRoom_32 (by decide) ?_
    exact x_iretA C rfl (by decide) hW hZ hkl hE dX15_isRoom_33
set_option maxRecDepth 20000 in
theorem bX15_isRoom_18 {p : Program} {l : Launch} {e : Env} {s : State} {m : MethodId} {args : Array Value} {below : List Frame} {meth : Method} {c : Code} {X : Ec} {h0 : Hp} {o : Int32 × Hp} {k_3 : Hp → Nat → Nat → Int32 → Int32 → Int32 → Option (Int32 × Hp)} {F : Nat} (C : Cx X p s m args meth c RX15 cX15_isRoom 5 (some .boolean) "isRoom") (hk_3 : ∀ (h : Hp) (x0 : Nat) (x1 : Nat) (x2 : Int32) (x3 : Int32) (x4 : Int32) (H : Heap) (locs : List Loc), hK h x0 = 15 → hK h x1 = 12 → Kl h0 h → Wx X h H → va_S (aA (eB X)) s.heap H locs → ∀ (ls : Array Slot), lv_has ls 5 [(0, .ref x0), (1, .ref x1), (2, .int x2), (3, .int x3), (4, .int x4)] → k_3 h x0 x1 x2 x3 x4 = some o → W p l e (rmA 50 1321 h0 o.2) s m args below meth c H locs (hS h - hS h0) (hL h - hL h0) (MQ below (QIA X h0 o.1 o.2) args s (hS o.2 - hS h0) (hL o.2 - hL h0) (aA (eB X))) (F0 m 3 ls [])) (mk_3 : ∀ (h : Hp) (x0 : Nat) (x1 : Nat) (x2 : Int32) (x3 : Int32) (x4 : Int32), k_3 h x0 x1 x2 x3 x4 = some o → Le h o.2) {h : Hp} {x0 : Nat} {x1 : Nat} {x2 : Int32} {x3 : Int32} {x4 : Int32} {H : Heap} {locs : List Loc} (k_x0 : hK h x0 = 15) (k_x1 : hK h x1 = 12) (hkl : Kl h0 h) (hW : Wx X h H) (hZ : va_S (aA (eB X)) s.heap H locs) (ls : Array Slot) (hl : lv_has ls 5 [(0, .ref x0), (1, .ref x1), (2, .int x2), (3, .int x3), (4, .int x4)]) (hE : sX15_isRoom_18 F k_3 h x0 x1 x2 x3 x4 = some o) : W p l e (rmA 50 1321 h0 o.2) s m args below meth c H locs (hS h - hS h0) (hL h - hL h0) (MQ below (QIA X h0 o.1 o.2) args s (hS o.2 - hS h0) (hL o.2 - hL h0) (aA (eB X))) (F0 m 18 ls []) := by
  refine lv_aload_n C.1 C.2.1 dX15_isRoom_18 rfl (lv_at hl 0 rfl) ?_
  refine lv_iconst (v := (0 : Int32)) C.1 C.2.1 dX15_isRoom_19 (by decide) ?_
  refine lv_iload C.1 C.2.1 dX15_isRoom_20 (lv_at hl 4 rfl) ?_
  refine lv_iload_n C.1 C.2.1 dX15_isRoom_22 rfl (lv_at hl 3 rfl) ?_
  obtain ⟨o_1, eo_1, hE⟩ := cl_e hE
  have m1 := moX15_countRows eo_1
  have m2 := moX15_isRoom_26 mk_3 hE
  refine x_kIA (o := o_1) hkl (z_runV (As := [.int (0 : Int32), .int x4, .int x3]) (rest := []) C (ct_X15_countRows l X F k_x0 eo_1) cw_X15_679 hW hZ k_x0 (by decide) rfl rfl rfl hl.1 (Nat.le_of_ble_eq_true rfl) rfl dX15_isRoom_23 ⟨Nat.le_of_ble_eq_true rfl, Nat.le_of_ble_eq_true rfl⟩ (rm_ok hkl m1 m2)) hZ (fun _ _ hW km hZ => ?_)
  replace hkl := hkl.tr km
  replace k_x0 := km.at k_x0 (by decide)
  replace k_x1 := km.at k_x1 (by decide)
  exact bX15_isRoom_26 C hk_3 mk_3 k_x0 k_x1 hkl hW hZ _ (lv_sub hl [0, 1, 2, 3, 4] rfl) hE
set_option maxRecDepth 20000 in
theorem bX15_isRoom_14 {p : Program} {l : Launch} {e : Env} {s : State} {m : MethodId} {args : Array Value} {below : List Frame} {meth : Method} {c : Code} {X : Ec} {h0 : Hp} {o : Int32 × Hp} {k_3 : Hp → Nat → Nat → Int32 → Int32 → Int32 → Option (Int32 × Hp)} {F : Nat} (C : Cx X p s m args meth c RX15 cX15_isRoom 5 (some .boolean) "isRoom") (hk_3 : ∀ (h : Hp) (x0 : Nat) (x1 : Nat) (x2 : Int32) (x3 : Int32) (x4 : Int32) (H : Heap) (locs : List Loc), hK h x0 = 15 → hK h x1 = 12 → Kl h0 h → Wx X h H → va_S (aA (eB X)) s.heap H locs → ∀ (ls : Array Slot), lv_has ls 5 [(0, .ref x0), (1, .ref x1), (2, .int x2), (3, .int x3), (4, .int x4)] → k_3 h x0 x1 x2 x3 x4 = some o → W p l e (rmA 50 1321 h0 o.2) s m args below meth c H locs (hS h - hS h0) (hL h - hL h0) (MQ below (QIA X h0 o.1 o.2) args s (hS o.2 - hS h0) (hL o.2 - hL h0) (aA (eB X))) (F0 m 3 ls [])) (mk_3 : ∀ (h : Hp) (x0 : Nat) (x1 : Nat) (x2 : Int32) (x3 : Int32) (x4 : Int32), k_3 h x0 x1 x2 x3 x4 = some o → Le h o.2) {h : Hp} {x0 : Nat} {x1 : Nat} {x2 : Int32} {x3 : Int32} {x4 : Int32} {t0 : Nat} {H : Heap} {locs : List Loc} (k_x0 : hK h x0 = 15) (k_x1 : hK h x1 = 12) (k_t0 : hK h t0 = 12) (hkl : Kl h0 h) (hW : Wx X h H) (hZ : va_S (aA (eB X)) s.heap H locs) (ls : Array Slot) (hl : lv_has ls 5 [(0, .ref x0), (1, .ref x1), (2, .int x2), (3, .int x3), (4, .int x4)]) (hE : sX15_isRoom_14 F k_3 h x0 x1 x2 x3 x4 t0 = some o) : W p l e (rmA 50 1321 h0 o.2) s m args below meth c H locs (hS h - hS h0) (hL h - hL h0) (MQ below (QIA X h0 o.1 o.2) args s (hS o.2 - hS h0) (hL o.2 - hL h0) (aA (eB X))) (F0 m 14 ls [.ref t0]) := by
  refine lv_aload_n C.1 C.2.1 dX15_isRoom_14 rfl (lv_at hl 1 rfl) ?_
  obtain ⟨o_1, eo_1, hE⟩ := cl_e hE
  have m1 := moX12_copy eo_1
  have m2 := moX15_isRoom_18 mk_3 hE
  refine x_kV (o := o_1) (z_runV (As := [.ref x1]) (rest := []) C (ct_X12_copy l X k_t0 k_x1 eo_1) cw_X15_405 hW hZ k_t0 (by decide) rfl rfl rfl hl.1 (Nat.le_of_ble_eq_true rfl) rfl dX15_isRoom_15 ⟨Nat.le_of_ble_eq_true rfl, Nat.le_of_ble_eq_true rfl⟩ (rm_ok0 hkl m1 m2)) hZ (fun _ _ hW km hZ => ?_)
  replace hkl := hkl.tr km.l
  refine x_wc km ?_
  replace k_x0 := km.at k_x0 (by decide)
  replace k_x1 := km.at k_x1 (by decide)
  exact bX15_isRoom_18 C hk_3 mk_3 k_x0 k_x1 hkl hW hZ _ (lv_sub hl [0, 1, 2, 3, 4] rfl) hE
set_option maxRecDepth 20000 in
theorem bX15_isRoom_3 {p : Program} {l : Launch} {e : Env} {s : State} {m : MethodId} {args : Array Value} {below : List Frame} {meth : Method} {c : Code} {X : Ec} {h0 : Hp} {o : Int32 × Hp} {F : Nat} (C : Cx X p s m args meth c RX15 cX15_isRoom 5 (some .boolean) "isRoom") : ∀ (f : Nat) {h : Hp} {x0 : Nat} {x1 : Nat} {x2 : Int32} {x3 : Int32} {x4 : Int32} {H : Heap} {locs : List Loc} (k_x0 : hK h x0 = 15) (k_x1 : hK h x1 = 12), Kl h0 h → Wx X h H → va_S (aA (eB X)) s.heap H locs → ∀ (ls : Array Slot), lv_has ls 5 [(0, .ref x0), (1, .ref x1), (2, .int x2), (3, .int x3), (4, .int x4)] → sX15_isRoom_3 F f h x0 x1 x2 x3 x4 = some o → W p l e (rmA 50 1321 h0 o.2) s m args below meth c H locs (hS h - hS h0) (hL h - hL h0) (MQ below (QIA X h0 o.1 o.2) args s (hS o.2 - hS h0) (hL o.2 - hL h0) (aA (eB X))) (F0 m 3 ls []) := by
  intro f
  induction f with
  | zero =>
    intro h x0 x1 x2 x3 x4 H locs k_x0 k_x1 hkl hW hZ ls hl hE
    rw [sX15_isRoom_3] at hE
    cases hE
  | succ f ih =>
    intro h x0 x1 x2 x3 x4 H locs k_x0 k_x1 hkl hW hZ ls hl hE
    rw [sX15_isRoom_3] at hE
    have mk_3 : ∀ (h : Hp) (x0 : Nat) (x1 : Nat) (x2 : Int32) (x3 : Int32) (x4 : Int32), sX15_isRoom_3 F f h x0 x1 x2 x3 x4 = some o → Le h o.2 := fun h x0 x1 x2 x3 x4 hE => moX15_isRoom_3 _ hE
    have hk_3 : ∀ (h : Hp) (x0 : Nat) (x1 : Nat) (x2 : Int32) (x3 : Int32) (x4 : Int32) (H : Heap) (locs : List Loc), hK h x0 = 15 → hK h x1 = 12 → Kl h0 h → Wx X h H → va_S (aA (eB X)) s.heap H locs → ∀ (ls : Array Slot), lv_has ls 5 [(0, .ref x0), (1, .ref x1), (2, .int x2), (3, .int x3), (4, .int x4)] → sX15_isRoom_3 F f h x0 x1 x2 x3 x4 = some o → W p l e (rmA 50 1321 h0 o.2) s m args below meth c H locs (hS h - hS h0) (hL h - hL h0) (MQ below (QIA X h0 o.1 o.2) args s (hS o.2 - hS h0) (hL o.2 - hL h0) (aA (eB X))) (F0 m 3 ls []) := fun h x0 x1 x2 x3 x4 H locs k_x0 k_x1 a b c ls hl hE => ih k_x0 k_x1 a b c ls hl hE
    refine lv_iload C.1 C.2.1 dX15_isRoom_3 (lv_at hl 4 rfl) ?_
    refine lv_iload_n C.1 C.2.1 dX15_isRoom_5 rfl (lv_at hl 2 rfl) ?_
    refine lv_icmp_gt (tgt := 40) C.1 C.2.1 dX15_isRoom_6 (by decide) (fun c_1 => ?_) (fun c_1 => ?_)
    · have hE := br_p hE c_1
      refine lv_iconst (v := (1 : Int32)) C.1 C.2.1 dX15_isRoom_40 (by decide) ?_
      exact x_iretA C rfl (by decide) hW hZ hkl hE dX15_isRoom_41
    · have hE := br_n hE c_1
      refine lv_aload_n C.1 C.2.1 dX15_isRoom_9 rfl (lv_at hl 0 rfl) ?_
      refine lv_iconst (v := (0 : Int32)) C.1 C.2.1 dX15_isRoom_10 (by decide) ?_
      obtain ⟨o_2, eo_2, hE⟩ := cl_e hE
      have m1 := moX15_deepBoard eo_2
      have m2 := moX15_isRoom_14 mk_3 hE
      refine x_kRA (o := o_2) hkl (z_runV (As := [.int (0 : Int32)]) (rest := []) C (ct_X15_deepBoard l X k_x0 eo_2) cw_X15_671 hW hZ k_x0 (by decide) rfl rfl rfl hl.1 (Nat.le_of_ble_eq_true rfl) rfl dX15_isRoom_11 ⟨Nat.le_of_ble_eq_true rfl, Nat.le_of_ble_eq_true rfl⟩ (rm_ok hkl m1 m2)) hZ (fun _ _ hW km k_o_2_1 hZ => ?_)
      replace hkl := hkl.tr km
      replace k_x0 := km.at k_x0 (by decide)
      replace k_x1 := km.at k_x1 (by decide)
      exact bX15_isRoom_14 C hk_3 mk_3 k_x0 k_x1 k_o_2_1 hkl hW hZ _ (lv_sub hl [0, 1, 2, 3, 4] rfl) hE
set_option maxRecDepth 20000 in
theorem ct_X15_isRoom (l : Launch) (X : Ec) (F : Nat) {h : Hp} {x0 : Nat} {x1 : Nat} {x2 : Int32} {x3 : Int32} {o : Int32 × Hp} (k_x0 : hK h x0 = 15) (k_x1 : hK h x1 = 12) (hE : sX15_isRoom F h x0 x1 x2 x3 = some o) : MetIA l yX15_isRoom cX15_isRoom 5 (some .boolean) 50 1321 X [.ref x0, .ref x1, .int x2, .int x3] h o := by
  refine x_metA (oh := o.2) (by decide) (Nat.le_of_ble_eq_true rfl) ?_
  intro p e s m below meth c ls C hl hW hZ
  have hl : lv_has ls 5 [(0, .ref x0), (1, .ref x1), (2, .int x2), (3, .int x3)] := hl
  have hkl : Kl h h := Kl.rf h
  refine lv_iconst (v := (1 : Int32)) C.1 C.2.1 dX15_isRoom_0 (by decide) ?_
  refine lv_istore (lv' := [(4, .int (1 : Int32)), (0, .ref x0), (1, .ref x1), (2, .int x2), (3, .int x3)]) C.1 C.2.1 dX15_isRoom_1 hl (by decide) rfl (fun ls hl => ?_)
  exact bX15_isRoom_3 C F k_x0 k_x1 hkl hW hZ _ (lv_sub hl [1, 2, 3, 4, 0] rfl) hE
set_option maxRecDepth 100000 in
theorem ms_184 : Cond.selects RX15 yX15_isRoom yX15_isRoom ∈ W0 := w0_in (List.mem_append_left _ (List.mem_of_getElem? (i := 184) rfl)) rfl
set_option maxRecDepth 100000 in
theorem m_2614 : Cond.methodLink RX15 686 yX15_isRoom ∈ W0 := w0_in (List.mem_append_right _ (List.mem_of_getElem? (i := 2614) rfl)) rfl
set_option maxRecDepth 100000 in
theorem m_2616 : Cond.instanceMethod yX15_isRoom ∈ W0 := w0_in (List.mem_append_right _ (List.mem_of_getElem? (i := 2616) rfl)) rfl
set_option maxRecDepth 100000 in
theorem m_2617 : Cond.code yX15_isRoom cX15_isRoom 5 (some .boolean) ∈ W0 := w0_in (List.mem_append_right _ (List.mem_of_getElem? (i := 2617) rfl)) rfl
theorem cw_X15_686 : cwd RX15 686 yX15_isRoom cX15_isRoom 5 (some .boolean) false 3 := ⟨m_2617, m_2614, m_19, ⟨m_2616, ms_184⟩, by decide, by decide, by decide +kernel⟩
theorem dX15_rows_0 : decode cX15_rows 0 = .ok (.iload_n 2, 1) := by decide +kernel
theorem dX15_rows_1 : decode cX15_rows 1 = .ok (.ifCond .lt 9, 3) := by decide +kernel
theorem dX15_rows_4 : decode cX15_rows 4 = .ok (.iload_n 2, 1) := by decide +kernel
theorem dX15_rows_5 : decode cX15_rows 5 = .ok (.bipush 6, 2) := by decide +kernel
theorem dX15_rows_7 : decode cX15_rows 7 = .ok (.if_icmp .le 6, 3) := by decide +kernel
theorem dX15_rows_10 : decode cX15_rows 10 = .ok (.bipush (-101), 2) := by decide +kernel
theorem dX15_rows_12 : decode cX15_rows 12 = .ok (.ireturn, 1) := by decide +kernel
theorem dX15_rows_13 : decode cX15_rows 13 = .ok (.aload_n 0, 1) := by decide +kernel
theorem dX15_rows_14 : decode cX15_rows 14 = .ok (.iload_n 1, 1) := by decide +kernel
theorem dX15_rows_15 : decode cX15_rows 15 = .ok (.invokevirtual 486, 3) := by decide +kernel
theorem dX15_rows_18 : decode cX15_rows 18 = .ok (.ifCond .ne 6, 3) := by decide +kernel
theorem dX15_rows_21 : decode cX15_rows 21 = .ok (.bipush (-102), 2) := by decide +kernel
theorem dX15_rows_23 : decode cX15_rows 23 = .ok (.ireturn, 1) := by decide +kernel
theorem dX15_rows_24 : decode cX15_rows 24 = .ok (.aload_n 0, 1) := by decide +kernel
theorem dX15_rows_25 : decode cX15_rows 25 = .ok (.aload_n 0, 1) := by decide +kernel
theorem dX15_rows_26 : decode cX15_rows 26 = .ok (.getfield 257, 3) := by decide +kernel
theorem dX15_rows_29 : decode cX15_rows 29 = .ok (.iload_n 1, 1) := by decide +kernel
theorem dX15_rows_30 : decode cX15_rows 30 = .ok (.aaload, 1) := by decide +kernel
theorem dX15_rows_31 : decode cX15_rows 31 = .ok (.iload_n 2, 1) := by decide +kernel
theorem dX15_rows_32 : decode cX15_rows 32 = .ok (.iconst 0, 1) := by decide +kernel
theorem dX15_rows_33 : decode cX15_rows 33 = .ok (.invokevirtual 686, 3) := by decide +kernel
theorem dX15_rows_36 : decode cX15_rows 36 = .ok (.ifCond .ne 6, 3) := by decide +kernel
theorem dX15_rows_39 : decode cX15_rows 39 = .ok (.bipush (-104), 2) := by decide +kernel
theorem dX15_rows_41 : decode cX15_rows 41 = .ok (.ireturn, 1) := by decide +kernel
theorem dX15_rows_42 : decode cX15_rows 42 = .ok (.aload_n 0, 1) := by decide +kernel
theorem dX15_rows_43 : decode cX15_rows 43 = .ok (.iconst 0, 1) := by decide +kernel
theorem dX15_rows_44 : decode cX15_rows 44 = .ok (.invokevirtual 671, 3) := by decide +kernel
theorem dX15_rows_47 : decode cX15_rows 47 = .ok (.aload_n 0, 1) := by decide +kernel
theorem dX15_rows_48 : decode cX15_rows 48 = .ok (.getfield 257, 3) := by decide +kernel
theorem dX15_rows_51 : decode cX15_rows 51 = .ok (.iload_n 1, 1) := by decide +kernel
theorem dX15_rows_52 : decode cX15_rows 52 = .ok (.aaload, 1) := by decide +kernel
theorem dX15_rows_53 : decode cX15_rows 53 = .ok (.invokevirtual 405, 3) := by decide +kernel
theorem dX15_rows_56 : decode cX15_rows 56 = .ok (.aload_n 0, 1) := by decide +kernel
theorem dX15_rows_57 : decode cX15_rows 57 = .ok (.iconst 0, 1) := by decide +kernel
theorem dX15_rows_58 : decode cX15_rows 58 = .ok (.iload_n 2, 1) := by decide +kernel
theorem dX15_rows_59 : decode cX15_rows 59 = .ok (.iconst 0, 1) := by decide +kernel
theorem dX15_rows_60 : decode cX15_rows 60 = .ok (.invokevirtual 679, 3) := by decide +kernel
theorem dX15_rows_63 : decode cX15_rows 63 = .ok (.ireturn, 1) := by decide +kernel
set_option maxRecDepth 20000 in
theorem moX15_rows_10 {o : Int32 × Hp} {F : Nat} {h : Hp} (hE : sX15_rows_10 F h  = some o) : Le h o.2 := by
  exact le_some2 hE
set_option maxRecDepth 20000 in
theorem moX15_rows_63 {o : Int32 × Hp} {F : Nat} {h : Hp} {t0 : Int32} (hE : sX15_rows_63 F h  t0 = some o) : Le h o.2 := by
  exact le_some2 hE
set_option maxRecDepth 20000 in
theorem moX15_rows_56 {o : Int32 × Hp} {F : Nat} {h : Hp} {x0 : Nat} {x2 : Int32} (hE : sX15_rows_56 F h x0 x2 = some o) : Le h o.2 := by
  obtain ⟨o_1, eo_1, hE⟩ := cl_e hE
  refine (moX15_countRows eo_1).tr ?_
  exact moX15_rows_63 hE
set_option maxRecDepth 20000 in
theorem moX15_rows_47 {o : Int32 × Hp} {F : Nat} {h : Hp} {x0 : Nat} {x1 : Int32} {x2 : Int32} {t0 : Nat} (hE : sX15_rows_47 F h x0 x1 x2 t0 = some o) : Le h o.2 := by
  obtain ⟨r_1, er_1, hE⟩ := cl_e hE
  obtain ⟨g_2, hE⟩ := gd_e hE
  obtain ⟨r_3, er_3, hE⟩ := cl_e hE
  obtain ⟨o_4, eo_4, hE⟩ := cl_e hE
  refine (moX12_copy eo_4).tr ?_
  exact moX15_rows_56 hE
set_option maxRecDepth 20000 in
theorem moX15_rows_36 {o : Int32 × Hp} {F : Nat} {h : Hp} {x0 : Nat} {x1 : Int32} {x2 : Int32} {t0 : Int32} (hE : sX15_rows_36 F h x0 x1 x2 t0 = some o) : Le h o.2 := by
  rcases br_e hE with ⟨_, hE⟩ | ⟨_, hE⟩
  · exact le_some2 hE
  · obtain ⟨o_2, eo_2, hE⟩ := cl_e hE
    refine (moX15_deepBoard eo_2).tr ?_
    exact moX15_rows_47 hE
set_option maxRecDepth 20000 in
theorem moX15_rows_18 {o : Int32 × Hp} {F : Nat} {h : Hp} {x0 : Nat} {x1 : Int32} {x2 : Int32} {t0 : Int32} (hE : sX15_rows_18 F h x0 x1 x2 t0 = some o) : Le h o.2 := by
  rcases br_e hE with ⟨_, hE⟩ | ⟨_, hE⟩
  · exact le_some2 hE
  · obtain ⟨r_2, er_2, hE⟩ := cl_e hE
    obtain ⟨g_3, hE⟩ := gd_e hE
    obtain ⟨r_4, er_4, hE⟩ := cl_e hE
    obtain ⟨o_5, eo_5, hE⟩ := cl_e hE
    refine (moX15_isRoom eo_5).tr ?_
    exact moX15_rows_36 hE
set_option maxRecDepth 20000 in
theorem moX15_rows {o : Int32 × Hp} {F : Nat} {h : Hp} {x0 : Nat} {x1 : Int32} {x2 : Int32} (hE : sX15_rows F h x0 x1 x2 = some o) : Le h o.2 := by
  rcases br_e hE with ⟨_, hE⟩ | ⟨_, hE⟩
  · exact moX15_rows_10 hE
  · rcases br_e hE with ⟨_, hE⟩ | ⟨_, hE⟩
    · obtain ⟨o_3, eo_3, hE⟩ := cl_e hE
      refine (moX15_has eo_3).tr ?_
      exact moX15_rows_18 hE
    · exact moX15_rows_10 hE
set_option maxRecDepth 20000 in
theorem bX15_rows_10 {p : Program} {l : Launch} {e : Env} {s : State} {m : MethodId} {args : Array Value} {below : List Frame} {meth : Method} {c : Code} {X : Ec} {h0 : Hp} {o : Int32 × Hp} {F : Nat} (C : Cx X p s m args meth c RX15 cX15_rows 3 (some .int) "rows") {h : Hp} {H : Heap} {locs : List Loc} (hkl : Kl h0 h) (hW : Wx X h H) (hZ : va_S (aA (eB X)) s.heap H locs) (ls : Array Slot) (hl : lv_has ls 3 []) (hE : sX15_rows_10 F h  = some o) : W p l e (rmA 51 1345 h0 o.2) s m args below meth c H locs (hS h - hS h0) (hL h - hL h0) (MQ below (QIA X h0 o.1 o.2) args s (hS o.2 - hS h0) (hL o.2 - hL h0) (aA (eB X))) (F0 m 10 ls []) := by
  refine lv_bipush (v := (-101 : Int32)) C.1 C.2.1 dX15_rows_10 (by decide) ?_
  exact x_iretA C rfl rfl hW hZ hkl hE dX15_rows_12
set_option maxRecDepth 20000 in
theorem bX15_rows_63 {p : Program} {l : Launch} {e : Env} {s : State} {m : MethodId} {args : Array Value} {below : List Frame} {meth : Method} {c : Code} {X : Ec} {h0 : Hp} {o : Int32 × Hp} {F : Nat} (C : Cx X p s m args meth c RX15 cX15_rows 3 (some .int) "rows") {h : Hp} {t0 : Int32} {H : Heap} {locs : List Loc} (hkl : Kl h0 h) (hW : Wx X h H) (hZ : va_S (aA (eB X)) s.heap H locs) (ls : Array Slot) (hl : lv_has ls 3 []) (hE : sX15_rows_63 F h  t0 = some o) : W p l e (rmA 51 1345 h0 o.2) s m args below meth c H locs (hS h - hS h0) (hL h - hL h0) (MQ below (QIA X h0 o.1 o.2) args s (hS o.2 - hS h0) (hL o.2 - hL h0) (aA (eB X))) (F0 m 63 ls [.int t0]) := by
  exact x_iretA C rfl rfl hW hZ hkl hE dX15_rows_63
set_option maxRecDepth 20000 in
theorem bX15_rows_56 {p : Program} {l : Launch} {e : Env} {s : State} {m : MethodId} {args : Array Value} {below : List Frame} {meth : Method} {c : Code} {X : Ec} {h0 : Hp} {o : Int32 × Hp} {F : Nat} (C : Cx X p s m args meth c RX15 cX15_rows 3 (some .int) "rows") {h : Hp} {x0 : Nat} {x2 : Int32} {H : Heap} {locs : List Loc} (k_x0 : hK h x0 = 15) (hkl : Kl h0 h) (hW : Wx X h H) (hZ : va_S (aA (eB X)) s.heap H locs) (ls : Array Slot) (hl : lv_has ls 3 [(0, .ref x0), (2, .int x2)]) (hE : sX15_rows_56 F h x0 x2 = some o) : W p l e (rmA 51 1345 h0 o.2) s m args below meth c H locs (hS h - hS h0) (hL h - hL h0) (MQ below (QIA X h0 o.1 o.2) args s (hS o.2 - hS h0) (hL o.2 - hL h0) (aA (eB X))) (F0 m 56 ls []) := by
  refine lv_aload_n C.1 C.2.1 dX15_rows_56 rfl (lv_at hl 0 rfl) ?_
  refine lv_iconst (v := (0 : Int32)) C.1 C.2.1 dX15_rows_57 (by decide) ?_
  refine lv_iload_n C.1 C.2.1 dX15_rows_58 rfl (lv_at hl 1 rfl) ?_
  refine lv_iconst (v := (0 : Int32)) C.1 C.2.1 dX15_rows_59 (by decide) ?_
  obtain ⟨o_1, eo_1, hE⟩ := cl_e hE
  have m1 := moX15_countRows eo_1
  have m2 := moX15_rows_63 hE
  refine x_kIA (o := o_1) hkl (z_runV (As := [.int (0 : Int32), .int x2, .int (0 : Int32)]) (rest := []) C (ct_X15_countRows l X F k_x0 eo_1) cw_X15_679 hW hZ k_x0 (by decide) rfl rfl rfl hl.1 (Nat.le_of_ble_eq_true rfl) rfl dX15_rows_60 ⟨Nat.le_of_ble_eq_true rfl, Nat.le_of_ble_eq_true rfl⟩ (rm_ok hkl m1 m2)) hZ (fun _ _ hW km hZ => ?_)
  replace hkl := hkl.tr km
  replace k_x0 := km.at k_x0 (by decide)
  exact bX15_rows_63 C hkl hW hZ _ (lv_sub hl [] rfl) hE
set_option maxRecDepth 20000 in
theorem bX15_rows_47 {p : Program} {l : Launch} {e : Env} {s : State} {m : MethodId} {args : Array Value} {below : List Frame} {meth : Method} {c : Code} {X : Ec} {h0 : Hp} {o : Int32 × Hp} {F : Nat} (C : Cx X p s m args meth c RX15 cX15_rows 3 (some .int) "rows") {h : Hp} {x0 : Nat} {x1 : Int32} {x2 : Int32} {t0 : Nat} {H : Heap} {locs : List Loc} (k_x0 : hK h x0 = 15) (k_t0 : hK h t0 = 12) (hkl : Kl h0 h) (hW : Wx X h H) (hZ : va_S (aA (eB X)) s.heap H locs) (ls : Array Slot) (hl : lv_has ls 3 [(0, .ref x0), (1, .int x1), (2, .int x2)]) (hE : sX15_rows_47 F h x0 x1 x2 t0 = some o) : W p l e (rmA 51 1345 h0 o.2) s m args below meth c H locs (hS h - hS h0) (hL h - hL h0) (MQ below (QIA X h0 o.1 o.2) args s (hS o.2 - hS h0) (hL o.2 - hL h0) (aA (eB X))) (F0 m 47 ls [.ref t0]) := by
  refine lv_aload_n C.1 C.2.1 dX15_rows_47 rfl (lv_at hl 0 rfl) ?_
  obtain ⟨r_1, er_1, hE⟩ := cl_e hE
  refine gf_X15_257 C hW k_x0 er_1 dX15_rows_48 (fun k_r_1 => ?_)
  refine lv_iload_n C.1 C.2.1 dX15_rows_51 rfl (lv_at hl 1 rfl) ?_
  obtain ⟨g_2, hE⟩ := gd_e hE
  obtain ⟨r_3, er_3, hE⟩ := cl_e hE
  refine y_aald (t0 := 5) C hW k_r_1 (by decide) (by decide) rfl rfl rfl (fun _ => rfl) g_2 er_3 dX15_rows_52 (fun k_r_3 => ?_)
  obtain ⟨o_4, eo_4, hE⟩ := cl_e hE
  have m1 := moX12_copy eo_4
  have m2 := moX15_rows_56 hE
  refine x_kV (o := o_4) (z_runV (As := [.ref r_3]) (rest := []) C (ct_X12_copy l X k_t0 k_r_3 eo_4) cw_X15_405 hW hZ k_t0 (by decide) rfl rfl rfl hl.1 (Nat.le_of_ble_eq_true rfl) rfl dX15_rows_53 ⟨Nat.le_of_ble_eq_true rfl, Nat.le_of_ble_eq_true rfl⟩ (rm_ok0 hkl m1 m2)) hZ (fun _ _ hW km hZ => ?_)
  replace hkl := hkl.tr km.l
  refine x_wc km ?_
  replace k_x0 := km.at k_x0 (by decide)
  exact bX15_rows_56 C k_x0 hkl hW hZ _ (lv_sub hl [0, 2] rfl) hE
set_option maxRecDepth 20000 in
theorem bX15_rows_36 {p : Program} {l : Launch} {e : Env} {s : State} {m : MethodId} {args : Array Value} {below : List Frame} {meth : Method} {c : Code} {X : Ec} {h0 : Hp} {o : Int32 × Hp} {F : Nat} (C : Cx X p s m args meth c RX15 cX15_rows 3 (some .int) "rows") {h : Hp} {x0 : Nat} {x1 : Int32} {x2 : Int32} {t0 : Int32} {H : Heap} {locs : List Loc} (k_x0 : hK h x0 = 15) (hkl : Kl h0 h) (hW : Wx X h H) (hZ : va_S (aA (eB X)) s.heap H locs) (ls : Array Slot) (hl : lv_has ls 3 [(0, .ref x0), (1, .int x1), (2, .int x2)]) (hE : sX15_rows_36 F h x0 x1 x2 t0 = some o) : W p l e (rmA 51 1345 h0 o.2) s m args below meth c H locs (hS h - hS h0) (hL h - hL h0) (MQ below (QIA X h0 o.1 o.2) args s (hS o.2 - hS h0) (hL o.2 - hL h0) (aA (eB X))) (F0 m 36 ls [.int t0]) := by
  refine lv_if_ne (tgt := 42) C.1 C.2.1 dX15_rows_36 (by decide) (fun c_1 => ?_) (fun c_1 => ?_)
  · have hE := br_n hE c_1
    refine lv_aload_n C.1 C.2.1 dX15_rows_42 rfl (lv_at hl 0 rfl) ?_
    refine lv_iconst (v := (0 : Int32)) C.1 C.2.1 dX15_rows_43 (by decide) ?_
    obtain ⟨o_2, eo_2, hE⟩ := cl_e hE
    have m1 := moX15_deepBoard eo_2
    have m2 := moX15_rows_47 hE
    refine x_kRA (o := o_2) hkl (z_runV (As := [.int (0 : Int32)]) (rest := []) C (ct_X15_deepBoard l X k_x0 eo_2) cw_X15_671 hW hZ k_x0 (by decide) rfl rfl rfl hl.1 (Nat.le_of_ble_eq_true rfl) rfl dX15_rows_44 ⟨Nat.le_of_ble_eq_true rfl, Nat.le_of_ble_eq_true rfl⟩ (rm_ok hkl m1 m2)) hZ (fun _ _ hW km k_o_2_1 hZ => ?_)
    replace hkl := hkl.tr km
    replace k_x0 := km.at k_x0 (by decide)
    exact bX15_rows_47 C k_x0 k_o_2_1 hkl hW hZ _ (lv_sub hl [0, 1, 2] rfl) hE
  · have hE := br_p hE c_1
    refine lv_bipush (v := (-104 : Int32)) C.1 C.2.1 dX15_rows_39 (by decide) ?_
    exact x_iretA C rfl rfl hW hZ hkl hE dX15_rows_41
set_option maxRecDepth 20000 in
theorem bX15_rows_18 {p : Program} {l : Launch} {e : Env} {s : State} {m : MethodId} {args : Array Value} {below : List Frame} {meth : Method} {c : Code} {X : Ec} {h0 : Hp} {o : Int32 × Hp} {F : Nat} (C : Cx X p s m args meth c RX15 cX15_rows 3 (some .int) "rows") {h : Hp} {x0 : Nat} {x1 : Int32} {x2 : Int32} {t0 : Int32} {H : Heap} {locs : List Loc} (k_x0 : hK h x0 = 15) (hkl : Kl h0 h) (hW : Wx X h H) (hZ : va_S (aA (eB X)) s.heap H locs) (ls : Array Slot) (hl : lv_has ls 3 [(0, .ref x0), (1, .int x1), (2, .int x2)]) (hE : sX15_rows_18 F h x0 x1 x2 t0 = some o) : W p l e (rmA 51 1345 h0 o.2) s m args below meth c H locs (hS h - hS h0) (hL h - hL h0) (MQ below (QIA X h0 o.1 o.2) args s (hS o.2 - hS h0) (hL o.2 - hL h0) (aA (eB X))) (F0 m 18 ls [.int t0]) := by
  refine lv_if_ne (tgt := 24) C.1 C.2.1 dX15_rows_18 (by decide) (fun c_1 => ?_) (fun c_1 => ?_)
  · have hE := br_n hE c_1
    refine lv_aload_n C.1 C.2.1 dX15_rows_24 rfl (lv_at hl 0 rfl) ?_
    refine lv_aload_n C.1 C.2.1 dX15_rows_25 rfl (lv_at hl 0 rfl) ?_
    obtain ⟨r_2, er_2, hE⟩ := cl_e hE
    refine gf_X15_257 C hW k_x0 er_2 dX15_rows_26 (fun k_r_2 => ?_)
    refine lv_iload_n C.1 C.2.1 dX15_rows_29 rfl (lv_at hl 1 rfl) ?_
    obtain ⟨g_3, hE⟩ := gd_e hE
    obtain ⟨r_4, er_4, hE⟩ := cl_e hE
    refine y_aald (t0 := 5) C hW k_r_2 (by decide) (by decide) rfl rfl rfl (fun _ => rfl) g_3 er_4 dX15_rows_30 (fun k_r_4 => ?_)
    refine lv_iload_n C.1 C.2.1 dX15_rows_31 rfl (lv_at hl 2 rfl) ?_
    refine lv_iconst (v := (0 : Int32)) C.1 C.2.1 dX15_rows_32 (by decide) ?_
    obtain ⟨o_5, eo_5, hE⟩ := cl_e hE
    have m1 := moX15_isRoom eo_5
    have m2 := moX15_rows_36 hE
    refine x_kIA (o := o_5) hkl (z_runV (As := [.ref r_4, .int x2, .int (0 : Int32)]) (rest := []) C (ct_X15_isRoom l X F k_x0 k_r_4 eo_5) cw_X15_686 hW hZ k_x0 (by decide) rfl rfl rfl hl.1 (Nat.le_of_ble_eq_true rfl) rfl dX15_rows_33 ⟨Nat.le_of_ble_eq_true rfl, Nat.le_of_ble_eq_true rfl⟩ (rm_ok hkl m1 m2)) hZ (fun _ _ hW km hZ => ?_)
    replace hkl := hkl.tr km
    replace k_x0 := km.at k_x0 (by decide)
    exact bX15_rows_36 C k_x0 hkl hW hZ _ (lv_sub hl [0, 1, 2] rfl) hE
  · have hE := br_p hE c_1
    refine lv_bipush (v := (-102 : Int32)) C.1 C.2.1 dX15_rows_21 (by decide) ?_
    exact x_iretA C rfl rfl hW hZ hkl hE dX15_rows_23
set_option maxRecDepth 20000 in
theorem ct_X15_rows (l : Launch) (X : Ec) (F : Nat) {h : Hp} {x0 : Nat} {x1 : Int32} {x2 : Int32} {o : Int32 × Hp} (k_x0 : hK h x0 = 15) (hE : sX15_rows F h x0 x1 x2 = some o) : MetIA l yX15_rows cX15_rows 3 (some .int) 51 1345 X [.ref x0, .int x1, .int x2] h o := by
  refine x_metA (oh := o.2) (by decide) (Nat.le_of_ble_eq_true rfl) ?_
  intro p e s m below meth c ls C hl hW hZ
  have hl : lv_has ls 3 [(0, .ref x0), (1, .int x1), (2, .int x2)] := hl
  have hkl : Kl h h := Kl.rf h
  refine lv_iload_n C.1 C.2.1 dX15_rows_0 rfl (lv_at hl 2 rfl) ?_
  refine lv_if_lt (tgt := 10) C.1 C.2.1 dX15_rows_1 (by decide) (fun c_1 => ?_) (fun c_1 => ?_)
  · have hE := br_p hE c_1
    exact bX15_rows_10 C hkl hW hZ _ (lv_sub hl [] rfl) hE
  · have hE := br_n hE c_1
    refine lv_iload_n C.1 C.2.1 dX15_rows_4 rfl (lv_at hl 2 rfl) ?_
    refine lv_bipush (v := (6 : Int32)) C.1 C.2.1 dX15_rows_5 (by decide) ?_
    refine lv_icmp_le (tgt := 13) C.1 C.2.1 dX15_rows_7 (by decide) (fun c_2 => ?_) (fun c_2 => ?_)
    · have hE := br_p hE c_2
      refine lv_aload_n C.1 C.2.1 dX15_rows_13 rfl (lv_at hl 0 rfl) ?_
      refine lv_iload_n C.1 C.2.1 dX15_rows_14 rfl (lv_at hl 1 rfl) ?_
      obtain ⟨o_3, eo_3, hE⟩ := cl_e hE
      have m1 := moX15_has eo_3
      have m2 := moX15_rows_18 hE
      refine x_kI (o := o_3) (z_runV (As := [.int x1]) (rest := []) C (ct_X15_has l X k_x0 eo_3) cw_X15_486 hW hZ k_x0 (by decide) rfl rfl rfl hl.1 (Nat.le_of_ble_eq_true rfl) rfl dX15_rows_15 ⟨Nat.le_of_ble_eq_true rfl, Nat.le_of_ble_eq_true rfl⟩ (rm_ok0 hkl m1 m2)) hZ (fun _ _ hW km hZ => ?_)
      replace hkl := hkl.tr km.l
      refine x_wc km ?_
      replace k_x0 := km.at k_x0 (by decide)
      exact bX15_rows_18 C k_x0 hkl hW hZ _ (lv_sub hl [0, 1, 2] rfl) hE
    · have hE := br_n hE c_2
      exact bX15_rows_10 C hkl hW hZ _ (lv_sub hl [] rfl) hE
theorem dX15_ended_0 : decode cX15_ended 0 = .ok (.aload_n 0, 1) := by decide +kernel
theorem dX15_ended_1 : decode cX15_ended 1 = .ok (.iload_n 1, 1) := by decide +kernel
theorem dX15_ended_2 : decode cX15_ended 2 = .ok (.invokevirtual 668, 3) := by decide +kernel
theorem dX15_ended_5 : decode cX15_ended 5 = .ok (.bipush (-102), 2) := by decide +kernel
theorem dX15_ended_7 : decode cX15_ended 7 = .ok (.if_icmp .ne 8, 3) := by decide +kernel
theorem dX15_ended_10 : decode cX15_ended 10 = .ok (.bipush (-102), 2) := by decide +kernel
theorem dX15_ended_12 : decode cX15_ended 12 = .ok (.goto 20, 3) := by decide +kernel
theorem dX15_ended_15 : decode cX15_ended 15 = .ok (.aload_n 0, 1) := by decide +kernel
theorem dX15_ended_16 : decode cX15_ended 16 = .ok (.aload_n 0, 1) := by decide +kernel
theorem dX15_ended_17 : decode cX15_ended 17 = .ok (.getfield 257, 3) := by decide +kernel
theorem dX15_ended_20 : decode cX15_ended 20 = .ok (.iload_n 1, 1) := by decide +kernel
theorem dX15_ended_21 : decode cX15_ended 21 = .ok (.aaload, 1) := by decide +kernel
theorem dX15_ended_22 : decode cX15_ended 22 = .ok (.aload_n 0, 1) := by decide +kernel
theorem dX15_ended_23 : decode cX15_ended 23 = .ok (.getfield 288, 3) := by decide +kernel
theorem dX15_ended_26 : decode cX15_ended 26 = .ok (.getfield 575, 3) := by decide +kernel
theorem dX15_ended_29 : decode cX15_ended 29 = .ok (.invokevirtual 683, 3) := by decide +kernel
theorem dX15_ended_32 : decode cX15_ended 32 = .ok (.ireturn, 1) := by decide +kernel
set_option maxRecDepth 20000 in
theorem moX15_ended_32 {o : Int32 × Hp} {F : Nat} {h : Hp} {t0 : Int32} (hE : sX15_ended_32 F h  t0 = some o) : Le h o.2 := by
  exact le_some2 hE
set_option maxRecDepth 20000 in
theorem moX15_ended {o : Int32 × Hp} {F : Nat} {h : Hp} {x0 : Nat} {x1 : Int32} (hE : sX15_ended F h x0 x1 = some o) : Le h o.2 := by
  obtain ⟨o_1, eo_1, hE⟩ := cl_e hE
  refine (moX15_moves eo_1).tr ?_
  rcases br_e hE with ⟨_, hE⟩ | ⟨_, hE⟩
  · exact moX15_ended_32 hE
  · obtain ⟨r_3, er_3, hE⟩ := cl_e hE
    obtain ⟨g_4, hE⟩ := gd_e hE
    obtain ⟨r_5, er_5, hE⟩ := cl_e hE
    obtain ⟨r_6, er_6, hE⟩ := cl_e hE
    obtain ⟨o_7, eo_7, hE⟩ := cl_e hE
    refine (moX15_endedBy eo_7).tr ?_
    exact moX15_ended_32 hE
set_option maxRecDepth 20000 in
theorem bX15_ended_32 {p : Program} {l : Launch} {e : Env} {s : State} {m : MethodId} {args : Array Value} {below : List Frame} {meth : Method} {c : Code} {X : Ec} {h0 : Hp} {o : Int32 × Hp} {F : Nat} (C : Cx X p s m args meth c RX15 cX15_ended 2 (some .int) "ended") {h : Hp} {t0 : Int32} {H : Heap} {locs : List Loc} (hkm : Km h0 h) (hW : Wx X h H) (hZ : va_S (aA (eB X)) s.heap H locs) (ls : Array Slot) (hl : lv_has ls 2 []) (hE : sX15_ended_32 F h  t0 = some o) : W p l e (rm 8 212) s m args below meth c H locs 0 0 (MQ below (QI X h0 o.1 o.2) args s 0 0 (aA (eB X))) (F0 m 32 ls [.int t0]) := by
  exact x_iret C rfl rfl hW hZ hkm hE dX15_ended_32
set_option maxRecDepth 20000 in
theorem ct_X15_ended (l : Launch) (X : Ec) (F : Nat) {h : Hp} {x0 : Nat} {x1 : Int32} {o : Int32 × Hp} (k_x0 : hK h x0 = 15) (hE : sX15_ended F h x0 x1 = some o) : MetI l yX15_ended cX15_ended 2 (some .int) 8 212 X [.ref x0, .int x1] h o := by
  refine x_met (by decide) (Nat.le_of_ble_eq_true rfl) ?_
  intro p e s m below meth c ls C hl hW hZ
  have hl : lv_has ls 2 [(0, .ref x0), (1, .int x1)] := hl
  have hkm : Km h h := Km.rf h
  refine lv_aload_n C.1 C.2.1 dX15_ended_0 rfl (lv_at hl 0 rfl) ?_
  refine lv_iload_n C.1 C.2.1 dX15_ended_1 rfl (lv_at hl 1 rfl) ?_
  obtain ⟨o_1, eo_1, hE⟩ := cl_e hE
  refine x_kI (o := o_1) (z_runV (As := [.int x1]) (rest := []) C (ct_X15_moves l X F k_x0 eo_1) cw_X15_668 hW hZ k_x0 (by decide) rfl rfl rfl hl.1 (Nat.le_of_ble_eq_true rfl) rfl dX15_ended_2 ⟨Nat.le_of_ble_eq_true rfl, Nat.le_of_ble_eq_true rfl⟩ ⟨Nat.le_refl _, Nat.le_refl _⟩) hZ (fun _ _ hW km hZ => ?_)
  replace hkm := hkm.tr km
  replace k_x0 := km.at k_x0 (by decide)
  refine lv_bipush (v := (-102 : Int32)) C.1 C.2.1 dX15_ended_5 (by decide) ?_
  refine lv_icmp_ne (tgt := 15) C.1 C.2.1 dX15_ended_7 (by decide) (fun c_2 => ?_) (fun c_2 => ?_)
  · have hE := br_n hE c_2
    refine lv_aload_n C.1 C.2.1 dX15_ended_15 rfl (lv_at hl 0 rfl) ?_
    refine lv_aload_n C.1 C.2.1 dX15_ended_16 rfl (lv_at hl 0 rfl) ?_
    obtain ⟨r_3, er_3, hE⟩ := cl_e hE
    refine gf_X15_257 C hW k_x0 er_3 dX15_ended_17 (fun k_r_3 => ?_)
    refine lv_iload_n C.1 C.2.1 dX15_ended_20 rfl (lv_at hl 1 rfl) ?_
    obtain ⟨g_4, hE⟩ := gd_e hE
    obtain ⟨r_5, er_5, hE⟩ := cl_e hE
    refine y_aald (t0 := 5) C hW k_r_3 (by decide) (by decide) rfl rfl rfl (fun _ => rfl) g_4 er_5 dX15_ended_21 (fun k_r_5 => ?_)
    refine lv_aload_n C.1 C.2.1 dX15_ended_22 rfl (lv_at hl 0 rfl) ?_
    obtain ⟨r_6, er_6, hE⟩ := cl_e hE
    refine gf_X15_288 C hW k_x0 er_6 dX15_ended_23 (fun k_r_6 => ?_)
    refine gf_X15_575 C hW k_r_6 dX15_ended_26 ?_
    obtain ⟨o_7, eo_7, hE⟩ := cl_e hE
    refine x_kI (o := o_7) (z_runV (As := [.ref r_5, .int (hI o_1.2 r_6 0)]) (rest := []) C (ct_X15_endedBy l X F k_x0 k_r_5 eo_7) cw_X15_683 hW hZ k_x0 (by decide) rfl rfl rfl hl.1 (Nat.le_of_ble_eq_true rfl) rfl dX15_ended_29 ⟨Nat.le_of_ble_eq_true rfl, Nat.le_of_ble_eq_true rfl⟩ ⟨Nat.le_refl _, Nat.le_refl _⟩) hZ (fun _ _ hW km hZ => ?_)
    replace hkm := hkm.tr km
    replace k_x0 := km.at k_x0 (by decide)
    exact bX15_ended_32 C hkm hW hZ _ (lv_sub hl [] rfl) hE
  · have hE := br_p hE c_2
    refine lv_bipush (v := (-102 : Int32)) C.1 C.2.1 dX15_ended_10 (by decide) ?_
    refine lv_goto (tgt := 32) C.1 C.2.1 dX15_ended_12 (by decide) ?_
    exact bX15_ended_32 C hkm hW hZ _ (lv_sub hl [] rfl) hE
section
variable {p : Program} {l : Launch} {e : Env} {R : Room} {s : State} {m : MethodId} {args : Array Value} {below : List Frame} {meth : Method} {c : Code} {H : Heap} {locs : List Loc} {cells slots : Nat} {Q : State → Prop}
variable {cc : ByteArray} {pc : Nat} {ls : Array Slot} {rest : List Value} {X : Ec} {h h1 : Hp} {nL : Nat} {rt : Option FieldType} {mn : String}
theorem gf_X15_646 {a : Nat} (C : Cx X p s m args meth c RX15 cc nL rt mn) (hW : Wx X h H) (ha : hK h a = 15) (hdg : decode cc pc = .ok (.getfield 646, 3)) (kk : W p l e R s m args below meth c H locs cells slots Q (F0 m (pc + 3) ls (.int (hI h a 29) :: rest))) : W p l e R s m args below meth c H locs cells slots Q (F0 m pc ls (.ref a :: rest)) :=
  y_geti C hW ha i_X15 (by decide) rfl (by decide) m_2140 rfl hdg kk
end
theorem dX15_result_0 : decode cX15_result 0 = .ok (.aload_n 0, 1) := by decide +kernel
theorem dX15_result_1 : decode cX15_result 1 = .ok (.iload_n 1, 1) := by decide +kernel
theorem dX15_result_2 : decode cX15_result 2 = .ok (.invokevirtual 668, 3) := by decide +kernel
theorem dX15_result_5 : decode cX15_result 5 = .ok (.bipush (-102), 2) := by decide +kernel
theorem dX15_result_7 : decode cX15_result 7 = .ok (.if_icmp .ne 8, 3) := by decide +kernel
theorem dX15_result_10 : decode cX15_result 10 = .ok (.bipush (-102), 2) := by decide +kernel
theorem dX15_result_12 : decode cX15_result 12 = .ok (.goto 31, 3) := by decide +kernel
theorem dX15_result_15 : decode cX15_result 15 = .ok (.aload_n 0, 1) := by decide +kernel
theorem dX15_result_16 : decode cX15_result 16 = .ok (.aload_n 0, 1) := by decide +kernel
theorem dX15_result_17 : decode cX15_result 17 = .ok (.getfield 257, 3) := by decide +kernel
theorem dX15_result_20 : decode cX15_result 20 = .ok (.iload_n 1, 1) := by decide +kernel
theorem dX15_result_21 : decode cX15_result 21 = .ok (.aaload, 1) := by decide +kernel
theorem dX15_result_22 : decode cX15_result 22 = .ok (.aload_n 0, 1) := by decide +kernel
theorem dX15_result_23 : decode cX15_result 23 = .ok (.getfield 288, 3) := by decide +kernel
theorem dX15_result_26 : decode cX15_result 26 = .ok (.getfield 575, 3) := by decide +kernel
theorem dX15_result_29 : decode cX15_result 29 = .ok (.invokevirtual 683, 3) := by decide +kernel
theorem dX15_result_32 : decode cX15_result 32 = .ok (.ifCond .ne 7, 3) := by decide +kernel
theorem dX15_result_35 : decode cX15_result 35 = .ok (.iconst (-1), 1) := by decide +kernel
theorem dX15_result_36 : decode cX15_result 36 = .ok (.goto 7, 3) := by decide +kernel
theorem dX15_result_39 : decode cX15_result 39 = .ok (.aload_n 0, 1) := by decide +kernel
theorem dX15_result_40 : decode cX15_result 40 = .ok (.getfield 646, 3) := by decide +kernel
theorem dX15_result_43 : decode cX15_result 43 = .ok (.ireturn, 1) := by decide +kernel
set_option maxRecDepth 20000 in
theorem moX15_result_43 {o : Int32 × Hp} {F : Nat} {h : Hp} {t0 : Int32} (hE : sX15_result_43 F h  t0 = some o) : Le h o.2 := by
  exact le_some2 hE
set_option maxRecDepth 20000 in
theorem moX15_result {o : Int32 × Hp} {F : Nat} {h : Hp} {x0 : Nat} {x1 : Int32} (hE : sX15_result F h x0 x1 = some o) : Le h o.2 := by
  obtain ⟨o_1, eo_1, hE⟩ := cl_e hE
  refine (moX15_moves eo_1).tr ?_
  rcases br_e hE with ⟨_, hE⟩ | ⟨_, hE⟩
  · exact moX15_result_43 hE
  · obtain ⟨r_3, er_3, hE⟩ := cl_e hE
    obtain ⟨g_4, hE⟩ := gd_e hE
    obtain ⟨r_5, er_5, hE⟩ := cl_e hE
    obtain ⟨r_6, er_6, hE⟩ := cl_e hE
    obtain ⟨o_7, eo_7, hE⟩ := cl_e hE
    refine (moX15_endedBy eo_7).tr ?_
    rcases br_e hE with ⟨_, hE⟩ | ⟨_, hE⟩
    · exact moX15_result_43 hE
    · exact moX15_result_43 hE
set_option maxRecDepth 20000 in
theorem bX15_result_43 {p : Program} {l : Launch} {e : Env} {s : State} {m : MethodId} {args : Array Value} {below : List Frame} {meth : Method} {c : Code} {X : Ec} {h0 : Hp} {o : Int32 × Hp} {F : Nat} (C : Cx X p s m args meth c RX15 cX15_result 2 (some .int) "result") {h : Hp} {t0 : Int32} {H : Heap} {locs : List Loc} (hkm : Km h0 h) (hW : Wx X h H) (hZ : va_S (aA (eB X)) s.heap H locs) (ls : Array Slot) (hl : lv_has ls 2 []) (hE : sX15_result_43 F h  t0 = some o) : W p l e (rm 8 212) s m args below meth c H locs 0 0 (MQ below (QI X h0 o.1 o.2) args s 0 0 (aA (eB X))) (F0 m 43 ls [.int t0]) := by
  exact x_iret C rfl rfl hW hZ hkm hE dX15_result_43
set_option maxRecDepth 20000 in
theorem ct_X15_result (l : Launch) (X : Ec) (F : Nat) {h : Hp} {x0 : Nat} {x1 : Int32} {o : Int32 × Hp} (k_x0 : hK h x0 = 15) (hE : sX15_result F h x0 x1 = some o) : MetI l yX15_result cX15_result 2 (some .int) 8 212 X [.ref x0, .int x1] h o := by
  refine x_met (by decide) (Nat.le_of_ble_eq_true rfl) ?_
  intro p e s m below meth c ls C hl hW hZ
  have hl : lv_has ls 2 [(0, .ref x0), (1, .int x1)] := hl
  have hkm : Km h h := Km.rf h
  refine lv_aload_n C.1 C.2.1 dX15_result_0 rfl (lv_at hl 0 rfl) ?_
  refine lv_iload_n C.1 C.2.1 dX15_result_1 rfl (lv_at hl 1 rfl) ?_
  obtain ⟨o_1, eo_1, hE⟩ := cl_e hE
  refine x_kI (o := o_1) (z_runV (As := [.int x1]) (rest := []) C (ct_X15_moves l X F k_x0 eo_1) cw_X15_668 hW hZ k_x0 (by decide) rfl rfl rfl hl.1 (Nat.le_of_ble_eq_true rfl) rfl dX15_result_2 ⟨Nat.le_of_ble_eq_true rfl, Nat.le_of_ble_eq_true rfl⟩ ⟨Nat.le_refl _, Nat.le_refl _⟩) hZ (fun _ _ hW km hZ => ?_)
  replace hkm := hkm.tr km
  replace k_x0 := km.at k_x0 (by decide)
  refine lv_bipush (v := (-102 : Int32)) C.1 C.2.1 dX15_result_5 (by decide) ?_
  refine lv_icmp_ne (tgt := 15) C.1 C.2.1 dX15_result_7 (by decide) (fun c_2 => ?_) (fun c_2 => ?_)
  · have hE := br_n hE c_2
    refine lv_aload_n C.1 C.2.1 dX15_result_15 rfl (lv_at hl 0 rfl) ?_
    refine lv_aload_n C.1 C.2.1 dX15_result_16 rfl (lv_at hl 0 rfl) ?_
    obtain ⟨r_3, er_3, hE⟩ := cl_e hE
    refine gf_X15_257 C hW k_x0 er_3 dX15_result_17 (fun k_r_3 => ?_)
    refine lv_iload_n C.1 C.2.1 dX15_result_20 rfl (lv_at hl 1 rfl) ?_
    obtain ⟨g_4, hE⟩ := gd_e hE
    obtain ⟨r_5, er_5, hE⟩ := cl_e hE
    refine y_aald (t0 := 5) C hW k_r_3 (by decide) (by decide) rfl rfl rfl (fun _ => rfl) g_4 er_5 dX15_result_21 (fun k_r_5 => ?_)
    refine lv_aload_n C.1 C.2.1 dX15_result_22 rfl (lv_at hl 0 rfl) ?_
    obtain ⟨r_6, er_6, hE⟩ := cl_e hE
    refine gf_X15_288 C hW k_x0 er_6 dX15_result_23 (fun k_r_6 => ?_)
    refine gf_X15_575 C hW k_r_6 dX15_result_26 ?_
    obtain ⟨o_7, eo_7, hE⟩ := cl_e hE
    refine x_kI (o := o_7) (z_runV (As := [.ref r_5, .int (hI o_1.2 r_6 0)]) (rest := []) C (ct_X15_endedBy l X F k_x0 k_r_5 eo_7) cw_X15_683 hW hZ k_x0 (by decide) rfl rfl rfl hl.1 (Nat.le_of_ble_eq_true rfl) rfl dX15_result_29 ⟨Nat.le_of_ble_eq_true rfl, Nat.le_of_ble_eq_true rfl⟩ ⟨Nat.le_refl _, Nat.le_refl _⟩) hZ (fun _ _ hW km hZ => ?_)
    replace hkm := hkm.tr km
    replace k_x0 := km.at k_x0 (by decide)
    refine lv_if_ne (tgt := 39) C.1 C.2.1 dX15_result_32 (by decide) (fun c_8 => ?_) (fun c_8 => ?_)
    · have hE := br_n hE c_8
      refine lv_aload_n C.1 C.2.1 dX15_result_39 rfl (lv_at hl 0 rfl) ?_
      refine gf_X15_646 C hW k_x0 dX15_result_40 ?_
      exact bX15_result_43 C hkm hW hZ _ (lv_sub hl [] rfl) hE
    · have hE := br_p hE c_8
      refine lv_iconst (v := (-1 : Int32)) C.1 C.2.1 dX15_result_35 (by decide) ?_
      refine lv_goto (tgt := 43) C.1 C.2.1 dX15_result_36 (by decide) ?_
      exact bX15_result_43 C hkm hW hZ _ (lv_sub hl [] rfl) hE
  · have hE := br_p hE c_2
    refine lv_bipush (v := (-102 : Int32)) C.1 C.2.1 dX15_result_10 (by decide) ?_
    refine lv_goto (tgt := 43) C.1 C.2.1 dX15_result_12 (by decide) ?_
    exact bX15_result_43 C hkm hW hZ _ (lv_sub hl [] rfl) hE
theorem dX15_sayWhich_0 : decode cX15_sayWhich 0 = .ok (.iconst 0, 1) := by decide +kernel
theorem dX15_sayWhich_1 : decode cX15_sayWhich 1 = .ok (.istore_n 2, 1) := by decide +kernel
theorem dX15_sayWhich_2 : decode cX15_sayWhich 2 = .ok (.iconst 0, 1) := by decide +kernel
theorem dX15_sayWhich_3 : decode cX15_sayWhich 3 = .ok (.istore_n 3, 1) := by decide +kernel
theorem dX15_sayWhich_4 : decode cX15_sayWhich 4 = .ok (.iconst 0, 1) := by decide +kernel
theorem dX15_sayWhich_5 : decode cX15_sayWhich 5 = .ok (.istore 4, 2) := by decide +kernel
theorem dX15_sayWhich_7 : decode cX15_sayWhich 7 = .ok (.iconst 0, 1) := by decide +kernel
theorem dX15_sayWhich_8 : decode cX15_sayWhich 8 = .ok (.istore 5, 2) := by decide +kernel
theorem dX15_sayWhich_10 : decode cX15_sayWhich 10 = .ok (.iload 5, 2) := by decide +kernel
theorem dX15_sayWhich_12 : decode cX15_sayWhich 12 = .ok (.aload_n 0, 1) := by decide +kernel
theorem dX15_sayWhich_13 : decode cX15_sayWhich 13 = .ok (.getfield 288, 3) := by decide +kernel
theorem dX15_sayWhich_16 : decode cX15_sayWhich 16 = .ok (.getfield 575, 3) := by decide +kernel
theorem dX15_sayWhich_19 : decode cX15_sayWhich 19 = .ok (.if_icmp .ge 173, 3) := by decide +kernel
theorem dX15_sayWhich_22 : decode cX15_sayWhich 22 = .ok (.aload_n 0, 1) := by decide +kernel
theorem dX15_sayWhich_23 : decode cX15_sayWhich 23 = .ok (.getfield 288, 3) := by decide +kernel
theorem dX15_sayWhich_26 : decode cX15_sayWhich 26 = .ok (.getfield 602, 3) := by decide +kernel
theorem dX15_sayWhich_29 : decode cX15_sayWhich 29 = .ok (.iload 5, 2) := by decide +kernel
theorem dX15_sayWhich_31 : decode cX15_sayWhich 31 = .ok (.iaload, 1) := by decide +kernel
theorem dX15_sayWhich_32 : decode cX15_sayWhich 32 = .ok (.iconst 2, 1) := by decide +kernel
theorem dX15_sayWhich_33 : decode cX15_sayWhich 33 = .ok (.if_icmp .ge 153, 3) := by decide +kernel
theorem dX15_sayWhich_36 : decode cX15_sayWhich 36 = .ok (.aload_n 0, 1) := by decide +kernel
theorem dX15_sayWhich_37 : decode cX15_sayWhich 37 = .ok (.getfield 288, 3) := by decide +kernel
theorem dX15_sayWhich_40 : decode cX15_sayWhich 40 = .ok (.getfield 600, 3) := by decide +kernel
theorem dX15_sayWhich_43 : decode cX15_sayWhich 43 = .ok (.iload 5, 2) := by decide +kernel
theorem dX15_sayWhich_45 : decode cX15_sayWhich 45 = .ok (.iaload, 1) := by decide +kernel
theorem dX15_sayWhich_46 : decode cX15_sayWhich 46 = .ok (.aload_n 0, 1) := by decide +kernel
theorem dX15_sayWhich_47 : decode cX15_sayWhich 47 = .ok (.getfield 288, 3) := by decide +kernel
theorem dX15_sayWhich_50 : decode cX15_sayWhich 50 = .ok (.getfield 600, 3) := by decide +kernel
theorem dX15_sayWhich_53 : decode cX15_sayWhich 53 = .ok (.iload_n 1, 1) := by decide +kernel
theorem dX15_sayWhich_54 : decode cX15_sayWhich 54 = .ok (.iaload, 1) := by decide +kernel
theorem dX15_sayWhich_55 : decode cX15_sayWhich 55 = .ok (.if_icmp .ne 131, 3) := by decide +kernel
theorem dX15_sayWhich_58 : decode cX15_sayWhich 58 = .ok (.aload_n 0, 1) := by decide +kernel
theorem dX15_sayWhich_59 : decode cX15_sayWhich 59 = .ok (.getfield 288, 3) := by decide +kernel
theorem dX15_sayWhich_62 : decode cX15_sayWhich 62 = .ok (.getfield 598, 3) := by decide +kernel
theorem dX15_sayWhich_65 : decode cX15_sayWhich 65 = .ok (.iload 5, 2) := by decide +kernel
theorem dX15_sayWhich_67 : decode cX15_sayWhich 67 = .ok (.iaload, 1) := by decide +kernel
theorem dX15_sayWhich_68 : decode cX15_sayWhich 68 = .ok (.aload_n 0, 1) := by decide +kernel
theorem dX15_sayWhich_69 : decode cX15_sayWhich 69 = .ok (.getfield 288, 3) := by decide +kernel
theorem dX15_sayWhich_72 : decode cX15_sayWhich 72 = .ok (.getfield 598, 3) := by decide +kernel
theorem dX15_sayWhich_75 : decode cX15_sayWhich 75 = .ok (.iload_n 1, 1) := by decide +kernel
theorem dX15_sayWhich_76 : decode cX15_sayWhich 76 = .ok (.iaload, 1) := by decide +kernel
theorem dX15_sayWhich_77 : decode cX15_sayWhich 77 = .ok (.if_icmp .ne 109, 3) := by decide +kernel
theorem dX15_sayWhich_80 : decode cX15_sayWhich 80 = .ok (.aload_n 0, 1) := by decide +kernel
theorem dX15_sayWhich_81 : decode cX15_sayWhich 81 = .ok (.getfield 288, 3) := by decide +kernel
theorem dX15_sayWhich_84 : decode cX15_sayWhich 84 = .ok (.getfield 597, 3) := by decide +kernel
theorem dX15_sayWhich_87 : decode cX15_sayWhich 87 = .ok (.iload 5, 2) := by decide +kernel
theorem dX15_sayWhich_89 : decode cX15_sayWhich 89 = .ok (.iaload, 1) := by decide +kernel
theorem dX15_sayWhich_90 : decode cX15_sayWhich 90 = .ok (.aload_n 0, 1) := by decide +kernel
theorem dX15_sayWhich_91 : decode cX15_sayWhich 91 = .ok (.getfield 288, 3) := by decide +kernel
theorem dX15_sayWhich_94 : decode cX15_sayWhich 94 = .ok (.getfield 597, 3) := by decide +kernel
theorem dX15_sayWhich_97 : decode cX15_sayWhich 97 = .ok (.iload_n 1, 1) := by decide +kernel
theorem dX15_sayWhich_98 : decode cX15_sayWhich 98 = .ok (.iaload, 1) := by decide +kernel
theorem dX15_sayWhich_99 : decode cX15_sayWhich 99 = .ok (.if_icmp .eq 87, 3) := by decide +kernel
theorem dX15_sayWhich_102 : decode cX15_sayWhich 102 = .ok (.iconst 1, 1) := by decide +kernel
theorem dX15_sayWhich_103 : decode cX15_sayWhich 103 = .ok (.istore_n 2, 1) := by decide +kernel
theorem dX15_sayWhich_104 : decode cX15_sayWhich 104 = .ok (.iload_n 3, 1) := by decide +kernel
theorem dX15_sayWhich_105 : decode cX15_sayWhich 105 = .ok (.aload_n 0, 1) := by decide +kernel
theorem dX15_sayWhich_106 : decode cX15_sayWhich 106 = .ok (.getfield 288, 3) := by decide +kernel
theorem dX15_sayWhich_109 : decode cX15_sayWhich 109 = .ok (.getfield 597, 3) := by decide +kernel
theorem dX15_sayWhich_112 : decode cX15_sayWhich 112 = .ok (.iload 5, 2) := by decide +kernel
theorem dX15_sayWhich_114 : decode cX15_sayWhich 114 = .ok (.iaload, 1) := by decide +kernel
theorem dX15_sayWhich_115 : decode cX15_sayWhich 115 = .ok (.aload_n 0, 1) := by decide +kernel
theorem dX15_sayWhich_116 : decode cX15_sayWhich 116 = .ok (.getfield 382, 3) := by decide +kernel
theorem dX15_sayWhich_119 : decode cX15_sayWhich 119 = .ok (.irem, 1) := by decide +kernel
theorem dX15_sayWhich_120 : decode cX15_sayWhich 120 = .ok (.aload_n 0, 1) := by decide +kernel
theorem dX15_sayWhich_121 : decode cX15_sayWhich 121 = .ok (.getfield 288, 3) := by decide +kernel
theorem dX15_sayWhich_124 : decode cX15_sayWhich 124 = .ok (.getfield 597, 3) := by decide +kernel
theorem dX15_sayWhich_127 : decode cX15_sayWhich 127 = .ok (.iload_n 1, 1) := by decide +kernel
theorem dX15_sayWhich_128 : decode cX15_sayWhich 128 = .ok (.iaload, 1) := by decide +kernel
theorem dX15_sayWhich_129 : decode cX15_sayWhich 129 = .ok (.aload_n 0, 1) := by decide +kernel
theorem dX15_sayWhich_130 : decode cX15_sayWhich 130 = .ok (.getfield 382, 3) := by decide +kernel
theorem dX15_sayWhich_133 : decode cX15_sayWhich 133 = .ok (.irem, 1) := by decide +kernel
theorem dX15_sayWhich_134 : decode cX15_sayWhich 134 = .ok (.if_icmp .ne 7, 3) := by decide +kernel
theorem dX15_sayWhich_137 : decode cX15_sayWhich 137 = .ok (.iconst 1, 1) := by decide +kernel
theorem dX15_sayWhich_138 : decode cX15_sayWhich 138 = .ok (.goto 4, 3) := by decide +kernel
theorem dX15_sayWhich_141 : decode cX15_sayWhich 141 = .ok (.iconst 0, 1) := by decide +kernel
theorem dX15_sayWhich_142 : decode cX15_sayWhich 142 = .ok (.ior, 1) := by decide +kernel
theorem dX15_sayWhich_143 : decode cX15_sayWhich 143 = .ok (.istore_n 3, 1) := by decide +kernel
theorem dX15_sayWhich_144 : decode cX15_sayWhich 144 = .ok (.iload 4, 2) := by decide +kernel
theorem dX15_sayWhich_146 : decode cX15_sayWhich 146 = .ok (.aload_n 0, 1) := by decide +kernel
theorem dX15_sayWhich_147 : decode cX15_sayWhich 147 = .ok (.getfield 288, 3) := by decide +kernel
theorem dX15_sayWhich_150 : decode cX15_sayWhich 150 = .ok (.getfield 597, 3) := by decide +kernel
theorem dX15_sayWhich_153 : decode cX15_sayWhich 153 = .ok (.iload 5, 2) := by decide +kernel
theorem dX15_sayWhich_155 : decode cX15_sayWhich 155 = .ok (.iaload, 1) := by decide +kernel
theorem dX15_sayWhich_156 : decode cX15_sayWhich 156 = .ok (.aload_n 0, 1) := by decide +kernel
theorem dX15_sayWhich_157 : decode cX15_sayWhich 157 = .ok (.getfield 382, 3) := by decide +kernel
theorem dX15_sayWhich_160 : decode cX15_sayWhich 160 = .ok (.idiv, 1) := by decide +kernel
theorem dX15_sayWhich_161 : decode cX15_sayWhich 161 = .ok (.aload_n 0, 1) := by decide +kernel
theorem dX15_sayWhich_162 : decode cX15_sayWhich 162 = .ok (.getfield 288, 3) := by decide +kernel
theorem dX15_sayWhich_165 : decode cX15_sayWhich 165 = .ok (.getfield 597, 3) := by decide +kernel
theorem dX15_sayWhich_168 : decode cX15_sayWhich 168 = .ok (.iload_n 1, 1) := by decide +kernel
theorem dX15_sayWhich_169 : decode cX15_sayWhich 169 = .ok (.iaload, 1) := by decide +kernel
theorem dX15_sayWhich_170 : decode cX15_sayWhich 170 = .ok (.aload_n 0, 1) := by decide +kernel
theorem dX15_sayWhich_171 : decode cX15_sayWhich 171 = .ok (.getfield 382, 3) := by decide +kernel
theorem dX15_sayWhich_174 : decode cX15_sayWhich 174 = .ok (.idiv, 1) := by decide +kernel
theorem dX15_sayWhich_175 : decode cX15_sayWhich 175 = .ok (.if_icmp .ne 7, 3) := by decide +kernel
theorem dX15_sayWhich_178 : decode cX15_sayWhich 178 = .ok (.iconst 1, 1) := by decide +kernel
theorem dX15_sayWhich_179 : decode cX15_sayWhich 179 = .ok (.goto 4, 3) := by decide +kernel
theorem dX15_sayWhich_182 : decode cX15_sayWhich 182 = .ok (.iconst 0, 1) := by decide +kernel
theorem dX15_sayWhich_183 : decode cX15_sayWhich 183 = .ok (.ior, 1) := by decide +kernel
theorem dX15_sayWhich_184 : decode cX15_sayWhich 184 = .ok (.istore 4, 2) := by decide +kernel
theorem dX15_sayWhich_186 : decode cX15_sayWhich 186 = .ok (.iinc 5 1, 3) := by decide +kernel
theorem dX15_sayWhich_189 : decode cX15_sayWhich 189 = .ok (.goto (-179), 3) := by decide +kernel
theorem dX15_sayWhich_192 : decode cX15_sayWhich 192 = .ok (.aload_n 0, 1) := by decide +kernel
theorem dX15_sayWhich_193 : decode cX15_sayWhich 193 = .ok (.getfield 288, 3) := by decide +kernel
theorem dX15_sayWhich_196 : decode cX15_sayWhich 196 = .ok (.getfield 600, 3) := by decide +kernel
theorem dX15_sayWhich_199 : decode cX15_sayWhich 199 = .ok (.iload_n 1, 1) := by decide +kernel
theorem dX15_sayWhich_200 : decode cX15_sayWhich 200 = .ok (.iaload, 1) := by decide +kernel
theorem dX15_sayWhich_201 : decode cX15_sayWhich 201 = .ok (.aload_n 0, 1) := by decide +kernel
theorem dX15_sayWhich_202 : decode cX15_sayWhich 202 = .ok (.getfield 252, 3) := by decide +kernel
theorem dX15_sayWhich_205 : decode cX15_sayWhich 205 = .ok (.getfield 225, 3) := by decide +kernel
theorem dX15_sayWhich_208 : decode cX15_sayWhich 208 = .ok (.if_icmp .ne 20, 3) := by decide +kernel
theorem dX15_sayWhich_211 : decode cX15_sayWhich 211 = .ok (.aload_n 0, 1) := by decide +kernel
theorem dX15_sayWhich_212 : decode cX15_sayWhich 212 = .ok (.getfield 288, 3) := by decide +kernel
theorem dX15_sayWhich_215 : decode cX15_sayWhich 215 = .ok (.getfield 605, 3) := by decide +kernel
theorem dX15_sayWhich_218 : decode cX15_sayWhich 218 = .ok (.iload_n 1, 1) := by decide +kernel
theorem dX15_sayWhich_219 : decode cX15_sayWhich 219 = .ok (.iaload, 1) := by decide +kernel
theorem dX15_sayWhich_220 : decode cX15_sayWhich 220 = .ok (.iconst (-1), 1) := by decide +kernel
theorem dX15_sayWhich_221 : decode cX15_sayWhich 221 = .ok (.if_icmp .eq 7, 3) := by decide +kernel
theorem dX15_sayWhich_224 : decode cX15_sayWhich 224 = .ok (.iconst 1, 1) := by decide +kernel
theorem dX15_sayWhich_225 : decode cX15_sayWhich 225 = .ok (.goto 4, 3) := by decide +kernel
theorem dX15_sayWhich_228 : decode cX15_sayWhich 228 = .ok (.iconst 0, 1) := by decide +kernel
theorem dX15_sayWhich_229 : decode cX15_sayWhich 229 = .ok (.istore 5, 2) := by decide +kernel
theorem dX15_sayWhich_231 : decode cX15_sayWhich 231 = .ok (.iload 5, 2) := by decide +kernel
theorem dX15_sayWhich_233 : decode cX15_sayWhich 233 = .ok (.ifCond .ne 16, 3) := by decide +kernel
theorem dX15_sayWhich_236 : decode cX15_sayWhich 236 = .ok (.iload_n 2, 1) := by decide +kernel
theorem dX15_sayWhich_237 : decode cX15_sayWhich 237 = .ok (.ifCond .eq 16, 3) := by decide +kernel
theorem dX15_sayWhich_240 : decode cX15_sayWhich 240 = .ok (.iload_n 3, 1) := by decide +kernel
theorem dX15_sayWhich_241 : decode cX15_sayWhich 241 = .ok (.ifCond .eq 8, 3) := by decide +kernel
theorem dX15_sayWhich_244 : decode cX15_sayWhich 244 = .ok (.iload 4, 2) := by decide +kernel
theorem dX15_sayWhich_246 : decode cX15_sayWhich 246 = .ok (.ifCond .eq 7, 3) := by decide +kernel
theorem dX15_sayWhich_249 : decode cX15_sayWhich 249 = .ok (.iconst 1, 1) := by decide +kernel
theorem dX15_sayWhich_250 : decode cX15_sayWhich 250 = .ok (.goto 4, 3) := by decide +kernel
theorem dX15_sayWhich_253 : decode cX15_sayWhich 253 = .ok (.iconst 0, 1) := by decide +kernel
theorem dX15_sayWhich_254 : decode cX15_sayWhich 254 = .ok (.istore 6, 2) := by decide +kernel
theorem dX15_sayWhich_256 : decode cX15_sayWhich 256 = .ok (.iload 6, 2) := by decide +kernel
theorem dX15_sayWhich_258 : decode cX15_sayWhich 258 = .ok (.ifCond .eq 24, 3) := by decide +kernel
theorem dX15_sayWhich_261 : decode cX15_sayWhich 261 = .ok (.aload_n 0, 1) := by decide +kernel
theorem dX15_sayWhich_262 : decode cX15_sayWhich 262 = .ok (.bipush 97, 2) := by decide +kernel
theorem dX15_sayWhich_264 : decode cX15_sayWhich 264 = .ok (.aload_n 0, 1) := by decide +kernel
theorem dX15_sayWhich_265 : decode cX15_sayWhich 265 = .ok (.getfield 288, 3) := by decide +kernel
theorem dX15_sayWhich_268 : decode cX15_sayWhich 268 = .ok (.getfield 597, 3) := by decide +kernel
theorem dX15_sayWhich_271 : decode cX15_sayWhich 271 = .ok (.iload_n 1, 1) := by decide +kernel
theorem dX15_sayWhich_272 : decode cX15_sayWhich 272 = .ok (.iaload, 1) := by decide +kernel
theorem dX15_sayWhich_273 : decode cX15_sayWhich 273 = .ok (.aload_n 0, 1) := by decide +kernel
theorem dX15_sayWhich_274 : decode cX15_sayWhich 274 = .ok (.getfield 382, 3) := by decide +kernel
theorem dX15_sayWhich_277 : decode cX15_sayWhich 277 = .ok (.irem, 1) := by decide +kernel
theorem dX15_sayWhich_278 : decode cX15_sayWhich 278 = .ok (.iadd, 1) := by decide +kernel
theorem dX15_sayWhich_279 : decode cX15_sayWhich 279 = .ok (.invokevirtual 21, 3) := by decide +kernel
theorem dX15_sayWhich_282 : decode cX15_sayWhich 282 = .ok (.iload_n 3, 1) := by decide +kernel
theorem dX15_sayWhich_283 : decode cX15_sayWhich 283 = .ok (.ifCond .eq 39, 3) := by decide +kernel
theorem dX15_sayWhich_286 : decode cX15_sayWhich 286 = .ok (.iload 4, 2) := by decide +kernel
theorem dX15_sayWhich_288 : decode cX15_sayWhich 288 = .ok (.ifCond .ne 13, 3) := by decide +kernel
theorem dX15_sayWhich_291 : decode cX15_sayWhich 291 = .ok (.iload 5, 2) := by decide +kernel
theorem dX15_sayWhich_293 : decode cX15_sayWhich 293 = .ok (.ifCond .ne 8, 3) := by decide +kernel
theorem dX15_sayWhich_296 : decode cX15_sayWhich 296 = .ok (.iload 6, 2) := by decide +kernel
theorem dX15_sayWhich_298 : decode cX15_sayWhich 298 = .ok (.ifCond .ne 24, 3) := by decide +kernel
theorem dX15_sayWhich_301 : decode cX15_sayWhich 301 = .ok (.aload_n 0, 1) := by decide +kernel
theorem dX15_sayWhich_302 : decode cX15_sayWhich 302 = .ok (.bipush 49, 2) := by decide +kernel
theorem dX15_sayWhich_304 : decode cX15_sayWhich 304 = .ok (.aload_n 0, 1) := by decide +kernel
theorem dX15_sayWhich_305 : decode cX15_sayWhich 305 = .ok (.getfield 288, 3) := by decide +kernel
theorem dX15_sayWhich_308 : decode cX15_sayWhich 308 = .ok (.getfield 597, 3) := by decide +kernel
theorem dX15_sayWhich_311 : decode cX15_sayWhich 311 = .ok (.iload_n 1, 1) := by decide +kernel
theorem dX15_sayWhich_312 : decode cX15_sayWhich 312 = .ok (.iaload, 1) := by decide +kernel
theorem dX15_sayWhich_313 : decode cX15_sayWhich 313 = .ok (.aload_n 0, 1) := by decide +kernel
theorem dX15_sayWhich_314 : decode cX15_sayWhich 314 = .ok (.getfield 382, 3) := by decide +kernel
theorem dX15_sayWhich_317 : decode cX15_sayWhich 317 = .ok (.idiv, 1) := by decide +kernel
theorem dX15_sayWhich_318 : decode cX15_sayWhich 318 = .ok (.iadd, 1) := by decide +kernel
theorem dX15_sayWhich_319 : decode cX15_sayWhich 319 = .ok (.invokevirtual 21, 3) := by decide +kernel
theorem dX15_sayWhich_322 : decode cX15_sayWhich 322 = .ok (.return_, 1) := by decide +kernel
set_option maxRecDepth 20000 in
theorem moX15_sayWhich_322 {o : Hp} {F : Nat} {h : Hp} (hE : sX15_sayWhich_322 F h  = some o) : Le h o := by
  exact le_some1 hE
set_option maxRecDepth 20000 in
theorem moX15_sayWhich_301 {o : Hp} {F : Nat} {h : Hp} {x0 : Nat} {x1 : Int32} (hE : sX15_sayWhich_301 F h x0 x1 = some o) : Le h o := by
  obtain ⟨r_1, er_1, hE⟩ := cl_e hE
  obtain ⟨r_2, er_2, hE⟩ := cl_e hE
  obtain ⟨g_3, hE⟩ := gd_e hE
  obtain ⟨g_4, hE⟩ := gd_e hE
  obtain ⟨o_5, eo_5, hE⟩ := cl_e hE
  refine (moX15_say eo_5).tr ?_
  exact moX15_sayWhich_322 hE
set_option maxRecDepth 20000 in
theorem moX15_sayWhich_282 {o : Hp} {F : Nat} {h : Hp} {x0 : Nat} {x1 : Int32} {x3 : Int32} {x4 : Int32} {x5 : Int32} {x6 : Int32} (hE : sX15_sayWhich_282 F h x0 x1 x3 x4 x5 x6 = some o) : Le h o := by
  rcases br_e hE with ⟨_, hE⟩ | ⟨_, hE⟩
  · exact moX15_sayWhich_322 hE
  · rcases br_e hE with ⟨_, hE⟩ | ⟨_, hE⟩
    · rcases br_e hE with ⟨_, hE⟩ | ⟨_, hE⟩
      · rcases br_e hE with ⟨_, hE⟩ | ⟨_, hE⟩
        · exact moX15_sayWhich_301 hE
        · exact moX15_sayWhich_322 hE
      · exact moX15_sayWhich_301 hE
    · exact moX15_sayWhich_301 hE
set_option maxRecDepth 20000 in
theorem moX15_sayWhich_254 {o : Hp} {F : Nat} {h : Hp} {x0 : Nat} {x1 : Int32} {x3 : Int32} {x4 : Int32} {x5 : Int32} {t0 : Int32} (hE : sX15_sayWhich_254 F h x0 x1 x3 x4 x5 t0 = some o) : Le h o := by
  rcases br_e hE with ⟨_, hE⟩ | ⟨_, hE⟩
  · exact moX15_sayWhich_282 hE
  · obtain ⟨r_2, er_2, hE⟩ := cl_e hE
    obtain ⟨r_3, er_3, hE⟩ := cl_e hE
    obtain ⟨g_4, hE⟩ := gd_e hE
    obtain ⟨g_5, hE⟩ := gd_e hE
    obtain ⟨o_6, eo_6, hE⟩ := cl_e hE
    refine (moX15_say eo_6).tr ?_
    exact moX15_sayWhich_282 hE
set_option maxRecDepth 20000 in
theorem moX15_sayWhich_249 {o : Hp} {F : Nat} {h : Hp} {x0 : Nat} {x1 : Int32} {x3 : Int32} {x4 : Int32} {x5 : Int32} (hE : sX15_sayWhich_249 F h x0 x1 x3 x4 x5 = some o) : Le h o := by
  exact moX15_sayWhich_254 hE
set_option maxRecDepth 20000 in
theorem moX15_sayWhich_253 {o : Hp} {F : Nat} {h : Hp} {x0 : Nat} {x1 : Int32} {x3 : Int32} {x4 : Int32} {x5 : Int32} (hE : sX15_sayWhich_253 F h x0 x1 x3 x4 x5 = some o) : Le h o := by
  exact moX15_sayWhich_254 hE
set_option maxRecDepth 20000 in
theorem moX15_sayWhich_229 {o : Hp} {F : Nat} {h : Hp} {x0 : Nat} {x1 : Int32} {x2 : Int32} {x3 : Int32} {x4 : Int32} {t0 : Int32} (hE : sX15_sayWhich_229 F h x0 x1 x2 x3 x4 t0 = some o) : Le h o := by
  rcases br_e hE with ⟨_, hE⟩ | ⟨_, hE⟩
  · rcases br_e hE with ⟨_, hE⟩ | ⟨_, hE⟩
    · exact moX15_sayWhich_253 hE
    · rcases br_e hE with ⟨_, hE⟩ | ⟨_, hE⟩
      · exact moX15_sayWhich_249 hE
      · rcases br_e hE with ⟨_, hE⟩ | ⟨_, hE⟩
        · exact moX15_sayWhich_253 hE
        · exact moX15_sayWhich_249 hE
  · exact moX15_sayWhich_249 hE
set_option maxRecDepth 20000 in
theorem moX15_sayWhich_228 {o : Hp} {F : Nat} {h : Hp} {x0 : Nat} {x1 : Int32} {x2 : Int32} {x3 : Int32} {x4 : Int32} (hE : sX15_sayWhich_228 F h x0 x1 x2 x3 x4 = some o) : Le h o := by
  exact moX15_sayWhich_229 hE
set_option maxRecDepth 20000 in
theorem moX15_sayWhich_186 {o : Hp} {k_10 : Hp → Nat → Int32 → Int32 → Int32 → Int32 → Int32 → Option (Hp)} {F : Nat} (mk_10 : ∀ (h : Hp) (x0 : Nat) (x1 : Int32) (x2 : Int32) (x3 : Int32) (x4 : Int32) (x5 : Int32), k_10 h x0 x1 x2 x3 x4 x5 = some o → Le h o) {h : Hp} {x0 : Nat} {x1 : Int32} {x2 : Int32} {x3 : Int32} {x4 : Int32} {x5 : Int32} (hE : sX15_sayWhich_186 F k_10 h x0 x1 x2 x3 x4 x5 = some o) : Le h o := by
  obtain ⟨v_1, ev_1, hE⟩ := nm_e2 hE
  exact mk_10 _ _ _ _ _ _ _ hE
set_option maxRecDepth 20000 in
theorem moX15_sayWhich_183 {o : Hp} {k_10 : Hp → Nat → Int32 → Int32 → Int32 → Int32 → Int32 → Option (Hp)} {F : Nat} (mk_10 : ∀ (h : Hp) (x0 : Nat) (x1 : Int32) (x2 : Int32) (x3 : Int32) (x4 : Int32) (x5 : Int32), k_10 h x0 x1 x2 x3 x4 x5 = some o → Le h o) {h : Hp} {x0 : Nat} {x1 : Int32} {x2 : Int32} {x3 : Int32} {x5 : Int32} {t0 : Int32} {t1 : Int32} (hE : sX15_sayWhich_183 F k_10 h x0 x1 x2 x3 x5 t0 t1 = some o) : Le h o := by
  obtain ⟨v_1, ev_1, hE⟩ := nm_e2 hE
  exact moX15_sayWhich_186 mk_10 hE
set_option maxRecDepth 20000 in
theorem moX15_sayWhich_142 {o : Hp} {k_10 : Hp → Nat → Int32 → Int32 → Int32 → Int32 → Int32 → Option (Hp)} {F : Nat} (mk_10 : ∀ (h : Hp) (x0 : Nat) (x1 : Int32) (x2 : Int32) (x3 : Int32) (x4 : Int32) (x5 : Int32), k_10 h x0 x1 x2 x3 x4 x5 = some o → Le h o) {h : Hp} {x0 : Nat} {x1 : Int32} {x2 : Int32} {x4 : Int32} {x5 : Int32} {t0 : Int32} {t1 : Int32} (hE : sX15_sayWhich_142 F k_10 h x0 x1 x2 x4 x5 t0 t1 = some o) : Le h o := by
  obtain ⟨v_1, ev_1, hE⟩ := nm_e2 hE
  obtain ⟨r_2, er_2, hE⟩ := cl_e hE
  obtain ⟨r_3, er_3, hE⟩ := cl_e hE
  obtain ⟨g_4, hE⟩ := gd_e hE
  obtain ⟨g_5, hE⟩ := gd_e hE
  obtain ⟨r_6, er_6, hE⟩ := cl_e hE
  obtain ⟨r_7, er_7, hE⟩ := cl_e hE
  obtain ⟨g_8, hE⟩ := gd_e hE
  obtain ⟨g_9, hE⟩ := gd_e hE
  rcases br_e hE with ⟨_, hE⟩ | ⟨_, hE⟩
  · exact moX15_sayWhich_183 mk_10 hE
  · exact moX15_sayWhich_183 mk_10 hE
set_option maxRecDepth 20000 in
theorem moX15_sayWhich_10 {o : Hp} {F : Nat} : ∀ (f : Nat) {h : Hp} {x0 : Nat} {x1 : Int32} {x2 : Int32} {x3 : Int32} {x4 : Int32} {x5 : Int32}, sX15_sayWhich_10 F f h x0 x1 x2 x3 x4 x5 = some o → Le h o := by
  intro f
  induction f with
  | zero =>
    intro h x0 x1 x2 x3 x4 x5 hE
    rw [sX15_sayWhich_10] at hE
    cases hE
  | succ f ih =>
    intro h x0 x1 x2 x3 x4 x5 hE
    rw [sX15_sayWhich_10] at hE
    have mk_10 : ∀ (h : Hp) (x0 : Nat) (x1 : Int32) (x2 : Int32) (x3 : Int32) (x4 : Int32) (x5 : Int32), sX15_sayWhich_10 F f h x0 x1 x2 x3 x4 x5 = some o → Le h o := fun h x0 x1 x2 x3 x4 x5 hE => ih hE
    obtain ⟨r_1, er_1, hE⟩ := cl_e hE
    rcases br_e hE with ⟨_, hE⟩ | ⟨_, hE⟩
    · obtain ⟨r_3, er_3, hE⟩ := cl_e hE
      obtain ⟨r_4, er_4, hE⟩ := cl_e hE
      obtain ⟨g_5, hE⟩ := gd_e hE
      obtain ⟨r_6, er_6, hE⟩ := cl_e hE
      rcases br_e hE with ⟨_, hE⟩ | ⟨_, hE⟩
      · obtain ⟨r_8, er_8, hE⟩ := cl_e hE
        obtain ⟨r_9, er_9, hE⟩ := cl_e hE
        obtain ⟨g_10, hE⟩ := gd_e hE
        rcases br_e hE with ⟨_, hE⟩ | ⟨_, hE⟩
        · exact moX15_sayWhich_228 hE
        · exact moX15_sayWhich_229 hE
      · exact moX15_sayWhich_228 hE
    · obtain ⟨r_12, er_12, hE⟩ := cl_e hE
      obtain ⟨r_13, er_13, hE⟩ := cl_e hE
      obtain ⟨g_14, hE⟩ := gd_e hE
      rcases br_e hE with ⟨_, hE⟩ | ⟨_, hE⟩
      · exact moX15_sayWhich_186 mk_10 hE
      · obtain ⟨r_16, er_16, hE⟩ := cl_e hE
        obtain ⟨r_17, er_17, hE⟩ := cl_e hE
        obtain ⟨g_18, hE⟩ := gd_e hE
        obtain ⟨r_19, er_19, hE⟩ := cl_e hE
        obtain ⟨r_20, er_20, hE⟩ := cl_e hE
        obtain ⟨g_21, hE⟩ := gd_e hE
        rcases br_e hE with ⟨_, hE⟩ | ⟨_, hE⟩
        · obtain ⟨r_23, er_23, hE⟩ := cl_e hE
          obtain ⟨r_24, er_24, hE⟩ := cl_e hE
          obtain ⟨g_25, hE⟩ := gd_e hE
          obtain ⟨r_26, er_26, hE⟩ := cl_e hE
          obtain ⟨r_27, er_27, hE⟩ := cl_e hE
          obtain ⟨g_28, hE⟩ := gd_e hE
          rcases br_e hE with ⟨_, hE⟩ | ⟨_, hE⟩
          · obtain ⟨r_30, er_30, hE⟩ := cl_e hE
            obtain ⟨r_31, er_31, hE⟩ := cl_e hE
            obtain ⟨g_32, hE⟩ := gd_e hE
            obtain ⟨r_33, er_33, hE⟩ := cl_e hE
            obtain ⟨r_34, er_34, hE⟩ := cl_e hE
            obtain ⟨g_35, hE⟩ := gd_e hE
            rcases br_e hE with ⟨_, hE⟩ | ⟨_, hE⟩
            · exact moX15_sayWhich_186 mk_10 hE
            · obtain ⟨r_37, er_37, hE⟩ := cl_e hE
              obtain ⟨r_38, er_38, hE⟩ := cl_e hE
              obtain ⟨g_39, hE⟩ := gd_e hE
              obtain ⟨g_40, hE⟩ := gd_e hE
              obtain ⟨r_41, er_41, hE⟩ := cl_e hE
              obtain ⟨r_42, er_42, hE⟩ := cl_e hE
              obtain ⟨g_43, hE⟩ := gd_e hE
              obtain ⟨g_44, hE⟩ := gd_e hE
              rcases br_e hE with ⟨_, hE⟩ | ⟨_, hE⟩
              · exact moX15_sayWhich_142 mk_10 hE
              · exact moX15_sayWhich_142 mk_10 hE
          · exact moX15_sayWhich_186 mk_10 hE
        · exact moX15_sayWhich_186 mk_10 hE
set_option maxRecDepth 20000 in
theorem moX15_sayWhich {o : Hp} {F : Nat} {h : Hp} {x0 : Nat} {x1 : Int32} (hE : sX15_sayWhich F h x0 x1 = some o) : Le h o := by
  exact moX15_sayWhich_10 _ hE
set_option maxRecDepth 20000 in
theorem bX15_sayWhich_322 {p : Program} {l : Launch} {e : Env} {s : State} {m : MethodId} {args : Array Value} {below : List Frame} {meth : Method} {c : Code} {X : Ec} {h0 : Hp} {o : Hp} {F : Nat} (C : Cx X p s m args meth c RX15 cX15_sayWhich 7 none "sayWhich") {h : Hp} {H : Heap} {locs : List Loc} (hkm : Km h0 h) (hW : Wx X h H) (hZ : va_S (aA (eB X)) s.heap H locs) (ls : Array Slot) (hl : lv_has ls 7 []) (hE : sX15_sayWhich_322 F h  = some o) : W p l e (rm 1 21) s m args below meth c H locs 0 0 (MQ below (QV X h0 o) args s 0 0 (aA (eB X))) (F0 m 322 ls []) := by
  exact x_vret C rfl hW hZ hkm hE dX15_sayWhich_322
set_option maxRecDepth 20000 in
theorem bX15_sayWhich_301 {p : Program} {l : Launch} {e : Env} {s : State} {m : MethodId} {args : Array Value} {below : List Frame} {meth : Method} {c : Code} {X : Ec} {h0 : Hp} {o : Hp} {F : Nat} (C : Cx X p s m args meth c RX15 cX15_sayWhich 7 none "sayWhich") {h : Hp} {x0 : Nat} {x1 : Int32} {H : Heap} {locs : List Loc} (k_x0 : hK h x0 = 15) (hkm : Km h0 h) (hW : Wx X h H) (hZ : va_S (aA (eB X)) s.heap H locs) (ls : Array Slot) (hl : lv_has ls 7 [(0, .ref x0), (1, .int x1)]) (hE : sX15_sayWhich_301 F h x0 x1 = some o) : W p l e (rm 1 21) s m args below meth c H locs 0 0 (MQ below (QV X h0 o) args s 0 0 (aA (eB X))) (F0 m 301 ls []) := by
  refine lv_aload_n C.1 C.2.1 dX15_sayWhich_301 rfl (lv_at hl 0 rfl) ?_
  refine lv_bipush (v := (49 : Int32)) C.1 C.2.1 dX15_sayWhich_302 (by decide) ?_
  refine lv_aload_n C.1 C.2.1 dX15_sayWhich_304 rfl (lv_at hl 0 rfl) ?_
  obtain ⟨r_1, er_1, hE⟩ := cl_e hE
  refine gf_X15_288 C hW k_x0 er_1 dX15_sayWhich_305 (fun k_r_1 => ?_)
  obtain ⟨r_2, er_2, hE⟩ := cl_e hE
  refine gf_X15_597 C hW k_r_1 er_2 dX15_sayWhich_308 (fun k_r_2 => ?_)
  refine lv_iload_n C.1 C.2.1 dX15_sayWhich_311 rfl (lv_at hl 1 rfl) ?_
  obtain ⟨g_3, hE⟩ := gd_e hE
  refine y_iald C hW k_r_2 g_3 dX15_sayWhich_312 ?_
  refine lv_aload_n C.1 C.2.1 dX15_sayWhich_313 rfl (lv_at hl 0 rfl) ?_
  refine gf_X15_382 C hW k_x0 dX15_sayWhich_314 ?_
  obtain ⟨g_4, hE⟩ := gd_e hE
  refine lv_idiv C.1 C.2.1 dX15_sayWhich_317 g_4 ?_
  refine lv_iadd C.1 C.2.1 dX15_sayWhich_318 ?_
  obtain ⟨o_5, eo_5, hE⟩ := cl_e hE
  refine x_kV (o := o_5) (z_runV (As := [.int ((49 : Int32) + ((hI h r_2 x1.toNatClampNeg) / (hI h x0 11)))]) (rest := []) C (ct_X15_say l X k_x0 eo_5) cw_X15_21 hW hZ k_x0 (by decide) rfl rfl rfl hl.1 (Nat.le_of_ble_eq_true rfl) rfl dX15_sayWhich_319 ⟨Nat.le_of_ble_eq_true rfl, Nat.le_of_ble_eq_true rfl⟩ ⟨Nat.le_refl _, Nat.le_refl _⟩) hZ (fun _ _ hW km hZ => ?_)
  replace hkm := hkm.tr km
  replace k_x0 := km.at k_x0 (by decide)
  exact bX15_sayWhich_322 C hkm hW hZ _ (lv_sub hl [] rfl) hE
set_option maxRecDepth 20000 in
theorem bX15_sayWhich_282 {p : Program} {l : Launch} {e : Env} {s : State} {m : MethodId} {args : Array Value} {below : List Frame} {meth : Method} {c : Code} {X : Ec} {h0 : Hp} {o : Hp} {F : Nat} (C : Cx X p s m args meth c RX15 cX15_sayWhich 7 none "sayWhich") {h : Hp} {x0 : Nat} {x1 : Int32} {x3 : Int32} {x4 : Int32} {x5 : Int32} {x6 : Int32} {H : Heap} {locs : List Loc} (k_x0 : hK h x0 = 15) (hkm : Km h0 h) (hW : Wx X h H) (hZ : va_S (aA (eB X)) s.heap H locs) (ls : Array Slot) (hl : lv_has ls 7 [(0, .ref x0), (1, .int x1), (3, .int x3), (4, .int x4), (5, .int x5), (6, .int x6)]) (hE : sX15_sayWhich_282 F h x0 x1 x3 x4 x5 x6 = some o) : W p l e (rm 1 21) s m args below meth c H locs 0 0 (MQ below (QV X h0 o) args s 0 0 (aA (eB X))) (F0 m 282 ls []) := by
  refine lv_iload_n C.1 C.2.1 dX15_sayWhich_282 rfl (lv_at hl 2 rfl) ?_
  refine lv_if_eq (tgt := 322) C.1 C.2.1 dX15_sayWhich_283 (by decide) (fun c_1 => ?_) (fun c_1 => ?_)
  · have hE := br_p hE c_1
    exact bX15_sayWhich_322 C hkm hW hZ _ (lv_sub hl [] rfl) hE
  · have hE := br_n hE c_1
    refine lv_iload C.1 C.2.1 dX15_sayWhich_286 (lv_at hl 3 rfl) ?_
    refine lv_if_ne (tgt := 301) C.1 C.2.1 dX15_sayWhich_288 (by decide) (fun c_2 => ?_) (fun c_2 => ?_)
    · have hE := br_n hE c_2
      exact bX15_sayWhich_301 C k_x0 hkm hW hZ _ (lv_sub hl [0, 1] rfl) hE
    · have hE := br_p hE c_2
      refine lv_iload C.1 C.2.1 dX15_sayWhich_291 (lv_at hl 4 rfl) ?_
      refine lv_if_ne (tgt := 301) C.1 C.2.1 dX15_sayWhich_293 (by decide) (fun c_3 => ?_) (fun c_3 => ?_)
      · have hE := br_n hE c_3
        exact bX15_sayWhich_301 C k_x0 hkm hW hZ _ (lv_sub hl [0, 1] rfl) hE
      · have hE := br_p hE c_3
        refine lv_iload C.1 C.2.1 dX15_sayWhich_296 (lv_at hl 5 rfl) ?_
        refine lv_if_ne (tgt := 322) C.1 C.2.1 dX15_sayWhich_298 (by decide) (fun c_4 => ?_) (fun c_4 => ?_)
        · have hE := br_n hE c_4
          exact bX15_sayWhich_322 C hkm hW hZ _ (lv_sub hl [] rfl) hE
        · have hE := br_p hE c_4
          exact bX15_sayWhich_301 C k_x0 hkm hW hZ _ (lv_sub hl [0, 1] rfl) hE
set_option maxRecDepth 20000 in
theorem bX15_sayWhich_254 {p : Program} {l : Launch} {e : Env} {s : State} {m : MethodId} {args : Array Value} {below : List Frame} {meth : Method} {c : Code} {X : Ec} {h0 : Hp} {o : Hp} {F : Nat} (C : Cx X p s m args meth c RX15 cX15_sayWhich 7 none "sayWhich") {h : Hp} {x0 : Nat} {x1 : Int32} {x3 : Int32} {x4 : Int32} {x5 : Int32} {t0 : Int32} {H : Heap} {locs : List Loc} (k_x0 : hK h x0 = 15) (hkm : Km h0 h) (hW : Wx X h H) (hZ : va_S (aA (eB X)) s.heap H locs) (ls : Array Slot) (hl : lv_has ls 7 [(0, .ref x0), (1, .int x1), (3, .int x3), (4, .int x4), (5, .int x5)]) (hE : sX15_sayWhich_254 F h x0 x1 x3 x4 x5 t0 = some o) : W p l e (rm 1 21) s m args below meth c H locs 0 0 (MQ below (QV X h0 o) args s 0 0 (aA (eB X))) (F0 m 254 ls [.int t0]) := by
  refine lv_istore (lv' := [(6, .int t0), (0, .ref x0), (1, .int x1), (3, .int x3), (4, .int x4), (5, .int x5)]) C.1 C.2.1 dX15_sayWhich_254 hl (by decide) rfl (fun ls hl => ?_)
  refine lv_iload C.1 C.2.1 dX15_sayWhich_256 (lv_at hl 0 rfl) ?_
  refine lv_if_eq (tgt := 282) C.1 C.2.1 dX15_sayWhich_258 (by decide) (fun c_1 => ?_) (fun c_1 => ?_)
  · have hE := br_p hE c_1
    exact bX15_sayWhich_282 C k_x0 hkm hW hZ _ (lv_sub hl [1, 2, 3, 4, 5, 0] rfl) hE
  · have hE := br_n hE c_1
    refine lv_aload_n C.1 C.2.1 dX15_sayWhich_261 rfl (lv_at hl 1 rfl) ?_
    refine lv_bipush (v := (97 : Int32)) C.1 C.2.1 dX15_sayWhich_262 (by decide) ?_
    refine lv_aload_n C.1 C.2.1 dX15_sayWhich_264 rfl (lv_at hl 1 rfl) ?_
    obtain ⟨r_2, er_2, hE⟩ := cl_e hE
    refine gf_X15_288 C hW k_x0 er_2 dX15_sayWhich_265 (fun k_r_2 => ?_)
    obtain ⟨r_3, er_3, hE⟩ := cl_e hE
    refine gf_X15_597 C hW k_r_2 er_3 dX15_sayWhich_268 (fun k_r_3 => ?_)
    refine lv_iload_n C.1 C.2.1 dX15_sayWhich_271 rfl (lv_at hl 2 rfl) ?_
    obtain ⟨g_4, hE⟩ := gd_e hE
    refine y_iald C hW k_r_3 g_4 dX15_sayWhich_272 ?_
    refine lv_aload_n C.1 C.2.1 dX15_sayWhich_273 rfl (lv_at hl 1 rfl) ?_
    refine gf_X15_382 C hW k_x0 dX15_sayWhich_274 ?_
    obtain ⟨g_5, hE⟩ := gd_e hE
    refine lv_irem C.1 C.2.1 dX15_sayWhich_277 g_5 ?_
    refine lv_iadd C.1 C.2.1 dX15_sayWhich_278 ?_
    obtain ⟨o_6, eo_6, hE⟩ := cl_e hE
    refine x_kV (o := o_6) (z_runV (As := [.int ((97 : Int32) + ((hI h r_3 x1.toNatClampNeg) - (hI h r_3 x1.toNatClampNeg) / (hI h x0 11) * (hI h x0 11)))]) (rest := []) C (ct_X15_say l X k_x0 eo_6) cw_X15_21 hW hZ k_x0 (by decide) rfl rfl rfl hl.1 (Nat.le_of_ble_eq_true rfl) rfl dX15_sayWhich_279 ⟨Nat.le_of_ble_eq_true rfl, Nat.le_of_ble_eq_true rfl⟩ ⟨Nat.le_refl _, Nat.le_refl _⟩) hZ (fun _ _ hW km hZ => ?_)
    replace hkm := hkm.tr km
    replace k_x0 := km.at k_x0 (by decide)
    exact bX15_sayWhich_282 C k_x0 hkm hW hZ _ (lv_sub hl [1, 2, 3, 4, 5, 0] rfl) hE
set_option maxRecDepth 20000 in
theorem bX15_sayWhich_249 {p : Program} {l : Launch} {e : Env} {s : State} {m : MethodId} {args : Array Value} {below : List Frame} {meth : Method} {c : Code} {X : Ec} {h0 : Hp} {o : Hp} {F : Nat} (C : Cx X p s m args meth c RX15 cX15_sayWhich 7 none "sayWhich") {h : Hp} {x0 : Nat} {x1 : Int32} {x3 : Int32} {x4 : Int32} {x5 : Int32} {H : Heap} {locs : List Loc} (k_x0 : hK h x0 = 15) (hkm : Km h0 h) (hW : Wx X h H) (hZ : va_S (aA (eB X)) s.heap H locs) (ls : Array Slot) (hl : lv_has ls 7 [(0, .ref x0), (1, .int x1), (3, .int x3), (4, .int x4), (5, .int x5)]) (hE : sX15_sayWhich_249 F h x0 x1 x3 x4 x5 = some o) : W p l e (rm 1 21) s m args below meth c H locs 0 0 (MQ below (QV X h0 o) args s 0 0 (aA (eB X))) (F0 m 249 ls []) := by
  refine lv_iconst (v := (1 : Int32)) C.1 C.2.1 dX15_sayWhich_249 (by decide) ?_
  refine lv_goto (tgt := 254) C.1 C.2.1 dX15_sayWhich_250 (by decide) ?_
  exact bX15_sayWhich_254 C k_x0 hkm hW hZ _ (lv_sub hl [0, 1, 2, 3, 4] rfl) hE
set_option maxRecDepth 20000 in
theorem bX15_sayWhich_253 {p : Program} {l : Launch} {e : Env} {s : State} {m : MethodId} {args : Array Value} {below : List Frame} {meth : Method} {c : Code} {X : Ec} {h0 : Hp} {o : Hp} {F : Nat} (C : Cx X p s m args meth c RX15 cX15_sayWhich 7 none "sayWhich") {h : Hp} {x0 : Nat} {x1 : Int32} {x3 : Int32} {x4 : Int32} {x5 : Int32} {H : Heap} {locs : List Loc} (k_x0 : hK h x0 = 15) (hkm : Km h0 h) (hW : Wx X h H) (hZ : va_S (aA (eB X)) s.heap H locs) (ls : Array Slot) (hl : lv_has ls 7 [(0, .ref x0), (1, .int x1), (3, .int x3), (4, .int x4), (5, .int x5)]) (hE : sX15_sayWhich_253 F h x0 x1 x3 x4 x5 = some o) : W p l e (rm 1 21) s m args below meth c H locs 0 0 (MQ below (QV X h0 o) args s 0 0 (aA (eB X))) (F0 m 253 ls []) := by
  refine lv_iconst (v := (0 : Int32)) C.1 C.2.1 dX15_sayWhich_253 (by decide) ?_
  exact bX15_sayWhich_254 C k_x0 hkm hW hZ _ (lv_sub hl [0, 1, 2, 3, 4] rfl) hE
set_option maxRecDepth 20000 in
theorem bX15_sayWhich_229 {p : Program} {l : Launch} {e : Env} {s : State} {m : MethodId} {args : Array Value} {below : List Frame} {meth : Method} {c : Code} {X : Ec} {h0 : Hp} {o : Hp} {F : Nat} (C : Cx X p s m args meth c RX15 cX15_sayWhich 7 none "sayWhich") {h : Hp} {x0 : Nat} {x1 : Int32} {x2 : Int32} {x3 : Int32} {x4 : Int32} {t0 : Int32} {H : Heap} {locs : List Loc} (k_x0 : hK h x0 = 15) (hkm : Km h0 h) (hW : Wx X h H) (hZ : va_S (aA (eB X)) s.heap H locs) (ls : Array Slot) (hl : lv_has ls 7 [(0, .ref x0), (1, .int x1), (2, .int x2), (3, .int x3), (4, .int x4)]) (hE : sX15_sayWhich_229 F h x0 x1 x2 x3 x4 t0 = some o) : W p l e (rm 1 21) s m args below meth c H locs 0 0 (MQ below (QV X h0 o) args s 0 0 (aA (eB X))) (F0 m 229 ls [.int t0]) := by
  refine lv_istore (lv' := [(5, .int t0), (0, .ref x0), (1, .int x1), (2, .int x2), (3, .int x3), (4, .int x4)]) C.1 C.2.1 dX15_sayWhich_229 hl (by decide) rfl (fun ls hl => ?_)
  refine lv_iload C.1 C.2.1 dX15_sayWhich_231 (lv_at hl 0 rfl) ?_
  refine lv_if_ne (tgt := 249) C.1 C.2.1 dX15_sayWhich_233 (by decide) (fun c_1 => ?_) (fun c_1 => ?_)
  · have hE := br_n hE c_1
    exact bX15_sayWhich_249 C k_x0 hkm hW hZ _ (lv_sub hl [1, 2, 4, 5, 0] rfl) hE
  · have hE := br_p hE c_1
    refine lv_iload_n C.1 C.2.1 dX15_sayWhich_236 rfl (lv_at hl 3 rfl) ?_
    refine lv_if_eq (tgt := 253) C.1 C.2.1 dX15_sayWhich_237 (by decide) (fun c_2 => ?_) (fun c_2 => ?_)
    · have hE := br_p hE c_2
      exact bX15_sayWhich_253 C k_x0 hkm hW hZ _ (lv_sub hl [1, 2, 4, 5, 0] rfl) hE
    · have hE := br_n hE c_2
      refine lv_iload_n C.1 C.2.1 dX15_sayWhich_240 rfl (lv_at hl 4 rfl) ?_
      refine lv_if_eq (tgt := 249) C.1 C.2.1 dX15_sayWhich_241 (by decide) (fun c_3 => ?_) (fun c_3 => ?_)
      · have hE := br_p hE c_3
        exact bX15_sayWhich_249 C k_x0 hkm hW hZ _ (lv_sub hl [1, 2, 4, 5, 0] rfl) hE
      · have hE := br_n hE c_3
        refine lv_iload C.1 C.2.1 dX15_sayWhich_244 (lv_at hl 5 rfl) ?_
        refine lv_if_eq (tgt := 253) C.1 C.2.1 dX15_sayWhich_246 (by decide) (fun c_4 => ?_) (fun c_4 => ?_)
        · have hE := br_p hE c_4
          exact bX15_sayWhich_253 C k_x0 hkm hW hZ _ (lv_sub hl [1, 2, 4, 5, 0] rfl) hE
        · have hE := br_n hE c_4
          exact bX15_sayWhich_249 C k_x0 hkm hW hZ _ (lv_sub hl [1, 2, 4, 5, 0] rfl) hE
set_option maxRecDepth 20000 in
theorem bX15_sayWhich_228 {p : Program} {l : Launch} {e : Env} {s : State} {m : MethodId} {args : Array Value} {below : List Frame} {meth : Method} {c : Code} {X : Ec} {h0 : Hp} {o : Hp} {F : Nat} (C : Cx X p s m args meth c RX15 cX15_sayWhich 7 none "sayWhich") {h : Hp} {x0 : Nat} {x1 : Int32} {x2 : Int32} {x3 : Int32} {x4 : Int32} {H : Heap} {locs : List Loc} (k_x0 : hK h x0 = 15) (hkm : Km h0 h) (hW : Wx X h H) (hZ : va_S (aA (eB X)) s.heap H locs) (ls : Array Slot) (hl : lv_has ls 7 [(0, .ref x0), (1, .int x1), (2, .int x2), (3, .int x3), (4, .int x4)]) (hE : sX15_sayWhich_228 F h x0 x1 x2 x3 x4 = some o) : W p l e (rm 1 21) s m args below meth c H locs 0 0 (MQ below (QV X h0 o) args s 0 0 (aA (eB X))) (F0 m 228 ls []) := by
  refine lv_iconst (v := (0 : Int32)) C.1 C.2.1 dX15_sayWhich_228 (by decide) ?_
  exact bX15_sayWhich_229 C k_x0 hkm hW hZ _ (lv_sub hl [0, 1, 2, 3, 4] rfl) hE
set_option maxRecDepth 20000 in
theorem bX15_sayWhich_186 {p : Program} {l : Launch} {e : Env} {s : State} {m : MethodId} {args : Array Value} {below : List Frame} {meth : Method} {c : Code} {X : Ec} {h0 : Hp} {o : Hp} {k_10 : Hp → Nat → Int32 → Int32 → Int32 → Int32 → Int32 → Option (Hp)} {F : Nat} (C : Cx X p s m args meth c RX15 cX15_sayWhich 7 none "sayWhich") (hk_10 : ∀ (h : Hp) (x0 : Nat) (x1 : Int32) (x2 : Int32) (x3 : Int32) (x4 : Int32) (x5 : Int32) (H : Heap) (locs : List Loc), hK h x0 = 15 → Km h0 h → Wx X h H → va_S (aA (eB X)) s.heap H locs → ∀ (ls : Array Slot), lv_has ls 7 [(0, .ref x0), (1, .int x1), (2, .int x2), (3, .int x3), (4, .int x4), (5, .int x5)] → k_10 h x0 x1 x2 x3 x4 x5 = some o → W p l e (rm 1 21) s m args below meth c H locs 0 0 (MQ below (QV X h0 o) args s 0 0 (aA (eB X))) (F0 m 10 ls [])) {h : Hp} {x0 : Nat} {x1 : Int32} {x2 : Int32} {x3 : Int32} {x4 : Int32} {x5 : Int32} {H : Heap} {locs : List Loc} (k_x0 : hK h x0 = 15) (hkm : Km h0 h) (hW : Wx X h H) (hZ : va_S (aA (eB X)) s.heap H locs) (ls : Array Slot) (hl : lv_has ls 7 [(0, .ref x0), (1, .int x1), (2, .int x2), (3, .int x3), (4, .int x4), (5, .int x5)]) (hE : sX15_sayWhich_186 F k_10 h x0 x1 x2 x3 x4 x5 = some o) : W p l e (rm 1 21) s m args below meth c H locs 0 0 (MQ below (QV X h0 o) args s 0 0 (aA (eB X))) (F0 m 186 ls []) := by
  obtain ⟨v_1, ev_1, hE⟩ := nm_e2 hE
  refine lv_iinc (v := v_1) (lv' := [(5, .int v_1), (0, .ref x0), (1, .int x1), (2, .int x2), (3, .int x3), (4, .int x4)]) C.1 C.2.1 dX15_sayWhich_186 hl (k := 5) rfl (by rw [ev_1]; rfl) (by decide) rfl (fun ls hl => ?_)
  refine lv_goto (tgt := 10) C.1 C.2.1 dX15_sayWhich_189 (by decide) ?_
  exact hk_10 _ _ _ _ _ _ _ _ _ k_x0 hkm hW hZ _ (lv_sub hl [1, 2, 3, 4, 5, 0] rfl) hE
set_option maxRecDepth 20000 in
theorem bX15_sayWhich_183 {p : Program} {l : Launch} {e : Env} {s : State} {m : MethodId} {args : Array Value} {below : List Frame} {meth : Method} {c : Code} {X : Ec} {h0 : Hp} {o : Hp} {k_10 : Hp → Nat → Int32 → Int32 → Int32 → Int32 → Int32 → Option (Hp)} {F : Nat} (C : Cx X p s m args meth c RX15 cX15_sayWhich 7 none "sayWhich") (hk_10 : ∀ (h : Hp) (x0 : Nat) (x1 : Int32) (x2 : Int32) (x3 : Int32) (x4 : Int32) (x5 : Int32) (H : Heap) (locs : List Loc), hK h x0 = 15 → Km h0 h → Wx X h H → va_S (aA (eB X)) s.heap H locs → ∀ (ls : Array Slot), lv_has ls 7 [(0, .ref x0), (1, .int x1), (2, .int x2), (3, .int x3), (4, .int x4), (5, .int x5)] → k_10 h x0 x1 x2 x3 x4 x5 = some o → W p l e (rm 1 21) s m args below meth c H locs 0 0 (MQ below (QV X h0 o) args s 0 0 (aA (eB X))) (F0 m 10 ls [])) {h : Hp} {x0 : Nat} {x1 : Int32} {x2 : Int32} {x3 : Int32} {x5 : Int32} {t0 : Int32} {t1 : Int32} {H : Heap} {locs : List Loc} (k_x0 : hK h x0 = 15) (hkm : Km h0 h) (hW : Wx X h H) (hZ : va_S (aA (eB X)) s.heap H locs) (ls : Array Slot) (hl : lv_has ls 7 [(0, .ref x0), (1, .int x1), (2, .int x2), (3, .int x3), (5, .int x5)]) (hE : sX15_sayWhich_183 F k_10 h x0 x1 x2 x3 x5 t0 t1 = some o) : W p l e (rm 1 21) s m args below meth c H locs 0 0 (MQ below (QV X h0 o) args s 0 0 (aA (eB X))) (F0 m 183 ls [.int t0, .int t1]) := by
  refine lv_ior C.1 C.2.1 dX15_sayWhich_183 ?_
  obtain ⟨v_1, ev_1, hE⟩ := nm_e2 hE
  refine x_nmI ev_1 ?_
  refine lv_istore (lv' := [(4, .int v_1), (0, .ref x0), (1, .int x1), (2, .int x2), (3, .int x3), (5, .int x5)]) C.1 C.2.1 dX15_sayWhich_184 hl (by decide) rfl (fun ls hl => ?_)
  exact bX15_sayWhich_186 C hk_10 k_x0 hkm hW hZ _ (lv_sub hl [1, 2, 3, 4, 0, 5] rfl) hE
set_option maxRecDepth 20000 in
theorem bX15_sayWhich_142 {p : Program} {l : Launch} {e : Env} {s : State} {m : MethodId} {args : Array Value} {below : List Frame} {meth : Method} {c : Code} {X : Ec} {h0 : Hp} {o : Hp} {k_10 : Hp → Nat → Int32 → Int32 → Int32 → Int32 → Int32 → Option (Hp)} {F : Nat} (C : Cx X p s m args meth c RX15 cX15_sayWhich 7 none "sayWhich") (hk_10 : ∀ (h : Hp) (x0 : Nat) (x1 : Int32) (x2 : Int32) (x3 : Int32) (x4 : Int32) (x5 : Int32) (H : Heap) (locs : List Loc), hK h x0 = 15 → Km h0 h → Wx X h H → va_S (aA (eB X)) s.heap H locs → ∀ (ls : Array Slot), lv_has ls 7 [(0, .ref x0), (1, .int x1), (2, .int x2), (3, .int x3), (4, .int x4), (5, .int x5)] → k_10 h x0 x1 x2 x3 x4 x5 = some o → W p l e (rm 1 21) s m args below meth c H locs 0 0 (MQ below (QV X h0 o) args s 0 0 (aA (eB X))) (F0 m 10 ls [])) {h : Hp} {x0 : Nat} {x1 : Int32} {x2 : Int32} {x4 : Int32} {x5 : Int32} {t0 : Int32} {t1 : Int32} {H : Heap} {locs : List Loc} (k_x0 : hK h x0 = 15) (hkm : Km h0 h) (hW : Wx X h H) (hZ : va_S (aA (eB X)) s.heap H locs) (ls : Array Slot) (hl : lv_has ls 7 [(0, .ref x0), (1, .int x1), (2, .int x2), (4, .int x4), (5, .int x5)]) (hE : sX15_sayWhich_142 F k_10 h x0 x1 x2 x4 x5 t0 t1 = some o) : W p l e (rm 1 21) s m args below meth c H locs 0 0 (MQ below (QV X h0 o) args s 0 0 (aA (eB X))) (F0 m 142 ls [.int t0, .int t1]) := by
  refine lv_ior C.1 C.2.1 dX15_sayWhich_142 ?_
  obtain ⟨v_1, ev_1, hE⟩ := nm_e2 hE
  refine x_nmI ev_1 ?_
  refine lv_istore_n (lv' := [(3, .int v_1), (0, .ref x0), (1, .int x1), (2, .int x2), (4, .int x4), (5, .int x5)]) C.1 C.2.1 dX15_sayWhich_143 rfl hl (by decide) rfl (fun ls hl => ?_)
  refine lv_iload C.1 C.2.1 dX15_sayWhich_144 (lv_at hl 4 rfl) ?_
  refine lv_aload_n C.1 C.2.1 dX15_sayWhich_146 rfl (lv_at hl 1 rfl) ?_
  obtain ⟨r_2, er_2, hE⟩ := cl_e hE
  refine gf_X15_288 C hW k_x0 er_2 dX15_sayWhich_147 (fun k_r_2 => ?_)
  obtain ⟨r_3, er_3, hE⟩ := cl_e hE
  refine gf_X15_597 C hW k_r_2 er_3 dX15_sayWhich_150 (fun k_r_3 => ?_)
  refine lv_iload C.1 C.2.1 dX15_sayWhich_153 (lv_at hl 5 rfl) ?_
  obtain ⟨g_4, hE⟩ := gd_e hE
  refine y_iald C hW k_r_3 g_4 dX15_sayWhich_155 ?_
  refine lv_aload_n C.1 C.2.1 dX15_sayWhich_156 rfl (lv_at hl 1 rfl) ?_
  refine gf_X15_382 C hW k_x0 dX15_sayWhich_157 ?_
  obtain ⟨g_5, hE⟩ := gd_e hE
  refine lv_idiv C.1 C.2.1 dX15_sayWhich_160 g_5 ?_
  refine lv_aload_n C.1 C.2.1 dX15_sayWhich_161 rfl (lv_at hl 1 rfl) ?_
  obtain ⟨r_6, er_6, hE⟩ := cl_e hE
  refine gf_X15_288 C hW k_x0 er_6 dX15_sayWhich_162 (fun k_r_6 => ?_)
  obtain ⟨r_7, er_7, hE⟩ := cl_e hE
  refine gf_X15_597 C hW k_r_6 er_7 dX15_sayWhich_165 (fun k_r_7 => ?_)
  refine lv_iload_n C.1 C.2.1 dX15_sayWhich_168 rfl (lv_at hl 2 rfl) ?_
  obtain ⟨g_8, hE⟩ := gd_e hE
  refine y_iald C hW k_r_7 g_8 dX15_sayWhich_169 ?_
  refine lv_aload_n C.1 C.2.1 dX15_sayWhich_170 rfl (lv_at hl 1 rfl) ?_
  refine gf_X15_382 C hW k_x0 dX15_sayWhich_171 ?_
  obtain ⟨g_9, hE⟩ := gd_e hE
  refine lv_idiv C.1 C.2.1 dX15_sayWhich_174 g_9 ?_
  refine lv_icmp_ne (tgt := 182) C.1 C.2.1 dX15_sayWhich_175 (by decide) (fun c_10 => ?_) (fun c_10 => ?_)
  · have hE := br_n hE c_10
    refine lv_iconst (v := (0 : Int32)) C.1 C.2.1 dX15_sayWhich_182 (by decide) ?_
    exact bX15_sayWhich_183 C hk_10 k_x0 hkm hW hZ _ (lv_sub hl [1, 2, 3, 0, 5] rfl) hE
  · have hE := br_p hE c_10
    refine lv_iconst (v := (1 : Int32)) C.1 C.2.1 dX15_sayWhich_178 (by decide) ?_
    refine lv_goto (tgt := 183) C.1 C.2.1 dX15_sayWhich_179 (by decide) ?_
    exact bX15_sayWhich_183 C hk_10 k_x0 hkm hW hZ _ (lv_sub hl [1, 2, 3, 0, 5] rfl) hE
set_option maxRecDepth 20000 in
theorem bX15_sayWhich_10 {p : Program} {l : Launch} {e : Env} {s : State} {m : MethodId} {args : Array Value} {below : List Frame} {meth : Method} {c : Code} {X : Ec} {h0 : Hp} {o : Hp} {F : Nat} (C : Cx X p s m args meth c RX15 cX15_sayWhich 7 none "sayWhich") : ∀ (f : Nat) {h : Hp} {x0 : Nat} {x1 : Int32} {x2 : Int32} {x3 : Int32} {x4 : Int32} {x5 : Int32} {H : Heap} {locs : List Loc} (k_x0 : hK h x0 = 15), Km h0 h → Wx X h H → va_S (aA (eB X)) s.heap H locs → ∀ (ls : Array Slot), lv_has ls 7 [(0, .ref x0), (1, .int x1), (2, .int x2), (3, .int x3), (4, .int x4), (5, .int x5)] → sX15_sayWhich_10 F f h x0 x1 x2 x3 x4 x5 = some o → W p l e (rm 1 21) s m args below meth c H locs 0 0 (MQ below (QV X h0 o) args s 0 0 (aA (eB X))) (F0 m 10 ls []) := by
  intro f
  induction f with
  | zero =>
    intro h x0 x1 x2 x3 x4 x5 H locs k_x0 hkm hW hZ ls hl hE
    rw [sX15_sayWhich_10] at hE
    cases hE
  | succ f ih =>
    intro h x0 x1 x2 x3 x4 x5 H locs k_x0 hkm hW hZ ls hl hE
    rw [sX15_sayWhich_10] at hE
    have hk_10 : ∀ (h : Hp) (x0 : Nat) (x1 : Int32) (x2 : Int32) (x3 : Int32) (x4 : Int32) (x5 : Int32) (H : Heap) (locs : List Loc), hK h x0 = 15 → Km h0 h → Wx X h H → va_S (aA (eB X)) s.heap H locs → ∀ (ls : Array Slot), lv_has ls 7 [(0, .ref x0), (1, .int x1), (2, .int x2), (3, .int x3), (4, .int x4), (5, .int x5)] → sX15_sayWhich_10 F f h x0 x1 x2 x3 x4 x5 = some o → W p l e (rm 1 21) s m args below meth c H locs 0 0 (MQ below (QV X h0 o) args s 0 0 (aA (eB X))) (F0 m 10 ls []) := fun h x0 x1 x2 x3 x4 x5 H locs k_x0 a b c ls hl hE => ih k_x0 a b c ls hl hE
    refine lv_iload C.1 C.2.1 dX15_sayWhich_10 (lv_at hl 5 rfl) ?_
    refine lv_aload_n C.1 C.2.1 dX15_sayWhich_12 rfl (lv_at hl 0 rfl) ?_
    obtain ⟨r_1, er_1, hE⟩ := cl_e hE
    refine gf_X15_288 C hW k_x0 er_1 dX15_sayWhich_13 (fun k_r_1 => ?_)
    refine gf_X15_575 C hW k_r_1 dX15_sayWhich_16 ?_
    refine lv_icmp_ge (tgt := 192) C.1 C.2.1 dX15_sayWhich_19 (by decide) (fun c_2 => ?_) (fun c_2 => ?_)
    · have hE := br_p hE c_2
      refine lv_aload_n C.1 C.2.1 dX15_sayWhich_192 rfl (lv_at hl 0 rfl) ?_
      obtain ⟨r_3, er_3, hE⟩ := cl_e hE
      refine gf_X15_288 C hW k_x0 er_3 dX15_sayWhich_193 (fun k_r_3 => ?_)
      obtain ⟨r_4, er_4, hE⟩ := cl_e hE
      refine gf_X15_600 C hW k_r_3 er_4 dX15_sayWhich_196 (fun k_r_4 => ?_)
      refine lv_iload_n C.1 C.2.1 dX15_sayWhich_199 rfl (lv_at hl 1 rfl) ?_
      obtain ⟨g_5, hE⟩ := gd_e hE
      refine y_iald C hW k_r_4 g_5 dX15_sayWhich_200 ?_
      refine lv_aload_n C.1 C.2.1 dX15_sayWhich_201 rfl (lv_at hl 0 rfl) ?_
      obtain ⟨r_6, er_6, hE⟩ := cl_e hE
      refine gf_X15_252 C hW k_x0 er_6 dX15_sayWhich_202 (fun k_r_6 => ?_)
      refine gf_X15_225 C hW k_r_6 dX15_sayWhich_205 ?_
      refine lv_icmp_ne (tgt := 228) C.1 C.2.1 dX15_sayWhich_208 (by decide) (fun c_7 => ?_) (fun c_7 => ?_)
      · have hE := br_n hE c_7
        exact bX15_sayWhich_228 C k_x0 hkm hW hZ _ (lv_sub hl [0, 1, 2, 3, 4] rfl) hE
      · have hE := br_p hE c_7
        refine lv_aload_n C.1 C.2.1 dX15_sayWhich_211 rfl (lv_at hl 0 rfl) ?_
        obtain ⟨r_8, er_8, hE⟩ := cl_e hE
        refine gf_X15_288 C hW k_x0 er_8 dX15_sayWhich_212 (fun k_r_8 => ?_)
        obtain ⟨r_9, er_9, hE⟩ := cl_e hE
        refine gf_X15_605 C hW k_r_8 er_9 dX15_sayWhich_215 (fun k_r_9 => ?_)
        refine lv_iload_n C.1 C.2.1 dX15_sayWhich_218 rfl (lv_at hl 1 rfl) ?_
        obtain ⟨g_10, hE⟩ := gd_e hE
        refine y_iald C hW k_r_9 g_10 dX15_sayWhich_219 ?_
        refine lv_iconst (v := (-1 : Int32)) C.1 C.2.1 dX15_sayWhich_220 (by decide) ?_
        refine lv_icmp_eq (tgt := 228) C.1 C.2.1 dX15_sayWhich_221 (by decide) (fun c_11 => ?_) (fun c_11 => ?_)
        · have hE := br_p hE c_11
          exact bX15_sayWhich_228 C k_x0 hkm hW hZ _ (lv_sub hl [0, 1, 2, 3, 4] rfl) hE
        · have hE := br_n hE c_11
          refine lv_iconst (v := (1 : Int32)) C.1 C.2.1 dX15_sayWhich_224 (by decide) ?_
          refine lv_goto (tgt := 229) C.1 C.2.1 dX15_sayWhich_225 (by decide) ?_
          exact bX15_sayWhich_229 C k_x0 hkm hW hZ _ (lv_sub hl [0, 1, 2, 3, 4] rfl) hE
    · have hE := br_n hE c_2
      refine lv_aload_n C.1 C.2.1 dX15_sayWhich_22 rfl (lv_at hl 0 rfl) ?_
      obtain ⟨r_12, er_12, hE⟩ := cl_e hE
      refine gf_X15_288 C hW k_x0 er_12 dX15_sayWhich_23 (fun k_r_12 => ?_)
      obtain ⟨r_13, er_13, hE⟩ := cl_e hE
      refine gf_X15_602 C hW k_r_12 er_13 dX15_sayWhich_26 (fun k_r_13 => ?_)
      refine lv_iload C.1 C.2.1 dX15_sayWhich_29 (lv_at hl 5 rfl) ?_
      obtain ⟨g_14, hE⟩ := gd_e hE
      refine y_iald C hW k_r_13 g_14 dX15_sayWhich_31 ?_
      refine lv_iconst (v := (2 : Int32)) C.1 C.2.1 dX15_sayWhich_32 (by decide) ?_
      refine lv_icmp_ge (tgt := 186) C.1 C.2.1 dX15_sayWhich_33 (by decide) (fun c_15 => ?_) (fun c_15 => ?_)
      · have hE := br_p hE c_15
        exact bX15_sayWhich_186 C hk_10 k_x0 hkm hW hZ _ (lv_sub hl [0, 1, 2, 3, 4, 5] rfl) hE
      · have hE := br_n hE c_15
        refine lv_aload_n C.1 C.2.1 dX15_sayWhich_36 rfl (lv_at hl 0 rfl) ?_
        obtain ⟨r_16, er_16, hE⟩ := cl_e hE
        refine gf_X15_288 C hW k_x0 er_16 dX15_sayWhich_37 (fun k_r_16 => ?_)
        obtain ⟨r_17, er_17, hE⟩ := cl_e hE
        refine gf_X15_600 C hW k_r_16 er_17 dX15_sayWhich_40 (fun k_r_17 => ?_)
        refine lv_iload C.1 C.2.1 dX15_sayWhich_43 (lv_at hl 5 rfl) ?_
        obtain ⟨g_18, hE⟩ := gd_e hE
        refine y_iald C hW k_r_17 g_18 dX15_sayWhich_45 ?_
        refine lv_aload_n C.1 C.2.1 dX15_sayWhich_46 rfl (lv_at hl 0 rfl) ?_
        obtain ⟨r_19, er_19, hE⟩ := cl_e hE
        refine gf_X15_288 C hW k_x0 er_19 dX15_sayWhich_47 (fun k_r_19 => ?_)
        obtain ⟨r_20, er_20, hE⟩ := cl_e hE
        refine gf_X15_600 C hW k_r_19 er_20 dX15_sayWhich_50 (fun k_r_20 => ?_)
        refine lv_iload_n C.1 C.2.1 dX15_sayWhich_53 rfl (lv_at hl 1 rfl) ?_
        obtain ⟨g_21, hE⟩ := gd_e hE
        refine y_iald C hW k_r_20 g_21 dX15_sayWhich_54 ?_
        refine lv_icmp_ne (tgt := 186) C.1 C.2.1 dX15_sayWhich_55 (by decide) (fun c_22 => ?_) (fun c_22 => ?_)
        · have hE := br_n hE c_22
          exact bX15_sayWhich_186 C hk_10 k_x0 hkm hW hZ _ (lv_sub hl [0, 1, 2, 3, 4, 5] rfl) hE
        · have hE := br_p hE c_22
          refine lv_aload_n C.1 C.2.1 dX15_sayWhich_58 rfl (lv_at hl 0 rfl) ?_
          obtain ⟨r_23, er_23, hE⟩ := cl_e hE
          refine gf_X15_288 C hW k_x0 er_23 dX15_sayWhich_59 (fun k_r_23 => ?_)
          obtain ⟨r_24, er_24, hE⟩ := cl_e hE
          refine gf_X15_598 C hW k_r_23 er_24 dX15_sayWhich_62 (fun k_r_24 => ?_)
          refine lv_iload C.1 C.2.1 dX15_sayWhich_65 (lv_at hl 5 rfl) ?_
          obtain ⟨g_25, hE⟩ := gd_e hE
          refine y_iald C hW k_r_24 g_25 dX15_sayWhich_67 ?_
          refine lv_aload_n C.1 C.2.1 dX15_sayWhich_68 rfl (lv_at hl 0 rfl) ?_
          obtain ⟨r_26, er_26, hE⟩ := cl_e hE
          refine gf_X15_288 C hW k_x0 er_26 dX15_sayWhich_69 (fun k_r_26 => ?_)
          obtain ⟨r_27, er_27, hE⟩ := cl_e hE
          refine gf_X15_598 C hW k_r_26 er_27 dX15_sayWhich_72 (fun k_r_27 => ?_)
          refine lv_iload_n C.1 C.2.1 dX15_sayWhich_75 rfl (lv_at hl 1 rfl) ?_
          obtain ⟨g_28, hE⟩ := gd_e hE
          refine y_iald C hW k_r_27 g_28 dX15_sayWhich_76 ?_
          refine lv_icmp_ne (tgt := 186) C.1 C.2.1 dX15_sayWhich_77 (by decide) (fun c_29 => ?_) (fun c_29 => ?_)
          · have hE := br_n hE c_29
            exact bX15_sayWhich_186 C hk_10 k_x0 hkm hW hZ _ (lv_sub hl [0, 1, 2, 3, 4, 5] rfl) hE
          · have hE := br_p hE c_29
            refine lv_aload_n C.1 C.2.1 dX15_sayWhich_80 rfl (lv_at hl 0 rfl) ?_
            obtain ⟨r_30, er_30, hE⟩ := cl_e hE
            refine gf_X15_288 C hW k_x0 er_30 dX15_sayWhich_81 (fun k_r_30 => ?_)
            obtain ⟨r_31, er_31, hE⟩ := cl_e hE
            refine gf_X15_597 C hW k_r_30 er_31 dX15_sayWhich_84 (fun k_r_31 => ?_)
            refine lv_iload C.1 C.2.1 dX15_sayWhich_87 (lv_at hl 5 rfl) ?_
            obtain ⟨g_32, hE⟩ := gd_e hE
            refine y_iald C hW k_r_31 g_32 dX15_sayWhich_89 ?_
            refine lv_aload_n C.1 C.2.1 dX15_sayWhich_90 rfl (lv_at hl 0 rfl) ?_
            obtain ⟨r_33, er_33, hE⟩ := cl_e hE
            refine gf_X15_288 C hW k_x0 er_33 dX15_sayWhich_91 (fun k_r_33 => ?_)
            obtain ⟨r_34, er_34, hE⟩ := cl_e hE
            refine gf_X15_597 C hW k_r_33 er_34 dX15_sayWhich_94 (fun k_r_34 => ?_)
            refine lv_iload_n C.1 C.2.1 dX15_sayWhich_97 rfl (lv_at hl 1 rfl) ?_
            obtain ⟨g_35, hE⟩ := gd_e hE
            refine y_iald C hW k_r_34 g_35 dX15_sayWhich_98 ?_
            refine lv_icmp_eq (tgt := 186) C.1 C.2.1 dX15_sayWhich_99 (by decide) (fun c_36 => ?_) (fun c_36 => ?_)
            · have hE := br_p hE c_36
              exact bX15_sayWhich_186 C hk_10 k_x0 hkm hW hZ _ (lv_sub hl [0, 1, 2, 3, 4, 5] rfl) hE
            · have hE := br_n hE c_36
              refine lv_iconst (v := (1 : Int32)) C.1 C.2.1 dX15_sayWhich_102 (by decide) ?_
              refine lv_istore_n (lv' := [(2, .int (1 : Int32)), (0, .ref x0), (1, .int x1), (3, .int x3), (4, .int x4), (5, .int x5)]) C.1 C.2.1 dX15_sayWhich_103 rfl hl (by decide) rfl (fun ls hl => ?_)
              refine lv_iload_n C.1 C.2.1 dX15_sayWhich_104 rfl (lv_at hl 3 rfl) ?_
              refine lv_aload_n C.1 C.2.1 dX15_sayWhich_105 rfl (lv_at hl 1 rfl) ?_
              obtain ⟨r_37, er_37, hE⟩ := cl_e hE
              refine gf_X15_288 C hW k_x0 er_37 dX15_sayWhich_106 (fun k_r_37 => ?_)
              obtain ⟨r_38, er_38, hE⟩ := cl_e hE
              refine gf_X15_597 C hW k_r_37 er_38 dX15_sayWhich_109 (fun k_r_38 => ?_)
              refine lv_iload C.1 C.2.1 dX15_sayWhich_112 (lv_at hl 5 rfl) ?_
              obtain ⟨g_39, hE⟩ := gd_e hE
              refine y_iald C hW k_r_38 g_39 dX15_sayWhich_114 ?_
              refine lv_aload_n C.1 C.2.1 dX15_sayWhich_115 rfl (lv_at hl 1 rfl) ?_
              refine gf_X15_382 C hW k_x0 dX15_sayWhich_116 ?_
              obtain ⟨g_40, hE⟩ := gd_e hE
              refine lv_irem C.1 C.2.1 dX15_sayWhich_119 g_40 ?_
              refine lv_aload_n C.1 C.2.1 dX15_sayWhich_120 rfl (lv_at hl 1 rfl) ?_
              obtain ⟨r_41, er_41, hE⟩ := cl_e hE
              refine gf_X15_288 C hW k_x0 er_41 dX15_sayWhich_121 (fun k_r_41 => ?_)
              obtain ⟨r_42, er_42, hE⟩ := cl_e hE
              refine gf_X15_597 C hW k_r_41 er_42 dX15_sayWhich_124 (fun k_r_42 => ?_)
              refine lv_iload_n C.1 C.2.1 dX15_sayWhich_127 rfl (lv_at hl 2 rfl) ?_
              obtain ⟨g_43, hE⟩ := gd_e hE
              refine y_iald C hW k_r_42 g_43 dX15_sayWhich_128 ?_
              refine lv_aload_n C.1 C.2.1 dX15_sayWhich_129 rfl (lv_at hl 1 rfl) ?_
              refine gf_X15_382 C hW k_x0 dX15_sayWhich_130 ?_
              obtain ⟨g_44, hE⟩ := gd_e hE
              refine lv_irem C.1 C.2.1 dX15_sayWhich_133 g_44 ?_
              refine lv_icmp_ne (tgt := 141) C.1 C.2.1 dX15_sayWhich_134 (by decide) (fun c_45 => ?_) (fun c_45 => ?_)
              · have hE := br_n hE c_45
                refine lv_iconst (v := (0 : Int32)) C.1 C.2.1 dX15_sayWhich_141 (by decide) ?_
                exact bX15_sayWhich_142 C hk_10 k_x0 hkm hW hZ _ (lv_sub hl [1, 2, 0, 4, 5] rfl) hE
              · have hE := br_p hE c_45
                refine lv_iconst (v := (1 : Int32)) C.1 C.2.1 dX15_sayWhich_137 (by decide) ?_
                refine lv_goto (tgt := 142) C.1 C.2.1 dX15_sayWhich_138 (by decide) ?_
                exact bX15_sayWhich_142 C hk_10 k_x0 hkm hW hZ _ (lv_sub hl [1, 2, 0, 4, 5] rfl) hE
set_option maxRecDepth 20000 in
theorem ct_X15_sayWhich (l : Launch) (X : Ec) (F : Nat) {h : Hp} {x0 : Nat} {x1 : Int32} {o : Hp} (k_x0 : hK h x0 = 15) (hE : sX15_sayWhich F h x0 x1 = some o) : MetV l yX15_sayWhich cX15_sayWhich 7 none 1 21 X [.ref x0, .int x1] h o := by
  refine x_met (by decide) (Nat.le_of_ble_eq_true rfl) ?_
  intro p e s m below meth c ls C hl hW hZ
  have hl : lv_has ls 7 [(0, .ref x0), (1, .int x1)] := hl
  have hkm : Km h h := Km.rf h
  refine lv_iconst (v := (0 : Int32)) C.1 C.2.1 dX15_sayWhich_0 (by decide) ?_
  refine lv_istore_n (lv' := [(2, .int (0 : Int32)), (0, .ref x0), (1, .int x1)]) C.1 C.2.1 dX15_sayWhich_1 rfl hl (by decide) rfl (fun ls hl => ?_)
  refine lv_iconst (v := (0 : Int32)) C.1 C.2.1 dX15_sayWhich_2 (by decide) ?_
  refine lv_istore_n (lv' := [(3, .int (0 : Int32)), (2, .int (0 : Int32)), (0, .ref x0), (1, .int x1)]) C.1 C.2.1 dX15_sayWhich_3 rfl hl (by decide) rfl (fun ls hl => ?_)
  refine lv_iconst (v := (0 : Int32)) C.1 C.2.1 dX15_sayWhich_4 (by decide) ?_
  refine lv_istore (lv' := [(4, .int (0 : Int32)), (3, .int (0 : Int32)), (2, .int (0 : Int32)), (0, .ref x0), (1, .int x1)]) C.1 C.2.1 dX15_sayWhich_5 hl (by decide) rfl (fun ls hl => ?_)
  refine lv_iconst (v := (0 : Int32)) C.1 C.2.1 dX15_sayWhich_7 (by decide) ?_
  refine lv_istore (lv' := [(5, .int (0 : Int32)), (4, .int (0 : Int32)), (3, .int (0 : Int32)), (2, .int (0 : Int32)), (0, .ref x0), (1, .int x1)]) C.1 C.2.1 dX15_sayWhich_8 hl (by decide) rfl (fun ls hl => ?_)
  exact bX15_sayWhich_10 C F k_x0 hkm hW hZ _ (lv_sub hl [4, 5, 3, 2, 1, 0] rfl) hE
set_option maxRecDepth 100000 in
theorem ms_190 : Cond.selects RX15 yX15_sayWhich yX15_sayWhich ∈ W0 := w0_in (List.mem_append_left _ (List.mem_of_getElem? (i := 190) rfl)) rfl
set_option maxRecDepth 100000 in
theorem m_2147 : Cond.fieldLink RX15 693 (TX15 36).1 (TX15 36).2.1 (TX15 36).2.2.1 ∈ W0 := w0_in (List.mem_append_right _ (List.mem_of_getElem? (i := 2147) rfl)) rfl
set_option maxRecDepth 100000 in
theorem m_2651 : Cond.methodLink RX15 690 yX15_sayWhich ∈ W0 := w0_in (List.mem_append_right _ (List.mem_of_getElem? (i := 2651) rfl)) rfl
set_option maxRecDepth 100000 in
theorem m_2653 : Cond.instanceMethod yX15_sayWhich ∈ W0 := w0_in (List.mem_append_right _ (List.mem_of_getElem? (i := 2653) rfl)) rfl
set_option maxRecDepth 100000 in
theorem m_2654 : Cond.code yX15_sayWhich cX15_sayWhich 7 none ∈ W0 := w0_in (List.mem_append_right _ (List.mem_of_getElem? (i := 2654) rfl)) rfl
section
variable {p : Program} {l : Launch} {e : Env} {R : Room} {s : State} {m : MethodId} {args : Array Value} {below : List Frame} {meth : Method} {c : Code} {H : Heap} {locs : List Loc} {cells slots : Nat} {Q : State → Prop}
variable {cc : ByteArray} {pc : Nat} {ls : Array Slot} {rest : List Value} {X : Ec} {h h1 : Hp} {nL : Nat} {rt : Option FieldType} {mn : String}
theorem gf_X15_305 {a r : Nat} (C : Cx X p s m args meth c RX15 cc nL rt mn) (hW : Wx X h H) (ha : hK h a = 15) (hr : hR h a 35 = some r) (hdg : decode cc pc = .ok (.getfield 305, 3)) (kk : hK h r = 12 → W p l e R s m args below meth c H locs cells slots Q (F0 m (pc + 3) ls (.ref r :: rest))) : W p l e R s m args below meth c H locs cells slots Q (F0 m pc ls (.ref a :: rest)) :=
  y_getr C hW ha i_X15 (by decide) rfl (by decide) m_2146 rfl rfl hr hdg kk
theorem pf_X15_693 {a : Nat} {v : Int32} (C : Cx X p s m args meth c RX15 cc nL rt mn) (hW : Wx X h H) (hZ : va_S (aA (eB X)) s.heap H locs) (ha : hK h a = 15) (eh : h1 = wI h a 36 v) (hdg : decode cc pc = .ok (.putfield 693, 3)) (kk : ∀ (H1 : Heap) (locs1 : List Loc), Wx X h1 H1 → Km h h1 → va_S (aA (eB X)) s.heap H1 locs1 → W p l e R s m args below meth c H1 locs1 cells slots Q (F0 m (pc + 3) ls rest)) : W p l e R s m args below meth c H locs cells slots Q (F0 m pc ls (.int v :: .ref a :: rest)) :=
  y_puti (ty := .int) C hW hZ ha i_X15 tyX15 tyX15_ok nmX15 (by decide) rfl rfl (by decide) m_2147 rfl (by decide +kernel) rfl rfl rfl eh hdg kk
end
theorem cw_X15_690 : cwd RX15 690 yX15_sayWhich cX15_sayWhich 7 none false 1 := ⟨m_2654, m_2651, m_19, ⟨m_2653, ms_190⟩, by decide, by decide, by decide +kernel⟩
theorem dX15_sayMove_0 : decode cX15_sayMove 0 = .ok (.aload_n 0, 1) := by decide +kernel
theorem dX15_sayMove_1 : decode cX15_sayMove 1 = .ok (.iconst 0, 1) := by decide +kernel
theorem dX15_sayMove_2 : decode cX15_sayMove 2 = .ok (.putfield 11, 3) := by decide +kernel
theorem dX15_sayMove_5 : decode cX15_sayMove 5 = .ok (.aload_n 0, 1) := by decide +kernel
theorem dX15_sayMove_6 : decode cX15_sayMove 6 = .ok (.getfield 288, 3) := by decide +kernel
theorem dX15_sayMove_9 : decode cX15_sayMove 9 = .ok (.getfield 598, 3) := by decide +kernel
theorem dX15_sayMove_12 : decode cX15_sayMove 12 = .ok (.iload_n 2, 1) := by decide +kernel
theorem dX15_sayMove_13 : decode cX15_sayMove 13 = .ok (.iaload, 1) := by decide +kernel
theorem dX15_sayMove_14 : decode cX15_sayMove 14 = .ok (.istore_n 3, 1) := by decide +kernel
theorem dX15_sayMove_15 : decode cX15_sayMove 15 = .ok (.aload_n 0, 1) := by decide +kernel
theorem dX15_sayMove_16 : decode cX15_sayMove 16 = .ok (.getfield 288, 3) := by decide +kernel
theorem dX15_sayMove_19 : decode cX15_sayMove 19 = .ok (.getfield 602, 3) := by decide +kernel
theorem dX15_sayMove_22 : decode cX15_sayMove 22 = .ok (.iload_n 2, 1) := by decide +kernel
theorem dX15_sayMove_23 : decode cX15_sayMove 23 = .ok (.iaload, 1) := by decide +kernel
theorem dX15_sayMove_24 : decode cX15_sayMove 24 = .ok (.istore 4, 2) := by decide +kernel
theorem dX15_sayMove_26 : decode cX15_sayMove 26 = .ok (.iload 4, 2) := by decide +kernel
theorem dX15_sayMove_28 : decode cX15_sayMove 28 = .ok (.iconst 2, 1) := by decide +kernel
theorem dX15_sayMove_29 : decode cX15_sayMove 29 = .ok (.if_icmp .ne 67, 3) := by decide +kernel
theorem dX15_sayMove_32 : decode cX15_sayMove 32 = .ok (.aload_n 0, 1) := by decide +kernel
theorem dX15_sayMove_33 : decode cX15_sayMove 33 = .ok (.bipush 79, 2) := by decide +kernel
theorem dX15_sayMove_35 : decode cX15_sayMove 35 = .ok (.invokevirtual 21, 3) := by decide +kernel
theorem dX15_sayMove_38 : decode cX15_sayMove 38 = .ok (.aload_n 0, 1) := by decide +kernel
theorem dX15_sayMove_39 : decode cX15_sayMove 39 = .ok (.bipush 45, 2) := by decide +kernel
theorem dX15_sayMove_41 : decode cX15_sayMove 41 = .ok (.invokevirtual 21, 3) := by decide +kernel
theorem dX15_sayMove_44 : decode cX15_sayMove 44 = .ok (.aload_n 0, 1) := by decide +kernel
theorem dX15_sayMove_45 : decode cX15_sayMove 45 = .ok (.bipush 79, 2) := by decide +kernel
theorem dX15_sayMove_47 : decode cX15_sayMove 47 = .ok (.invokevirtual 21, 3) := by decide +kernel
theorem dX15_sayMove_50 : decode cX15_sayMove 50 = .ok (.aload_n 0, 1) := by decide +kernel
theorem dX15_sayMove_51 : decode cX15_sayMove 51 = .ok (.getfield 288, 3) := by decide +kernel
theorem dX15_sayMove_54 : decode cX15_sayMove 54 = .ok (.getfield 619, 3) := by decide +kernel
theorem dX15_sayMove_57 : decode cX15_sayMove 57 = .ok (.iload_n 2, 1) := by decide +kernel
theorem dX15_sayMove_58 : decode cX15_sayMove 58 = .ok (.iaload, 1) := by decide +kernel
theorem dX15_sayMove_59 : decode cX15_sayMove 59 = .ok (.aload_n 0, 1) := by decide +kernel
theorem dX15_sayMove_60 : decode cX15_sayMove 60 = .ok (.getfield 382, 3) := by decide +kernel
theorem dX15_sayMove_63 : decode cX15_sayMove 63 = .ok (.irem, 1) := by decide +kernel
theorem dX15_sayMove_64 : decode cX15_sayMove 64 = .ok (.aload_n 0, 1) := by decide +kernel
theorem dX15_sayMove_65 : decode cX15_sayMove 65 = .ok (.getfield 288, 3) := by decide +kernel
theorem dX15_sayMove_68 : decode cX15_sayMove 68 = .ok (.getfield 597, 3) := by decide +kernel
theorem dX15_sayMove_71 : decode cX15_sayMove 71 = .ok (.iload_n 2, 1) := by decide +kernel
theorem dX15_sayMove_72 : decode cX15_sayMove 72 = .ok (.iaload, 1) := by decide +kernel
theorem dX15_sayMove_73 : decode cX15_sayMove 73 = .ok (.aload_n 0, 1) := by decide +kernel
theorem dX15_sayMove_74 : decode cX15_sayMove 74 = .ok (.getfield 382, 3) := by decide +kernel
theorem dX15_sayMove_77 : decode cX15_sayMove 77 = .ok (.irem, 1) := by decide +kernel
theorem dX15_sayMove_78 : decode cX15_sayMove 78 = .ok (.if_icmp .ge 177, 3) := by decide +kernel
theorem dX15_sayMove_81 : decode cX15_sayMove 81 = .ok (.aload_n 0, 1) := by decide +kernel
theorem dX15_sayMove_82 : decode cX15_sayMove 82 = .ok (.bipush 45, 2) := by decide +kernel
theorem dX15_sayMove_84 : decode cX15_sayMove 84 = .ok (.invokevirtual 21, 3) := by decide +kernel
theorem dX15_sayMove_87 : decode cX15_sayMove 87 = .ok (.aload_n 0, 1) := by decide +kernel
theorem dX15_sayMove_88 : decode cX15_sayMove 88 = .ok (.bipush 79, 2) := by decide +kernel
theorem dX15_sayMove_90 : decode cX15_sayMove 90 = .ok (.invokevirtual 21, 3) := by decide +kernel
theorem dX15_sayMove_93 : decode cX15_sayMove 93 = .ok (.goto 162, 3) := by decide +kernel
theorem dX15_sayMove_96 : decode cX15_sayMove 96 = .ok (.iload 4, 2) := by decide +kernel
theorem dX15_sayMove_98 : decode cX15_sayMove 98 = .ok (.iconst 3, 1) := by decide +kernel
theorem dX15_sayMove_99 : decode cX15_sayMove 99 = .ok (.if_icmp .ne 41, 3) := by decide +kernel
theorem dX15_sayMove_102 : decode cX15_sayMove 102 = .ok (.aload_n 0, 1) := by decide +kernel
theorem dX15_sayMove_103 : decode cX15_sayMove 103 = .ok (.aload_n 0, 1) := by decide +kernel
theorem dX15_sayMove_104 : decode cX15_sayMove 104 = .ok (.getfield 252, 3) := by decide +kernel
theorem dX15_sayMove_107 : decode cX15_sayMove 107 = .ok (.getfield 172, 3) := by decide +kernel
theorem dX15_sayMove_110 : decode cX15_sayMove 110 = .ok (.aload_n 0, 1) := by decide +kernel
theorem dX15_sayMove_111 : decode cX15_sayMove 111 = .ok (.getfield 288, 3) := by decide +kernel
theorem dX15_sayMove_114 : decode cX15_sayMove 114 = .ok (.getfield 600, 3) := by decide +kernel
theorem dX15_sayMove_117 : decode cX15_sayMove 117 = .ok (.iload_n 2, 1) := by decide +kernel
theorem dX15_sayMove_118 : decode cX15_sayMove 118 = .ok (.iaload, 1) := by decide +kernel
theorem dX15_sayMove_119 : decode cX15_sayMove 119 = .ok (.iaload, 1) := by decide +kernel
theorem dX15_sayMove_120 : decode cX15_sayMove 120 = .ok (.bipush 32, 2) := by decide +kernel
theorem dX15_sayMove_122 : decode cX15_sayMove 122 = .ok (.isub, 1) := by decide +kernel
theorem dX15_sayMove_123 : decode cX15_sayMove 123 = .ok (.invokevirtual 21, 3) := by decide +kernel
theorem dX15_sayMove_126 : decode cX15_sayMove 126 = .ok (.aload_n 0, 1) := by decide +kernel
theorem dX15_sayMove_127 : decode cX15_sayMove 127 = .ok (.bipush 64, 2) := by decide +kernel
theorem dX15_sayMove_129 : decode cX15_sayMove 129 = .ok (.invokevirtual 21, 3) := by decide +kernel
theorem dX15_sayMove_132 : decode cX15_sayMove 132 = .ok (.aload_n 0, 1) := by decide +kernel
theorem dX15_sayMove_133 : decode cX15_sayMove 133 = .ok (.iload_n 3, 1) := by decide +kernel
theorem dX15_sayMove_134 : decode cX15_sayMove 134 = .ok (.invokevirtual 539, 3) := by decide +kernel
theorem dX15_sayMove_137 : decode cX15_sayMove 137 = .ok (.goto 118, 3) := by decide +kernel
theorem dX15_sayMove_140 : decode cX15_sayMove 140 = .ok (.aload_n 0, 1) := by decide +kernel
theorem dX15_sayMove_141 : decode cX15_sayMove 141 = .ok (.getfield 288, 3) := by decide +kernel
theorem dX15_sayMove_144 : decode cX15_sayMove 144 = .ok (.getfield 600, 3) := by decide +kernel
theorem dX15_sayMove_147 : decode cX15_sayMove 147 = .ok (.iload_n 2, 1) := by decide +kernel
theorem dX15_sayMove_148 : decode cX15_sayMove 148 = .ok (.iaload, 1) := by decide +kernel
theorem dX15_sayMove_149 : decode cX15_sayMove 149 = .ok (.aload_n 0, 1) := by decide +kernel
theorem dX15_sayMove_150 : decode cX15_sayMove 150 = .ok (.getfield 252, 3) := by decide +kernel
theorem dX15_sayMove_153 : decode cX15_sayMove 153 = .ok (.getfield 225, 3) := by decide +kernel
theorem dX15_sayMove_156 : decode cX15_sayMove 156 = .ok (.if_icmp .eq 27, 3) := by decide +kernel
theorem dX15_sayMove_159 : decode cX15_sayMove 159 = .ok (.aload_n 0, 1) := by decide +kernel
theorem dX15_sayMove_160 : decode cX15_sayMove 160 = .ok (.aload_n 0, 1) := by decide +kernel
theorem dX15_sayMove_161 : decode cX15_sayMove 161 = .ok (.getfield 252, 3) := by decide +kernel
theorem dX15_sayMove_164 : decode cX15_sayMove 164 = .ok (.getfield 172, 3) := by decide +kernel
theorem dX15_sayMove_167 : decode cX15_sayMove 167 = .ok (.aload_n 0, 1) := by decide +kernel
theorem dX15_sayMove_168 : decode cX15_sayMove 168 = .ok (.getfield 288, 3) := by decide +kernel
theorem dX15_sayMove_171 : decode cX15_sayMove 171 = .ok (.getfield 600, 3) := by decide +kernel
theorem dX15_sayMove_174 : decode cX15_sayMove 174 = .ok (.iload_n 2, 1) := by decide +kernel
theorem dX15_sayMove_175 : decode cX15_sayMove 175 = .ok (.iaload, 1) := by decide +kernel
theorem dX15_sayMove_176 : decode cX15_sayMove 176 = .ok (.iaload, 1) := by decide +kernel
theorem dX15_sayMove_177 : decode cX15_sayMove 177 = .ok (.bipush 32, 2) := by decide +kernel
theorem dX15_sayMove_179 : decode cX15_sayMove 179 = .ok (.isub, 1) := by decide +kernel
theorem dX15_sayMove_180 : decode cX15_sayMove 180 = .ok (.invokevirtual 21, 3) := by decide +kernel
theorem dX15_sayMove_183 : decode cX15_sayMove 183 = .ok (.aload_n 0, 1) := by decide +kernel
theorem dX15_sayMove_184 : decode cX15_sayMove 184 = .ok (.iload_n 2, 1) := by decide +kernel
theorem dX15_sayMove_185 : decode cX15_sayMove 185 = .ok (.invokevirtual 690, 3) := by decide +kernel
theorem dX15_sayMove_188 : decode cX15_sayMove 188 = .ok (.aload_n 0, 1) := by decide +kernel
theorem dX15_sayMove_189 : decode cX15_sayMove 189 = .ok (.getfield 288, 3) := by decide +kernel
theorem dX15_sayMove_192 : decode cX15_sayMove 192 = .ok (.getfield 605, 3) := by decide +kernel
theorem dX15_sayMove_195 : decode cX15_sayMove 195 = .ok (.iload_n 2, 1) := by decide +kernel
theorem dX15_sayMove_196 : decode cX15_sayMove 196 = .ok (.iaload, 1) := by decide +kernel
theorem dX15_sayMove_197 : decode cX15_sayMove 197 = .ok (.iconst (-1), 1) := by decide +kernel
theorem dX15_sayMove_198 : decode cX15_sayMove 198 = .ok (.if_icmp .eq 9, 3) := by decide +kernel
theorem dX15_sayMove_201 : decode cX15_sayMove 201 = .ok (.aload_n 0, 1) := by decide +kernel
theorem dX15_sayMove_202 : decode cX15_sayMove 202 = .ok (.bipush 120, 2) := by decide +kernel
theorem dX15_sayMove_204 : decode cX15_sayMove 204 = .ok (.invokevirtual 21, 3) := by decide +kernel
theorem dX15_sayMove_207 : decode cX15_sayMove 207 = .ok (.aload_n 0, 1) := by decide +kernel
theorem dX15_sayMove_208 : decode cX15_sayMove 208 = .ok (.iload_n 3, 1) := by decide +kernel
theorem dX15_sayMove_209 : decode cX15_sayMove 209 = .ok (.invokevirtual 539, 3) := by decide +kernel
theorem dX15_sayMove_212 : decode cX15_sayMove 212 = .ok (.aload_n 0, 1) := by decide +kernel
theorem dX15_sayMove_213 : decode cX15_sayMove 213 = .ok (.getfield 288, 3) := by decide +kernel
theorem dX15_sayMove_216 : decode cX15_sayMove 216 = .ok (.getfield 612, 3) := by decide +kernel
theorem dX15_sayMove_219 : decode cX15_sayMove 219 = .ok (.iload_n 2, 1) := by decide +kernel
theorem dX15_sayMove_220 : decode cX15_sayMove 220 = .ok (.iaload, 1) := by decide +kernel
theorem dX15_sayMove_221 : decode cX15_sayMove 221 = .ok (.iconst (-1), 1) := by decide +kernel
theorem dX15_sayMove_222 : decode cX15_sayMove 222 = .ok (.if_icmp .eq 33, 3) := by decide +kernel
theorem dX15_sayMove_225 : decode cX15_sayMove 225 = .ok (.aload_n 0, 1) := by decide +kernel
theorem dX15_sayMove_226 : decode cX15_sayMove 226 = .ok (.bipush 61, 2) := by decide +kernel
theorem dX15_sayMove_228 : decode cX15_sayMove 228 = .ok (.invokevirtual 21, 3) := by decide +kernel
theorem dX15_sayMove_231 : decode cX15_sayMove 231 = .ok (.aload_n 0, 1) := by decide +kernel
theorem dX15_sayMove_232 : decode cX15_sayMove 232 = .ok (.aload_n 0, 1) := by decide +kernel
theorem dX15_sayMove_233 : decode cX15_sayMove 233 = .ok (.getfield 252, 3) := by decide +kernel
theorem dX15_sayMove_236 : decode cX15_sayMove 236 = .ok (.getfield 172, 3) := by decide +kernel
theorem dX15_sayMove_239 : decode cX15_sayMove 239 = .ok (.aload_n 0, 1) := by decide +kernel
theorem dX15_sayMove_240 : decode cX15_sayMove 240 = .ok (.getfield 288, 3) := by decide +kernel
theorem dX15_sayMove_243 : decode cX15_sayMove 243 = .ok (.getfield 612, 3) := by decide +kernel
theorem dX15_sayMove_246 : decode cX15_sayMove 246 = .ok (.iload_n 2, 1) := by decide +kernel
theorem dX15_sayMove_247 : decode cX15_sayMove 247 = .ok (.iaload, 1) := by decide +kernel
theorem dX15_sayMove_248 : decode cX15_sayMove 248 = .ok (.iaload, 1) := by decide +kernel
theorem dX15_sayMove_249 : decode cX15_sayMove 249 = .ok (.bipush 32, 2) := by decide +kernel
theorem dX15_sayMove_251 : decode cX15_sayMove 251 = .ok (.isub, 1) := by decide +kernel
theorem dX15_sayMove_252 : decode cX15_sayMove 252 = .ok (.invokevirtual 21, 3) := by decide +kernel
theorem dX15_sayMove_255 : decode cX15_sayMove 255 = .ok (.aload_n 0, 1) := by decide +kernel
theorem dX15_sayMove_256 : decode cX15_sayMove 256 = .ok (.aload_n 0, 1) := by decide +kernel
theorem dX15_sayMove_257 : decode cX15_sayMove 257 = .ok (.getfield 11, 3) := by decide +kernel
theorem dX15_sayMove_260 : decode cX15_sayMove 260 = .ok (.putfield 693, 3) := by decide +kernel
theorem dX15_sayMove_263 : decode cX15_sayMove 263 = .ok (.aload_n 0, 1) := by decide +kernel
theorem dX15_sayMove_264 : decode cX15_sayMove 264 = .ok (.aload_n 1, 1) := by decide +kernel
theorem dX15_sayMove_265 : decode cX15_sayMove 265 = .ok (.aload_n 0, 1) := by decide +kernel
theorem dX15_sayMove_266 : decode cX15_sayMove 266 = .ok (.getfield 288, 3) := by decide +kernel
theorem dX15_sayMove_269 : decode cX15_sayMove 269 = .ok (.iload_n 2, 1) := by decide +kernel
theorem dX15_sayMove_270 : decode cX15_sayMove 270 = .ok (.aload_n 0, 1) := by decide +kernel
theorem dX15_sayMove_271 : decode cX15_sayMove 271 = .ok (.getfield 305, 3) := by decide +kernel
theorem dX15_sayMove_274 : decode cX15_sayMove 274 = .ok (.invokevirtual 627, 3) := by decide +kernel
theorem dX15_sayMove_277 : decode cX15_sayMove 277 = .ok (.aload_n 0, 1) := by decide +kernel
theorem dX15_sayMove_278 : decode cX15_sayMove 278 = .ok (.aload_n 0, 1) := by decide +kernel
theorem dX15_sayMove_279 : decode cX15_sayMove 279 = .ok (.getfield 305, 3) := by decide +kernel
theorem dX15_sayMove_282 : decode cX15_sayMove 282 = .ok (.aload_n 0, 1) := by decide +kernel
theorem dX15_sayMove_283 : decode cX15_sayMove 283 = .ok (.getfield 292, 3) := by decide +kernel
theorem dX15_sayMove_286 : decode cX15_sayMove 286 = .ok (.invokevirtual 652, 3) := by decide +kernel
theorem dX15_sayMove_289 : decode cX15_sayMove 289 = .ok (.aload_n 0, 1) := by decide +kernel
theorem dX15_sayMove_290 : decode cX15_sayMove 290 = .ok (.aload_n 0, 1) := by decide +kernel
theorem dX15_sayMove_291 : decode cX15_sayMove 291 = .ok (.getfield 305, 3) := by decide +kernel
theorem dX15_sayMove_294 : decode cX15_sayMove 294 = .ok (.aload_n 0, 1) := by decide +kernel
theorem dX15_sayMove_295 : decode cX15_sayMove 295 = .ok (.getfield 305, 3) := by decide +kernel
theorem dX15_sayMove_298 : decode cX15_sayMove 298 = .ok (.getfield 452, 3) := by decide +kernel
theorem dX15_sayMove_301 : decode cX15_sayMove 301 = .ok (.invokevirtual 508, 3) := by decide +kernel
theorem dX15_sayMove_304 : decode cX15_sayMove 304 = .ok (.istore 5, 2) := by decide +kernel
theorem dX15_sayMove_306 : decode cX15_sayMove 306 = .ok (.aload_n 0, 1) := by decide +kernel
theorem dX15_sayMove_307 : decode cX15_sayMove 307 = .ok (.aload_n 0, 1) := by decide +kernel
theorem dX15_sayMove_308 : decode cX15_sayMove 308 = .ok (.getfield 305, 3) := by decide +kernel
theorem dX15_sayMove_311 : decode cX15_sayMove 311 = .ok (.aload_n 0, 1) := by decide +kernel
theorem dX15_sayMove_312 : decode cX15_sayMove 312 = .ok (.getfield 292, 3) := by decide +kernel
theorem dX15_sayMove_315 : decode cX15_sayMove 315 = .ok (.getfield 575, 3) := by decide +kernel
theorem dX15_sayMove_318 : decode cX15_sayMove 318 = .ok (.invokevirtual 683, 3) := by decide +kernel
theorem dX15_sayMove_321 : decode cX15_sayMove 321 = .ok (.ifCond .le 23, 3) := by decide +kernel
theorem dX15_sayMove_324 : decode cX15_sayMove 324 = .ok (.aload_n 0, 1) := by decide +kernel
theorem dX15_sayMove_325 : decode cX15_sayMove 325 = .ok (.getfield 646, 3) := by decide +kernel
theorem dX15_sayMove_328 : decode cX15_sayMove 328 = .ok (.aload_n 1, 1) := by decide +kernel
theorem dX15_sayMove_329 : decode cX15_sayMove 329 = .ok (.getfield 452, 3) := by decide +kernel
theorem dX15_sayMove_332 : decode cX15_sayMove 332 = .ok (.if_icmp .ne 12, 3) := by decide +kernel
theorem dX15_sayMove_335 : decode cX15_sayMove 335 = .ok (.aload_n 0, 1) := by decide +kernel
theorem dX15_sayMove_336 : decode cX15_sayMove 336 = .ok (.bipush 35, 2) := by decide +kernel
theorem dX15_sayMove_338 : decode cX15_sayMove 338 = .ok (.invokevirtual 21, 3) := by decide +kernel
theorem dX15_sayMove_341 : decode cX15_sayMove 341 = .ok (.goto 32, 3) := by decide +kernel
theorem dX15_sayMove_344 : decode cX15_sayMove 344 = .ok (.iload 5, 2) := by decide +kernel
theorem dX15_sayMove_346 : decode cX15_sayMove 346 = .ok (.iconst (-1), 1) := by decide +kernel
theorem dX15_sayMove_347 : decode cX15_sayMove 347 = .ok (.if_icmp .eq 26, 3) := by decide +kernel
theorem dX15_sayMove_350 : decode cX15_sayMove 350 = .ok (.aload_n 0, 1) := by decide +kernel
theorem dX15_sayMove_351 : decode cX15_sayMove 351 = .ok (.aload_n 0, 1) := by decide +kernel
theorem dX15_sayMove_352 : decode cX15_sayMove 352 = .ok (.getfield 305, 3) := by decide +kernel
theorem dX15_sayMove_355 : decode cX15_sayMove 355 = .ok (.iload 5, 2) := by decide +kernel
theorem dX15_sayMove_357 : decode cX15_sayMove 357 = .ok (.aload_n 1, 1) := by decide +kernel
theorem dX15_sayMove_358 : decode cX15_sayMove 358 = .ok (.getfield 452, 3) := by decide +kernel
theorem dX15_sayMove_361 : decode cX15_sayMove 361 = .ok (.invokevirtual 512, 3) := by decide +kernel
theorem dX15_sayMove_364 : decode cX15_sayMove 364 = .ok (.ifCond .eq 9, 3) := by decide +kernel
theorem dX15_sayMove_367 : decode cX15_sayMove 367 = .ok (.aload_n 0, 1) := by decide +kernel
theorem dX15_sayMove_368 : decode cX15_sayMove 368 = .ok (.bipush 43, 2) := by decide +kernel
theorem dX15_sayMove_370 : decode cX15_sayMove 370 = .ok (.invokevirtual 21, 3) := by decide +kernel
theorem dX15_sayMove_373 : decode cX15_sayMove 373 = .ok (.return_, 1) := by decide +kernel
set_option maxRecDepth 20000 in
theorem moX15_sayMove_373 {o : Hp} {F : Nat} {h : Hp} (hE : sX15_sayMove_373 F h  = some o) : Le h o := by
  exact le_some1 hE
set_option maxRecDepth 20000 in
theorem moX15_sayMove_344 {o : Hp} {F : Nat} {h : Hp} {x0 : Nat} {x1 : Nat} {x5 : Int32} (hE : sX15_sayMove_344 F h x0 x1 x5 = some o) : Le h o := by
  rcases br_e hE with ⟨_, hE⟩ | ⟨_, hE⟩
  · exact moX15_sayMove_373 hE
  · obtain ⟨r_2, er_2, hE⟩ := cl_e hE
    obtain ⟨o_3, eo_3, hE⟩ := cl_e hE
    refine (moX15_isAttacked eo_3).tr ?_
    rcases br_e hE with ⟨_, hE⟩ | ⟨_, hE⟩
    · exact moX15_sayMove_373 hE
    · obtain ⟨o_5, eo_5, hE⟩ := cl_e hE
      refine (moX15_say eo_5).tr ?_
      exact moX15_sayMove_373 hE
set_option maxRecDepth 20000 in
theorem moX15_sayMove_255 {o : Hp} {F : Nat} {h : Hp} {x0 : Nat} {x1 : Nat} {x2 : Int32} (hE : sX15_sayMove_255 F h x0 x1 x2 = some o) : Le h o := by
  obtain ⟨h_1, eh_1, hE⟩ := nm_e2 hE
  refine (le_I eh_1).tr ?_
  obtain ⟨r_2, er_2, hE⟩ := cl_e hE
  obtain ⟨r_3, er_3, hE⟩ := cl_e hE
  obtain ⟨o_4, eo_4, hE⟩ := cl_e hE
  refine (moX15_make eo_4).tr ?_
  obtain ⟨r_5, er_5, hE⟩ := cl_e hE
  obtain ⟨r_6, er_6, hE⟩ := cl_e hE
  obtain ⟨o_7, eo_7, hE⟩ := cl_e hE
  refine (moX15_legal eo_7).tr ?_
  obtain ⟨r_8, er_8, hE⟩ := cl_e hE
  obtain ⟨r_9, er_9, hE⟩ := cl_e hE
  obtain ⟨o_10, eo_10, hE⟩ := cl_e hE
  refine (moX15_royalOf eo_10).tr ?_
  obtain ⟨r_11, er_11, hE⟩ := cl_e hE
  obtain ⟨r_12, er_12, hE⟩ := cl_e hE
  obtain ⟨o_13, eo_13, hE⟩ := cl_e hE
  refine (moX15_endedBy eo_13).tr ?_
  rcases br_e hE with ⟨_, hE⟩ | ⟨_, hE⟩
  · exact moX15_sayMove_344 hE
  · rcases br_e hE with ⟨_, hE⟩ | ⟨_, hE⟩
    · obtain ⟨o_16, eo_16, hE⟩ := cl_e hE
      refine (moX15_say eo_16).tr ?_
      exact moX15_sayMove_373 hE
    · exact moX15_sayMove_344 hE
set_option maxRecDepth 20000 in
theorem moX15_sayMove_207 {o : Hp} {F : Nat} {h : Hp} {x0 : Nat} {x1 : Nat} {x2 : Int32} {x3 : Int32} (hE : sX15_sayMove_207 F h x0 x1 x2 x3 = some o) : Le h o := by
  obtain ⟨o_1, eo_1, hE⟩ := cl_e hE
  refine (moX15_saySquare eo_1).tr ?_
  obtain ⟨r_2, er_2, hE⟩ := cl_e hE
  obtain ⟨r_3, er_3, hE⟩ := cl_e hE
  obtain ⟨g_4, hE⟩ := gd_e hE
  rcases br_e hE with ⟨_, hE⟩ | ⟨_, hE⟩
  · exact moX15_sayMove_255 hE
  · obtain ⟨o_6, eo_6, hE⟩ := cl_e hE
    refine (moX15_say eo_6).tr ?_
    obtain ⟨r_7, er_7, hE⟩ := cl_e hE
    obtain ⟨r_8, er_8, hE⟩ := cl_e hE
    obtain ⟨r_9, er_9, hE⟩ := cl_e hE
    obtain ⟨r_10, er_10, hE⟩ := cl_e hE
    obtain ⟨g_11, hE⟩ := gd_e hE
    obtain ⟨g_12, hE⟩ := gd_e hE
    obtain ⟨o_13, eo_13, hE⟩ := cl_e hE
    refine (moX15_say eo_13).tr ?_
    exact moX15_sayMove_255 hE
set_option maxRecDepth 20000 in
theorem moX15_sayMove_183 {o : Hp} {F : Nat} {h : Hp} {x0 : Nat} {x1 : Nat} {x2 : Int32} {x3 : Int32} (hE : sX15_sayMove_183 F h x0 x1 x2 x3 = some o) : Le h o := by
  obtain ⟨o_1, eo_1, hE⟩ := cl_e hE
  refine (moX15_sayWhich eo_1).tr ?_
  obtain ⟨r_2, er_2, hE⟩ := cl_e hE
  obtain ⟨r_3, er_3, hE⟩ := cl_e hE
  obtain ⟨g_4, hE⟩ := gd_e hE
  rcases br_e hE with ⟨_, hE⟩ | ⟨_, hE⟩
  · exact moX15_sayMove_207 hE
  · obtain ⟨o_6, eo_6, hE⟩ := cl_e hE
    refine (moX15_say eo_6).tr ?_
    exact moX15_sayMove_207 hE
set_option maxRecDepth 20000 in
theorem moX15_sayMove {o : Hp} {F : Nat} {h : Hp} {x0 : Nat} {x1 : Nat} {x2 : Int32} (hE : sX15_sayMove F h x0 x1 x2 = some o) : Le h o := by
  obtain ⟨h_1, eh_1, hE⟩ := nm_e2 hE
  refine (le_I eh_1).tr ?_
  obtain ⟨r_2, er_2, hE⟩ := cl_e hE
  obtain ⟨r_3, er_3, hE⟩ := cl_e hE
  obtain ⟨g_4, hE⟩ := gd_e hE
  obtain ⟨v_5, ev_5, hE⟩ := nm_e2 hE
  obtain ⟨r_6, er_6, hE⟩ := cl_e hE
  obtain ⟨r_7, er_7, hE⟩ := cl_e hE
  obtain ⟨g_8, hE⟩ := gd_e hE
  obtain ⟨v_9, ev_9, hE⟩ := nm_e2 hE
  rcases br_e hE with ⟨_, hE⟩ | ⟨_, hE⟩
  · obtain ⟨o_33, eo_33, hE⟩ := cl_e hE
    refine (moX15_say eo_33).tr ?_
    obtain ⟨o_34, eo_34, hE⟩ := cl_e hE
    refine (moX15_say eo_34).tr ?_
    obtain ⟨o_35, eo_35, hE⟩ := cl_e hE
    refine (moX15_say eo_35).tr ?_
    obtain ⟨r_36, er_36, hE⟩ := cl_e hE
    obtain ⟨r_37, er_37, hE⟩ := cl_e hE
    obtain ⟨g_38, hE⟩ := gd_e hE
    obtain ⟨g_39, hE⟩ := gd_e hE
    obtain ⟨r_40, er_40, hE⟩ := cl_e hE
    obtain ⟨r_41, er_41, hE⟩ := cl_e hE
    obtain ⟨g_42, hE⟩ := gd_e hE
    obtain ⟨g_43, hE⟩ := gd_e hE
    rcases br_e hE with ⟨_, hE⟩ | ⟨_, hE⟩
    · exact moX15_sayMove_255 hE
    · obtain ⟨o_45, eo_45, hE⟩ := cl_e hE
      refine (moX15_say eo_45).tr ?_
      obtain ⟨o_46, eo_46, hE⟩ := cl_e hE
      refine (moX15_say eo_46).tr ?_
      exact moX15_sayMove_255 hE
  · rcases br_e hE with ⟨_, hE⟩ | ⟨_, hE⟩
    · obtain ⟨r_24, er_24, hE⟩ := cl_e hE
      obtain ⟨r_25, er_25, hE⟩ := cl_e hE
      obtain ⟨r_26, er_26, hE⟩ := cl_e hE
      obtain ⟨r_27, er_27, hE⟩ := cl_e hE
      obtain ⟨g_28, hE⟩ := gd_e hE
      obtain ⟨g_29, hE⟩ := gd_e hE
      obtain ⟨o_30, eo_30, hE⟩ := cl_e hE
      refine (moX15_say eo_30).tr ?_
      obtain ⟨o_31, eo_31, hE⟩ := cl_e hE
      refine (moX15_say eo_31).tr ?_
      obtain ⟨o_32, eo_32, hE⟩ := cl_e hE
      refine (moX15_saySquare eo_32).tr ?_
      exact moX15_sayMove_255 hE
    · obtain ⟨r_12, er_12, hE⟩ := cl_e hE
      obtain ⟨r_13, er_13, hE⟩ := cl_e hE
      obtain ⟨g_14, hE⟩ := gd_e hE
      obtain ⟨r_15, er_15, hE⟩ := cl_e hE
      rcases br_e hE with ⟨_, hE⟩ | ⟨_, hE⟩
      · exact moX15_sayMove_183 hE
      · obtain ⟨r_17, er_17, hE⟩ := cl_e hE
        obtain ⟨r_18, er_18, hE⟩ := cl_e hE
        obtain ⟨r_19, er_19, hE⟩ := cl_e hE
        obtain ⟨r_20, er_20, hE⟩ := cl_e hE
        obtain ⟨g_21, hE⟩ := gd_e hE
        obtain ⟨g_22, hE⟩ := gd_e hE
        obtain ⟨o_23, eo_23, hE⟩ := cl_e hE
        refine (moX15_say eo_23).tr ?_
        exact moX15_sayMove_183 hE
set_option maxRecDepth 20000 in
theorem bX15_sayMove_373 {p : Program} {l : Launch} {e : Env} {s : State} {m : MethodId} {args : Array Value} {below : List Frame} {meth : Method} {c : Code} {X : Ec} {h0 : Hp} {o : Hp} {F : Nat} (C : Cx X p s m args meth c RX15 cX15_sayMove 6 none "sayMove") {h : Hp} {H : Heap} {locs : List Loc} (hkm : Km h0 h) (hW : Wx X h H) (hZ : va_S (aA (eB X)) s.heap H locs) (ls : Array Slot) (hl : lv_has ls 6 []) (hE : sX15_sayMove_373 F h  = some o) : W p l e (rm 7 191) s m args below meth c H locs 0 0 (MQ below (QV X h0 o) args s 0 0 (aA (eB X))) (F0 m 373 ls []) := by
  exact x_vret C rfl hW hZ hkm hE dX15_sayMove_373
set_option maxRecDepth 20000 in
theorem bX15_sayMove_344 {p : Program} {l : Launch} {e : Env} {s : State} {m : MethodId} {args : Array Value} {below : List Frame} {meth : Method} {c : Code} {X : Ec} {h0 : Hp} {o : Hp} {F : Nat} (C : Cx X p s m args meth c RX15 cX15_sayMove 6 none "sayMove") {h : Hp} {x0 : Nat} {x1 : Nat} {x5 : Int32} {H : Heap} {locs : List Loc} (k_x0 : hK h x0 = 15) (k_x1 : hK h x1 = 12) (hkm : Km h0 h) (hW : Wx X h H) (hZ : va_S (aA (eB X)) s.heap H locs) (ls : Array Slot) (hl : lv_has ls 6 [(0, .ref x0), (1, .ref x1), (5, .int x5)]) (hE : sX15_sayMove_344 F h x0 x1 x5 = some o) : W p l e (rm 7 191) s m args below meth c H locs 0 0 (MQ below (QV X h0 o) args s 0 0 (aA (eB X))) (F0 m 344 ls []) := by
  refine lv_iload C.1 C.2.1 dX15_sayMove_344 (lv_at hl 2 rfl) ?_
  refine lv_iconst (v := (-1 : Int32)) C.1 C.2.1 dX15_sayMove_346 (by decide) ?_
  refine lv_icmp_eq (tgt := 373) C.1 C.2.1 dX15_sayMove_347 (by decide) (fun c_1 => ?_) (fun c_1 => ?_)
  · have hE := br_p hE c_1
    exact bX15_sayMove_373 C hkm hW hZ _ (lv_sub hl [] rfl) hE
  · have hE := br_n hE c_1
    refine lv_aload_n C.1 C.2.1 dX15_sayMove_350 rfl (lv_at hl 0 rfl) ?_
    refine lv_aload_n C.1 C.2.1 dX15_sayMove_351 rfl (lv_at hl 0 rfl) ?_
    obtain ⟨r_2, er_2, hE⟩ := cl_e hE
    refine gf_X15_305 C hW k_x0 er_2 dX15_sayMove_352 (fun k_r_2 => ?_)
    refine lv_iload C.1 C.2.1 dX15_sayMove_355 (lv_at hl 2 rfl) ?_
    refine lv_aload_n C.1 C.2.1 dX15_sayMove_357 rfl (lv_at hl 1 rfl) ?_
    refine gf_X15_452 C hW k_x1 dX15_sayMove_358 ?_
    obtain ⟨o_3, eo_3, hE⟩ := cl_e hE
    refine x_kI (o := o_3) (z_runV (As := [.ref r_2, .int x5, .int (hI h x1 1)]) (rest := []) C (ct_X15_isAttacked l X F k_x0 k_r_2 eo_3) cw_X15_512 hW hZ k_x0 (by decide) rfl rfl rfl hl.1 (Nat.le_of_ble_eq_true rfl) rfl dX15_sayMove_361 ⟨Nat.le_of_ble_eq_true rfl, Nat.le_of_ble_eq_true rfl⟩ ⟨Nat.le_refl _, Nat.le_refl _⟩) hZ (fun _ _ hW km hZ => ?_)
    replace hkm := hkm.tr km
    replace k_x0 := km.at k_x0 (by decide)
    replace k_x1 := km.at k_x1 (by decide)
    refine lv_if_eq (tgt := 373) C.1 C.2.1 dX15_sayMove_364 (by decide) (fun c_4 => ?_) (fun c_4 => ?_)
    · have hE := br_p hE c_4
      exact bX15_sayMove_373 C hkm hW hZ _ (lv_sub hl [] rfl) hE
    · have hE := br_n hE c_4
      refine lv_aload_n C.1 C.2.1 dX15_sayMove_367 rfl (lv_at hl 0 rfl) ?_
      refine lv_bipush (v := (43 : Int32)) C.1 C.2.1 dX15_sayMove_368 (by decide) ?_
      obtain ⟨o_5, eo_5, hE⟩ := cl_e hE
      refine x_kV (o := o_5) (z_runV (As := [.int (43 : Int32)]) (rest := []) C (ct_X15_say l X k_x0 eo_5) cw_X15_21 hW hZ k_x0 (by decide) rfl rfl rfl hl.1 (Nat.le_of_ble_eq_true rfl) rfl dX15_sayMove_370 ⟨Nat.le_of_ble_eq_true rfl, Nat.le_of_ble_eq_true rfl⟩ ⟨Nat.le_refl _, Nat.le_refl _⟩) hZ (fun _ _ hW km hZ => ?_)
      replace hkm := hkm.tr km
      replace k_x0 := km.at k_x0 (by decide)
      replace k_x1 := km.at k_x1 (by decide)
      exact bX15_sayMove_373 C hkm hW hZ _ (lv_sub hl [] rfl) hE
set_option maxRecDepth 20000 in
theorem bX15_sayMove_255 {p : Program} {l : Launch} {e : Env} {s : State} {m : MethodId} {args : Array Value} {below : List Frame} {meth : Method} {c : Code} {X : Ec} {h0 : Hp} {o : Hp} {F : Nat} (C : Cx X p s m args meth c RX15 cX15_sayMove 6 none "sayMove") {h : Hp} {x0 : Nat} {x1 : Nat} {x2 : Int32} {H : Heap} {locs : List Loc} (k_x0 : hK h x0 = 15) (k_x1 : hK h x1 = 12) (hkm : Km h0 h) (hW : Wx X h H) (hZ : va_S (aA (eB X)) s.heap H locs) (ls : Array Slot) (hl : lv_has ls 6 [(0, .ref x0), (1, .ref x1), (2, .int x2)]) (hE : sX15_sayMove_255 F h x0 x1 x2 = some o) : W p l e (rm 7 191) s m args below meth c H locs 0 0 (MQ below (QV X h0 o) args s 0 0 (aA (eB X))) (F0 m 255 ls []) := by
  refine lv_aload_n C.1 C.2.1 dX15_sayMove_255 rfl (lv_at hl 0 rfl) ?_
  refine lv_aload_n C.1 C.2.1 dX15_sayMove_256 rfl (lv_at hl 0 rfl) ?_
  refine gf_X15_11 C hW k_x0 dX15_sayMove_257 ?_
  obtain ⟨h_1, eh_1, hE⟩ := nm_e2 hE
  refine pf_X15_693 C hW hZ k_x0 eh_1 dX15_sayMove_260 (fun _ _ hW km hZ => ?_)
  replace hkm := hkm.tr km
  replace k_x0 := km.at k_x0 (by decide)
  replace k_x1 := km.at k_x1 (by decide)
  refine lv_aload_n C.1 C.2.1 dX15_sayMove_263 rfl (lv_at hl 0 rfl) ?_
  refine lv_aload_n C.1 C.2.1 dX15_sayMove_264 rfl (lv_at hl 1 rfl) ?_
  refine lv_aload_n C.1 C.2.1 dX15_sayMove_265 rfl (lv_at hl 0 rfl) ?_
  obtain ⟨r_2, er_2, hE⟩ := cl_e hE
  refine gf_X15_288 C hW k_x0 er_2 dX15_sayMove_266 (fun k_r_2 => ?_)
  refine lv_iload_n C.1 C.2.1 dX15_sayMove_269 rfl (lv_at hl 2 rfl) ?_
  refine lv_aload_n C.1 C.2.1 dX15_sayMove_270 rfl (lv_at hl 0 rfl) ?_
  obtain ⟨r_3, er_3, hE⟩ := cl_e hE
  refine gf_X15_305 C hW k_x0 er_3 dX15_sayMove_271 (fun k_r_3 => ?_)
  obtain ⟨o_4, eo_4, hE⟩ := cl_e hE
  refine x_kV (o := o_4) (z_runV (As := [.ref x1, .ref r_2, .int x2, .ref r_3]) (rest := []) C (ct_X15_make l X F k_x0 k_x1 k_r_2 k_r_3 eo_4) cw_X15_627 hW hZ k_x0 (by decide) rfl rfl rfl hl.1 (Nat.le_of_ble_eq_true rfl) rfl dX15_sayMove_274 ⟨Nat.le_of_ble_eq_true rfl, Nat.le_of_ble_eq_true rfl⟩ ⟨Nat.le_refl _, Nat.le_refl _⟩) hZ (fun _ _ hW km hZ => ?_)
  replace hkm := hkm.tr km
  replace k_x0 := km.at k_x0 (by decide)
  replace k_x1 := km.at k_x1 (by decide)
  refine lv_aload_n C.1 C.2.1 dX15_sayMove_277 rfl (lv_at hl 0 rfl) ?_
  refine lv_aload_n C.1 C.2.1 dX15_sayMove_278 rfl (lv_at hl 0 rfl) ?_
  obtain ⟨r_5, er_5, hE⟩ := cl_e hE
  refine gf_X15_305 C hW k_x0 er_5 dX15_sayMove_279 (fun k_r_5 => ?_)
  refine lv_aload_n C.1 C.2.1 dX15_sayMove_282 rfl (lv_at hl 0 rfl) ?_
  obtain ⟨r_6, er_6, hE⟩ := cl_e hE
  refine gf_X15_292 C hW k_x0 er_6 dX15_sayMove_283 (fun k_r_6 => ?_)
  obtain ⟨o_7, eo_7, hE⟩ := cl_e hE
  refine x_kV (o := o_7) (z_runV (As := [.ref r_5, .ref r_6]) (rest := []) C (ct_X15_legal l X F k_x0 k_r_5 k_r_6 eo_7) cw_X15_652 hW hZ k_x0 (by decide) rfl rfl rfl hl.1 (Nat.le_of_ble_eq_true rfl) rfl dX15_sayMove_286 ⟨Nat.le_of_ble_eq_true rfl, Nat.le_of_ble_eq_true rfl⟩ ⟨Nat.le_refl _, Nat.le_refl _⟩) hZ (fun _ _ hW km hZ => ?_)
  replace hkm := hkm.tr km
  replace k_x0 := km.at k_x0 (by decide)
  replace k_x1 := km.at k_x1 (by decide)
  refine lv_aload_n C.1 C.2.1 dX15_sayMove_289 rfl (lv_at hl 0 rfl) ?_
  refine lv_aload_n C.1 C.2.1 dX15_sayMove_290 rfl (lv_at hl 0 rfl) ?_
  obtain ⟨r_8, er_8, hE⟩ := cl_e hE
  refine gf_X15_305 C hW k_x0 er_8 dX15_sayMove_291 (fun k_r_8 => ?_)
  refine lv_aload_n C.1 C.2.1 dX15_sayMove_294 rfl (lv_at hl 0 rfl) ?_
  obtain ⟨r_9, er_9, hE⟩ := cl_e hE
  refine gf_X15_305 C hW k_x0 er_9 dX15_sayMove_295 (fun k_r_9 => ?_)
  refine gf_X15_452 C hW k_r_9 dX15_sayMove_298 ?_
  obtain ⟨o_10, eo_10, hE⟩ := cl_e hE
  refine x_kI (o := o_10) (z_runV (As := [.ref r_8, .int (hI o_7 r_9 1)]) (rest := []) C (ct_X15_royalOf l X F k_x0 k_r_8 eo_10) cw_X15_508 hW hZ k_x0 (by decide) rfl rfl rfl hl.1 (Nat.le_of_ble_eq_true rfl) rfl dX15_sayMove_301 ⟨Nat.le_of_ble_eq_true rfl, Nat.le_of_ble_eq_true rfl⟩ ⟨Nat.le_refl _, Nat.le_refl _⟩) hZ (fun _ _ hW km hZ => ?_)
  replace hkm := hkm.tr km
  replace k_x0 := km.at k_x0 (by decide)
  replace k_x1 := km.at k_x1 (by decide)
  refine lv_istore (lv' := [(5, .int o_10.1), (0, .ref x0), (1, .ref x1), (2, .int x2)]) C.1 C.2.1 dX15_sayMove_304 hl (by decide) rfl (fun ls hl => ?_)
  refine lv_aload_n C.1 C.2.1 dX15_sayMove_306 rfl (lv_at hl 1 rfl) ?_
  refine lv_aload_n C.1 C.2.1 dX15_sayMove_307 rfl (lv_at hl 1 rfl) ?_
  obtain ⟨r_11, er_11, hE⟩ := cl_e hE
  refine gf_X15_305 C hW k_x0 er_11 dX15_sayMove_308 (fun k_r_11 => ?_)
  refine lv_aload_n C.1 C.2.1 dX15_sayMove_311 rfl (lv_at hl 1 rfl) ?_
  obtain ⟨r_12, er_12, hE⟩ := cl_e hE
  refine gf_X15_292 C hW k_x0 er_12 dX15_sayMove_312 (fun k_r_12 => ?_)
  refine gf_X15_575 C hW k_r_12 dX15_sayMove_315 ?_
  obtain ⟨o_13, eo_13, hE⟩ := cl_e hE
  refine x_kI (o := o_13) (z_runV (As := [.ref r_11, .int (hI o_10.2 r_12 0)]) (rest := []) C (ct_X15_endedBy l X F k_x0 k_r_11 eo_13) cw_X15_683 hW hZ k_x0 (by decide) rfl rfl rfl hl.1 (Nat.le_of_ble_eq_true rfl) rfl dX15_sayMove_318 ⟨Nat.le_of_ble_eq_true rfl, Nat.le_of_ble_eq_true rfl⟩ ⟨Nat.le_refl _, Nat.le_refl _⟩) hZ (fun _ _ hW km hZ => ?_)
  replace hkm := hkm.tr km
  replace k_x0 := km.at k_x0 (by decide)
  replace k_x1 := km.at k_x1 (by decide)
  refine lv_if_le (tgt := 344) C.1 C.2.1 dX15_sayMove_321 (by decide) (fun c_14 => ?_) (fun c_14 => ?_)
  · have hE := br_p hE c_14
    exact bX15_sayMove_344 C k_x0 k_x1 hkm hW hZ _ (lv_sub hl [1, 2, 0] rfl) hE
  · have hE := br_n hE c_14
    refine lv_aload_n C.1 C.2.1 dX15_sayMove_324 rfl (lv_at hl 1 rfl) ?_
    refine gf_X15_646 C hW k_x0 dX15_sayMove_325 ?_
    refine lv_aload_n C.1 C.2.1 dX15_sayMove_328 rfl (lv_at hl 2 rfl) ?_
    refine gf_X15_452 C hW k_x1 dX15_sayMove_329 ?_
    refine lv_icmp_ne (tgt := 344) C.1 C.2.1 dX15_sayMove_332 (by decide) (fun c_15 => ?_) (fun c_15 => ?_)
    · have hE := br_n hE c_15
      exact bX15_sayMove_344 C k_x0 k_x1 hkm hW hZ _ (lv_sub hl [1, 2, 0] rfl) hE
    · have hE := br_p hE c_15
      refine lv_aload_n C.1 C.2.1 dX15_sayMove_335 rfl (lv_at hl 1 rfl) ?_
      refine lv_bipush (v := (35 : Int32)) C.1 C.2.1 dX15_sayMove_336 (by decide) ?_
      obtain ⟨o_16, eo_16, hE⟩ := cl_e hE
      refine x_kV (o := o_16) (z_runV (As := [.int (35 : Int32)]) (rest := []) C (ct_X15_say l X k_x0 eo_16) cw_X15_21 hW hZ k_x0 (by decide) rfl rfl rfl hl.1 (Nat.le_of_ble_eq_true rfl) rfl dX15_sayMove_338 ⟨Nat.le_of_ble_eq_true rfl, Nat.le_of_ble_eq_true rfl⟩ ⟨Nat.le_refl _, Nat.le_refl _⟩) hZ (fun _ _ hW km hZ => ?_)
      replace hkm := hkm.tr km
      replace k_x0 := km.at k_x0 (by decide)
      replace k_x1 := km.at k_x1 (by decide)
      refine lv_goto (tgt := 373) C.1 C.2.1 dX15_sayMove_341 (by decide) ?_
      exact bX15_sayMove_373 C hkm hW hZ _ (lv_sub hl [] rfl) hE
set_option maxRecDepth 20000 in
theorem bX15_sayMove_207 {p : Program} {l : Launch} {e : Env} {s : State} {m : MethodId} {args : Array Value} {below : List Frame} {meth : Method} {c : Code} {X : Ec} {h0 : Hp} {o : Hp} {F : Nat} (C : Cx X p s m args meth c RX15 cX15_sayMove 6 none "sayMove") {h : Hp} {x0 : Nat} {x1 : Nat} {x2 : Int32} {x3 : Int32} {H : Heap} {locs : List Loc} (k_x0 : hK h x0 = 15) (k_x1 : hK h x1 = 12) (hkm : Km h0 h) (hW : Wx X h H) (hZ : va_S (aA (eB X)) s.heap H locs) (ls : Array Slot) (hl : lv_has ls 6 [(0, .ref x0), (1, .ref x1), (2, .int x2), (3, .int x3)]) (hE : sX15_sayMove_207 F h x0 x1 x2 x3 = some o) : W p l e (rm 7 191) s m args below meth c H locs 0 0 (MQ below (QV X h0 o) args s 0 0 (aA (eB X))) (F0 m 207 ls []) := by
  refine lv_aload_n C.1 C.2.1 dX15_sayMove_207 rfl (lv_at hl 0 rfl) ?_
  refine lv_iload_n C.1 C.2.1 dX15_sayMove_208 rfl (lv_at hl 3 rfl) ?_
  obtain ⟨o_1, eo_1, hE⟩ := cl_e hE
  refine x_kV (o := o_1) (z_runV (As := [.int x3]) (rest := []) C (ct_X15_saySquare l X k_x0 eo_1) cw_X15_539 hW hZ k_x0 (by decide) rfl rfl rfl hl.1 (Nat.le_of_ble_eq_true rfl) rfl dX15_sayMove_209 ⟨Nat.le_of_ble_eq_true rfl, Nat.le_of_ble_eq_true rfl⟩ ⟨Nat.le_refl _, Nat.le_refl _⟩) hZ (fun _ _ hW km hZ => ?_)
  replace hkm := hkm.tr km
  replace k_x0 := km.at k_x0 (by decide)
  replace k_x1 := km.at k_x1 (by decide)
  refine lv_aload_n C.1 C.2.1 dX15_sayMove_212 rfl (lv_at hl 0 rfl) ?_
  obtain ⟨r_2, er_2, hE⟩ := cl_e hE
  refine gf_X15_288 C hW k_x0 er_2 dX15_sayMove_213 (fun k_r_2 => ?_)
  obtain ⟨r_3, er_3, hE⟩ := cl_e hE
  refine gf_X15_612 C hW k_r_2 er_3 dX15_sayMove_216 (fun k_r_3 => ?_)
  refine lv_iload_n C.1 C.2.1 dX15_sayMove_219 rfl (lv_at hl 2 rfl) ?_
  obtain ⟨g_4, hE⟩ := gd_e hE
  refine y_iald C hW k_r_3 g_4 dX15_sayMove_220 ?_
  refine lv_iconst (v := (-1 : Int32)) C.1 C.2.1 dX15_sayMove_221 (by decide) ?_
  refine lv_icmp_eq (tgt := 255) C.1 C.2.1 dX15_sayMove_222 (by decide) (fun c_5 => ?_) (fun c_5 => ?_)
  · have hE := br_p hE c_5
    exact bX15_sayMove_255 C k_x0 k_x1 hkm hW hZ _ (lv_sub hl [0, 1, 2] rfl) hE
  · have hE := br_n hE c_5
    refine lv_aload_n C.1 C.2.1 dX15_sayMove_225 rfl (lv_at hl 0 rfl) ?_
    refine lv_bipush (v := (61 : Int32)) C.1 C.2.1 dX15_sayMove_226 (by decide) ?_
    obtain ⟨o_6, eo_6, hE⟩ := cl_e hE
    refine x_kV (o := o_6) (z_runV (As := [.int (61 : Int32)]) (rest := []) C (ct_X15_say l X k_x0 eo_6) cw_X15_21 hW hZ k_x0 (by decide) rfl rfl rfl hl.1 (Nat.le_of_ble_eq_true rfl) rfl dX15_sayMove_228 ⟨Nat.le_of_ble_eq_true rfl, Nat.le_of_ble_eq_true rfl⟩ ⟨Nat.le_refl _, Nat.le_refl _⟩) hZ (fun _ _ hW km hZ => ?_)
    replace hkm := hkm.tr km
    replace k_x0 := km.at k_x0 (by decide)
    replace k_x1 := km.at k_x1 (by decide)
    refine lv_aload_n C.1 C.2.1 dX15_sayMove_231 rfl (lv_at hl 0 rfl) ?_
    refine lv_aload_n C.1 C.2.1 dX15_sayMove_232 rfl (lv_at hl 0 rfl) ?_
    obtain ⟨r_7, er_7, hE⟩ := cl_e hE
    refine gf_X15_252 C hW k_x0 er_7 dX15_sayMove_233 (fun k_r_7 => ?_)
    obtain ⟨r_8, er_8, hE⟩ := cl_e hE
    refine gf_X15_172 C hW k_r_7 er_8 dX15_sayMove_236 (fun k_r_8 => ?_)
    refine lv_aload_n C.1 C.2.1 dX15_sayMove_239 rfl (lv_at hl 0 rfl) ?_
    obtain ⟨r_9, er_9, hE⟩ := cl_e hE
    refine gf_X15_288 C hW k_x0 er_9 dX15_sayMove_240 (fun k_r_9 => ?_)
    obtain ⟨r_10, er_10, hE⟩ := cl_e hE
    refine gf_X15_612 C hW k_r_9 er_10 dX15_sayMove_243 (fun k_r_10 => ?_)
    refine lv_iload_n C.1 C.2.1 dX15_sayMove_246 rfl (lv_at hl 2 rfl) ?_
    obtain ⟨g_11, hE⟩ := gd_e hE
    refine y_iald C hW k_r_10 g_11 dX15_sayMove_247 ?_
    obtain ⟨g_12, hE⟩ := gd_e hE
    refine y_iald C hW k_r_8 g_12 dX15_sayMove_248 ?_
    refine lv_bipush (v := (32 : Int32)) C.1 C.2.1 dX15_sayMove_249 (by decide) ?_
    refine lv_isub C.1 C.2.1 dX15_sayMove_251 ?_
    obtain ⟨o_13, eo_13, hE⟩ := cl_e hE
    refine x_kV (o := o_13) (z_runV (As := [.int ((hI o_6 r_8 (hI o_6 r_10 x2.toNatClampNeg).toNatClampNeg) - (32 : Int32))]) (rest := []) C (ct_X15_say l X k_x0 eo_13) cw_X15_21 hW hZ k_x0 (by decide) rfl rfl rfl hl.1 (Nat.le_of_ble_eq_true rfl) rfl dX15_sayMove_252 ⟨Nat.le_of_ble_eq_true rfl, Nat.le_of_ble_eq_true rfl⟩ ⟨Nat.le_refl _, Nat.le_refl _⟩) hZ (fun _ _ hW km hZ => ?_)
    replace hkm := hkm.tr km
    replace k_x0 := km.at k_x0 (by decide)
    replace k_x1 := km.at k_x1 (by decide)
    exact bX15_sayMove_255 C k_x0 k_x1 hkm hW hZ _ (lv_sub hl [0, 1, 2] rfl) hE
set_option maxRecDepth 20000 in
theorem bX15_sayMove_183 {p : Program} {l : Launch} {e : Env} {s : State} {m : MethodId} {args : Array Value} {below : List Frame} {meth : Method} {c : Code} {X : Ec} {h0 : Hp} {o : Hp} {F : Nat} (C : Cx X p s m args meth c RX15 cX15_sayMove 6 none "sayMove") {h : Hp} {x0 : Nat} {x1 : Nat} {x2 : Int32} {x3 : Int32} {H : Heap} {locs : List Loc} (k_x0 : hK h x0 = 15) (k_x1 : hK h x1 = 12) (hkm : Km h0 h) (hW : Wx X h H) (hZ : va_S (aA (eB X)) s.heap H locs) (ls : Array Slot) (hl : lv_has ls 6 [(0, .ref x0), (1, .ref x1), (2, .int x2), (3, .int x3)]) (hE : sX15_sayMove_183 F h x0 x1 x2 x3 = some o) : W p l e (rm 7 191) s m args below meth c H locs 0 0 (MQ below (QV X h0 o) args s 0 0 (aA (eB X))) (F0 m 183 ls []) := by
  refine lv_aload_n C.1 C.2.1 dX15_sayMove_183 rfl (lv_at hl 0 rfl) ?_
  refine lv_iload_n C.1 C.2.1 dX15_sayMove_184 rfl (lv_at hl 2 rfl) ?_
  obtain ⟨o_1, eo_1, hE⟩ := cl_e hE
  refine x_kV (o := o_1) (z_runV (As := [.int x2]) (rest := []) C (ct_X15_sayWhich l X F k_x0 eo_1) cw_X15_690 hW hZ k_x0 (by decide) rfl rfl rfl hl.1 (Nat.le_of_ble_eq_true rfl) rfl dX15_sayMove_185 ⟨Nat.le_of_ble_eq_true rfl, Nat.le_of_ble_eq_true rfl⟩ ⟨Nat.le_refl _, Nat.le_refl _⟩) hZ (fun _ _ hW km hZ => ?_)
  replace hkm := hkm.tr km
  replace k_x0 := km.at k_x0 (by decide)
  replace k_x1 := km.at k_x1 (by decide)
  refine lv_aload_n C.1 C.2.1 dX15_sayMove_188 rfl (lv_at hl 0 rfl) ?_
  obtain ⟨r_2, er_2, hE⟩ := cl_e hE
  refine gf_X15_288 C hW k_x0 er_2 dX15_sayMove_189 (fun k_r_2 => ?_)
  obtain ⟨r_3, er_3, hE⟩ := cl_e hE
  refine gf_X15_605 C hW k_r_2 er_3 dX15_sayMove_192 (fun k_r_3 => ?_)
  refine lv_iload_n C.1 C.2.1 dX15_sayMove_195 rfl (lv_at hl 2 rfl) ?_
  obtain ⟨g_4, hE⟩ := gd_e hE
  refine y_iald C hW k_r_3 g_4 dX15_sayMove_196 ?_
  refine lv_iconst (v := (-1 : Int32)) C.1 C.2.1 dX15_sayMove_197 (by decide) ?_
  refine lv_icmp_eq (tgt := 207) C.1 C.2.1 dX15_sayMove_198 (by decide) (fun c_5 => ?_) (fun c_5 => ?_)
  · have hE := br_p hE c_5
    exact bX15_sayMove_207 C k_x0 k_x1 hkm hW hZ _ (lv_sub hl [0, 1, 2, 3] rfl) hE
  · have hE := br_n hE c_5
    refine lv_aload_n C.1 C.2.1 dX15_sayMove_201 rfl (lv_at hl 0 rfl) ?_
    refine lv_bipush (v := (120 : Int32)) C.1 C.2.1 dX15_sayMove_202 (by decide) ?_
    obtain ⟨o_6, eo_6, hE⟩ := cl_e hE
    refine x_kV (o := o_6) (z_runV (As := [.int (120 : Int32)]) (rest := []) C (ct_X15_say l X k_x0 eo_6) cw_X15_21 hW hZ k_x0 (by decide) rfl rfl rfl hl.1 (Nat.le_of_ble_eq_true rfl) rfl dX15_sayMove_204 ⟨Nat.le_of_ble_eq_true rfl, Nat.le_of_ble_eq_true rfl⟩ ⟨Nat.le_refl _, Nat.le_refl _⟩) hZ (fun _ _ hW km hZ => ?_)
    replace hkm := hkm.tr km
    replace k_x0 := km.at k_x0 (by decide)
    replace k_x1 := km.at k_x1 (by decide)
    exact bX15_sayMove_207 C k_x0 k_x1 hkm hW hZ _ (lv_sub hl [0, 1, 2, 3] rfl) hE
set_option maxRecDepth 20000 in
theorem ct_X15_sayMove (l : Launch) (X : Ec) (F : Nat) {h : Hp} {x0 : Nat} {x1 : Nat} {x2 : Int32} {o : Hp} (k_x0 : hK h x0 = 15) (k_x1 : hK h x1 = 12) (hE : sX15_sayMove F h x0 x1 x2 = some o) : MetV l yX15_sayMove cX15_sayMove 6 none 7 191 X [.ref x0, .ref x1, .int x2] h o := by
  refine x_met (by decide) (Nat.le_of_ble_eq_true rfl) ?_
  intro p e s m below meth c ls C hl hW hZ
  have hl : lv_has ls 6 [(0, .ref x0), (1, .ref x1), (2, .int x2)] := hl
  have hkm : Km h h := Km.rf h
  refine lv_aload_n C.1 C.2.1 dX15_sayMove_0 rfl (lv_at hl 0 rfl) ?_
  refine lv_iconst (v := (0 : Int32)) C.1 C.2.1 dX15_sayMove_1 (by decide) ?_
  obtain ⟨h_1, eh_1, hE⟩ := nm_e2 hE
  refine pf_X15_11 C hW hZ k_x0 eh_1 dX15_sayMove_2 (fun _ _ hW km hZ => ?_)
  replace hkm := hkm.tr km
  replace k_x0 := km.at k_x0 (by decide)
  replace k_x1 := km.at k_x1 (by decide)
  refine lv_aload_n C.1 C.2.1 dX15_sayMove_5 rfl (lv_at hl 0 rfl) ?_
  obtain ⟨r_2, er_2, hE⟩ := cl_e hE
  refine gf_X15_288 C hW k_x0 er_2 dX15_sayMove_6 (fun k_r_2 => ?_)
  obtain ⟨r_3, er_3, hE⟩ := cl_e hE
  refine gf_X15_598 C hW k_r_2 er_3 dX15_sayMove_9 (fun k_r_3 => ?_)
  refine lv_iload_n C.1 C.2.1 dX15_sayMove_12 rfl (lv_at hl 2 rfl) ?_
  obtain ⟨g_4, hE⟩ := gd_e hE
  refine y_iald C hW k_r_3 g_4 dX15_sayMove_13 ?_
  obtain ⟨v_5, ev_5, hE⟩ := nm_e2 hE
  refine x_nmI ev_5 ?_
  refine lv_istore_n (lv' := [(3, .int v_5), (0, .ref x0), (1, .ref x1), (2, .int x2)]) C.1 C.2.1 dX15_sayMove_14 rfl hl (by decide) rfl (fun ls hl => ?_)
  refine lv_aload_n C.1 C.2.1 dX15_sayMove_15 rfl (lv_at hl 1 rfl) ?_
  obtain ⟨r_6, er_6, hE⟩ := cl_e hE
  refine gf_X15_288 C hW k_x0 er_6 dX15_sayMove_16 (fun k_r_6 => ?_)
  obtain ⟨r_7, er_7, hE⟩ := cl_e hE
  refine gf_X15_602 C hW k_r_6 er_7 dX15_sayMove_19 (fun k_r_7 => ?_)
  refine lv_iload_n C.1 C.2.1 dX15_sayMove_22 rfl (lv_at hl 3 rfl) ?_
  obtain ⟨g_8, hE⟩ := gd_e hE
  refine y_iald C hW k_r_7 g_8 dX15_sayMove_23 ?_
  obtain ⟨v_9, ev_9, hE⟩ := nm_e2 hE
  refine x_nmI ev_9 ?_
  refine lv_istore (lv' := [(4, .int v_9), (3, .int v_5), (0, .ref x0), (1, .ref x1), (2, .int x2)]) C.1 C.2.1 dX15_sayMove_24 hl (by decide) rfl (fun ls hl => ?_)
  refine lv_iload C.1 C.2.1 dX15_sayMove_26 (lv_at hl 0 rfl) ?_
  refine lv_iconst (v := (2 : Int32)) C.1 C.2.1 dX15_sayMove_28 (by decide) ?_
  refine lv_icmp_ne (tgt := 96) C.1 C.2.1 dX15_sayMove_29 (by decide) (fun c_10 => ?_) (fun c_10 => ?_)
  · have hE := br_n hE c_10
    refine lv_iload C.1 C.2.1 dX15_sayMove_96 (lv_at hl 0 rfl) ?_
    refine lv_iconst (v := (3 : Int32)) C.1 C.2.1 dX15_sayMove_98 (by decide) ?_
    refine lv_icmp_ne (tgt := 140) C.1 C.2.1 dX15_sayMove_99 (by decide) (fun c_11 => ?_) (fun c_11 => ?_)
    · have hE := br_n hE c_11
      refine lv_aload_n C.1 C.2.1 dX15_sayMove_140 rfl (lv_at hl 2 rfl) ?_
      obtain ⟨r_12, er_12, hE⟩ := cl_e hE
      refine gf_X15_288 C hW k_x0 er_12 dX15_sayMove_141 (fun k_r_12 => ?_)
      obtain ⟨r_13, er_13, hE⟩ := cl_e hE
      refine gf_X15_600 C hW k_r_12 er_13 dX15_sayMove_144 (fun k_r_13 => ?_)
      refine lv_iload_n C.1 C.2.1 dX15_sayMove_147 rfl (lv_at hl 4 rfl) ?_
      obtain ⟨g_14, hE⟩ := gd_e hE
      refine y_iald C hW k_r_13 g_14 dX15_sayMove_148 ?_
      refine lv_aload_n C.1 C.2.1 dX15_sayMove_149 rfl (lv_at hl 2 rfl) ?_
      obtain ⟨r_15, er_15, hE⟩ := cl_e hE
      refine gf_X15_252 C hW k_x0 er_15 dX15_sayMove_150 (fun k_r_15 => ?_)
      refine gf_X15_225 C hW k_r_15 dX15_sayMove_153 ?_
      refine lv_icmp_eq (tgt := 183) C.1 C.2.1 dX15_sayMove_156 (by decide) (fun c_16 => ?_) (fun c_16 => ?_)
      · have hE := br_p hE c_16
        exact bX15_sayMove_183 C k_x0 k_x1 hkm hW hZ _ (lv_sub hl [2, 3, 4, 1] rfl) hE
      · have hE := br_n hE c_16
        refine lv_aload_n C.1 C.2.1 dX15_sayMove_159 rfl (lv_at hl 2 rfl) ?_
        refine lv_aload_n C.1 C.2.1 dX15_sayMove_160 rfl (lv_at hl 2 rfl) ?_
        obtain ⟨r_17, er_17, hE⟩ := cl_e hE
        refine gf_X15_252 C hW k_x0 er_17 dX15_sayMove_161 (fun k_r_17 => ?_)
        obtain ⟨r_18, er_18, hE⟩ := cl_e hE
        refine gf_X15_172 C hW k_r_17 er_18 dX15_sayMove_164 (fun k_r_18 => ?_)
        refine lv_aload_n C.1 C.2.1 dX15_sayMove_167 rfl (lv_at hl 2 rfl) ?_
        obtain ⟨r_19, er_19, hE⟩ := cl_e hE
        refine gf_X15_288 C hW k_x0 er_19 dX15_sayMove_168 (fun k_r_19 => ?_)
        obtain ⟨r_20, er_20, hE⟩ := cl_e hE
        refine gf_X15_600 C hW k_r_19 er_20 dX15_sayMove_171 (fun k_r_20 => ?_)
        refine lv_iload_n C.1 C.2.1 dX15_sayMove_174 rfl (lv_at hl 4 rfl) ?_
        obtain ⟨g_21, hE⟩ := gd_e hE
        refine y_iald C hW k_r_20 g_21 dX15_sayMove_175 ?_
        obtain ⟨g_22, hE⟩ := gd_e hE
        refine y_iald C hW k_r_18 g_22 dX15_sayMove_176 ?_
        refine lv_bipush (v := (32 : Int32)) C.1 C.2.1 dX15_sayMove_177 (by decide) ?_
        refine lv_isub C.1 C.2.1 dX15_sayMove_179 ?_
        obtain ⟨o_23, eo_23, hE⟩ := cl_e hE
        refine x_kV (o := o_23) (z_runV (As := [.int ((hI h_1 r_18 (hI h_1 r_20 x2.toNatClampNeg).toNatClampNeg) - (32 : Int32))]) (rest := []) C (ct_X15_say l X k_x0 eo_23) cw_X15_21 hW hZ k_x0 (by decide) rfl rfl rfl hl.1 (Nat.le_of_ble_eq_true rfl) rfl dX15_sayMove_180 ⟨Nat.le_of_ble_eq_true rfl, Nat.le_of_ble_eq_true rfl⟩ ⟨Nat.le_refl _, Nat.le_refl _⟩) hZ (fun _ _ hW km hZ => ?_)
        replace hkm := hkm.tr km
        replace k_x0 := km.at k_x0 (by decide)
        replace k_x1 := km.at k_x1 (by decide)
        exact bX15_sayMove_183 C k_x0 k_x1 hkm hW hZ _ (lv_sub hl [2, 3, 4, 1] rfl) hE
    · have hE := br_p hE c_11
      refine lv_aload_n C.1 C.2.1 dX15_sayMove_102 rfl (lv_at hl 2 rfl) ?_
      refine lv_aload_n C.1 C.2.1 dX15_sayMove_103 rfl (lv_at hl 2 rfl) ?_
      obtain ⟨r_24, er_24, hE⟩ := cl_e hE
      refine gf_X15_252 C hW k_x0 er_24 dX15_sayMove_104 (fun k_r_24 => ?_)
      obtain ⟨r_25, er_25, hE⟩ := cl_e hE
      refine gf_X15_172 C hW k_r_24 er_25 dX15_sayMove_107 (fun k_r_25 => ?_)
      refine lv_aload_n C.1 C.2.1 dX15_sayMove_110 rfl (lv_at hl 2 rfl) ?_
      obtain ⟨r_26, er_26, hE⟩ := cl_e hE
      refine gf_X15_288 C hW k_x0 er_26 dX15_sayMove_111 (fun k_r_26 => ?_)
      obtain ⟨r_27, er_27, hE⟩ := cl_e hE
      refine gf_X15_600 C hW k_r_26 er_27 dX15_sayMove_114 (fun k_r_27 => ?_)
      refine lv_iload_n C.1 C.2.1 dX15_sayMove_117 rfl (lv_at hl 4 rfl) ?_
      obtain ⟨g_28, hE⟩ := gd_e hE
      refine y_iald C hW k_r_27 g_28 dX15_sayMove_118 ?_
      obtain ⟨g_29, hE⟩ := gd_e hE
      refine y_iald C hW k_r_25 g_29 dX15_sayMove_119 ?_
      refine lv_bipush (v := (32 : Int32)) C.1 C.2.1 dX15_sayMove_120 (by decide) ?_
      refine lv_isub C.1 C.2.1 dX15_sayMove_122 ?_
      obtain ⟨o_30, eo_30, hE⟩ := cl_e hE
      refine x_kV (o := o_30) (z_runV (As := [.int ((hI h_1 r_25 (hI h_1 r_27 x2.toNatClampNeg).toNatClampNeg) - (32 : Int32))]) (rest := []) C (ct_X15_say l X k_x0 eo_30) cw_X15_21 hW hZ k_x0 (by decide) rfl rfl rfl hl.1 (Nat.le_of_ble_eq_true rfl) rfl dX15_sayMove_123 ⟨Nat.le_of_ble_eq_true rfl, Nat.le_of_ble_eq_true rfl⟩ ⟨Nat.le_refl _, Nat.le_refl _⟩) hZ (fun _ _ hW km hZ => ?_)
      replace hkm := hkm.tr km
      replace k_x0 := km.at k_x0 (by decide)
      replace k_x1 := km.at k_x1 (by decide)
      refine lv_aload_n C.1 C.2.1 dX15_sayMove_126 rfl (lv_at hl 2 rfl) ?_
      refine lv_bipush (v := (64 : Int32)) C.1 C.2.1 dX15_sayMove_127 (by decide) ?_
      obtain ⟨o_31, eo_31, hE⟩ := cl_e hE
      refine x_kV (o := o_31) (z_runV (As := [.int (64 : Int32)]) (rest := []) C (ct_X15_say l X k_x0 eo_31) cw_X15_21 hW hZ k_x0 (by decide) rfl rfl rfl hl.1 (Nat.le_of_ble_eq_true rfl) rfl dX15_sayMove_129 ⟨Nat.le_of_ble_eq_true rfl, Nat.le_of_ble_eq_true rfl⟩ ⟨Nat.le_refl _, Nat.le_refl _⟩) hZ (fun _ _ hW km hZ => ?_)
      replace hkm := hkm.tr km
      replace k_x0 := km.at k_x0 (by decide)
      replace k_x1 := km.at k_x1 (by decide)
      refine lv_aload_n C.1 C.2.1 dX15_sayMove_132 rfl (lv_at hl 2 rfl) ?_
      refine lv_iload_n C.1 C.2.1 dX15_sayMove_133 rfl (lv_at hl 1 rfl) ?_
      obtain ⟨o_32, eo_32, hE⟩ := cl_e hE
      refine x_kV (o := o_32) (z_runV (As := [.int v_5]) (rest := []) C (ct_X15_saySquare l X k_x0 eo_32) cw_X15_539 hW hZ k_x0 (by decide) rfl rfl rfl hl.1 (Nat.le_of_ble_eq_true rfl) rfl dX15_sayMove_134 ⟨Nat.le_of_ble_eq_true rfl, Nat.le_of_ble_eq_true rfl⟩ ⟨Nat.le_refl _, Nat.le_refl _⟩) hZ (fun _ _ hW km hZ => ?_)
      replace hkm := hkm.tr km
      replace k_x0 := km.at k_x0 (by decide)
      replace k_x1 := km.at k_x1 (by decide)
      refine lv_goto (tgt := 255) C.1 C.2.1 dX15_sayMove_137 (by decide) ?_
      exact bX15_sayMove_255 C k_x0 k_x1 hkm hW hZ _ (lv_sub hl [2, 3, 4] rfl) hE
  · have hE := br_p hE c_10
    refine lv_aload_n C.1 C.2.1 dX15_sayMove_32 rfl (lv_at hl 2 rfl) ?_
    refine lv_bipush (v := (79 : Int32)) C.1 C.2.1 dX15_sayMove_33 (by decide) ?_
    obtain ⟨o_33, eo_33, hE⟩ := cl_e hE
    refine x_kV (o := o_33) (z_runV (As := [.int (79 : Int32)]) (rest := []) C (ct_X15_say l X k_x0 eo_33) cw_X15_21 hW hZ k_x0 (by decide) rfl rfl rfl hl.1 (Nat.le_of_ble_eq_true rfl) rfl dX15_sayMove_35 ⟨Nat.le_of_ble_eq_true rfl, Nat.le_of_ble_eq_true rfl⟩ ⟨Nat.le_refl _, Nat.le_refl _⟩) hZ (fun _ _ hW km hZ => ?_)
    replace hkm := hkm.tr km
    replace k_x0 := km.at k_x0 (by decide)
    replace k_x1 := km.at k_x1 (by decide)
    refine lv_aload_n C.1 C.2.1 dX15_sayMove_38 rfl (lv_at hl 2 rfl) ?_
    refine lv_bipush (v := (45 : Int32)) C.1 C.2.1 dX15_sayMove_39 (by decide) ?_
    obtain ⟨o_34, eo_34, hE⟩ := cl_e hE
    refine x_kV (o := o_34) (z_runV (As := [.int (45 : Int32)]) (rest := []) C (ct_X15_say l X k_x0 eo_34) cw_X15_21 hW hZ k_x0 (by decide) rfl rfl rfl hl.1 (Nat.le_of_ble_eq_true rfl) rfl dX15_sayMove_41 ⟨Nat.le_of_ble_eq_true rfl, Nat.le_of_ble_eq_true rfl⟩ ⟨Nat.le_refl _, Nat.le_refl _⟩) hZ (fun _ _ hW km hZ => ?_)
    replace hkm := hkm.tr km
    replace k_x0 := km.at k_x0 (by decide)
    replace k_x1 := km.at k_x1 (by decide)
    refine lv_aload_n C.1 C.2.1 dX15_sayMove_44 rfl (lv_at hl 2 rfl) ?_
    refine lv_bipush (v := (79 : Int32)) C.1 C.2.1 dX15_sayMove_45 (by decide) ?_
    obtain ⟨o_35, eo_35, hE⟩ := cl_e hE
    refine x_kV (o := o_35) (z_runV (As := [.int (79 : Int32)]) (rest := []) C (ct_X15_say l X k_x0 eo_35) cw_X15_21 hW hZ k_x0 (by decide) rfl rfl rfl hl.1 (Nat.le_of_ble_eq_true rfl) rfl dX15_sayMove_47 ⟨Nat.le_of_ble_eq_true rfl, Nat.le_of_ble_eq_true rfl⟩ ⟨Nat.le_refl _, Nat.le_refl _⟩) hZ (fun _ _ hW km hZ => ?_)
    replace hkm := hkm.tr km
    replace k_x0 := km.at k_x0 (by decide)
    replace k_x1 := km.at k_x1 (by decide)
    refine lv_aload_n C.1 C.2.1 dX15_sayMove_50 rfl (lv_at hl 2 rfl) ?_
    obtain ⟨r_36, er_36, hE⟩ := cl_e hE
    refine gf_X15_288 C hW k_x0 er_36 dX15_sayMove_51 (fun k_r_36 => ?_)
    obtain ⟨r_37, er_37, hE⟩ := cl_e hE
    refine gf_X15_619 C hW k_r_36 er_37 dX15_sayMove_54 (fun k_r_37 => ?_)
    refine lv_iload_n C.1 C.2.1 dX15_sayMove_57 rfl (lv_at hl 4 rfl) ?_
    obtain ⟨g_38, hE⟩ := gd_e hE
    refine y_iald C hW k_r_37 g_38 dX15_sayMove_58 ?_
    refine lv_aload_n C.1 C.2.1 dX15_sayMove_59 rfl (lv_at hl 2 rfl) ?_
    refine gf_X15_382 C hW k_x0 dX15_sayMove_60 ?_
    obtain ⟨g_39, hE⟩ := gd_e hE
    refine lv_irem C.1 C.2.1 dX15_sayMove_63 g_39 ?_
    refine lv_aload_n C.1 C.2.1 dX15_sayMove_64 rfl (lv_at hl 2 rfl) ?_
    obtain ⟨r_40, er_40, hE⟩ := cl_e hE
    refine gf_X15_288 C hW k_x0 er_40 dX15_sayMove_65 (fun k_r_40 => ?_)
    obtain ⟨r_41, er_41, hE⟩ := cl_e hE
    refine gf_X15_597 C hW k_r_40 er_41 dX15_sayMove_68 (fun k_r_41 => ?_)
    refine lv_iload_n C.1 C.2.1 dX15_sayMove_71 rfl (lv_at hl 4 rfl) ?_
    obtain ⟨g_42, hE⟩ := gd_e hE
    refine y_iald C hW k_r_41 g_42 dX15_sayMove_72 ?_
    refine lv_aload_n C.1 C.2.1 dX15_sayMove_73 rfl (lv_at hl 2 rfl) ?_
    refine gf_X15_382 C hW k_x0 dX15_sayMove_74 ?_
    obtain ⟨g_43, hE⟩ := gd_e hE
    refine lv_irem C.1 C.2.1 dX15_sayMove_77 g_43 ?_
    refine lv_icmp_ge (tgt := 255) C.1 C.2.1 dX15_sayMove_78 (by decide) (fun c_44 => ?_) (fun c_44 => ?_)
    · have hE := br_p hE c_44
      exact bX15_sayMove_255 C k_x0 k_x1 hkm hW hZ _ (lv_sub hl [2, 3, 4] rfl) hE
    · have hE := br_n hE c_44
      refine lv_aload_n C.1 C.2.1 dX15_sayMove_81 rfl (lv_at hl 2 rfl) ?_
      refine lv_bipush (v := (45 : Int32)) C.1 C.2.1 dX15_sayMove_82 (by decide) ?_
      obtain ⟨o_45, eo_45, hE⟩ := cl_e hE
      refine x_kV (o := o_45) (z_runV (As := [.int (45 : Int32)]) (rest := []) C (ct_X15_say l X k_x0 eo_45) cw_X15_21 hW hZ k_x0 (by decide) rfl rfl rfl hl.1 (Nat.le_of_ble_eq_true rfl) rfl dX15_sayMove_84 ⟨Nat.le_of_ble_eq_true rfl, Nat.le_of_ble_eq_true rfl⟩ ⟨Nat.le_refl _, Nat.le_refl _⟩) hZ (fun _ _ hW km hZ => ?_)
      replace hkm := hkm.tr km
      replace k_x0 := km.at k_x0 (by decide)
      replace k_x1 := km.at k_x1 (by decide)
      refine lv_aload_n C.1 C.2.1 dX15_sayMove_87 rfl (lv_at hl 2 rfl) ?_
      refine lv_bipush (v := (79 : Int32)) C.1 C.2.1 dX15_sayMove_88 (by decide) ?_
      obtain ⟨o_46, eo_46, hE⟩ := cl_e hE
      refine x_kV (o := o_46) (z_runV (As := [.int (79 : Int32)]) (rest := []) C (ct_X15_say l X k_x0 eo_46) cw_X15_21 hW hZ k_x0 (by decide) rfl rfl rfl hl.1 (Nat.le_of_ble_eq_true rfl) rfl dX15_sayMove_90 ⟨Nat.le_of_ble_eq_true rfl, Nat.le_of_ble_eq_true rfl⟩ ⟨Nat.le_refl _, Nat.le_refl _⟩) hZ (fun _ _ hW km hZ => ?_)
      replace hkm := hkm.tr km
      replace k_x0 := km.at k_x0 (by decide)
      replace k_x1 := km.at k_x1 (by decide)
      refine lv_goto (tgt := 255) C.1 C.2.1 dX15_sayMove_93 (by decide) ?_
      exact bX15_sayMove_255 C k_x0 k_x1 hkm hW hZ _ (lv_sub hl [2, 3, 4] rfl) hE
