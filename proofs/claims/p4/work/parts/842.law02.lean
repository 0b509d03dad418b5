set_option maxRecDepth 20000 in
theorem bL_law_584 {p : Program} {l : Launch} {e : Env} {s : State} {m : MethodId} {below : List Frame} {meth : Method} {c : Code} {X : Ec} {h0 : Hp} {o : Int32 × Hp} {k_18 : Hp → Nat → Nat → Int32 → Option (Int32 × Hp)} {F : Nat} {mn : String} {b L : Nat} {xs : Nat → Int32} (C : Cx X p s m #[Value.ref b] meth c RL code 4 ret mn) (hX : va_X b L xs s s.heap) (hbl : b < s.heap.size) (hbA : ¬ aA (eB X) b) (hbase : eB X = s.heap.size) (hRm : hS o.2 - hS h0 ≤ room_1.cells ∧ hL o.2 - hL h0 ≤ room_1.slots) (ho : o.1 = 1) (hk_18 : ∀ (h : Hp) (x1 : Nat) (x2 : Nat) (x3 : Int32) (H : Heap) (locs : List Loc), hK h x1 = 11 → hK h x2 = 15 → Kl h0 h → Wx X h H → va_S (aA (eB X)) s.heap H locs → ∀ (ls : Array Slot), lv_has ls 4 [(0, .ref b), (1, .ref x1), (2, .ref x2), (3, .int x3)] → k_18 h x1 x2 x3 = some o → W p l e room_1 s m #[Value.ref b] below meth c H locs (hS h - hS h0) (hL h - hL h0) (lw_Z below #[Value.ref b] s) (F0 m 18 ls [])) (mk_18 : ∀ (h : Hp) (x1 : Nat) (x2 : Nat) (x3 : Int32), k_18 h x1 x2 x3 = some o → Le h o.2) {h : Hp} {x1 : Nat} {x2 : Nat} {x3 : Int32} {t0 : Int32} {H : Heap} {locs : List Loc} (k_x1 : hK h x1 = 11) (k_x2 : hK h x2 = 15) (hkl : Kl h0 h) (hW : Wx X h H) (hZ : va_S (aA (eB X)) s.heap H locs) (ls : Array Slot) (hl : lv_has ls 4 [(0, .ref b), (1, .ref x1), (2, .ref x2), (3, .int x3)]) (hE : sL_law_584 F L xs k_18 h x1 x2 x3 t0 = some o) : W p l e room_1 s m #[Value.ref b] below meth c H locs (hS h - hS h0) (hL h - hL h0) (lw_Z below #[Value.ref b] s) (F0 m 584 ls [.int t0]) := by
  refine lv_pop C.1 C.2.1 dL_law_584 rfl ?_
  refine lv_aload_n C.1 C.2.1 dL_law_585 rfl (lv_at hl 2 rfl) ?_
  refine lv_aload_n C.1 C.2.1 dL_law_586 rfl (lv_at hl 0 rfl) ?_
  refine lv_iload_n C.1 C.2.1 dL_law_587 rfl (lv_at hl 3 rfl) ?_
  refine lv_iconst (v := (1 : Int32)) C.1 C.2.1 dL_law_588 (by decide) ?_
  refine lv_iadd C.1 C.2.1 dL_law_589 ?_
  obtain ⟨g_1, hE⟩ := gd_e hE
  refine va_sld C.1 C.2.1 hX hbl hbA hZ g_1 dL_law_590 ?_
  refine lv_aload_n C.1 C.2.1 dL_law_591 rfl (lv_at hl 0 rfl) ?_
  refine lv_iload_n C.1 C.2.1 dL_law_592 rfl (lv_at hl 3 rfl) ?_
  refine lv_iconst (v := (2 : Int32)) C.1 C.2.1 dL_law_593 (by decide) ?_
  refine lv_iadd C.1 C.2.1 dL_law_594 ?_
  obtain ⟨g_2, hE⟩ := gd_e hE
  refine va_sld C.1 C.2.1 hX hbl hbA hZ g_2 dL_law_595 ?_
  refine lv_aload_n C.1 C.2.1 dL_law_596 rfl (lv_at hl 0 rfl) ?_
  refine lv_iload_n C.1 C.2.1 dL_law_597 rfl (lv_at hl 3 rfl) ?_
  refine lv_iconst (v := (3 : Int32)) C.1 C.2.1 dL_law_598 (by decide) ?_
  refine lv_iadd C.1 C.2.1 dL_law_599 ?_
  obtain ⟨g_3, hE⟩ := gd_e hE
  refine va_sld C.1 C.2.1 hX hbl hbA hZ g_3 dL_law_600 ?_
  obtain ⟨o_4, eo_4, hE⟩ := cl_e hE
  have m1 := moX15_move eo_4
  have m2 := moL_law_604 mk_18 hE
  refine x_kI (o := o_4) (z_runV (As := [.int (xs (x3 + (1 : Int32)).toNatClampNeg), .int (xs (x3 + (2 : Int32)).toNatClampNeg), .int (xs (x3 + (3 : Int32)).toNatClampNeg)]) (rest := []) C (ct_X15_move l X F k_x2 eo_4) cw_L_74 hW hZ k_x2 (by decide) rfl rfl rfl hl.1 (Nat.le_of_ble_eq_true rfl) rfl dL_law_601 ⟨Nat.le_of_ble_eq_true rfl, Nat.le_of_ble_eq_true rfl⟩ ⟨Nat.le_trans (rm_ok0 hkl m1 m2).1 hRm.1, Nat.le_trans (rm_ok0 hkl m1 m2).2 hRm.2⟩) hZ (fun _ _ hW km hZ => ?_)
  replace hkl := hkl.tr km.l
  refine x_wc km ?_
  replace k_x1 := km.at k_x1 (by decide)
  replace k_x2 := km.at k_x2 (by decide)
  exact bL_law_604 C hX hbl hbA hbase hRm ho hk_18 mk_18 k_x1 k_x2 hkl hW hZ _ (lv_sub hl [0, 1, 2, 3] rfl) hE
set_option maxRecDepth 20000 in
theorem bL_law_637 {p : Program} {l : Launch} {e : Env} {s : State} {m : MethodId} {below : List Frame} {meth : Method} {c : Code} {X : Ec} {h0 : Hp} {o : Int32 × Hp} {k_18 : Hp → Nat → Nat → Int32 → Option (Int32 × Hp)} {F : Nat} {mn : String} {b L : Nat} {xs : Nat → Int32} (C : Cx X p s m #[Value.ref b] meth c RL code 4 ret mn) (hX : va_X b L xs s s.heap) (hbl : b < s.heap.size) (hbA : ¬ aA (eB X) b) (hbase : eB X = s.heap.size) (hRm : hS o.2 - hS h0 ≤ room_1.cells ∧ hL o.2 - hL h0 ≤ room_1.slots) (ho : o.1 = 1) (hk_18 : ∀ (h : Hp) (x1 : Nat) (x2 : Nat) (x3 : Int32) (H : Heap) (locs : List Loc), hK h x1 = 11 → hK h x2 = 15 → Kl h0 h → Wx X h H → va_S (aA (eB X)) s.heap H locs → ∀ (ls : Array Slot), lv_has ls 4 [(0, .ref b), (1, .ref x1), (2, .ref x2), (3, .int x3)] → k_18 h x1 x2 x3 = some o → W p l e room_1 s m #[Value.ref b] below meth c H locs (hS h - hS h0) (hL h - hL h0) (lw_Z below #[Value.ref b] s) (F0 m 18 ls [])) (mk_18 : ∀ (h : Hp) (x1 : Nat) (x2 : Nat) (x3 : Int32), k_18 h x1 x2 x3 = some o → Le h o.2) {h : Hp} {x1 : Nat} {x2 : Nat} {x3 : Int32} {t0 : Int32} {H : Heap} {locs : List Loc} (k_x1 : hK h x1 = 11) (k_x2 : hK h x2 = 15) (hkl : Kl h0 h) (hW : Wx X h H) (hZ : va_S (aA (eB X)) s.heap H locs) (ls : Array Slot) (hl : lv_has ls 4 [(0, .ref b), (1, .ref x1), (2, .ref x2), (3, .int x3)]) (hE : sL_law_637 F L xs k_18 h x1 x2 x3 t0 = some o) : W p l e room_1 s m #[Value.ref b] below meth c H locs (hS h - hS h0) (hL h - hL h0) (lw_Z below #[Value.ref b] s) (F0 m 637 ls [.int t0]) := by
  refine lv_pop C.1 C.2.1 dL_law_637 rfl ?_
  refine lv_goto (tgt := 1277) C.1 C.2.1 dL_law_638 (by decide) ?_
  exact bL_law_1277 C hX hbl hbA hbase hRm ho hk_18 mk_18 k_x1 k_x2 hkl hW hZ _ (lv_sub hl [0, 1, 2, 3] rfl) hE
set_option maxRecDepth 20000 in
theorem bL_law_622 {p : Program} {l : Launch} {e : Env} {s : State} {m : MethodId} {below : List Frame} {meth : Method} {c : Code} {X : Ec} {h0 : Hp} {o : Int32 × Hp} {k_18 : Hp → Nat → Nat → Int32 → Option (Int32 × Hp)} {F : Nat} {mn : String} {b L : Nat} {xs : Nat → Int32} (C : Cx X p s m #[Value.ref b] meth c RL code 4 ret mn) (hX : va_X b L xs s s.heap) (hbl : b < s.heap.size) (hbA : ¬ aA (eB X) b) (hbase : eB X = s.heap.size) (hRm : hS o.2 - hS h0 ≤ room_1.cells ∧ hL o.2 - hL h0 ≤ room_1.slots) (ho : o.1 = 1) (hk_18 : ∀ (h : Hp) (x1 : Nat) (x2 : Nat) (x3 : Int32) (H : Heap) (locs : List Loc), hK h x1 = 11 → hK h x2 = 15 → Kl h0 h → Wx X h H → va_S (aA (eB X)) s.heap H locs → ∀ (ls : Array Slot), lv_has ls 4 [(0, .ref b), (1, .ref x1), (2, .ref x2), (3, .int x3)] → k_18 h x1 x2 x3 = some o → W p l e room_1 s m #[Value.ref b] below meth c H locs (hS h - hS h0) (hL h - hL h0) (lw_Z below #[Value.ref b] s) (F0 m 18 ls [])) (mk_18 : ∀ (h : Hp) (x1 : Nat) (x2 : Nat) (x3 : Int32), k_18 h x1 x2 x3 = some o → Le h o.2) {h : Hp} {x1 : Nat} {x2 : Nat} {x3 : Int32} {t0 : Int32} {H : Heap} {locs : List Loc} (k_x1 : hK h x1 = 11) (k_x2 : hK h x2 = 15) (hkl : Kl h0 h) (hW : Wx X h H) (hZ : va_S (aA (eB X)) s.heap H locs) (ls : Array Slot) (hl : lv_has ls 4 [(0, .ref b), (1, .ref x1), (2, .ref x2), (3, .int x3)]) (hE : sL_law_622 F L xs k_18 h x1 x2 x3 t0 = some o) : W p l e room_1 s m #[Value.ref b] below meth c H locs (hS h - hS h0) (hL h - hL h0) (lw_Z below #[Value.ref b] s) (F0 m 622 ls [.int t0]) := by
  refine lv_pop C.1 C.2.1 dL_law_622 rfl ?_
  refine lv_aload_n C.1 C.2.1 dL_law_623 rfl (lv_at hl 2 rfl) ?_
  refine lv_aload_n C.1 C.2.1 dL_law_624 rfl (lv_at hl 0 rfl) ?_
  refine lv_iload_n C.1 C.2.1 dL_law_625 rfl (lv_at hl 3 rfl) ?_
  refine lv_iconst (v := (1 : Int32)) C.1 C.2.1 dL_law_626 (by decide) ?_
  refine lv_iadd C.1 C.2.1 dL_law_627 ?_
  obtain ⟨g_1, hE⟩ := gd_e hE
  refine va_sld C.1 C.2.1 hX hbl hbA hZ g_1 dL_law_628 ?_
  refine lv_aload_n C.1 C.2.1 dL_law_629 rfl (lv_at hl 0 rfl) ?_
  refine lv_iload_n C.1 C.2.1 dL_law_630 rfl (lv_at hl 3 rfl) ?_
  refine lv_iconst (v := (2 : Int32)) C.1 C.2.1 dL_law_631 (by decide) ?_
  refine lv_iadd C.1 C.2.1 dL_law_632 ?_
  obtain ⟨g_2, hE⟩ := gd_e hE
  refine va_sld C.1 C.2.1 hX hbl hbA hZ g_2 dL_law_633 ?_
  obtain ⟨o_3, eo_3, hE⟩ := cl_e hE
  have m1 := moX15_go eo_3
  have m2 := moL_law_637 mk_18 hE
  refine x_kIA (o := o_3) hkl (z_runV (As := [.int (xs (x3 + (1 : Int32)).toNatClampNeg), .int (xs (x3 + (2 : Int32)).toNatClampNeg)]) (rest := []) C (ct_X15_go l X F k_x2 eo_3) cw_L_78 hW hZ k_x2 (by decide) rfl rfl rfl hl.1 (Nat.le_of_ble_eq_true rfl) rfl dL_law_634 ⟨Nat.le_of_ble_eq_true rfl, Nat.le_of_ble_eq_true rfl⟩ ⟨Nat.le_trans (rm_ok hkl m1 m2).1 hRm.1, Nat.le_trans (rm_ok hkl m1 m2).2 hRm.2⟩) hZ (fun _ _ hW km hZ => ?_)
  replace hkl := hkl.tr km
  replace k_x1 := km.at k_x1 (by decide)
  replace k_x2 := km.at k_x2 (by decide)
  exact bL_law_637 C hX hbl hbA hbase hRm ho hk_18 mk_18 k_x1 k_x2 hkl hW hZ _ (lv_sub hl [0, 1, 2, 3] rfl) hE
set_option maxRecDepth 20000 in
theorem bL_law_670 {p : Program} {l : Launch} {e : Env} {s : State} {m : MethodId} {below : List Frame} {meth : Method} {c : Code} {X : Ec} {h0 : Hp} {o : Int32 × Hp} {k_18 : Hp → Nat → Nat → Int32 → Option (Int32 × Hp)} {F : Nat} {mn : String} {b L : Nat} {xs : Nat → Int32} (C : Cx X p s m #[Value.ref b] meth c RL code 4 ret mn) (hX : va_X b L xs s s.heap) (hbl : b < s.heap.size) (hbA : ¬ aA (eB X) b) (hbase : eB X = s.heap.size) (hRm : hS o.2 - hS h0 ≤ room_1.cells ∧ hL o.2 - hL h0 ≤ room_1.slots) (ho : o.1 = 1) (hk_18 : ∀ (h : Hp) (x1 : Nat) (x2 : Nat) (x3 : Int32) (H : Heap) (locs : List Loc), hK h x1 = 11 → hK h x2 = 15 → Kl h0 h → Wx X h H → va_S (aA (eB X)) s.heap H locs → ∀ (ls : Array Slot), lv_has ls 4 [(0, .ref b), (1, .ref x1), (2, .ref x2), (3, .int x3)] → k_18 h x1 x2 x3 = some o → W p l e room_1 s m #[Value.ref b] below meth c H locs (hS h - hS h0) (hL h - hL h0) (lw_Z below #[Value.ref b] s) (F0 m 18 ls [])) (mk_18 : ∀ (h : Hp) (x1 : Nat) (x2 : Nat) (x3 : Int32), k_18 h x1 x2 x3 = some o → Le h o.2) {h : Hp} {x1 : Nat} {x2 : Nat} {x3 : Int32} {t0 : Int32} {H : Heap} {locs : List Loc} (k_x1 : hK h x1 = 11) (k_x2 : hK h x2 = 15) (hkl : Kl h0 h) (hW : Wx X h H) (hZ : va_S (aA (eB X)) s.heap H locs) (ls : Array Slot) (hl : lv_has ls 4 [(0, .ref b), (1, .ref x1), (2, .ref x2), (3, .int x3)]) (hE : sL_law_670 F L xs k_18 h x1 x2 x3 t0 = some o) : W p l e room_1 s m #[Value.ref b] below meth c H locs (hS h - hS h0) (hL h - hL h0) (lw_Z below #[Value.ref b] s) (F0 m 670 ls [.int t0]) := by
  refine lv_pop C.1 C.2.1 dL_law_670 rfl ?_
  refine lv_goto (tgt := 1277) C.1 C.2.1 dL_law_671 (by decide) ?_
  exact bL_law_1277 C hX hbl hbA hbase hRm ho hk_18 mk_18 k_x1 k_x2 hkl hW hZ _ (lv_sub hl [0, 1, 2, 3] rfl) hE
set_option maxRecDepth 20000 in
theorem bL_law_655 {p : Program} {l : Launch} {e : Env} {s : State} {m : MethodId} {below : List Frame} {meth : Method} {c : Code} {X : Ec} {h0 : Hp} {o : Int32 × Hp} {k_18 : Hp → Nat → Nat → Int32 → Option (Int32 × Hp)} {F : Nat} {mn : String} {b L : Nat} {xs : Nat → Int32} (C : Cx X p s m #[Value.ref b] meth c RL code 4 ret mn) (hX : va_X b L xs s s.heap) (hbl : b < s.heap.size) (hbA : ¬ aA (eB X) b) (hbase : eB X = s.heap.size) (hRm : hS o.2 - hS h0 ≤ room_1.cells ∧ hL o.2 - hL h0 ≤ room_1.slots) (ho : o.1 = 1) (hk_18 : ∀ (h : Hp) (x1 : Nat) (x2 : Nat) (x3 : Int32) (H : Heap) (locs : List Loc), hK h x1 = 11 → hK h x2 = 15 → Kl h0 h → Wx X h H → va_S (aA (eB X)) s.heap H locs → ∀ (ls : Array Slot), lv_has ls 4 [(0, .ref b), (1, .ref x1), (2, .ref x2), (3, .int x3)] → k_18 h x1 x2 x3 = some o → W p l e room_1 s m #[Value.ref b] below meth c H locs (hS h - hS h0) (hL h - hL h0) (lw_Z below #[Value.ref b] s) (F0 m 18 ls [])) (mk_18 : ∀ (h : Hp) (x1 : Nat) (x2 : Nat) (x3 : Int32), k_18 h x1 x2 x3 = some o → Le h o.2) {h : Hp} {x1 : Nat} {x2 : Nat} {x3 : Int32} {t0 : Int32} {H : Heap} {locs : List Loc} (k_x1 : hK h x1 = 11) (k_x2 : hK h x2 = 15) (hkl : Kl h0 h) (hW : Wx X h H) (hZ : va_S (aA (eB X)) s.heap H locs) (ls : Array Slot) (hl : lv_has ls 4 [(0, .ref b), (1, .ref x1), (2, .ref x2), (3, .int x3)]) (hE : sL_law_655 F L xs k_18 h x1 x2 x3 t0 = some o) : W p l e room_1 s m #[Value.ref b] below meth c H locs (hS h - hS h0) (hL h - hL h0) (lw_Z below #[Value.ref b] s) (F0 m 655 ls [.int t0]) := by
  refine lv_pop C.1 C.2.1 dL_law_655 rfl ?_
  refine lv_aload_n C.1 C.2.1 dL_law_656 rfl (lv_at hl 2 rfl) ?_
  refine lv_aload_n C.1 C.2.1 dL_law_657 rfl (lv_at hl 0 rfl) ?_
  refine lv_iload_n C.1 C.2.1 dL_law_658 rfl (lv_at hl 3 rfl) ?_
  refine lv_iconst (v := (1 : Int32)) C.1 C.2.1 dL_law_659 (by decide) ?_
  refine lv_iadd C.1 C.2.1 dL_law_660 ?_
  obtain ⟨g_1, hE⟩ := gd_e hE
  refine va_sld C.1 C.2.1 hX hbl hbA hZ g_1 dL_law_661 ?_
  refine lv_aload_n C.1 C.2.1 dL_law_662 rfl (lv_at hl 0 rfl) ?_
  refine lv_iload_n C.1 C.2.1 dL_law_663 rfl (lv_at hl 3 rfl) ?_
  refine lv_iconst (v := (2 : Int32)) C.1 C.2.1 dL_law_664 (by decide) ?_
  refine lv_iadd C.1 C.2.1 dL_law_665 ?_
  obtain ⟨g_2, hE⟩ := gd_e hE
  refine va_sld C.1 C.2.1 hX hbl hbA hZ g_2 dL_law_666 ?_
  obtain ⟨o_3, eo_3, hE⟩ := cl_e hE
  have m1 := moX15_rows eo_3
  have m2 := moL_law_670 mk_18 hE
  refine x_kIA (o := o_3) hkl (z_runV (As := [.int (xs (x3 + (1 : Int32)).toNatClampNeg), .int (xs (x3 + (2 : Int32)).toNatClampNeg)]) (rest := []) C (ct_X15_rows l X F k_x2 eo_3) cw_L_82 hW hZ k_x2 (by decide) rfl rfl rfl hl.1 (Nat.le_of_ble_eq_true rfl) rfl dL_law_667 ⟨Nat.le_of_ble_eq_true rfl, Nat.le_of_ble_eq_true rfl⟩ ⟨Nat.le_trans (rm_ok hkl m1 m2).1 hRm.1, Nat.le_trans (rm_ok hkl m1 m2).2 hRm.2⟩) hZ (fun _ _ hW km hZ => ?_)
  replace hkl := hkl.tr km
  replace k_x1 := km.at k_x1 (by decide)
  replace k_x2 := km.at k_x2 (by decide)
  exact bL_law_670 C hX hbl hbA hbase hRm ho hk_18 mk_18 k_x1 k_x2 hkl hW hZ _ (lv_sub hl [0, 1, 2, 3] rfl) hE
set_option maxRecDepth 20000 in
theorem bL_law_693 {p : Program} {l : Launch} {e : Env} {s : State} {m : MethodId} {below : List Frame} {meth : Method} {c : Code} {X : Ec} {h0 : Hp} {o : Int32 × Hp} {k_18 : Hp → Nat → Nat → Int32 → Option (Int32 × Hp)} {F : Nat} {mn : String} {b L : Nat} {xs : Nat → Int32} (C : Cx X p s m #[Value.ref b] meth c RL code 4 ret mn) (hX : va_X b L xs s s.heap) (hbl : b < s.heap.size) (hbA : ¬ aA (eB X) b) (hbase : eB X = s.heap.size) (hRm : hS o.2 - hS h0 ≤ room_1.cells ∧ hL o.2 - hL h0 ≤ room_1.slots) (ho : o.1 = 1) (hk_18 : ∀ (h : Hp) (x1 : Nat) (x2 : Nat) (x3 : Int32) (H : Heap) (locs : List Loc), hK h x1 = 11 → hK h x2 = 15 → Kl h0 h → Wx X h H → va_S (aA (eB X)) s.heap H locs → ∀ (ls : Array Slot), lv_has ls 4 [(0, .ref b), (1, .ref x1), (2, .ref x2), (3, .int x3)] → k_18 h x1 x2 x3 = some o → W p l e room_1 s m #[Value.ref b] below meth c H locs (hS h - hS h0) (hL h - hL h0) (lw_Z below #[Value.ref b] s) (F0 m 18 ls [])) (mk_18 : ∀ (h : Hp) (x1 : Nat) (x2 : Nat) (x3 : Int32), k_18 h x1 x2 x3 = some o → Le h o.2) {h : Hp} {x1 : Nat} {x2 : Nat} {x3 : Int32} {t0 : Int32} {H : Heap} {locs : List Loc} (k_x1 : hK h x1 = 11) (k_x2 : hK h x2 = 15) (hkl : Kl h0 h) (hW : Wx X h H) (hZ : va_S (aA (eB X)) s.heap H locs) (ls : Array Slot) (hl : lv_has ls 4 [(0, .ref b), (1, .ref x1), (2, .ref x2), (3, .int x3)]) (hE : sL_law_693 F L xs k_18 h x1 x2 x3 t0 = some o) : W p l e room_1 s m #[Value.ref b] below meth c H locs (hS h - hS h0) (hL h - hL h0) (lw_Z below #[Value.ref b] s) (F0 m 693 ls [.int t0]) := by
  refine lv_pop C.1 C.2.1 dL_law_693 rfl ?_
  refine lv_goto (tgt := 1277) C.1 C.2.1 dL_law_694 (by decide) ?_
  exact bL_law_1277 C hX hbl hbA hbase hRm ho hk_18 mk_18 k_x1 k_x2 hkl hW hZ _ (lv_sub hl [0, 1, 2, 3] rfl) hE
set_option maxRecDepth 20000 in
theorem bL_law_683 {p : Program} {l : Launch} {e : Env} {s : State} {m : MethodId} {below : List Frame} {meth : Method} {c : Code} {X : Ec} {h0 : Hp} {o : Int32 × Hp} {k_18 : Hp → Nat → Nat → Int32 → Option (Int32 × Hp)} {F : Nat} {mn : String} {b L : Nat} {xs : Nat → Int32} (C : Cx X p s m #[Value.ref b] meth c RL code 4 ret mn) (hX : va_X b L xs s s.heap) (hbl : b < s.heap.size) (hbA : ¬ aA (eB X) b) (hbase : eB X = s.heap.size) (hRm : hS o.2 - hS h0 ≤ room_1.cells ∧ hL o.2 - hL h0 ≤ room_1.slots) (ho : o.1 = 1) (hk_18 : ∀ (h : Hp) (x1 : Nat) (x2 : Nat) (x3 : Int32) (H : Heap) (locs : List Loc), hK h x1 = 11 → hK h x2 = 15 → Kl h0 h → Wx X h H → va_S (aA (eB X)) s.heap H locs → ∀ (ls : Array Slot), lv_has ls 4 [(0, .ref b), (1, .ref x1), (2, .ref x2), (3, .int x3)] → k_18 h x1 x2 x3 = some o → W p l e room_1 s m #[Value.ref b] below meth c H locs (hS h - hS h0) (hL h - hL h0) (lw_Z below #[Value.ref b] s) (F0 m 18 ls [])) (mk_18 : ∀ (h : Hp) (x1 : Nat) (x2 : Nat) (x3 : Int32), k_18 h x1 x2 x3 = some o → Le h o.2) {h : Hp} {x1 : Nat} {x2 : Nat} {x3 : Int32} {t0 : Int32} {H : Heap} {locs : List Loc} (k_x1 : hK h x1 = 11) (k_x2 : hK h x2 = 15) (hkl : Kl h0 h) (hW : Wx X h H) (hZ : va_S (aA (eB X)) s.heap H locs) (ls : Array Slot) (hl : lv_has ls 4 [(0, .ref b), (1, .ref x1), (2, .ref x2), (3, .int x3)]) (hE : sL_law_683 F L xs k_18 h x1 x2 x3 t0 = some o) : W p l e room_1 s m #[Value.ref b] below meth c H locs (hS h - hS h0) (hL h - hL h0) (lw_Z below #[Value.ref b] s) (F0 m 683 ls [.int t0]) := by
  refine lv_pop C.1 C.2.1 dL_law_683 rfl ?_
  refine lv_aload_n C.1 C.2.1 dL_law_684 rfl (lv_at hl 2 rfl) ?_
  refine lv_aload_n C.1 C.2.1 dL_law_685 rfl (lv_at hl 0 rfl) ?_
  refine lv_iload_n C.1 C.2.1 dL_law_686 rfl (lv_at hl 3 rfl) ?_
  refine lv_iconst (v := (1 : Int32)) C.1 C.2.1 dL_law_687 (by decide) ?_
  refine lv_iadd C.1 C.2.1 dL_law_688 ?_
  obtain ⟨g_1, hE⟩ := gd_e hE
  refine va_sld C.1 C.2.1 hX hbl hbA hZ g_1 dL_law_689 ?_
  obtain ⟨o_2, eo_2, hE⟩ := cl_e hE
  have m1 := moX15_ended eo_2
  have m2 := moL_law_693 mk_18 hE
  refine x_kI (o := o_2) (z_runV (As := [.int (xs (x3 + (1 : Int32)).toNatClampNeg)]) (rest := []) C (ct_X15_ended l X F k_x2 eo_2) cw_L_86 hW hZ k_x2 (by decide) rfl rfl rfl hl.1 (Nat.le_of_ble_eq_true rfl) rfl dL_law_690 ⟨Nat.le_of_ble_eq_true rfl, Nat.le_of_ble_eq_true rfl⟩ ⟨Nat.le_trans (rm_ok0 hkl m1 m2).1 hRm.1, Nat.le_trans (rm_ok0 hkl m1 m2).2 hRm.2⟩) hZ (fun _ _ hW km hZ => ?_)
  replace hkl := hkl.tr km.l
  refine x_wc km ?_
  replace k_x1 := km.at k_x1 (by decide)
  replace k_x2 := km.at k_x2 (by decide)
  exact bL_law_693 C hX hbl hbA hbase hRm ho hk_18 mk_18 k_x1 k_x2 hkl hW hZ _ (lv_sub hl [0, 1, 2, 3] rfl) hE
set_option maxRecDepth 20000 in
theorem bL_law_716 {p : Program} {l : Launch} {e : Env} {s : State} {m : MethodId} {below : List Frame} {meth : Method} {c : Code} {X : Ec} {h0 : Hp} {o : Int32 × Hp} {k_18 : Hp → Nat → Nat → Int32 → Option (Int32 × Hp)} {F : Nat} {mn : String} {b L : Nat} {xs : Nat → Int32} (C : Cx X p s m #[Value.ref b] meth c RL code 4 ret mn) (hX : va_X b L xs s s.heap) (hbl : b < s.heap.size) (hbA : ¬ aA (eB X) b) (hbase : eB X = s.heap.size) (hRm : hS o.2 - hS h0 ≤ room_1.cells ∧ hL o.2 - hL h0 ≤ room_1.slots) (ho : o.1 = 1) (hk_18 : ∀ (h : Hp) (x1 : Nat) (x2 : Nat) (x3 : Int32) (H : Heap) (locs : List Loc), hK h x1 = 11 → hK h x2 = 15 → Kl h0 h → Wx X h H → va_S (aA (eB X)) s.heap H locs → ∀ (ls : Array Slot), lv_has ls 4 [(0, .ref b), (1, .ref x1), (2, .ref x2), (3, .int x3)] → k_18 h x1 x2 x3 = some o → W p l e room_1 s m #[Value.ref b] below meth c H locs (hS h - hS h0) (hL h - hL h0) (lw_Z below #[Value.ref b] s) (F0 m 18 ls [])) (mk_18 : ∀ (h : Hp) (x1 : Nat) (x2 : Nat) (x3 : Int32), k_18 h x1 x2 x3 = some o → Le h o.2) {h : Hp} {x1 : Nat} {x2 : Nat} {x3 : Int32} {t0 : Int32} {H : Heap} {locs : List Loc} (k_x1 : hK h x1 = 11) (k_x2 : hK h x2 = 15) (hkl : Kl h0 h) (hW : Wx X h H) (hZ : va_S (aA (eB X)) s.heap H locs) (ls : Array Slot) (hl : lv_has ls 4 [(0, .ref b), (1, .ref x1), (2, .ref x2), (3, .int x3)]) (hE : sL_law_716 F L xs k_18 h x1 x2 x3 t0 = some o) : W p l e room_1 s m #[Value.ref b] below meth c H locs (hS h - hS h0) (hL h - hL h0) (lw_Z below #[Value.ref b] s) (F0 m 716 ls [.int t0]) := by
  refine lv_pop C.1 C.2.1 dL_law_716 rfl ?_
  refine lv_goto (tgt := 1277) C.1 C.2.1 dL_law_717 (by decide) ?_
  exact bL_law_1277 C hX hbl hbA hbase hRm ho hk_18 mk_18 k_x1 k_x2 hkl hW hZ _ (lv_sub hl [0, 1, 2, 3] rfl) hE
set_option maxRecDepth 20000 in
theorem bL_law_706 {p : Program} {l : Launch} {e : Env} {s : State} {m : MethodId} {below : List Frame} {meth : Method} {c : Code} {X : Ec} {h0 : Hp} {o : Int32 × Hp} {k_18 : Hp → Nat → Nat → Int32 → Option (Int32 × Hp)} {F : Nat} {mn : String} {b L : Nat} {xs : Nat → Int32} (C : Cx X p s m #[Value.ref b] meth c RL code 4 ret mn) (hX : va_X b L xs s s.heap) (hbl : b < s.heap.size) (hbA : ¬ aA (eB X) b) (hbase : eB X = s.heap.size) (hRm : hS o.2 - hS h0 ≤ room_1.cells ∧ hL o.2 - hL h0 ≤ room_1.slots) (ho : o.1 = 1) (hk_18 : ∀ (h : Hp) (x1 : Nat) (x2 : Nat) (x3 : Int32) (H : Heap) (locs : List Loc), hK h x1 = 11 → hK h x2 = 15 → Kl h0 h → Wx X h H → va_S (aA (eB X)) s.heap H locs → ∀ (ls : Array Slot), lv_has ls 4 [(0, .ref b), (1, .ref x1), (2, .ref x2), (3, .int x3)] → k_18 h x1 x2 x3 = some o → W p l e room_1 s m #[Value.ref b] below meth c H locs (hS h - hS h0) (hL h - hL h0) (lw_Z below #[Value.ref b] s) (F0 m 18 ls [])) (mk_18 : ∀ (h : Hp) (x1 : Nat) (x2 : Nat) (x3 : Int32), k_18 h x1 x2 x3 = some o → Le h o.2) {h : Hp} {x1 : Nat} {x2 : Nat} {x3 : Int32} {t0 : Int32} {H : Heap} {locs : List Loc} (k_x1 : hK h x1 = 11) (k_x2 : hK h x2 = 15) (hkl : Kl h0 h) (hW : Wx X h H) (hZ : va_S (aA (eB X)) s.heap H locs) (ls : Array Slot) (hl : lv_has ls 4 [(0, .ref b), (1, .ref x1), (2, .ref x2), (3, .int x3)]) (hE : sL_law_706 F L xs k_18 h x1 x2 x3 t0 = some o) : W p l e room_1 s m #[Value.ref b] below meth c H locs (hS h - hS h0) (hL h - hL h0) (lw_Z below #[Value.ref b] s) (F0 m 706 ls [.int t0]) := by
  refine lv_pop C.1 C.2.1 dL_law_706 rfl ?_
  refine lv_aload_n C.1 C.2.1 dL_law_707 rfl (lv_at hl 2 rfl) ?_
  refine lv_aload_n C.1 C.2.1 dL_law_708 rfl (lv_at hl 0 rfl) ?_
  refine lv_iload_n C.1 C.2.1 dL_law_709 rfl (lv_at hl 3 rfl) ?_
  refine lv_iconst (v := (1 : Int32)) C.1 C.2.1 dL_law_710 (by decide) ?_
  refine lv_iadd C.1 C.2.1 dL_law_711 ?_
  obtain ⟨g_1, hE⟩ := gd_e hE
  refine va_sld C.1 C.2.1 hX hbl hbA hZ g_1 dL_law_712 ?_
  obtain ⟨o_2, eo_2, hE⟩ := cl_e hE
  have m1 := moX15_result eo_2
  have m2 := moL_law_716 mk_18 hE
  refine x_kI (o := o_2) (z_runV (As := [.int (xs (x3 + (1 : Int32)).toNatClampNeg)]) (rest := []) C (ct_X15_result l X F k_x2 eo_2) cw_L_90 hW hZ k_x2 (by decide) rfl rfl rfl hl.1 (Nat.le_of_ble_eq_true rfl) rfl dL_law_713 ⟨Nat.le_of_ble_eq_true rfl, Nat.le_of_ble_eq_true rfl⟩ ⟨Nat.le_trans (rm_ok0 hkl m1 m2).1 hRm.1, Nat.le_trans (rm_ok0 hkl m1 m2).2 hRm.2⟩) hZ (fun _ _ hW km hZ => ?_)
  replace hkl := hkl.tr km.l
  refine x_wc km ?_
  replace k_x1 := km.at k_x1 (by decide)
  replace k_x2 := km.at k_x2 (by decide)
  exact bL_law_716 C hX hbl hbA hbase hRm ho hk_18 mk_18 k_x1 k_x2 hkl hW hZ _ (lv_sub hl [0, 1, 2, 3] rfl) hE
set_option maxRecDepth 20000 in
theorem bL_law_749 {p : Program} {l : Launch} {e : Env} {s : State} {m : MethodId} {below : List Frame} {meth : Method} {c : Code} {X : Ec} {h0 : Hp} {o : Int32 × Hp} {k_18 : Hp → Nat → Nat → Int32 → Option (Int32 × Hp)} {F : Nat} {mn : String} {b L : Nat} {xs : Nat → Int32} (C : Cx X p s m #[Value.ref b] meth c RL code 4 ret mn) (hX : va_X b L xs s s.heap) (hbl : b < s.heap.size) (hbA : ¬ aA (eB X) b) (hbase : eB X = s.heap.size) (hRm : hS o.2 - hS h0 ≤ room_1.cells ∧ hL o.2 - hL h0 ≤ room_1.slots) (ho : o.1 = 1) (hk_18 : ∀ (h : Hp) (x1 : Nat) (x2 : Nat) (x3 : Int32) (H : Heap) (locs : List Loc), hK h x1 = 11 → hK h x2 = 15 → Kl h0 h → Wx X h H → va_S (aA (eB X)) s.heap H locs → ∀ (ls : Array Slot), lv_has ls 4 [(0, .ref b), (1, .ref x1), (2, .ref x2), (3, .int x3)] → k_18 h x1 x2 x3 = some o → W p l e room_1 s m #[Value.ref b] below meth c H locs (hS h - hS h0) (hL h - hL h0) (lw_Z below #[Value.ref b] s) (F0 m 18 ls [])) (mk_18 : ∀ (h : Hp) (x1 : Nat) (x2 : Nat) (x3 : Int32), k_18 h x1 x2 x3 = some o → Le h o.2) {h : Hp} {x1 : Nat} {x2 : Nat} {x3 : Int32} {t0 : Int32} {H : Heap} {locs : List Loc} (k_x1 : hK h x1 = 11) (k_x2 : hK h x2 = 15) (hkl : Kl h0 h) (hW : Wx X h H) (hZ : va_S (aA (eB X)) s.heap H locs) (ls : Array Slot) (hl : lv_has ls 4 [(0, .ref b), (1, .ref x1), (2, .ref x2), (3, .int x3)]) (hE : sL_law_749 F L xs k_18 h x1 x2 x3 t0 = some o) : W p l e room_1 s m #[Value.ref b] below meth c H locs (hS h - hS h0) (hL h - hL h0) (lw_Z below #[Value.ref b] s) (F0 m 749 ls [.int t0]) := by
  refine lv_pop C.1 C.2.1 dL_law_749 rfl ?_
  refine lv_goto (tgt := 1277) C.1 C.2.1 dL_law_750 (by decide) ?_
  exact bL_law_1277 C hX hbl hbA hbase hRm ho hk_18 mk_18 k_x1 k_x2 hkl hW hZ _ (lv_sub hl [0, 1, 2, 3] rfl) hE
set_option maxRecDepth 20000 in
theorem bL_law_734 {p : Program} {l : Launch} {e : Env} {s : State} {m : MethodId} {below : List Frame} {meth : Method} {c : Code} {X : Ec} {h0 : Hp} {o : Int32 × Hp} {k_18 : Hp → Nat → Nat → Int32 → Option (Int32 × Hp)} {F : Nat} {mn : String} {b L : Nat} {xs : Nat → Int32} (C : Cx X p s m #[Value.ref b] meth c RL code 4 ret mn) (hX : va_X b L xs s s.heap) (hbl : b < s.heap.size) (hbA : ¬ aA (eB X) b) (hbase : eB X = s.heap.size) (hRm : hS o.2 - hS h0 ≤ room_1.cells ∧ hL o.2 - hL h0 ≤ room_1.slots) (ho : o.1 = 1) (hk_18 : ∀ (h : Hp) (x1 : Nat) (x2 : Nat) (x3 : Int32) (H : Heap) (locs : List Loc), hK h x1 = 11 → hK h x2 = 15 → Kl h0 h → Wx X h H → va_S (aA (eB X)) s.heap H locs → ∀ (ls : Array Slot), lv_has ls 4 [(0, .ref b), (1, .ref x1), (2, .ref x2), (3, .int x3)] → k_18 h x1 x2 x3 = some o → W p l e room_1 s m #[Value.ref b] below meth c H locs (hS h - hS h0) (hL h - hL h0) (lw_Z below #[Value.ref b] s) (F0 m 18 ls [])) (mk_18 : ∀ (h : Hp) (x1 : Nat) (x2 : Nat) (x3 : Int32), k_18 h x1 x2 x3 = some o → Le h o.2) {h : Hp} {x1 : Nat} {x2 : Nat} {x3 : Int32} {t0 : Int32} {H : Heap} {locs : List Loc} (k_x1 : hK h x1 = 11) (k_x2 : hK h x2 = 15) (hkl : Kl h0 h) (hW : Wx X h H) (hZ : va_S (aA (eB X)) s.heap H locs) (ls : Array Slot) (hl : lv_has ls 4 [(0, .ref b), (1, .ref x1), (2, .ref x2), (3, .int x3)]) (hE : sL_law_734 F L xs k_18 h x1 x2 x3 t0 = some o) : W p l e room_1 s m #[Value.ref b] below meth c H locs (hS h - hS h0) (hL h - hL h0) (lw_Z below #[Value.ref b] s) (F0 m 734 ls [.int t0]) := by
  refine lv_pop C.1 C.2.1 dL_law_734 rfl ?_
  refine lv_aload_n C.1 C.2.1 dL_law_735 rfl (lv_at hl 2 rfl) ?_
  refine lv_aload_n C.1 C.2.1 dL_law_736 rfl (lv_at hl 0 rfl) ?_
  refine lv_iload_n C.1 C.2.1 dL_law_737 rfl (lv_at hl 3 rfl) ?_
  refine lv_iconst (v := (1 : Int32)) C.1 C.2.1 dL_law_738 (by decide) ?_
  refine lv_iadd C.1 C.2.1 dL_law_739 ?_
  obtain ⟨g_1, hE⟩ := gd_e hE
  refine va_sld C.1 C.2.1 hX hbl hbA hZ g_1 dL_law_740 ?_
  refine lv_aload_n C.1 C.2.1 dL_law_741 rfl (lv_at hl 0 rfl) ?_
  refine lv_iload_n C.1 C.2.1 dL_law_742 rfl (lv_at hl 3 rfl) ?_
  refine lv_iconst (v := (2 : Int32)) C.1 C.2.1 dL_law_743 (by decide) ?_
  refine lv_iadd C.1 C.2.1 dL_law_744 ?_
  obtain ⟨g_2, hE⟩ := gd_e hE
  refine va_sld C.1 C.2.1 hX hbl hbA hZ g_2 dL_law_745 ?_
  obtain ⟨o_3, eo_3, hE⟩ := cl_e hE
  have m1 := moX15_say_ eo_3
  have m2 := moL_law_749 mk_18 hE
  refine x_kI (o := o_3) (z_runV (As := [.int (xs (x3 + (1 : Int32)).toNatClampNeg), .int (xs (x3 + (2 : Int32)).toNatClampNeg)]) (rest := []) C (ct_X15_say_ l X F k_x2 eo_3) cw_L_94 hW hZ k_x2 (by decide) rfl rfl rfl hl.1 (Nat.le_of_ble_eq_true rfl) rfl dL_law_746 ⟨Nat.le_of_ble_eq_true rfl, Nat.le_of_ble_eq_true rfl⟩ ⟨Nat.le_trans (rm_ok0 hkl m1 m2).1 hRm.1, Nat.le_trans (rm_ok0 hkl m1 m2).2 hRm.2⟩) hZ (fun _ _ hW km hZ => ?_)
  replace hkl := hkl.tr km.l
  refine x_wc km ?_
  replace k_x1 := km.at k_x1 (by decide)
  replace k_x2 := km.at k_x2 (by decide)
  exact bL_law_749 C hX hbl hbA hbase hRm ho hk_18 mk_18 k_x1 k_x2 hkl hW hZ _ (lv_sub hl [0, 1, 2, 3] rfl) hE
set_option maxRecDepth 20000 in
theorem bL_law_772 {p : Program} {l : Launch} {e : Env} {s : State} {m : MethodId} {below : List Frame} {meth : Method} {c : Code} {X : Ec} {h0 : Hp} {o : Int32 × Hp} {k_18 : Hp → Nat → Nat → Int32 → Option (Int32 × Hp)} {F : Nat} {mn : String} {b L : Nat} {xs : Nat → Int32} (C : Cx X p s m #[Value.ref b] meth c RL code 4 ret mn) (hX : va_X b L xs s s.heap) (hbl : b < s.heap.size) (hbA : ¬ aA (eB X) b) (hbase : eB X = s.heap.size) (hRm : hS o.2 - hS h0 ≤ room_1.cells ∧ hL o.2 - hL h0 ≤ room_1.slots) (ho : o.1 = 1) (hk_18 : ∀ (h : Hp) (x1 : Nat) (x2 : Nat) (x3 : Int32) (H : Heap) (locs : List Loc), hK h x1 = 11 → hK h x2 = 15 → Kl h0 h → Wx X h H → va_S (aA (eB X)) s.heap H locs → ∀ (ls : Array Slot), lv_has ls 4 [(0, .ref b), (1, .ref x1), (2, .ref x2), (3, .int x3)] → k_18 h x1 x2 x3 = some o → W p l e room_1 s m #[Value.ref b] below meth c H locs (hS h - hS h0) (hL h - hL h0) (lw_Z below #[Value.ref b] s) (F0 m 18 ls [])) (mk_18 : ∀ (h : Hp) (x1 : Nat) (x2 : Nat) (x3 : Int32), k_18 h x1 x2 x3 = some o → Le h o.2) {h : Hp} {x1 : Nat} {x2 : Nat} {x3 : Int32} {t0 : Int32} {H : Heap} {locs : List Loc} (k_x1 : hK h x1 = 11) (k_x2 : hK h x2 = 15) (hkl : Kl h0 h) (hW : Wx X h H) (hZ : va_S (aA (eB X)) s.heap H locs) (ls : Array Slot) (hl : lv_has ls 4 [(0, .ref b), (1, .ref x1), (2, .ref x2), (3, .int x3)]) (hE : sL_law_772 F L xs k_18 h x1 x2 x3 t0 = some o) : W p l e room_1 s m #[Value.ref b] below meth c H locs (hS h - hS h0) (hL h - hL h0) (lw_Z below #[Value.ref b] s) (F0 m 772 ls [.int t0]) := by
  refine lv_pop C.1 C.2.1 dL_law_772 rfl ?_
  refine lv_goto (tgt := 1277) C.1 C.2.1 dL_law_773 (by decide) ?_
  exact bL_law_1277 C hX hbl hbA hbase hRm ho hk_18 mk_18 k_x1 k_x2 hkl hW hZ _ (lv_sub hl [0, 1, 2, 3] rfl) hE
set_option maxRecDepth 20000 in
theorem bL_law_762 {p : Program} {l : Launch} {e : Env} {s : State} {m : MethodId} {below : List Frame} {meth : Method} {c : Code} {X : Ec} {h0 : Hp} {o : Int32 × Hp} {k_18 : Hp → Nat → Nat → Int32 → Option (Int32 × Hp)} {F : Nat} {mn : String} {b L : Nat} {xs : Nat → Int32} (C : Cx X p s m #[Value.ref b] meth c RL code 4 ret mn) (hX : va_X b L xs s s.heap) (hbl : b < s.heap.size) (hbA : ¬ aA (eB X) b) (hbase : eB X = s.heap.size) (hRm : hS o.2 - hS h0 ≤ room_1.cells ∧ hL o.2 - hL h0 ≤ room_1.slots) (ho : o.1 = 1) (hk_18 : ∀ (h : Hp) (x1 : Nat) (x2 : Nat) (x3 : Int32) (H : Heap) (locs : List Loc), hK h x1 = 11 → hK h x2 = 15 → Kl h0 h → Wx X h H → va_S (aA (eB X)) s.heap H locs → ∀ (ls : Array Slot), lv_has ls 4 [(0, .ref b), (1, .ref x1), (2, .ref x2), (3, .int x3)] → k_18 h x1 x2 x3 = some o → W p l e room_1 s m #[Value.ref b] below meth c H locs (hS h - hS h0) (hL h - hL h0) (lw_Z below #[Value.ref b] s) (F0 m 18 ls [])) (mk_18 : ∀ (h : Hp) (x1 : Nat) (x2 : Nat) (x3 : Int32), k_18 h x1 x2 x3 = some o → Le h o.2) {h : Hp} {x1 : Nat} {x2 : Nat} {x3 : Int32} {t0 : Int32} {H : Heap} {locs : List Loc} (k_x1 : hK h x1 = 11) (k_x2 : hK h x2 = 15) (hkl : Kl h0 h) (hW : Wx X h H) (hZ : va_S (aA (eB X)) s.heap H locs) (ls : Array Slot) (hl : lv_has ls 4 [(0, .ref b), (1, .ref x1), (2, .ref x2), (3, .int x3)]) (hE : sL_law_762 F L xs k_18 h x1 x2 x3 t0 = some o) : W p l e room_1 s m #[Value.ref b] below meth c H locs (hS h - hS h0) (hL h - hL h0) (lw_Z below #[Value.ref b] s) (F0 m 762 ls [.int t0]) := by
  refine lv_pop C.1 C.2.1 dL_law_762 rfl ?_
  refine lv_aload_n C.1 C.2.1 dL_law_763 rfl (lv_at hl 2 rfl) ?_
  refine lv_aload_n C.1 C.2.1 dL_law_764 rfl (lv_at hl 0 rfl) ?_
  refine lv_iload_n C.1 C.2.1 dL_law_765 rfl (lv_at hl 3 rfl) ?_
  refine lv_iconst (v := (1 : Int32)) C.1 C.2.1 dL_law_766 (by decide) ?_
  refine lv_iadd C.1 C.2.1 dL_law_767 ?_
  obtain ⟨g_1, hE⟩ := gd_e hE
  refine va_sld C.1 C.2.1 hX hbl hbA hZ g_1 dL_law_768 ?_
  obtain ⟨o_2, eo_2, hE⟩ := cl_e hE
  have m1 := moX15_hear eo_2
  have m2 := moL_law_772 mk_18 hE
  refine x_kI (o := o_2) (z_runV (As := [.int (xs (x3 + (1 : Int32)).toNatClampNeg)]) (rest := []) C (ct_X15_hear l X F k_x2 eo_2) cw_L_98 hW hZ k_x2 (by decide) rfl rfl rfl hl.1 (Nat.le_of_ble_eq_true rfl) rfl dL_law_769 ⟨Nat.le_of_ble_eq_true rfl, Nat.le_of_ble_eq_true rfl⟩ ⟨Nat.le_trans (rm_ok0 hkl m1 m2).1 hRm.1, Nat.le_trans (rm_ok0 hkl m1 m2).2 hRm.2⟩) hZ (fun _ _ hW km hZ => ?_)
  replace hkl := hkl.tr km.l
  refine x_wc km ?_
  replace k_x1 := km.at k_x1 (by decide)
  replace k_x2 := km.at k_x2 (by decide)
  exact bL_law_772 C hX hbl hbA hbase hRm ho hk_18 mk_18 k_x1 k_x2 hkl hW hZ _ (lv_sub hl [0, 1, 2, 3] rfl) hE
set_option maxRecDepth 20000 in
theorem bL_law_805 {p : Program} {l : Launch} {e : Env} {s : State} {m : MethodId} {below : List Frame} {meth : Method} {c : Code} {X : Ec} {h0 : Hp} {o : Int32 × Hp} {k_18 : Hp → Nat → Nat → Int32 → Option (Int32 × Hp)} {F : Nat} {mn : String} {b L : Nat} {xs : Nat → Int32} (C : Cx X p s m #[Value.ref b] meth c RL code 4 ret mn) (hX : va_X b L xs s s.heap) (hbl : b < s.heap.size) (hbA : ¬ aA (eB X) b) (hbase : eB X = s.heap.size) (hRm : hS o.2 - hS h0 ≤ room_1.cells ∧ hL o.2 - hL h0 ≤ room_1.slots) (ho : o.1 = 1) (hk_18 : ∀ (h : Hp) (x1 : Nat) (x2 : Nat) (x3 : Int32) (H : Heap) (locs : List Loc), hK h x1 = 11 → hK h x2 = 15 → Kl h0 h → Wx X h H → va_S (aA (eB X)) s.heap H locs → ∀ (ls : Array Slot), lv_has ls 4 [(0, .ref b), (1, .ref x1), (2, .ref x2), (3, .int x3)] → k_18 h x1 x2 x3 = some o → W p l e room_1 s m #[Value.ref b] below meth c H locs (hS h - hS h0) (hL h - hL h0) (lw_Z below #[Value.ref b] s) (F0 m 18 ls [])) (mk_18 : ∀ (h : Hp) (x1 : Nat) (x2 : Nat) (x3 : Int32), k_18 h x1 x2 x3 = some o → Le h o.2) {h : Hp} {x1 : Nat} {x2 : Nat} {x3 : Int32} {t0 : Int32} {H : Heap} {locs : List Loc} (k_x1 : hK h x1 = 11) (k_x2 : hK h x2 = 15) (hkl : Kl h0 h) (hW : Wx X h H) (hZ : va_S (aA (eB X)) s.heap H locs) (ls : Array Slot) (hl : lv_has ls 4 [(0, .ref b), (1, .ref x1), (2, .ref x2), (3, .int x3)]) (hE : sL_law_805 F L xs k_18 h x1 x2 x3 t0 = some o) : W p l e room_1 s m #[Value.ref b] below meth c H locs (hS h - hS h0) (hL h - hL h0) (lw_Z below #[Value.ref b] s) (F0 m 805 ls [.int t0]) := by
  refine lv_pop C.1 C.2.1 dL_law_805 rfl ?_
  refine lv_goto (tgt := 1277) C.1 C.2.1 dL_law_806 (by decide) ?_
  exact bL_law_1277 C hX hbl hbA hbase hRm ho hk_18 mk_18 k_x1 k_x2 hkl hW hZ _ (lv_sub hl [0, 1, 2, 3] rfl) hE
set_option maxRecDepth 20000 in
theorem bL_law_790 {p : Program} {l : Launch} {e : Env} {s : State} {m : MethodId} {below : List Frame} {meth : Method} {c : Code} {X : Ec} {h0 : Hp} {o : Int32 × Hp} {k_18 : Hp → Nat → Nat → Int32 → Option (Int32 × Hp)} {F : Nat} {mn : String} {b L : Nat} {xs : Nat → Int32} (C : Cx X p s m #[Value.ref b] meth c RL code 4 ret mn) (hX : va_X b L xs s s.heap) (hbl : b < s.heap.size) (hbA : ¬ aA (eB X) b) (hbase : eB X = s.heap.size) (hRm : hS o.2 - hS h0 ≤ room_1.cells ∧ hL o.2 - hL h0 ≤ room_1.slots) (ho : o.1 = 1) (hk_18 : ∀ (h : Hp) (x1 : Nat) (x2 : Nat) (x3 : Int32) (H : Heap) (locs : List Loc), hK h x1 = 11 → hK h x2 = 15 → Kl h0 h → Wx X h H → va_S (aA (eB X)) s.heap H locs → ∀ (ls : Array Slot), lv_has ls 4 [(0, .ref b), (1, .ref x1), (2, .ref x2), (3, .int x3)] → k_18 h x1 x2 x3 = some o → W p l e room_1 s m #[Value.ref b] below meth c H locs (hS h - hS h0) (hL h - hL h0) (lw_Z below #[Value.ref b] s) (F0 m 18 ls [])) (mk_18 : ∀ (h : Hp) (x1 : Nat) (x2 : Nat) (x3 : Int32), k_18 h x1 x2 x3 = some o → Le h o.2) {h : Hp} {x1 : Nat} {x2 : Nat} {x3 : Int32} {t0 : Int32} {H : Heap} {locs : List Loc} (k_x1 : hK h x1 = 11) (k_x2 : hK h x2 = 15) (hkl : Kl h0 h) (hW : Wx X h H) (hZ : va_S (aA (eB X)) s.heap H locs) (ls : Array Slot) (hl : lv_has ls 4 [(0, .ref b), (1, .ref x1), (2, .ref x2), (3, .int x3)]) (hE : sL_law_790 F L xs k_18 h x1 x2 x3 t0 = some o) : W p l e room_1 s m #[Value.ref b] below meth c H locs (hS h - hS h0) (hL h - hL h0) (lw_Z below #[Value.ref b] s) (F0 m 790 ls [.int t0]) := by
  refine lv_pop C.1 C.2.1 dL_law_790 rfl ?_
  refine lv_aload_n C.1 C.2.1 dL_law_791 rfl (lv_at hl 2 rfl) ?_
  refine lv_aload_n C.1 C.2.1 dL_law_792 rfl (lv_at hl 0 rfl) ?_
  refine lv_iload_n C.1 C.2.1 dL_law_793 rfl (lv_at hl 3 rfl) ?_
  refine lv_iconst (v := (1 : Int32)) C.1 C.2.1 dL_law_794 (by decide) ?_
  refine lv_iadd C.1 C.2.1 dL_law_795 ?_
  obtain ⟨g_1, hE⟩ := gd_e hE
  refine va_sld C.1 C.2.1 hX hbl hbA hZ g_1 dL_law_796 ?_
  refine lv_aload_n C.1 C.2.1 dL_law_797 rfl (lv_at hl 0 rfl) ?_
  refine lv_iload_n C.1 C.2.1 dL_law_798 rfl (lv_at hl 3 rfl) ?_
  refine lv_iconst (v := (2 : Int32)) C.1 C.2.1 dL_law_799 (by decide) ?_
  refine lv_iadd C.1 C.2.1 dL_law_800 ?_
  obtain ⟨g_2, hE⟩ := gd_e hE
  refine va_sld C.1 C.2.1 hX hbl hbA hZ g_2 dL_law_801 ?_
  obtain ⟨o_3, eo_3, hE⟩ := cl_e hE
  have m1 := moX15_start eo_3
  have m2 := moL_law_805 mk_18 hE
  refine x_kIA (o := o_3) hkl (z_runV (As := [.int (xs (x3 + (1 : Int32)).toNatClampNeg), .int (xs (x3 + (2 : Int32)).toNatClampNeg)]) (rest := []) C (ct_X15_start l X k_x2 eo_3) cw_L_102 hW hZ k_x2 (by decide) rfl rfl rfl hl.1 (Nat.le_of_ble_eq_true rfl) rfl dL_law_802 ⟨Nat.le_of_ble_eq_true rfl, Nat.le_of_ble_eq_true rfl⟩ ⟨Nat.le_trans (rm_ok hkl m1 m2).1 hRm.1, Nat.le_trans (rm_ok hkl m1 m2).2 hRm.2⟩) hZ (fun _ _ hW km hZ => ?_)
  replace hkl := hkl.tr km
  replace k_x1 := km.at k_x1 (by decide)
  replace k_x2 := km.at k_x2 (by decide)
  exact bL_law_805 C hX hbl hbA hbase hRm ho hk_18 mk_18 k_x1 k_x2 hkl hW hZ _ (lv_sub hl [0, 1, 2, 3] rfl) hE
set_option maxRecDepth 20000 in
theorem bL_law_838 {p : Program} {l : Launch} {e : Env} {s : State} {m : MethodId} {below : List Frame} {meth : Method} {c : Code} {X : Ec} {h0 : Hp} {o : Int32 × Hp} {k_18 : Hp → Nat → Nat → Int32 → Option (Int32 × Hp)} {F : Nat} {mn : String} {b L : Nat} {xs : Nat → Int32} (C : Cx X p s m #[Value.ref b] meth c RL code 4 ret mn) (hX : va_X b L xs s s.heap) (hbl : b < s.heap.size) (hbA : ¬ aA (eB X) b) (hbase : eB X = s.heap.size) (hRm : hS o.2 - hS h0 ≤ room_1.cells ∧ hL o.2 - hL h0 ≤ room_1.slots) (ho : o.1 = 1) (hk_18 : ∀ (h : Hp) (x1 : Nat) (x2 : Nat) (x3 : Int32) (H : Heap) (locs : List Loc), hK h x1 = 11 → hK h x2 = 15 → Kl h0 h → Wx X h H → va_S (aA (eB X)) s.heap H locs → ∀ (ls : Array Slot), lv_has ls 4 [(0, .ref b), (1, .ref x1), (2, .ref x2), (3, .int x3)] → k_18 h x1 x2 x3 = some o → W p l e room_1 s m #[Value.ref b] below meth c H locs (hS h - hS h0) (hL h - hL h0) (lw_Z below #[Value.ref b] s) (F0 m 18 ls [])) (mk_18 : ∀ (h : Hp) (x1 : Nat) (x2 : Nat) (x3 : Int32), k_18 h x1 x2 x3 = some o → Le h o.2) {h : Hp} {x1 : Nat} {x2 : Nat} {x3 : Int32} {t0 : Int32} {H : Heap} {locs : List Loc} (k_x1 : hK h x1 = 11) (k_x2 : hK h x2 = 15) (hkl : Kl h0 h) (hW : Wx X h H) (hZ : va_S (aA (eB X)) s.heap H locs) (ls : Array Slot) (hl : lv_has ls 4 [(0, .ref b), (1, .ref x1), (2, .ref x2), (3, .int x3)]) (hE : sL_law_838 F L xs k_18 h x1 x2 x3 t0 = some o) : W p l e room_1 s m #[Value.ref b] below meth c H locs (hS h - hS h0) (hL h - hL h0) (lw_Z below #[Value.ref b] s) (F0 m 838 ls [.int t0]) := by
  refine lv_pop C.1 C.2.1 dL_law_838 rfl ?_
  refine lv_goto (tgt := 1277) C.1 C.2.1 dL_law_839 (by decide) ?_
  exact bL_law_1277 C hX hbl hbA hbase hRm ho hk_18 mk_18 k_x1 k_x2 hkl hW hZ _ (lv_sub hl [0, 1, 2, 3] rfl) hE
set_option maxRecDepth 20000 in
theorem bL_law_823 {p : Program} {l : Launch} {e : Env} {s : State} {m : MethodId} {below : List Frame} {meth : Method} {c : Code} {X : Ec} {h0 : Hp} {o : Int32 × Hp} {k_18 : Hp → Nat → Nat → Int32 → Option (Int32 × Hp)} {F : Nat} {mn : String} {b L : Nat} {xs : Nat → Int32} (C : Cx X p s m #[Value.ref b] meth c RL code 4 ret mn) (hX : va_X b L xs s s.heap) (hbl : b < s.heap.size) (hbA : ¬ aA (eB X) b) (hbase : eB X = s.heap.size) (hRm : hS o.2 - hS h0 ≤ room_1.cells ∧ hL o.2 - hL h0 ≤ room_1.slots) (ho : o.1 = 1) (hk_18 : ∀ (h : Hp) (x1 : Nat) (x2 : Nat) (x3 : Int32) (H : Heap) (locs : List Loc), hK h x1 = 11 → hK h x2 = 15 → Kl h0 h → Wx X h H → va_S (aA (eB X)) s.heap H locs → ∀ (ls : Array Slot), lv_has ls 4 [(0, .ref b), (1, .ref x1), (2, .ref x2), (3, .int x3)] → k_18 h x1 x2 x3 = some o → W p l e room_1 s m #[Value.ref b] below meth c H locs (hS h - hS h0) (hL h - hL h0) (lw_Z below #[Value.ref b] s) (F0 m 18 ls [])) (mk_18 : ∀ (h : Hp) (x1 : Nat) (x2 : Nat) (x3 : Int32), k_18 h x1 x2 x3 = some o → Le h o.2) {h : Hp} {x1 : Nat} {x2 : Nat} {x3 : Int32} {t0 : Int32} {H : Heap} {locs : List Loc} (k_x1 : hK h x1 = 11) (k_x2 : hK h x2 = 15) (hkl : Kl h0 h) (hW : Wx X h H) (hZ : va_S (aA (eB X)) s.heap H locs) (ls : Array Slot) (hl : lv_has ls 4 [(0, .ref b), (1, .ref x1), (2, .ref x2), (3, .int x3)]) (hE : sL_law_823 F L xs k_18 h x1 x2 x3 t0 = some o) : W p l e room_1 s m #[Value.ref b] below meth c H locs (hS h - hS h0) (hL h - hL h0) (lw_Z below #[Value.ref b] s) (F0 m 823 ls [.int t0]) := by
  refine lv_pop C.1 C.2.1 dL_law_823 rfl ?_
  refine lv_aload_n C.1 C.2.1 dL_law_824 rfl (lv_at hl 2 rfl) ?_
  refine lv_aload_n C.1 C.2.1 dL_law_825 rfl (lv_at hl 0 rfl) ?_
  refine lv_iload_n C.1 C.2.1 dL_law_826 rfl (lv_at hl 3 rfl) ?_
  refine lv_iconst (v := (1 : Int32)) C.1 C.2.1 dL_law_827 (by decide) ?_
  refine lv_iadd C.1 C.2.1 dL_law_828 ?_
  obtain ⟨g_1, hE⟩ := gd_e hE
  refine va_sld C.1 C.2.1 hX hbl hbA hZ g_1 dL_law_829 ?_
  refine lv_aload_n C.1 C.2.1 dL_law_830 rfl (lv_at hl 0 rfl) ?_
  refine lv_iload_n C.1 C.2.1 dL_law_831 rfl (lv_at hl 3 rfl) ?_
  refine lv_iconst (v := (2 : Int32)) C.1 C.2.1 dL_law_832 (by decide) ?_
  refine lv_iadd C.1 C.2.1 dL_law_833 ?_
  obtain ⟨g_2, hE⟩ := gd_e hE
  refine va_sld C.1 C.2.1 hX hbl hbA hZ g_2 dL_law_834 ?_
  obtain ⟨o_3, eo_3, hE⟩ := cl_e hE
  have m1 := moX15_add eo_3
  have m2 := moL_law_838 mk_18 hE
  refine x_kIA (o := o_3) hkl (z_runV (As := [.int (xs (x3 + (1 : Int32)).toNatClampNeg), .int (xs (x3 + (2 : Int32)).toNatClampNeg)]) (rest := []) C (ct_X15_add l X F k_x2 eo_3) cw_L_106 hW hZ k_x2 (by decide) rfl rfl rfl hl.1 (Nat.le_of_ble_eq_true rfl) rfl dL_law_835 ⟨Nat.le_of_ble_eq_true rfl, Nat.le_of_ble_eq_true rfl⟩ ⟨Nat.le_trans (rm_ok hkl m1 m2).1 hRm.1, Nat.le_trans (rm_ok hkl m1 m2).2 hRm.2⟩) hZ (fun _ _ hW km hZ => ?_)
  replace hkl := hkl.tr km
  replace k_x1 := km.at k_x1 (by decide)
  replace k_x2 := km.at k_x2 (by decide)
  exact bL_law_838 C hX hbl hbA hbase hRm ho hk_18 mk_18 k_x1 k_x2 hkl hW hZ _ (lv_sub hl [0, 1, 2, 3] rfl) hE
set_option maxRecDepth 20000 in
theorem bL_law_861 {p : Program} {l : Launch} {e : Env} {s : State} {m : MethodId} {below : List Frame} {meth : Method} {c : Code} {X : Ec} {h0 : Hp} {o : Int32 × Hp} {k_18 : Hp → Nat → Nat → Int32 → Option (Int32 × Hp)} {F : Nat} {mn : String} {b L : Nat} {xs : Nat → Int32} (C : Cx X p s m #[Value.ref b] meth c RL code 4 ret mn) (hX : va_X b L xs s s.heap) (hbl : b < s.heap.size) (hbA : ¬ aA (eB X) b) (hbase : eB X = s.heap.size) (hRm : hS o.2 - hS h0 ≤ room_1.cells ∧ hL o.2 - hL h0 ≤ room_1.slots) (ho : o.1 = 1) (hk_18 : ∀ (h : Hp) (x1 : Nat) (x2 : Nat) (x3 : Int32) (H : Heap) (locs : List Loc), hK h x1 = 11 → hK h x2 = 15 → Kl h0 h → Wx X h H → va_S (aA (eB X)) s.heap H locs → ∀ (ls : Array Slot), lv_has ls 4 [(0, .ref b), (1, .ref x1), (2, .ref x2), (3, .int x3)] → k_18 h x1 x2 x3 = some o → W p l e room_1 s m #[Value.ref b] below meth c H locs (hS h - hS h0) (hL h - hL h0) (lw_Z below #[Value.ref b] s) (F0 m 18 ls [])) (mk_18 : ∀ (h : Hp) (x1 : Nat) (x2 : Nat) (x3 : Int32), k_18 h x1 x2 x3 = some o → Le h o.2) {h : Hp} {x1 : Nat} {x2 : Nat} {x3 : Int32} {t0 : Int32} {H : Heap} {locs : List Loc} (k_x1 : hK h x1 = 11) (k_x2 : hK h x2 = 15) (hkl : Kl h0 h) (hW : Wx X h H) (hZ : va_S (aA (eB X)) s.heap H locs) (ls : Array Slot) (hl : lv_has ls 4 [(0, .ref b), (1, .ref x1), (2, .ref x2), (3, .int x3)]) (hE : sL_law_861 F L xs k_18 h x1 x2 x3 t0 = some o) : W p l e room_1 s m #[Value.ref b] below meth c H locs (hS h - hS h0) (hL h - hL h0) (lw_Z below #[Value.ref b] s) (F0 m 861 ls [.int t0]) := by
  refine lv_pop C.1 C.2.1 dL_law_861 rfl ?_
  refine lv_goto (tgt := 1277) C.1 C.2.1 dL_law_862 (by decide) ?_
  exact bL_law_1277 C hX hbl hbA hbase hRm ho hk_18 mk_18 k_x1 k_x2 hkl hW hZ _ (lv_sub hl [0, 1, 2, 3] rfl) hE
set_option maxRecDepth 20000 in
theorem bL_law_851 {p : Program} {l : Launch} {e : Env} {s : State} {m : MethodId} {below : List Frame} {meth : Method} {c : Code} {X : Ec} {h0 : Hp} {o : Int32 × Hp} {k_18 : Hp → Nat → Nat → Int32 → Option (Int32 × Hp)} {F : Nat} {mn : String} {b L : Nat} {xs : Nat → Int32} (C : Cx X p s m #[Value.ref b] meth c RL code 4 ret mn) (hX : va_X b L xs s s.heap) (hbl : b < s.heap.size) (hbA : ¬ aA (eB X) b) (hbase : eB X = s.heap.size) (hRm : hS o.2 - hS h0 ≤ room_1.cells ∧ hL o.2 - hL h0 ≤ room_1.slots) (ho : o.1 = 1) (hk_18 : ∀ (h : Hp) (x1 : Nat) (x2 : Nat) (x3 : Int32) (H : Heap) (locs : List Loc), hK h x1 = 11 → hK h x2 = 15 → Kl h0 h → Wx X h H → va_S (aA (eB X)) s.heap H locs → ∀ (ls : Array Slot), lv_has ls 4 [(0, .ref b), (1, .ref x1), (2, .ref x2), (3, .int x3)] → k_18 h x1 x2 x3 = some o → W p l e room_1 s m #[Value.ref b] below meth c H locs (hS h - hS h0) (hL h - hL h0) (lw_Z below #[Value.ref b] s) (F0 m 18 ls [])) (mk_18 : ∀ (h : Hp) (x1 : Nat) (x2 : Nat) (x3 : Int32), k_18 h x1 x2 x3 = some o → Le h o.2) {h : Hp} {x1 : Nat} {x2 : Nat} {x3 : Int32} {t0 : Int32} {H : Heap} {locs : List Loc} (k_x1 : hK h x1 = 11) (k_x2 : hK h x2 = 15) (hkl : Kl h0 h) (hW : Wx X h H) (hZ : va_S (aA (eB X)) s.heap H locs) (ls : Array Slot) (hl : lv_has ls 4 [(0, .ref b), (1, .ref x1), (2, .ref x2), (3, .int x3)]) (hE : sL_law_851 F L xs k_18 h x1 x2 x3 t0 = some o) : W p l e room_1 s m #[Value.ref b] below meth c H locs (hS h - hS h0) (hL h - hL h0) (lw_Z below #[Value.ref b] s) (F0 m 851 ls [.int t0]) := by
  refine lv_pop C.1 C.2.1 dL_law_851 rfl ?_
  refine lv_aload_n C.1 C.2.1 dL_law_852 rfl (lv_at hl 2 rfl) ?_
  refine lv_aload_n C.1 C.2.1 dL_law_853 rfl (lv_at hl 0 rfl) ?_
  refine lv_iload_n C.1 C.2.1 dL_law_854 rfl (lv_at hl 3 rfl) ?_
  refine lv_iconst (v := (1 : Int32)) C.1 C.2.1 dL_law_855 (by decide) ?_
  refine lv_iadd C.1 C.2.1 dL_law_856 ?_
  obtain ⟨g_1, hE⟩ := gd_e hE
  refine va_sld C.1 C.2.1 hX hbl hbA hZ g_1 dL_law_857 ?_
  obtain ⟨o_2, eo_2, hE⟩ := cl_e hE
  have m1 := moX15_back eo_2
  have m2 := moL_law_861 mk_18 hE
  refine x_kI (o := o_2) (z_runV (As := [.int (xs (x3 + (1 : Int32)).toNatClampNeg)]) (rest := []) C (ct_X15_back l X k_x2 eo_2) cw_L_110 hW hZ k_x2 (by decide) rfl rfl rfl hl.1 (Nat.le_of_ble_eq_true rfl) rfl dL_law_858 ⟨Nat.le_of_ble_eq_true rfl, Nat.le_of_ble_eq_true rfl⟩ ⟨Nat.le_trans (rm_ok0 hkl m1 m2).1 hRm.1, Nat.le_trans (rm_ok0 hkl m1 m2).2 hRm.2⟩) hZ (fun _ _ hW km hZ => ?_)
  replace hkl := hkl.tr km.l
  refine x_wc km ?_
  replace k_x1 := km.at k_x1 (by decide)
  replace k_x2 := km.at k_x2 (by decide)
  exact bL_law_861 C hX hbl hbA hbase hRm ho hk_18 mk_18 k_x1 k_x2 hkl hW hZ _ (lv_sub hl [0, 1, 2, 3] rfl) hE
set_option maxRecDepth 20000 in
theorem bL_law_894 {p : Program} {l : Launch} {e : Env} {s : State} {m : MethodId} {below : List Frame} {meth : Method} {c : Code} {X : Ec} {h0 : Hp} {o : Int32 × Hp} {k_18 : Hp → Nat → Nat → Int32 → Option (Int32 × Hp)} {F : Nat} {mn : String} {b L : Nat} {xs : Nat → Int32} (C : Cx X p s m #[Value.ref b] meth c RL code 4 ret mn) (hX : va_X b L xs s s.heap) (hbl : b < s.heap.size) (hbA : ¬ aA (eB X) b) (hbase : eB X = s.heap.size) (hRm : hS o.2 - hS h0 ≤ room_1.cells ∧ hL o.2 - hL h0 ≤ room_1.slots) (ho : o.1 = 1) (hk_18 : ∀ (h : Hp) (x1 : Nat) (x2 : Nat) (x3 : Int32) (H : Heap) (locs : List Loc), hK h x1 = 11 → hK h x2 = 15 → Kl h0 h → Wx X h H → va_S (aA (eB X)) s.heap H locs → ∀ (ls : Array Slot), lv_has ls 4 [(0, .ref b), (1, .ref x1), (2, .ref x2), (3, .int x3)] → k_18 h x1 x2 x3 = some o → W p l e room_1 s m #[Value.ref b] below meth c H locs (hS h - hS h0) (hL h - hL h0) (lw_Z below #[Value.ref b] s) (F0 m 18 ls [])) (mk_18 : ∀ (h : Hp) (x1 : Nat) (x2 : Nat) (x3 : Int32), k_18 h x1 x2 x3 = some o → Le h o.2) {h : Hp} {x1 : Nat} {x2 : Nat} {x3 : Int32} {t0 : Int32} {H : Heap} {locs : List Loc} (k_x1 : hK h x1 = 11) (k_x2 : hK h x2 = 15) (hkl : Kl h0 h) (hW : Wx X h H) (hZ : va_S (aA (eB X)) s.heap H locs) (ls : Array Slot) (hl : lv_has ls 4 [(0, .ref b), (1, .ref x1), (2, .ref x2), (3, .int x3)]) (hE : sL_law_894 F L xs k_18 h x1 x2 x3 t0 = some o) : W p l e room_1 s m #[Value.ref b] below meth c H locs (hS h - hS h0) (hL h - hL h0) (lw_Z below #[Value.ref b] s) (F0 m 894 ls [.int t0]) := by
  refine lv_pop C.1 C.2.1 dL_law_894 rfl ?_
  refine lv_goto (tgt := 1277) C.1 C.2.1 dL_law_895 (by decide) ?_
  exact bL_law_1277 C hX hbl hbA hbase hRm ho hk_18 mk_18 k_x1 k_x2 hkl hW hZ _ (lv_sub hl [0, 1, 2, 3] rfl) hE
set_option maxRecDepth 20000 in
theorem bL_law_879 {p : Program} {l : Launch} {e : Env} {s : State} {m : MethodId} {below : List Frame} {meth : Method} {c : Code} {X : Ec} {h0 : Hp} {o : Int32 × Hp} {k_18 : Hp → Nat → Nat → Int32 → Option (Int32 × Hp)} {F : Nat} {mn : String} {b L : Nat} {xs : Nat → Int32} (C : Cx X p s m #[Value.ref b] meth c RL code 4 ret mn) (hX : va_X b L xs s s.heap) (hbl : b < s.heap.size) (hbA : ¬ aA (eB X) b) (hbase : eB X = s.heap.size) (hRm : hS o.2 - hS h0 ≤ room_1.cells ∧ hL o.2 - hL h0 ≤ room_1.slots) (ho : o.1 = 1) (hk_18 : ∀ (h : Hp) (x1 : Nat) (x2 : Nat) (x3 : Int32) (H : Heap) (locs : List Loc), hK h x1 = 11 → hK h x2 = 15 → Kl h0 h → Wx X h H → va_S (aA (eB X)) s.heap H locs → ∀ (ls : Array Slot), lv_has ls 4 [(0, .ref b), (1, .ref x1), (2, .ref x2), (3, .int x3)] → k_18 h x1 x2 x3 = some o → W p l e room_1 s m #[Value.ref b] below meth c H locs (hS h - hS h0) (hL h - hL h0) (lw_Z below #[Value.ref b] s) (F0 m 18 ls [])) (mk_18 : ∀ (h : Hp) (x1 : Nat) (x2 : Nat) (x3 : Int32), k_18 h x1 x2 x3 = some o → Le h o.2) {h : Hp} {x1 : Nat} {x2 : Nat} {x3 : Int32} {t0 : Int32} {H : Heap} {locs : List Loc} (k_x1 : hK h x1 = 11) (k_x2 : hK h x2 = 15) (hkl : Kl h0 h) (hW : Wx X h H) (hZ : va_S (aA (eB X)) s.heap H locs) (ls : Array Slot) (hl : lv_has ls 4 [(0, .ref b), (1, .ref x1), (2, .ref x2), (3, .int x3)]) (hE : sL_law_879 F L xs k_18 h x1 x2 x3 t0 = some o) : W p l e room_1 s m #[Value.ref b] below meth c H locs (hS h - hS h0) (hL h - hL h0) (lw_Z below #[Value.ref b] s) (F0 m 879 ls [.int t0]) := by
  refine lv_pop C.1 C.2.1 dL_law_879 rfl ?_
  refine lv_aload_n C.1 C.2.1 dL_law_880 rfl (lv_at hl 2 rfl) ?_
  refine lv_aload_n C.1 C.2.1 dL_law_881 rfl (lv_at hl 0 rfl) ?_
  refine lv_iload_n C.1 C.2.1 dL_law_882 rfl (lv_at hl 3 rfl) ?_
  refine lv_iconst (v := (1 : Int32)) C.1 C.2.1 dL_law_883 (by decide) ?_
  refine lv_iadd C.1 C.2.1 dL_law_884 ?_
  obtain ⟨g_1, hE⟩ := gd_e hE
  refine va_sld C.1 C.2.1 hX hbl hbA hZ g_1 dL_law_885 ?_
  refine lv_aload_n C.1 C.2.1 dL_law_886 rfl (lv_at hl 0 rfl) ?_
  refine lv_iload_n C.1 C.2.1 dL_law_887 rfl (lv_at hl 3 rfl) ?_
  refine lv_iconst (v := (2 : Int32)) C.1 C.2.1 dL_law_888 (by decide) ?_
  refine lv_iadd C.1 C.2.1 dL_law_889 ?_
  obtain ⟨g_2, hE⟩ := gd_e hE
  refine va_sld C.1 C.2.1 hX hbl hbA hZ g_2 dL_law_890 ?_
  obtain ⟨o_3, eo_3, hE⟩ := cl_e hE
  have m1 := moX15_game eo_3
  have m2 := moL_law_894 mk_18 hE
  refine x_kIA (o := o_3) hkl (z_runV (As := [.int (xs (x3 + (1 : Int32)).toNatClampNeg), .int (xs (x3 + (2 : Int32)).toNatClampNeg)]) (rest := []) C (ct_X15_game l X F k_x2 eo_3) cw_L_114 hW hZ k_x2 (by decide) rfl rfl rfl hl.1 (Nat.le_of_ble_eq_true rfl) rfl dL_law_891 ⟨Nat.le_of_ble_eq_true rfl, Nat.le_of_ble_eq_true rfl⟩ ⟨Nat.le_trans (rm_ok hkl m1 m2).1 hRm.1, Nat.le_trans (rm_ok hkl m1 m2).2 hRm.2⟩) hZ (fun _ _ hW km hZ => ?_)
  replace hkl := hkl.tr km
  replace k_x1 := km.at k_x1 (by decide)
  replace k_x2 := km.at k_x2 (by decide)
  exact bL_law_894 C hX hbl hbA hbase hRm ho hk_18 mk_18 k_x1 k_x2 hkl hW hZ _ (lv_sub hl [0, 1, 2, 3] rfl) hE
set_option maxRecDepth 20000 in
theorem bL_law_927 {p : Program} {l : Launch} {e : Env} {s : State} {m : MethodId} {below : List Frame} {meth : Method} {c : Code} {X : Ec} {h0 : Hp} {o : Int32 × Hp} {k_18 : Hp → Nat → Nat → Int32 → Option (Int32 × Hp)} {F : Nat} {mn : String} {b L : Nat} {xs : Nat → Int32} (C : Cx X p s m #[Value.ref b] meth c RL code 4 ret mn) (hX : va_X b L xs s s.heap) (hbl : b < s.heap.size) (hbA : ¬ aA (eB X) b) (hbase : eB X = s.heap.size) (hRm : hS o.2 - hS h0 ≤ room_1.cells ∧ hL o.2 - hL h0 ≤ room_1.slots) (ho : o.1 = 1) (hk_18 : ∀ (h : Hp) (x1 : Nat) (x2 : Nat) (x3 : Int32) (H : Heap) (locs : List Loc), hK h x1 = 11 → hK h x2 = 15 → Kl h0 h → Wx X h H → va_S (aA (eB X)) s.heap H locs → ∀ (ls : Array Slot), lv_has ls 4 [(0, .ref b), (1, .ref x1), (2, .ref x2), (3, .int x3)] → k_18 h x1 x2 x3 = some o → W p l e room_1 s m #[Value.ref b] below meth c H locs (hS h - hS h0) (hL h - hL h0) (lw_Z below #[Value.ref b] s) (F0 m 18 ls [])) (mk_18 : ∀ (h : Hp) (x1 : Nat) (x2 : Nat) (x3 : Int32), k_18 h x1 x2 x3 = some o → Le h o.2) {h : Hp} {x1 : Nat} {x2 : Nat} {x3 : Int32} {t0 : Int32} {H : Heap} {locs : List Loc} (k_x1 : hK h x1 = 11) (k_x2 : hK h x2 = 15) (hkl : Kl h0 h) (hW : Wx X h H) (hZ : va_S (aA (eB X)) s.heap H locs) (ls : Array Slot) (hl : lv_has ls 4 [(0, .ref b), (1, .ref x1), (2, .ref x2), (3, .int x3)]) (hE : sL_law_927 F L xs k_18 h x1 x2 x3 t0 = some o) : W p l e room_1 s m #[Value.ref b] below meth c H locs (hS h - hS h0) (hL h - hL h0) (lw_Z below #[Value.ref b] s) (F0 m 927 ls [.int t0]) := by
  refine lv_pop C.1 C.2.1 dL_law_927 rfl ?_
  refine lv_goto (tgt := 1277) C.1 C.2.1 dL_law_928 (by decide) ?_
  exact bL_law_1277 C hX hbl hbA hbase hRm ho hk_18 mk_18 k_x1 k_x2 hkl hW hZ _ (lv_sub hl [0, 1, 2, 3] rfl) hE
set_option maxRecDepth 20000 in
theorem bL_law_912 {p : Program} {l : Launch} {e : Env} {s : State} {m : MethodId} {below : List Frame} {meth : Method} {c : Code} {X : Ec} {h0 : Hp} {o : Int32 × Hp} {k_18 : Hp → Nat → Nat → Int32 → Option (Int32 × Hp)} {F : Nat} {mn : String} {b L : Nat} {xs : Nat → Int32} (C : Cx X p s m #[Value.ref b] meth c RL code 4 ret mn) (hX : va_X b L xs s s.heap) (hbl : b < s.heap.size) (hbA : ¬ aA (eB X) b) (hbase : eB X = s.heap.size) (hRm : hS o.2 - hS h0 ≤ room_1.cells ∧ hL o.2 - hL h0 ≤ room_1.slots) (ho : o.1 = 1) (hk_18 : ∀ (h : Hp) (x1 : Nat) (x2 : Nat) (x3 : Int32) (H : Heap) (locs : List Loc), hK h x1 = 11 → hK h x2 = 15 → Kl h0 h → Wx X h H → va_S (aA (eB X)) s.heap H locs → ∀ (ls : Array Slot), lv_has ls 4 [(0, .ref b), (1, .ref x1), (2, .ref x2), (3, .int x3)] → k_18 h x1 x2 x3 = some o → W p l e room_1 s m #[Value.ref b] below meth c H locs (hS h - hS h0) (hL h - hL h0) (lw_Z below #[Value.ref b] s) (F0 m 18 ls [])) (mk_18 : ∀ (h : Hp) (x1 : Nat) (x2 : Nat) (x3 : Int32), k_18 h x1 x2 x3 = some o → Le h o.2) {h : Hp} {x1 : Nat} {x2 : Nat} {x3 : Int32} {t0 : Int32} {H : Heap} {locs : List Loc} (k_x1 : hK h x1 = 11) (k_x2 : hK h x2 = 15) (hkl : Kl h0 h) (hW : Wx X h H) (hZ : va_S (aA (eB X)) s.heap H locs) (ls : Array Slot) (hl : lv_has ls 4 [(0, .ref b), (1, .ref x1), (2, .ref x2), (3, .int x3)]) (hE : sL_law_912 F L xs k_18 h x1 x2 x3 t0 = some o) : W p l e room_1 s m #[Value.ref b] below meth c H locs (hS h - hS h0) (hL h - hL h0) (lw_Z below #[Value.ref b] s) (F0 m 912 ls [.int t0]) := by
  refine lv_pop C.1 C.2.1 dL_law_912 rfl ?_
  refine lv_aload_n C.1 C.2.1 dL_law_913 rfl (lv_at hl 2 rfl) ?_
  refine lv_aload_n C.1 C.2.1 dL_law_914 rfl (lv_at hl 0 rfl) ?_
  refine lv_iload_n C.1 C.2.1 dL_law_915 rfl (lv_at hl 3 rfl) ?_
  refine lv_iconst (v := (1 : Int32)) C.1 C.2.1 dL_law_916 (by decide) ?_
  refine lv_iadd C.1 C.2.1 dL_law_917 ?_
  obtain ⟨g_1, hE⟩ := gd_e hE
  refine va_sld C.1 C.2.1 hX hbl hbA hZ g_1 dL_law_918 ?_
  refine lv_aload_n C.1 C.2.1 dL_law_919 rfl (lv_at hl 0 rfl) ?_
  refine lv_iload_n C.1 C.2.1 dL_law_920 rfl (lv_at hl 3 rfl) ?_
  refine lv_iconst (v := (2 : Int32)) C.1 C.2.1 dL_law_921 (by decide) ?_
  refine lv_iadd C.1 C.2.1 dL_law_922 ?_
  obtain ⟨g_2, hE⟩ := gd_e hE
  refine va_sld C.1 C.2.1 hX hbl hbA hZ g_2 dL_law_923 ?_
  obtain ⟨o_3, eo_3, hE⟩ := cl_e hE
  have m1 := moX15_played eo_3
  have m2 := moL_law_927 mk_18 hE
  refine x_kI (o := o_3) (z_runV (As := [.int (xs (x3 + (1 : Int32)).toNatClampNeg), .int (xs (x3 + (2 : Int32)).toNatClampNeg)]) (rest := []) C (ct_X15_played l X k_x2 eo_3) cw_L_118 hW hZ k_x2 (by decide) rfl rfl rfl hl.1 (Nat.le_of_ble_eq_true rfl) rfl dL_law_924 ⟨Nat.le_of_ble_eq_true rfl, Nat.le_of_ble_eq_true rfl⟩ ⟨Nat.le_trans (rm_ok0 hkl m1 m2).1 hRm.1, Nat.le_trans (rm_ok0 hkl m1 m2).2 hRm.2⟩) hZ (fun _ _ hW km hZ => ?_)
  replace hkl := hkl.tr km.l
  refine x_wc km ?_
  replace k_x1 := km.at k_x1 (by decide)
  replace k_x2 := km.at k_x2 (by decide)
  exact bL_law_927 C hX hbl hbA hbase hRm ho hk_18 mk_18 k_x1 k_x2 hkl hW hZ _ (lv_sub hl [0, 1, 2, 3] rfl) hE
set_option maxRecDepth 20000 in
theorem bL_law_950 {p : Program} {l : Launch} {e : Env} {s : State} {m : MethodId} {below : List Frame} {meth : Method} {c : Code} {X : Ec} {h0 : Hp} {o : Int32 × Hp} {k_18 : Hp → Nat → Nat → Int32 → Option (Int32 × Hp)} {F : Nat} {mn : String} {b L : Nat} {xs : Nat → Int32} (C : Cx X p s m #[Value.ref b] meth c RL code 4 ret mn) (hX : va_X b L xs s s.heap) (hbl : b < s.heap.size) (hbA : ¬ aA (eB X) b) (hbase : eB X = s.heap.size) (hRm : hS o.2 - hS h0 ≤ room_1.cells ∧ hL o.2 - hL h0 ≤ room_1.slots) (ho : o.1 = 1) (hk_18 : ∀ (h : Hp) (x1 : Nat) (x2 : Nat) (x3 : Int32) (H : Heap) (locs : List Loc), hK h x1 = 11 → hK h x2 = 15 → Kl h0 h → Wx X h H → va_S (aA (eB X)) s.heap H locs → ∀ (ls : Array Slot), lv_has ls 4 [(0, .ref b), (1, .ref x1), (2, .ref x2), (3, .int x3)] → k_18 h x1 x2 x3 = some o → W p l e room_1 s m #[Value.ref b] below meth c H locs (hS h - hS h0) (hL h - hL h0) (lw_Z below #[Value.ref b] s) (F0 m 18 ls [])) (mk_18 : ∀ (h : Hp) (x1 : Nat) (x2 : Nat) (x3 : Int32), k_18 h x1 x2 x3 = some o → Le h o.2) {h : Hp} {x1 : Nat} {x2 : Nat} {x3 : Int32} {t0 : Int32} {H : Heap} {locs : List Loc} (k_x1 : hK h x1 = 11) (k_x2 : hK h x2 = 15) (hkl : Kl h0 h) (hW : Wx X h H) (hZ : va_S (aA (eB X)) s.heap H locs) (ls : Array Slot) (hl : lv_has ls 4 [(0, .ref b), (1, .ref x1), (2, .ref x2), (3, .int x3)]) (hE : sL_law_950 F L xs k_18 h x1 x2 x3 t0 = some o) : W p l e room_1 s m #[Value.ref b] below meth c H locs (hS h - hS h0) (hL h - hL h0) (lw_Z below #[Value.ref b] s) (F0 m 950 ls [.int t0]) := by
  refine lv_pop C.1 C.2.1 dL_law_950 rfl ?_
  refine lv_goto (tgt := 1277) C.1 C.2.1 dL_law_951 (by decide) ?_
  exact bL_law_1277 C hX hbl hbA hbase hRm ho hk_18 mk_18 k_x1 k_x2 hkl hW hZ _ (lv_sub hl [0, 1, 2, 3] rfl) hE
set_option maxRecDepth 20000 in
theorem bL_law_940 {p : Program} {l : Launch} {e : Env} {s : State} {m : MethodId} {below : List Frame} {meth : Method} {c : Code} {X : Ec} {h0 : Hp} {o : Int32 × Hp} {k_18 : Hp → Nat → Nat → Int32 → Option (Int32 × Hp)} {F : Nat} {mn : String} {b L : Nat} {xs : Nat → Int32} (C : Cx X p s m #[Value.ref b] meth c RL code 4 ret mn) (hX : va_X b L xs s s.heap) (hbl : b < s.heap.size) (hbA : ¬ aA (eB X) b) (hbase : eB X = s.heap.size) (hRm : hS o.2 - hS h0 ≤ room_1.cells ∧ hL o.2 - hL h0 ≤ room_1.slots) (ho : o.1 = 1) (hk_18 : ∀ (h : Hp) (x1 : Nat) (x2 : Nat) (x3 : Int32) (H : Heap) (locs : List Loc), hK h x1 = 11 → hK h x2 = 15 → Kl h0 h → Wx X h H → va_S (aA (eB X)) s.heap H locs → ∀ (ls : Array Slot), lv_has ls 4 [(0, .ref b), (1, .ref x1), (2, .ref x2), (3, .int x3)] → k_18 h x1 x2 x3 = some o → W p l e room_1 s m #[Value.ref b] below meth c H locs (hS h - hS h0) (hL h - hL h0) (lw_Z below #[Value.ref b] s) (F0 m 18 ls [])) (mk_18 : ∀ (h : Hp) (x1 : Nat) (x2 : Nat) (x3 : Int32), k_18 h x1 x2 x3 = some o → Le h o.2) {h : Hp} {x1 : Nat} {x2 : Nat} {x3 : Int32} {t0 : Int32} {H : Heap} {locs : List Loc} (k_x1 : hK h x1 = 11) (k_x2 : hK h x2 = 15) (hkl : Kl h0 h) (hW : Wx X h H) (hZ : va_S (aA (eB X)) s.heap H locs) (ls : Array Slot) (hl : lv_has ls 4 [(0, .ref b), (1, .ref x1), (2, .ref x2), (3, .int x3)]) (hE : sL_law_940 F L xs k_18 h x1 x2 x3 t0 = some o) : W p l e room_1 s m #[Value.ref b] below meth c H locs (hS h - hS h0) (hL h - hL h0) (lw_Z below #[Value.ref b] s) (F0 m 940 ls [.int t0]) := by
  refine lv_pop C.1 C.2.1 dL_law_940 rfl ?_
  refine lv_aload_n C.1 C.2.1 dL_law_941 rfl (lv_at hl 2 rfl) ?_
  refine lv_aload_n C.1 C.2.1 dL_law_942 rfl (lv_at hl 0 rfl) ?_
  refine lv_iload_n C.1 C.2.1 dL_law_943 rfl (lv_at hl 3 rfl) ?_
  refine lv_iconst (v := (1 : Int32)) C.1 C.2.1 dL_law_944 (by decide) ?_
  refine lv_iadd C.1 C.2.1 dL_law_945 ?_
  obtain ⟨g_1, hE⟩ := gd_e hE
  refine va_sld C.1 C.2.1 hX hbl hbA hZ g_1 dL_law_946 ?_
  obtain ⟨o_2, eo_2, hE⟩ := cl_e hE
  have m1 := moX15_now eo_2
  have m2 := moL_law_950 mk_18 hE
  refine x_kIA (o := o_2) hkl (z_runV (As := [.int (xs (x3 + (1 : Int32)).toNatClampNeg)]) (rest := []) C (ct_X15_now l X F k_x2 eo_2) cw_L_122 hW hZ k_x2 (by decide) rfl rfl rfl hl.1 (Nat.le_of_ble_eq_true rfl) rfl dL_law_947 ⟨Nat.le_of_ble_eq_true rfl, Nat.le_of_ble_eq_true rfl⟩ ⟨Nat.le_trans (rm_ok hkl m1 m2).1 hRm.1, Nat.le_trans (rm_ok hkl m1 m2).2 hRm.2⟩) hZ (fun _ _ hW km hZ => ?_)
  replace hkl := hkl.tr km
  replace k_x1 := km.at k_x1 (by decide)
  replace k_x2 := km.at k_x2 (by decide)
  exact bL_law_950 C hX hbl hbA hbase hRm ho hk_18 mk_18 k_x1 k_x2 hkl hW hZ _ (lv_sub hl [0, 1, 2, 3] rfl) hE
set_option maxRecDepth 20000 in
theorem bL_law_983 {p : Program} {l : Launch} {e : Env} {s : State} {m : MethodId} {below : List Frame} {meth : Method} {c : Code} {X : Ec} {h0 : Hp} {o : Int32 × Hp} {k_18 : Hp → Nat → Nat → Int32 → Option (Int32 × Hp)} {F : Nat} {mn : String} {b L : Nat} {xs : Nat → Int32} (C : Cx X p s m #[Value.ref b] meth c RL code 4 ret mn) (hX : va_X b L xs s s.heap) (hbl : b < s.heap.size) (hbA : ¬ aA (eB X) b) (hbase : eB X = s.heap.size) (hRm : hS o.2 - hS h0 ≤ room_1.cells ∧ hL o.2 - hL h0 ≤ room_1.slots) (ho : o.1 = 1) (hk_18 : ∀ (h : Hp) (x1 : Nat) (x2 : Nat) (x3 : Int32) (H : Heap) (locs : List Loc), hK h x1 = 11 → hK h x2 = 15 → Kl h0 h → Wx X h H → va_S (aA (eB X)) s.heap H locs → ∀ (ls : Array Slot), lv_has ls 4 [(0, .ref b), (1, .ref x1), (2, .ref x2), (3, .int x3)] → k_18 h x1 x2 x3 = some o → W p l e room_1 s m #[Value.ref b] below meth c H locs (hS h - hS h0) (hL h - hL h0) (lw_Z below #[Value.ref b] s) (F0 m 18 ls [])) (mk_18 : ∀ (h : Hp) (x1 : Nat) (x2 : Nat) (x3 : Int32), k_18 h x1 x2 x3 = some o → Le h o.2) {h : Hp} {x1 : Nat} {x2 : Nat} {x3 : Int32} {t0 : Int32} {H : Heap} {locs : List Loc} (k_x1 : hK h x1 = 11) (k_x2 : hK h x2 = 15) (hkl : Kl h0 h) (hW : Wx X h H) (hZ : va_S (aA (eB X)) s.heap H locs) (ls : Array Slot) (hl : lv_has ls 4 [(0, .ref b), (1, .ref x1), (2, .ref x2), (3, .int x3)]) (hE : sL_law_983 F L xs k_18 h x1 x2 x3 t0 = some o) : W p l e room_1 s m #[Value.ref b] below meth c H locs (hS h - hS h0) (hL h - hL h0) (lw_Z below #[Value.ref b] s) (F0 m 983 ls [.int t0]) := by
  refine lv_pop C.1 C.2.1 dL_law_983 rfl ?_
  refine lv_goto (tgt := 1277) C.1 C.2.1 dL_law_984 (by decide) ?_
  exact bL_law_1277 C hX hbl hbA hbase hRm ho hk_18 mk_18 k_x1 k_x2 hkl hW hZ _ (lv_sub hl [0, 1, 2, 3] rfl) hE
set_option maxRecDepth 20000 in
theorem bL_law_968 {p : Program} {l : Launch} {e : Env} {s : State} {m : MethodId} {below : List Frame} {meth : Method} {c : Code} {X : Ec} {h0 : Hp} {o : Int32 × Hp} {k_18 : Hp → Nat → Nat → Int32 → Option (Int32 × Hp)} {F : Nat} {mn : String} {b L : Nat} {xs : Nat → Int32} (C : Cx X p s m #[Value.ref b] meth c RL code 4 ret mn) (hX : va_X b L xs s s.heap) (hbl : b < s.heap.size) (hbA : ¬ aA (eB X) b) (hbase : eB X = s.heap.size) (hRm : hS o.2 - hS h0 ≤ room_1.cells ∧ hL o.2 - hL h0 ≤ room_1.slots) (ho : o.1 = 1) (hk_18 : ∀ (h : Hp) (x1 : Nat) (x2 : Nat) (x3 : Int32) (H : Heap) (locs : List Loc), hK h x1 = 11 → hK h x2 = 15 → Kl h0 h → Wx X h H → va_S (aA (eB X)) s.heap H locs → ∀ (ls : Array Slot), lv_has ls 4 [(0, .ref b), (1, .ref x1), (2, .ref x2), (3, .int x3)] → k_18 h x1 x2 x3 = some o → W p l e room_1 s m #[Value.ref b] below meth c H locs (hS h - hS h0) (hL h - hL h0) (lw_Z below #[Value.ref b] s) (F0 m 18 ls [])) (mk_18 : ∀ (h : Hp) (x1 : Nat) (x2 : Nat) (x3 : Int32), k_18 h x1 x2 x3 = some o → Le h o.2) {h : Hp} {x1 : Nat} {x2 : Nat} {x3 : Int32} {t0 : Int32} {H : Heap} {locs : List Loc} (k_x1 : hK h x1 = 11) (k_x2 : hK h x2 = 15) (hkl : Kl h0 h) (hW : Wx X h H) (hZ : va_S (aA (eB X)) s.heap H locs) (ls : Array Slot) (hl : lv_has ls 4 [(0, .ref b), (1, .ref x1), (2, .ref x2), (3, .int x3)]) (hE : sL_law_968 F L xs k_18 h x1 x2 x3 t0 = some o) : W p l e room_1 s m #[Value.ref b] below meth c H locs (hS h - hS h0) (hL h - hL h0) (lw_Z below #[Value.ref b] s) (F0 m 968 ls [.int t0]) := by
  refine lv_pop C.1 C.2.1 dL_law_968 rfl ?_
  refine lv_aload_n C.1 C.2.1 dL_law_969 rfl (lv_at hl 2 rfl) ?_
  refine lv_aload_n C.1 C.2.1 dL_law_970 rfl (lv_at hl 0 rfl) ?_
  refine lv_iload_n C.1 C.2.1 dL_law_971 rfl (lv_at hl 3 rfl) ?_
  refine lv_iconst (v := (1 : Int32)) C.1 C.2.1 dL_law_972 (by decide) ?_
  refine lv_iadd C.1 C.2.1 dL_law_973 ?_
  obtain ⟨g_1, hE⟩ := gd_e hE
  refine va_sld C.1 C.2.1 hX hbl hbA hZ g_1 dL_law_974 ?_
  refine lv_aload_n C.1 C.2.1 dL_law_975 rfl (lv_at hl 0 rfl) ?_
  refine lv_iload_n C.1 C.2.1 dL_law_976 rfl (lv_at hl 3 rfl) ?_
  refine lv_iconst (v := (2 : Int32)) C.1 C.2.1 dL_law_977 (by decide) ?_
  refine lv_iadd C.1 C.2.1 dL_law_978 ?_
  obtain ⟨g_2, hE⟩ := gd_e hE
  refine va_sld C.1 C.2.1 hX hbl hbA hZ g_2 dL_law_979 ?_
  obtain ⟨o_3, eo_3, hE⟩ := cl_e hE
  have m1 := moX15_book eo_3
  have m2 := moL_law_983 mk_18 hE
  refine x_kIA (o := o_3) hkl (z_runV (As := [.int (xs (x3 + (1 : Int32)).toNatClampNeg), .int (xs (x3 + (2 : Int32)).toNatClampNeg)]) (rest := []) C (ct_X15_book l X F k_x2 eo_3) cw_L_126 hW hZ k_x2 (by decide) rfl rfl rfl hl.1 (Nat.le_of_ble_eq_true rfl) rfl dL_law_980 ⟨Nat.le_of_ble_eq_true rfl, Nat.le_of_ble_eq_true rfl⟩ ⟨Nat.le_trans (rm_ok hkl m1 m2).1 hRm.1, Nat.le_trans (rm_ok hkl m1 m2).2 hRm.2⟩) hZ (fun _ _ hW km hZ => ?_)
  replace hkl := hkl.tr km
  replace k_x1 := km.at k_x1 (by decide)
  replace k_x2 := km.at k_x2 (by decide)
  exact bL_law_983 C hX hbl hbA hbase hRm ho hk_18 mk_18 k_x1 k_x2 hkl hW hZ _ (lv_sub hl [0, 1, 2, 3] rfl) hE
set_option maxRecDepth 20000 in
theorem bL_law_1026 {p : Program} {l : Launch} {e : Env} {s : State} {m : MethodId} {below : List Frame} {meth : Method} {c : Code} {X : Ec} {h0 : Hp} {o : Int32 × Hp} {k_18 : Hp → Nat → Nat → Int32 → Option (Int32 × Hp)} {F : Nat} {mn : String} {b L : Nat} {xs : Nat → Int32} (C : Cx X p s m #[Value.ref b] meth c RL code 4 ret mn) (hX : va_X b L xs s s.heap) (hbl : b < s.heap.size) (hbA : ¬ aA (eB X) b) (hbase : eB X = s.heap.size) (hRm : hS o.2 - hS h0 ≤ room_1.cells ∧ hL o.2 - hL h0 ≤ room_1.slots) (ho : o.1 = 1) (hk_18 : ∀ (h : Hp) (x1 : Nat) (x2 : Nat) (x3 : Int32) (H : Heap) (locs : List Loc), hK h x1 = 11 → hK h x2 = 15 → Kl h0 h → Wx X h H → va_S (aA (eB X)) s.heap H locs → ∀ (ls : Array Slot), lv_has ls 4 [(0, .ref b), (1, .ref x1), (2, .ref x2), (3, .int x3)] → k_18 h x1 x2 x3 = some o → W p l e room_1 s m #[Value.ref b] below meth c H locs (hS h - hS h0) (hL h - hL h0) (lw_Z below #[Value.ref b] s) (F0 m 18 ls [])) (mk_18 : ∀ (h : Hp) (x1 : Nat) (x2 : Nat) (x3 : Int32), k_18 h x1 x2 x3 = some o → Le h o.2) {h : Hp} {x1 : Nat} {x2 : Nat} {x3 : Int32} {t0 : Int32} {H : Heap} {locs : List Loc} (k_x1 : hK h x1 = 11) (k_x2 : hK h x2 = 15) (hkl : Kl h0 h) (hW : Wx X h H) (hZ : va_S (aA (eB X)) s.heap H locs) (ls : Array Slot) (hl : lv_has ls 4 [(0, .ref b), (1, .ref x1), (2, .ref x2), (3, .int x3)]) (hE : sL_law_1026 F L xs k_18 h x1 x2 x3 t0 = some o) : W p l e room_1 s m #[Value.ref b] below meth c H locs (hS h - hS h0) (hL h - hL h0) (lw_Z below #[Value.ref b] s) (F0 m 1026 ls [.int t0]) := by
  refine lv_pop C.1 C.2.1 dL_law_1026 rfl ?_
  refine lv_goto (tgt := 1277) C.1 C.2.1 dL_law_1027 (by decide) ?_
  exact bL_law_1277 C hX hbl hbA hbase hRm ho hk_18 mk_18 k_x1 k_x2 hkl hW hZ _ (lv_sub hl [0, 1, 2, 3] rfl) hE
set_option maxRecDepth 20000 in
theorem bL_law_1006 {p : Program} {l : Launch} {e : Env} {s : State} {m : MethodId} {below : List Frame} {meth : Method} {c : Code} {X : Ec} {h0 : Hp} {o : Int32 × Hp} {k_18 : Hp → Nat → Nat → Int32 → Option (Int32 × Hp)} {F : Nat} {mn : String} {b L : Nat} {xs : Nat → Int32} (C : Cx X p s m #[Value.ref b] meth c RL code 4 ret mn) (hX : va_X b L xs s s.heap) (hbl : b < s.heap.size) (hbA : ¬ aA (eB X) b) (hbase : eB X = s.heap.size) (hRm : hS o.2 - hS h0 ≤ room_1.cells ∧ hL o.2 - hL h0 ≤ room_1.slots) (ho : o.1 = 1) (hk_18 : ∀ (h : Hp) (x1 : Nat) (x2 : Nat) (x3 : Int32) (H : Heap) (locs : List Loc), hK h x1 = 11 → hK h x2 = 15 → Kl h0 h → Wx X h H → va_S (aA (eB X)) s.heap H locs → ∀ (ls : Array Slot), lv_has ls 4 [(0, .ref b), (1, .ref x1), (2, .ref x2), (3, .int x3)] → k_18 h x1 x2 x3 = some o → W p l e room_1 s m #[Value.ref b] below meth c H locs (hS h - hS h0) (hL h - hL h0) (lw_Z below #[Value.ref b] s) (F0 m 18 ls [])) (mk_18 : ∀ (h : Hp) (x1 : Nat) (x2 : Nat) (x3 : Int32), k_18 h x1 x2 x3 = some o → Le h o.2) {h : Hp} {x1 : Nat} {x2 : Nat} {x3 : Int32} {t0 : Int32} {H : Heap} {locs : List Loc} (k_x1 : hK h x1 = 11) (k_x2 : hK h x2 = 15) (hkl : Kl h0 h) (hW : Wx X h H) (hZ : va_S (aA (eB X)) s.heap H locs) (ls : Array Slot) (hl : lv_has ls 4 [(0, .ref b), (1, .ref x1), (2, .ref x2), (3, .int x3)]) (hE : sL_law_1006 F L xs k_18 h x1 x2 x3 t0 = some o) : W p l e room_1 s m #[Value.ref b] below meth c H locs (hS h - hS h0) (hL h - hL h0) (lw_Z below #[Value.ref b] s) (F0 m 1006 ls [.int t0]) := by
  refine lv_pop C.1 C.2.1 dL_law_1006 rfl ?_
  refine lv_aload_n C.1 C.2.1 dL_law_1007 rfl (lv_at hl 2 rfl) ?_
  refine lv_aload_n C.1 C.2.1 dL_law_1008 rfl (lv_at hl 0 rfl) ?_
  refine lv_iload_n C.1 C.2.1 dL_law_1009 rfl (lv_at hl 3 rfl) ?_
  refine lv_iconst (v := (1 : Int32)) C.1 C.2.1 dL_law_1010 (by decide) ?_
  refine lv_iadd C.1 C.2.1 dL_law_1011 ?_
  obtain ⟨g_1, hE⟩ := gd_e hE
  refine va_sld C.1 C.2.1 hX hbl hbA hZ g_1 dL_law_1012 ?_
  refine lv_aload_n C.1 C.2.1 dL_law_1013 rfl (lv_at hl 0 rfl) ?_
  refine lv_iload_n C.1 C.2.1 dL_law_1014 rfl (lv_at hl 3 rfl) ?_
  refine lv_iconst (v := (2 : Int32)) C.1 C.2.1 dL_law_1015 (by decide) ?_
  refine lv_iadd C.1 C.2.1 dL_law_1016 ?_
  obtain ⟨g_2, hE⟩ := gd_e hE
  refine va_sld C.1 C.2.1 hX hbl hbA hZ g_2 dL_law_1017 ?_
  refine lv_aload_n C.1 C.2.1 dL_law_1018 rfl (lv_at hl 0 rfl) ?_
  refine lv_iload_n C.1 C.2.1 dL_law_1019 rfl (lv_at hl 3 rfl) ?_
  refine lv_iconst (v := (3 : Int32)) C.1 C.2.1 dL_law_1020 (by decide) ?_
  refine lv_iadd C.1 C.2.1 dL_law_1021 ?_
  obtain ⟨g_3, hE⟩ := gd_e hE
  refine va_sld C.1 C.2.1 hX hbl hbA hZ g_3 dL_law_1022 ?_
  obtain ⟨o_4, eo_4, hE⟩ := cl_e hE
  have m1 := moX15_sees eo_4
  have m2 := moL_law_1026 mk_18 hE
  refine x_kI (o := o_4) (z_runV (As := [.int (xs (x3 + (1 : Int32)).toNatClampNeg), .int (xs (x3 + (2 : Int32)).toNatClampNeg), .int (xs (x3 + (3 : Int32)).toNatClampNeg)]) (rest := []) C (ct_X15_sees l X F k_x2 eo_4) cw_L_130 hW hZ k_x2 (by decide) rfl rfl rfl hl.1 (Nat.le_of_ble_eq_true rfl) rfl dL_law_1023 ⟨Nat.le_of_ble_eq_true rfl, Nat.le_of_ble_eq_true rfl⟩ ⟨Nat.le_trans (rm_ok0 hkl m1 m2).1 hRm.1, Nat.le_trans (rm_ok0 hkl m1 m2).2 hRm.2⟩) hZ (fun _ _ hW km hZ => ?_)
  replace hkl := hkl.tr km.l
  refine x_wc km ?_
  replace k_x1 := km.at k_x1 (by decide)
  replace k_x2 := km.at k_x2 (by decide)
  exact bL_law_1026 C hX hbl hbA hbase hRm ho hk_18 mk_18 k_x1 k_x2 hkl hW hZ _ (lv_sub hl [0, 1, 2, 3] rfl) hE
set_option maxRecDepth 20000 in
theorem bL_law_1059 {p : Program} {l : Launch} {e : Env} {s : State} {m : MethodId} {below : List Frame} {meth : Method} {c : Code} {X : Ec} {h0 : Hp} {o : Int32 × Hp} {k_18 : Hp → Nat → Nat → Int32 → Option (Int32 × Hp)} {F : Nat} {mn : String} {b L : Nat} {xs : Nat → Int32} (C : Cx X p s m #[Value.ref b] meth c RL code 4 ret mn) (hX : va_X b L xs s s.heap) (hbl : b < s.heap.size) (hbA : ¬ aA (eB X) b) (hbase : eB X = s.heap.size) (hRm : hS o.2 - hS h0 ≤ room_1.cells ∧ hL o.2 - hL h0 ≤ room_1.slots) (ho : o.1 = 1) (hk_18 : ∀ (h : Hp) (x1 : Nat) (x2 : Nat) (x3 : Int32) (H : Heap) (locs : List Loc), hK h x1 = 11 → hK h x2 = 15 → Kl h0 h → Wx X h H → va_S (aA (eB X)) s.heap H locs → ∀ (ls : Array Slot), lv_has ls 4 [(0, .ref b), (1, .ref x1), (2, .ref x2), (3, .int x3)] → k_18 h x1 x2 x3 = some o → W p l e room_1 s m #[Value.ref b] below meth c H locs (hS h - hS h0) (hL h - hL h0) (lw_Z below #[Value.ref b] s) (F0 m 18 ls [])) (mk_18 : ∀ (h : Hp) (x1 : Nat) (x2 : Nat) (x3 : Int32), k_18 h x1 x2 x3 = some o → Le h o.2) {h : Hp} {x1 : Nat} {x2 : Nat} {x3 : Int32} {t0 : Int32} {H : Heap} {locs : List Loc} (k_x1 : hK h x1 = 11) (k_x2 : hK h x2 = 15) (hkl : Kl h0 h) (hW : Wx X h H) (hZ : va_S (aA (eB X)) s.heap H locs) (ls : Array Slot) (hl : lv_has ls 4 [(0, .ref b), (1, .ref x1), (2, .ref x2), (3, .int x3)]) (hE : sL_law_1059 F L xs k_18 h x1 x2 x3 t0 = some o) : W p l e room_1 s m #[Value.ref b] below meth c H locs (hS h - hS h0) (hL h - hL h0) (lw_Z below #[Value.ref b] s) (F0 m 1059 ls [.int t0]) := by
  refine lv_pop C.1 C.2.1 dL_law_1059 rfl ?_
  refine lv_goto (tgt := 1277) C.1 C.2.1 dL_law_1060 (by decide) ?_
  exact bL_law_1277 C hX hbl hbA hbase hRm ho hk_18 mk_18 k_x1 k_x2 hkl hW hZ _ (lv_sub hl [0, 1, 2, 3] rfl) hE
set_option maxRecDepth 20000 in
theorem bL_law_1044 {p : Program} {l : Launch} {e : Env} {s : State} {m : MethodId} {below : List Frame} {meth : Method} {c : Code} {X : Ec} {h0 : Hp} {o : Int32 × Hp} {k_18 : Hp → Nat → Nat → Int32 → Option (Int32 × Hp)} {F : Nat} {mn : String} {b L : Nat} {xs : Nat → Int32} (C : Cx X p s m #[Value.ref b] meth c RL code 4 ret mn) (hX : va_X b L xs s s.heap) (hbl : b < s.heap.size) (hbA : ¬ aA (eB X) b) (hbase : eB X = s.heap.size) (hRm : hS o.2 - hS h0 ≤ room_1.cells ∧ hL o.2 - hL h0 ≤ room_1.slots) (ho : o.1 = 1) (hk_18 : ∀ (h : Hp) (x1 : Nat) (x2 : Nat) (x3 : Int32) (H : Heap) (locs : List Loc), hK h x1 = 11 → hK h x2 = 15 → Kl h0 h → Wx X h H → va_S (aA (eB X)) s.heap H locs → ∀ (ls : Array Slot), lv_has ls 4 [(0, .ref b), (1, .ref x1), (2, .ref x2), (3, .int x3)] → k_18 h x1 x2 x3 = some o → W p l e room_1 s m #[Value.ref b] below meth c H locs (hS h - hS h0) (hL h - hL h0) (lw_Z below #[Value.ref b] s) (F0 m 18 ls [])) (mk_18 : ∀ (h : Hp) (x1 : Nat) (x2 : Nat) (x3 : Int32), k_18 h x1 x2 x3 = some o → Le h o.2) {h : Hp} {x1 : Nat} {x2 : Nat} {x3 : Int32} {t0 : Int32} {H : Heap} {locs : List Loc} (k_x1 : hK h x1 = 11) (k_x2 : hK h x2 = 15) (hkl : Kl h0 h) (hW : Wx X h H) (hZ : va_S (aA (eB X)) s.heap H locs) (ls : Array Slot) (hl : lv_has ls 4 [(0, .ref b), (1, .ref x1), (2, .ref x2), (3, .int x3)]) (hE : sL_law_1044 F L xs k_18 h x1 x2 x3 t0 = some o) : W p l e room_1 s m #[Value.ref b] below meth c H locs (hS h - hS h0) (hL h - hL h0) (lw_Z below #[Value.ref b] s) (F0 m 1044 ls [.int t0]) := by
  refine lv_pop C.1 C.2.1 dL_law_1044 rfl ?_
  refine lv_aload_n C.1 C.2.1 dL_law_1045 rfl (lv_at hl 2 rfl) ?_
  refine lv_aload_n C.1 C.2.1 dL_law_1046 rfl (lv_at hl 0 rfl) ?_
  refine lv_iload_n C.1 C.2.1 dL_law_1047 rfl (lv_at hl 3 rfl) ?_
  refine lv_iconst (v := (1 : Int32)) C.1 C.2.1 dL_law_1048 (by decide) ?_
  refine lv_iadd C.1 C.2.1 dL_law_1049 ?_
  obtain ⟨g_1, hE⟩ := gd_e hE
  refine va_sld C.1 C.2.1 hX hbl hbA hZ g_1 dL_law_1050 ?_
  refine lv_aload_n C.1 C.2.1 dL_law_1051 rfl (lv_at hl 0 rfl) ?_
  refine lv_iload_n C.1 C.2.1 dL_law_1052 rfl (lv_at hl 3 rfl) ?_
  refine lv_iconst (v := (2 : Int32)) C.1 C.2.1 dL_law_1053 (by decide) ?_
  refine lv_iadd C.1 C.2.1 dL_law_1054 ?_
  obtain ⟨g_2, hE⟩ := gd_e hE
  refine va_sld C.1 C.2.1 hX hbl hbA hZ g_2 dL_law_1055 ?_
  obtain ⟨o_3, eo_3, hE⟩ := cl_e hE
  have m1 := moX15_view eo_3
  have m2 := moL_law_1059 mk_18 hE
  refine x_kI (o := o_3) (z_runV (As := [.int (xs (x3 + (1 : Int32)).toNatClampNeg), .int (xs (x3 + (2 : Int32)).toNatClampNeg)]) (rest := []) C (ct_X15_view l X F k_x2 eo_3) cw_L_134 hW hZ k_x2 (by decide) rfl rfl rfl hl.1 (Nat.le_of_ble_eq_true rfl) rfl dL_law_1056 ⟨Nat.le_of_ble_eq_true rfl, Nat.le_of_ble_eq_true rfl⟩ ⟨Nat.le_trans (rm_ok0 hkl m1 m2).1 hRm.1, Nat.le_trans (rm_ok0 hkl m1 m2).2 hRm.2⟩) hZ (fun _ _ hW km hZ => ?_)
  replace hkl := hkl.tr km.l
  refine x_wc km ?_
  replace k_x1 := km.at k_x1 (by decide)
  replace k_x2 := km.at k_x2 (by decide)
  exact bL_law_1059 C hX hbl hbA hbase hRm ho hk_18 mk_18 k_x1 k_x2 hkl hW hZ _ (lv_sub hl [0, 1, 2, 3] rfl) hE
set_option maxRecDepth 20000 in
theorem bL_law_1082 {p : Program} {l : Launch} {e : Env} {s : State} {m : MethodId} {below : List Frame} {meth : Method} {c : Code} {X : Ec} {h0 : Hp} {o : Int32 × Hp} {k_18 : Hp → Nat → Nat → Int32 → Option (Int32 × Hp)} {F : Nat} {mn : String} {b L : Nat} {xs : Nat → Int32} (C : Cx X p s m #[Value.ref b] meth c RL code 4 ret mn) (hX : va_X b L xs s s.heap) (hbl : b < s.heap.size) (hbA : ¬ aA (eB X) b) (hbase : eB X = s.heap.size) (hRm : hS o.2 - hS h0 ≤ room_1.cells ∧ hL o.2 - hL h0 ≤ room_1.slots) (ho : o.1 = 1) (hk_18 : ∀ (h : Hp) (x1 : Nat) (x2 : Nat) (x3 : Int32) (H : Heap) (locs : List Loc), hK h x1 = 11 → hK h x2 = 15 → Kl h0 h → Wx X h H → va_S (aA (eB X)) s.heap H locs → ∀ (ls : Array Slot), lv_has ls 4 [(0, .ref b), (1, .ref x1), (2, .ref x2), (3, .int x3)] → k_18 h x1 x2 x3 = some o → W p l e room_1 s m #[Value.ref b] below meth c H locs (hS h - hS h0) (hL h - hL h0) (lw_Z below #[Value.ref b] s) (F0 m 18 ls [])) (mk_18 : ∀ (h : Hp) (x1 : Nat) (x2 : Nat) (x3 : Int32), k_18 h x1 x2 x3 = some o → Le h o.2) {h : Hp} {x1 : Nat} {x2 : Nat} {x3 : Int32} {t0 : Int32} {H : Heap} {locs : List Loc} (k_x1 : hK h x1 = 11) (k_x2 : hK h x2 = 15) (hkl : Kl h0 h) (hW : Wx X h H) (hZ : va_S (aA (eB X)) s.heap H locs) (ls : Array Slot) (hl : lv_has ls 4 [(0, .ref b), (1, .ref x1), (2, .ref x2), (3, .int x3)]) (hE : sL_law_1082 F L xs k_18 h x1 x2 x3 t0 = some o) : W p l e room_1 s m #[Value.ref b] below meth c H locs (hS h - hS h0) (hL h - hL h0) (lw_Z below #[Value.ref b] s) (F0 m 1082 ls [.int t0]) := by
  refine lv_pop C.1 C.2.1 dL_law_1082 rfl ?_
  refine lv_goto (tgt := 1277) C.1 C.2.1 dL_law_1083 (by decide) ?_
  exact bL_law_1277 C hX hbl hbA hbase hRm ho hk_18 mk_18 k_x1 k_x2 hkl hW hZ _ (lv_sub hl [0, 1, 2, 3] rfl) hE
set_option maxRecDepth 20000 in
theorem bL_law_1072 {p : Program} {l : Launch} {e : Env} {s : State} {m : MethodId} {below : List Frame} {meth : Method} {c : Code} {X : Ec} {h0 : Hp} {o : Int32 × Hp} {k_18 : Hp → Nat → Nat → Int32 → Option (Int32 × Hp)} {F : Nat} {mn : String} {b L : Nat} {xs : Nat → Int32} (C : Cx X p s m #[Value.ref b] meth c RL code 4 ret mn) (hX : va_X b L xs s s.heap) (hbl : b < s.heap.size) (hbA : ¬ aA (eB X) b) (hbase : eB X = s.heap.size) (hRm : hS o.2 - hS h0 ≤ room_1.cells ∧ hL o.2 - hL h0 ≤ room_1.slots) (ho : o.1 = 1) (hk_18 : ∀ (h : Hp) (x1 : Nat) (x2 : Nat) (x3 : Int32) (H : Heap) (locs : List Loc), hK h x1 = 11 → hK h x2 = 15 → Kl h0 h → Wx X h H → va_S (aA (eB X)) s.heap H locs → ∀ (ls : Array Slot), lv_has ls 4 [(0, .ref b), (1, .ref x1), (2, .ref x2), (3, .int x3)] → k_18 h x1 x2 x3 = some o → W p l e room_1 s m #[Value.ref b] below meth c H locs (hS h - hS h0) (hL h - hL h0) (lw_Z below #[Value.ref b] s) (F0 m 18 ls [])) (mk_18 : ∀ (h : Hp) (x1 : Nat) (x2 : Nat) (x3 : Int32), k_18 h x1 x2 x3 = some o → Le h o.2) {h : Hp} {x1 : Nat} {x2 : Nat} {x3 : Int32} {t0 : Int32} {H : Heap} {locs : List Loc} (k_x1 : hK h x1 = 11) (k_x2 : hK h x2 = 15) (hkl : Kl h0 h) (hW : Wx X h H) (hZ : va_S (aA (eB X)) s.heap H locs) (ls : Array Slot) (hl : lv_has ls 4 [(0, .ref b), (1, .ref x1), (2, .ref x2), (3, .int x3)]) (hE : sL_law_1072 F L xs k_18 h x1 x2 x3 t0 = some o) : W p l e room_1 s m #[Value.ref b] below meth c H locs (hS h - hS h0) (hL h - hL h0) (lw_Z below #[Value.ref b] s) (F0 m 1072 ls [.int t0]) := by
  refine lv_pop C.1 C.2.1 dL_law_1072 rfl ?_
  refine lv_aload_n C.1 C.2.1 dL_law_1073 rfl (lv_at hl 2 rfl) ?_
  refine lv_aload_n C.1 C.2.1 dL_law_1074 rfl (lv_at hl 0 rfl) ?_
  refine lv_iload_n C.1 C.2.1 dL_law_1075 rfl (lv_at hl 3 rfl) ?_
  refine lv_iconst (v := (1 : Int32)) C.1 C.2.1 dL_law_1076 (by decide) ?_
  refine lv_iadd C.1 C.2.1 dL_law_1077 ?_
  obtain ⟨g_1, hE⟩ := gd_e hE
  refine va_sld C.1 C.2.1 hX hbl hbA hZ g_1 dL_law_1078 ?_
  obtain ⟨o_2, eo_2, hE⟩ := cl_e hE
  have m1 := moX15_before eo_2
  have m2 := moL_law_1082 mk_18 hE
  refine x_kIA (o := o_2) hkl (z_runV (As := [.int (xs (x3 + (1 : Int32)).toNatClampNeg)]) (rest := []) C (ct_X15_before l X F k_x2 eo_2) cw_L_138 hW hZ k_x2 (by decide) rfl rfl rfl hl.1 (Nat.le_of_ble_eq_true rfl) rfl dL_law_1079 ⟨Nat.le_of_ble_eq_true rfl, Nat.le_of_ble_eq_true rfl⟩ ⟨Nat.le_trans (rm_ok hkl m1 m2).1 hRm.1, Nat.le_trans (rm_ok hkl m1 m2).2 hRm.2⟩) hZ (fun _ _ hW km hZ => ?_)
  replace hkl := hkl.tr km
  replace k_x1 := km.at k_x1 (by decide)
  replace k_x2 := km.at k_x2 (by decide)
  exact bL_law_1082 C hX hbl hbA hbase hRm ho hk_18 mk_18 k_x1 k_x2 hkl hW hZ _ (lv_sub hl [0, 1, 2, 3] rfl) hE
set_option maxRecDepth 20000 in
theorem bL_law_1105 {p : Program} {l : Launch} {e : Env} {s : State} {m : MethodId} {below : List Frame} {meth : Method} {c : Code} {X : Ec} {h0 : Hp} {o : Int32 × Hp} {k_18 : Hp → Nat → Nat → Int32 → Option (Int32 × Hp)} {F : Nat} {mn : String} {b L : Nat} {xs : Nat → Int32} (C : Cx X p s m #[Value.ref b] meth c RL code 4 ret mn) (hX : va_X b L xs s s.heap) (hbl : b < s.heap.size) (hbA : ¬ aA (eB X) b) (hbase : eB X = s.heap.size) (hRm : hS o.2 - hS h0 ≤ room_1.cells ∧ hL o.2 - hL h0 ≤ room_1.slots) (ho : o.1 = 1) (hk_18 : ∀ (h : Hp) (x1 : Nat) (x2 : Nat) (x3 : Int32) (H : Heap) (locs : List Loc), hK h x1 = 11 → hK h x2 = 15 → Kl h0 h → Wx X h H → va_S (aA (eB X)) s.heap H locs → ∀ (ls : Array Slot), lv_has ls 4 [(0, .ref b), (1, .ref x1), (2, .ref x2), (3, .int x3)] → k_18 h x1 x2 x3 = some o → W p l e room_1 s m #[Value.ref b] below meth c H locs (hS h - hS h0) (hL h - hL h0) (lw_Z below #[Value.ref b] s) (F0 m 18 ls [])) (mk_18 : ∀ (h : Hp) (x1 : Nat) (x2 : Nat) (x3 : Int32), k_18 h x1 x2 x3 = some o → Le h o.2) {h : Hp} {x1 : Nat} {x2 : Nat} {x3 : Int32} {t0 : Int32} {H : Heap} {locs : List Loc} (k_x1 : hK h x1 = 11) (k_x2 : hK h x2 = 15) (hkl : Kl h0 h) (hW : Wx X h H) (hZ : va_S (aA (eB X)) s.heap H locs) (ls : Array Slot) (hl : lv_has ls 4 [(0, .ref b), (1, .ref x1), (2, .ref x2), (3, .int x3)]) (hE : sL_law_1105 F L xs k_18 h x1 x2 x3 t0 = some o) : W p l e room_1 s m #[Value.ref b] below meth c H locs (hS h - hS h0) (hL h - hL h0) (lw_Z below #[Value.ref b] s) (F0 m 1105 ls [.int t0]) := by
  refine lv_pop C.1 C.2.1 dL_law_1105 rfl ?_
  refine lv_goto (tgt := 1277) C.1 C.2.1 dL_law_1106 (by decide) ?_
  exact bL_law_1277 C hX hbl hbA hbase hRm ho hk_18 mk_18 k_x1 k_x2 hkl hW hZ _ (lv_sub hl [0, 1, 2, 3] rfl) hE
set_option maxRecDepth 20000 in
theorem bL_law_1095 {p : Program} {l : Launch} {e : Env} {s : State} {m : MethodId} {below : List Frame} {meth : Method} {c : Code} {X : Ec} {h0 : Hp} {o : Int32 × Hp} {k_18 : Hp → Nat → Nat → Int32 → Option (Int32 × Hp)} {F : Nat} {mn : String} {b L : Nat} {xs : Nat → Int32} (C : Cx X p s m #[Value.ref b] meth c RL code 4 ret mn) (hX : va_X b L xs s s.heap) (hbl : b < s.heap.size) (hbA : ¬ aA (eB X) b) (hbase : eB X = s.heap.size) (hRm : hS o.2 - hS h0 ≤ room_1.cells ∧ hL o.2 - hL h0 ≤ room_1.slots) (ho : o.1 = 1) (hk_18 : ∀ (h : Hp) (x1 : Nat) (x2 : Nat) (x3 : Int32) (H : Heap) (locs : List Loc), hK h x1 = 11 → hK h x2 = 15 → Kl h0 h → Wx X h H → va_S (aA (eB X)) s.heap H locs → ∀ (ls : Array Slot), lv_has ls 4 [(0, .ref b), (1, .ref x1), (2, .ref x2), (3, .int x3)] → k_18 h x1 x2 x3 = some o → W p l e room_1 s m #[Value.ref b] below meth c H locs (hS h - hS h0) (hL h - hL h0) (lw_Z below #[Value.ref b] s) (F0 m 18 ls [])) (mk_18 : ∀ (h : Hp) (x1 : Nat) (x2 : Nat) (x3 : Int32), k_18 h x1 x2 x3 = some o → Le h o.2) {h : Hp} {x1 : Nat} {x2 : Nat} {x3 : Int32} {t0 : Int32} {H : Heap} {locs : List Loc} (k_x1 : hK h x1 = 11) (k_x2 : hK h x2 = 15) (hkl : Kl h0 h) (hW : Wx X h H) (hZ : va_S (aA (eB X)) s.heap H locs) (ls : Array Slot) (hl : lv_has ls 4 [(0, .ref b), (1, .ref x1), (2, .ref x2), (3, .int x3)]) (hE : sL_law_1095 F L xs k_18 h x1 x2 x3 t0 = some o) : W p l e room_1 s m #[Value.ref b] below meth c H locs (hS h - hS h0) (hL h - hL h0) (lw_Z below #[Value.ref b] s) (F0 m 1095 ls [.int t0]) := by
  refine lv_pop C.1 C.2.1 dL_law_1095 rfl ?_
  refine lv_aload_n C.1 C.2.1 dL_law_1096 rfl (lv_at hl 2 rfl) ?_
  refine lv_aload_n C.1 C.2.1 dL_law_1097 rfl (lv_at hl 0 rfl) ?_
  refine lv_iload_n C.1 C.2.1 dL_law_1098 rfl (lv_at hl 3 rfl) ?_
  refine lv_iconst (v := (1 : Int32)) C.1 C.2.1 dL_law_1099 (by decide) ?_
  refine lv_iadd C.1 C.2.1 dL_law_1100 ?_
  obtain ⟨g_1, hE⟩ := gd_e hE
  refine va_sld C.1 C.2.1 hX hbl hbA hZ g_1 dL_law_1101 ?_
  obtain ⟨o_2, eo_2, hE⟩ := cl_e hE
  have m1 := moX15_beforeAt eo_2
  have m2 := moL_law_1105 mk_18 hE
  refine x_kIA (o := o_2) hkl (z_runV (As := [.int (xs (x3 + (1 : Int32)).toNatClampNeg)]) (rest := []) C (ct_X15_beforeAt l X F k_x2 eo_2) cw_L_142 hW hZ k_x2 (by decide) rfl rfl rfl hl.1 (Nat.le_of_ble_eq_true rfl) rfl dL_law_1102 ⟨Nat.le_of_ble_eq_true rfl, Nat.le_of_ble_eq_true rfl⟩ ⟨Nat.le_trans (rm_ok hkl m1 m2).1 hRm.1, Nat.le_trans (rm_ok hkl m1 m2).2 hRm.2⟩) hZ (fun _ _ hW km hZ => ?_)
  replace hkl := hkl.tr km
  replace k_x1 := km.at k_x1 (by decide)
  replace k_x2 := km.at k_x2 (by decide)
  exact bL_law_1105 C hX hbl hbA hbase hRm ho hk_18 mk_18 k_x1 k_x2 hkl hW hZ _ (lv_sub hl [0, 1, 2, 3] rfl) hE
set_option maxRecDepth 20000 in
theorem bL_law_1118 {p : Program} {l : Launch} {e : Env} {s : State} {m : MethodId} {below : List Frame} {meth : Method} {c : Code} {X : Ec} {h0 : Hp} {o : Int32 × Hp} {k_18 : Hp → Nat → Nat → Int32 → Option (Int32 × Hp)} {F : Nat} {mn : String} {b L : Nat} {xs : Nat → Int32} (C : Cx X p s m #[Value.ref b] meth c RL code 4 ret mn) (hX : va_X b L xs s s.heap) (hbl : b < s.heap.size) (hbA : ¬ aA (eB X) b) (hbase : eB X = s.heap.size) (hRm : hS o.2 - hS h0 ≤ room_1.cells ∧ hL o.2 - hL h0 ≤ room_1.slots) (ho : o.1 = 1) (hk_18 : ∀ (h : Hp) (x1 : Nat) (x2 : Nat) (x3 : Int32) (H : Heap) (locs : List Loc), hK h x1 = 11 → hK h x2 = 15 → Kl h0 h → Wx X h H → va_S (aA (eB X)) s.heap H locs → ∀ (ls : Array Slot), lv_has ls 4 [(0, .ref b), (1, .ref x1), (2, .ref x2), (3, .int x3)] → k_18 h x1 x2 x3 = some o → W p l e room_1 s m #[Value.ref b] below meth c H locs (hS h - hS h0) (hL h - hL h0) (lw_Z below #[Value.ref b] s) (F0 m 18 ls [])) (mk_18 : ∀ (h : Hp) (x1 : Nat) (x2 : Nat) (x3 : Int32), k_18 h x1 x2 x3 = some o → Le h o.2) {h : Hp} {x1 : Nat} {x2 : Nat} {x3 : Int32} {t0 : Int32} {H : Heap} {locs : List Loc} (k_x1 : hK h x1 = 11) (k_x2 : hK h x2 = 15) (hkl : Kl h0 h) (hW : Wx X h H) (hZ : va_S (aA (eB X)) s.heap H locs) (ls : Array Slot) (hl : lv_has ls 4 [(0, .ref b), (1, .ref x1), (2, .ref x2), (3, .int x3)]) (hE : sL_law_1118 F L xs k_18 h x1 x2 x3 t0 = some o) : W p l e room_1 s m #[Value.ref b] below meth c H locs (hS h - hS h0) (hL h - hL h0) (lw_Z below #[Value.ref b] s) (F0 m 1118 ls [.int t0]) := by
  refine lv_pop C.1 C.2.1 dL_law_1118 rfl ?_
  refine lv_goto (tgt := 1277) C.1 C.2.1 dL_law_1119 (by decide) ?_
  exact bL_law_1277 C hX hbl hbA hbase hRm ho hk_18 mk_18 k_x1 k_x2 hkl hW hZ _ (lv_sub hl [0, 1, 2, 3] rfl) hE
set_option maxRecDepth 20000 in
theorem bL_law_1113 {p : Program} {l : Launch} {e : Env} {s : State} {m : MethodId} {below : List Frame} {meth : Method} {c : Code} {X : Ec} {h0 : Hp} {o : Int32 × Hp} {k_18 : Hp → Nat → Nat → Int32 → Option (Int32 × Hp)} {F : Nat} {mn : String} {b L : Nat} {xs : Nat → Int32} (C : Cx X p s m #[Value.ref b] meth c RL code 4 ret mn) (hX : va_X b L xs s s.heap) (hbl : b < s.heap.size) (hbA : ¬ aA (eB X) b) (hbase : eB X = s.heap.size) (hRm : hS o.2 - hS h0 ≤ room_1.cells ∧ hL o.2 - hL h0 ≤ room_1.slots) (ho : o.1 = 1) (hk_18 : ∀ (h : Hp) (x1 : Nat) (x2 : Nat) (x3 : Int32) (H : Heap) (locs : List Loc), hK h x1 = 11 → hK h x2 = 15 → Kl h0 h → Wx X h H → va_S (aA (eB X)) s.heap H locs → ∀ (ls : Array Slot), lv_has ls 4 [(0, .ref b), (1, .ref x1), (2, .ref x2), (3, .int x3)] → k_18 h x1 x2 x3 = some o → W p l e room_1 s m #[Value.ref b] below meth c H locs (hS h - hS h0) (hL h - hL h0) (lw_Z below #[Value.ref b] s) (F0 m 18 ls [])) (mk_18 : ∀ (h : Hp) (x1 : Nat) (x2 : Nat) (x3 : Int32), k_18 h x1 x2 x3 = some o → Le h o.2) {h : Hp} {x1 : Nat} {x2 : Nat} {x3 : Int32} {t0 : Int32} {H : Heap} {locs : List Loc} (k_x1 : hK h x1 = 11) (k_x2 : hK h x2 = 15) (hkl : Kl h0 h) (hW : Wx X h H) (hZ : va_S (aA (eB X)) s.heap H locs) (ls : Array Slot) (hl : lv_has ls 4 [(0, .ref b), (1, .ref x1), (2, .ref x2), (3, .int x3)]) (hE : sL_law_1113 F L xs k_18 h x1 x2 x3 t0 = some o) : W p l e room_1 s m #[Value.ref b] below meth c H locs (hS h - hS h0) (hL h - hL h0) (lw_Z below #[Value.ref b] s) (F0 m 1113 ls [.int t0]) := by
  refine lv_pop C.1 C.2.1 dL_law_1113 rfl ?_
  refine lv_aload_n C.1 C.2.1 dL_law_1114 rfl (lv_at hl 2 rfl) ?_
  obtain ⟨o_1, eo_1, hE⟩ := cl_e hE
  have m1 := moX15_solve eo_1
  have m2 := moL_law_1118 mk_18 hE
  refine x_kIA (o := o_1) hkl (z_runV (As := []) (rest := []) C (ct_X15_solve l X F k_x2 eo_1) cw_L_146 hW hZ k_x2 (by decide) rfl rfl rfl hl.1 (Nat.le_of_ble_eq_true rfl) rfl dL_law_1115 ⟨Nat.le_of_ble_eq_true rfl, Nat.le_of_ble_eq_true rfl⟩ ⟨Nat.le_trans (rm_ok hkl m1 m2).1 hRm.1, Nat.le_trans (rm_ok hkl m1 m2).2 hRm.2⟩) hZ (fun _ _ hW km hZ => ?_)
  replace hkl := hkl.tr km
  replace k_x1 := km.at k_x1 (by decide)
  replace k_x2 := km.at k_x2 (by decide)
  exact bL_law_1118 C hX hbl hbA hbase hRm ho hk_18 mk_18 k_x1 k_x2 hkl hW hZ _ (lv_sub hl [0, 1, 2, 3] rfl) hE
set_option maxRecDepth 20000 in
theorem bL_law_1141 {p : Program} {l : Launch} {e : Env} {s : State} {m : MethodId} {below : List Frame} {meth : Method} {c : Code} {X : Ec} {h0 : Hp} {o : Int32 × Hp} {k_18 : Hp → Nat → Nat → Int32 → Option (Int32 × Hp)} {F : Nat} {mn : String} {b L : Nat} {xs : Nat → Int32} (C : Cx X p s m #[Value.ref b] meth c RL code 4 ret mn) (hX : va_X b L xs s s.heap) (hbl : b < s.heap.size) (hbA : ¬ aA (eB X) b) (hbase : eB X = s.heap.size) (hRm : hS o.2 - hS h0 ≤ room_1.cells ∧ hL o.2 - hL h0 ≤ room_1.slots) (ho : o.1 = 1) (hk_18 : ∀ (h : Hp) (x1 : Nat) (x2 : Nat) (x3 : Int32) (H : Heap) (locs : List Loc), hK h x1 = 11 → hK h x2 = 15 → Kl h0 h → Wx X h H → va_S (aA (eB X)) s.heap H locs → ∀ (ls : Array Slot), lv_has ls 4 [(0, .ref b), (1, .ref x1), (2, .ref x2), (3, .int x3)] → k_18 h x1 x2 x3 = some o → W p l e room_1 s m #[Value.ref b] below meth c H locs (hS h - hS h0) (hL h - hL h0) (lw_Z below #[Value.ref b] s) (F0 m 18 ls [])) (mk_18 : ∀ (h : Hp) (x1 : Nat) (x2 : Nat) (x3 : Int32), k_18 h x1 x2 x3 = some o → Le h o.2) {h : Hp} {x1 : Nat} {x2 : Nat} {x3 : Int32} {t0 : Int32} {H : Heap} {locs : List Loc} (k_x1 : hK h x1 = 11) (k_x2 : hK h x2 = 15) (hkl : Kl h0 h) (hW : Wx X h H) (hZ : va_S (aA (eB X)) s.heap H locs) (ls : Array Slot) (hl : lv_has ls 4 [(0, .ref b), (1, .ref x1), (2, .ref x2), (3, .int x3)]) (hE : sL_law_1141 F L xs k_18 h x1 x2 x3 t0 = some o) : W p l e room_1 s m #[Value.ref b] below meth c H locs (hS h - hS h0) (hL h - hL h0) (lw_Z below #[Value.ref b] s) (F0 m 1141 ls [.int t0]) := by
  refine lv_pop C.1 C.2.1 dL_law_1141 rfl ?_
  refine lv_goto (tgt := 1277) C.1 C.2.1 dL_law_1142 (by decide) ?_
  exact bL_law_1277 C hX hbl hbA hbase hRm ho hk_18 mk_18 k_x1 k_x2 hkl hW hZ _ (lv_sub hl [0, 1, 2, 3] rfl) hE
set_option maxRecDepth 20000 in
theorem bL_law_1131 {p : Program} {l : Launch} {e : Env} {s : State} {m : MethodId} {below : List Frame} {meth : Method} {c : Code} {X : Ec} {h0 : Hp} {o : Int32 × Hp} {k_18 : Hp → Nat → Nat → Int32 → Option (Int32 × Hp)} {F : Nat} {mn : String} {b L : Nat} {xs : Nat → Int32} (C : Cx X p s m #[Value.ref b] meth c RL code 4 ret mn) (hX : va_X b L xs s s.heap) (hbl : b < s.heap.size) (hbA : ¬ aA (eB X) b) (hbase : eB X = s.heap.size) (hRm : hS o.2 - hS h0 ≤ room_1.cells ∧ hL o.2 - hL h0 ≤ room_1.slots) (ho : o.1 = 1) (hk_18 : ∀ (h : Hp) (x1 : Nat) (x2 : Nat) (x3 : Int32) (H : Heap) (locs : List Loc), hK h x1 = 11 → hK h x2 = 15 → Kl h0 h → Wx X h H → va_S (aA (eB X)) s.heap H locs → ∀ (ls : Array Slot), lv_has ls 4 [(0, .ref b), (1, .ref x1), (2, .ref x2), (3, .int x3)] → k_18 h x1 x2 x3 = some o → W p l e room_1 s m #[Value.ref b] below meth c H locs (hS h - hS h0) (hL h - hL h0) (lw_Z below #[Value.ref b] s) (F0 m 18 ls [])) (mk_18 : ∀ (h : Hp) (x1 : Nat) (x2 : Nat) (x3 : Int32), k_18 h x1 x2 x3 = some o → Le h o.2) {h : Hp} {x1 : Nat} {x2 : Nat} {x3 : Int32} {t0 : Int32} {H : Heap} {locs : List Loc} (k_x1 : hK h x1 = 11) (k_x2 : hK h x2 = 15) (hkl : Kl h0 h) (hW : Wx X h H) (hZ : va_S (aA (eB X)) s.heap H locs) (ls : Array Slot) (hl : lv_has ls 4 [(0, .ref b), (1, .ref x1), (2, .ref x2), (3, .int x3)]) (hE : sL_law_1131 F L xs k_18 h x1 x2 x3 t0 = some o) : W p l e room_1 s m #[Value.ref b] below meth c H locs (hS h - hS h0) (hL h - hL h0) (lw_Z below #[Value.ref b] s) (F0 m 1131 ls [.int t0]) := by
  refine lv_pop C.1 C.2.1 dL_law_1131 rfl ?_
  refine lv_aload_n C.1 C.2.1 dL_law_1132 rfl (lv_at hl 2 rfl) ?_
  refine lv_aload_n C.1 C.2.1 dL_law_1133 rfl (lv_at hl 0 rfl) ?_
  refine lv_iload_n C.1 C.2.1 dL_law_1134 rfl (lv_at hl 3 rfl) ?_
  refine lv_iconst (v := (1 : Int32)) C.1 C.2.1 dL_law_1135 (by decide) ?_
  refine lv_iadd C.1 C.2.1 dL_law_1136 ?_
  obtain ⟨g_1, hE⟩ := gd_e hE
  refine va_sld C.1 C.2.1 hX hbl hbA hZ g_1 dL_law_1137 ?_
  obtain ⟨o_2, eo_2, hE⟩ := cl_e hE
  have m1 := moX15_worth eo_2
  have m2 := moL_law_1141 mk_18 hE
  refine x_kI (o := o_2) (z_runV (As := [.int (xs (x3 + (1 : Int32)).toNatClampNeg)]) (rest := []) C (ct_X15_worth l X F k_x2 eo_2) cw_L_150 hW hZ k_x2 (by decide) rfl rfl rfl hl.1 (Nat.le_of_ble_eq_true rfl) rfl dL_law_1138 ⟨Nat.le_of_ble_eq_true rfl, Nat.le_of_ble_eq_true rfl⟩ ⟨Nat.le_trans (rm_ok0 hkl m1 m2).1 hRm.1, Nat.le_trans (rm_ok0 hkl m1 m2).2 hRm.2⟩) hZ (fun _ _ hW km hZ => ?_)
  replace hkl := hkl.tr km.l
  refine x_wc km ?_
  replace k_x1 := km.at k_x1 (by decide)
  replace k_x2 := km.at k_x2 (by decide)
  exact bL_law_1141 C hX hbl hbA hbase hRm ho hk_18 mk_18 k_x1 k_x2 hkl hW hZ _ (lv_sub hl [0, 1, 2, 3] rfl) hE
set_option maxRecDepth 20000 in
theorem bL_law_1174 {p : Program} {l : Launch} {e : Env} {s : State} {m : MethodId} {below : List Frame} {meth : Method} {c : Code} {X : Ec} {h0 : Hp} {o : Int32 × Hp} {k_18 : Hp → Nat → Nat → Int32 → Option (Int32 × Hp)} {F : Nat} {mn : String} {b L : Nat} {xs : Nat → Int32} (C : Cx X p s m #[Value.ref b] meth c RL code 4 ret mn) (hX : va_X b L xs s s.heap) (hbl : b < s.heap.size) (hbA : ¬ aA (eB X) b) (hbase : eB X = s.heap.size) (hRm : hS o.2 - hS h0 ≤ room_1.cells ∧ hL o.2 - hL h0 ≤ room_1.slots) (ho : o.1 = 1) (hk_18 : ∀ (h : Hp) (x1 : Nat) (x2 : Nat) (x3 : Int32) (H : Heap) (locs : List Loc), hK h x1 = 11 → hK h x2 = 15 → Kl h0 h → Wx X h H → va_S (aA (eB X)) s.heap H locs → ∀ (ls : Array Slot), lv_has ls 4 [(0, .ref b), (1, .ref x1), (2, .ref x2), (3, .int x3)] → k_18 h x1 x2 x3 = some o → W p l e room_1 s m #[Value.ref b] below meth c H locs (hS h - hS h0) (hL h - hL h0) (lw_Z below #[Value.ref b] s) (F0 m 18 ls [])) (mk_18 : ∀ (h : Hp) (x1 : Nat) (x2 : Nat) (x3 : Int32), k_18 h x1 x2 x3 = some o → Le h o.2) {h : Hp} {x1 : Nat} {x2 : Nat} {x3 : Int32} {t0 : Int32} {H : Heap} {locs : List Loc} (k_x1 : hK h x1 = 11) (k_x2 : hK h x2 = 15) (hkl : Kl h0 h) (hW : Wx X h H) (hZ : va_S (aA (eB X)) s.heap H locs) (ls : Array Slot) (hl : lv_has ls 4 [(0, .ref b), (1, .ref x1), (2, .ref x2), (3, .int x3)]) (hE : sL_law_1174 F L xs k_18 h x1 x2 x3 t0 = some o) : W p l e room_1 s m #[Value.ref b] below meth c H locs (hS h - hS h0) (hL h - hL h0) (lw_Z below #[Value.ref b] s) (F0 m 1174 ls [.int t0]) := by
  refine lv_pop C.1 C.2.1 dL_law_1174 rfl ?_
  refine lv_goto (tgt := 1277) C.1 C.2.1 dL_law_1175 (by decide) ?_
  exact bL_law_1277 C hX hbl hbA hbase hRm ho hk_18 mk_18 k_x1 k_x2 hkl hW hZ _ (lv_sub hl [0, 1, 2, 3] rfl) hE
set_option maxRecDepth 20000 in
theorem bL_law_1159 {p : Program} {l : Launch} {e : Env} {s : State} {m : MethodId} {below : List Frame} {meth : Method} {c : Code} {X : Ec} {h0 : Hp} {o : Int32 × Hp} {k_18 : Hp → Nat → Nat → Int32 → Option (Int32 × Hp)} {F : Nat} {mn : String} {b L : Nat} {xs : Nat → Int32} (C : Cx X p s m #[Value.ref b] meth c RL code 4 ret mn) (hX : va_X b L xs s s.heap) (hbl : b < s.heap.size) (hbA : ¬ aA (eB X) b) (hbase : eB X = s.heap.size) (hRm : hS o.2 - hS h0 ≤ room_1.cells ∧ hL o.2 - hL h0 ≤ room_1.slots) (ho : o.1 = 1) (hk_18 : ∀ (h : Hp) (x1 : Nat) (x2 : Nat) (x3 : Int32) (H : Heap) (locs : List Loc), hK h x1 = 11 → hK h x2 = 15 → Kl h0 h → Wx X h H → va_S (aA (eB X)) s.heap H locs → ∀ (ls : Array Slot), lv_has ls 4 [(0, .ref b), (1, .ref x1), (2, .ref x2), (3, .int x3)] → k_18 h x1 x2 x3 = some o → W p l e room_1 s m #[Value.ref b] below meth c H locs (hS h - hS h0) (hL h - hL h0) (lw_Z below #[Value.ref b] s) (F0 m 18 ls [])) (mk_18 : ∀ (h : Hp) (x1 : Nat) (x2 : Nat) (x3 : Int32), k_18 h x1 x2 x3 = some o → Le h o.2) {h : Hp} {x1 : Nat} {x2 : Nat} {x3 : Int32} {t0 : Int32} {H : Heap} {locs : List Loc} (k_x1 : hK h x1 = 11) (k_x2 : hK h x2 = 15) (hkl : Kl h0 h) (hW : Wx X h H) (hZ : va_S (aA (eB X)) s.heap H locs) (ls : Array Slot) (hl : lv_has ls 4 [(0, .ref b), (1, .ref x1), (2, .ref x2), (3, .int x3)]) (hE : sL_law_1159 F L xs k_18 h x1 x2 x3 t0 = some o) : W p l e room_1 s m #[Value.ref b] below meth c H locs (hS h - hS h0) (hL h - hL h0) (lw_Z below #[Value.ref b] s) (F0 m 1159 ls [.int t0]) := by
  refine lv_pop C.1 C.2.1 dL_law_1159 rfl ?_
  refine lv_aload_n C.1 C.2.1 dL_law_1160 rfl (lv_at hl 2 rfl) ?_
  refine lv_aload_n C.1 C.2.1 dL_law_1161 rfl (lv_at hl 0 rfl) ?_
  refine lv_iload_n C.1 C.2.1 dL_law_1162 rfl (lv_at hl 3 rfl) ?_
  refine lv_iconst (v := (1 : Int32)) C.1 C.2.1 dL_law_1163 (by decide) ?_
  refine lv_iadd C.1 C.2.1 dL_law_1164 ?_
  obtain ⟨g_1, hE⟩ := gd_e hE
  refine va_sld C.1 C.2.1 hX hbl hbA hZ g_1 dL_law_1165 ?_
  refine lv_aload_n C.1 C.2.1 dL_law_1166 rfl (lv_at hl 0 rfl) ?_
  refine lv_iload_n C.1 C.2.1 dL_law_1167 rfl (lv_at hl 3 rfl) ?_
  refine lv_iconst (v := (2 : Int32)) C.1 C.2.1 dL_law_1168 (by decide) ?_
  refine lv_iadd C.1 C.2.1 dL_law_1169 ?_
  obtain ⟨g_2, hE⟩ := gd_e hE
  refine va_sld C.1 C.2.1 hX hbl hbA hZ g_2 dL_law_1170 ?_
  obtain ⟨o_3, eo_3, hE⟩ := cl_e hE
  have m1 := moX15_tally eo_3
  have m2 := moL_law_1174 mk_18 hE
  refine x_kI (o := o_3) (z_runV (As := [.int (xs (x3 + (1 : Int32)).toNatClampNeg), .int (xs (x3 + (2 : Int32)).toNatClampNeg)]) (rest := []) C (ct_X15_tally l X F k_x2 eo_3) cw_L_154 hW hZ k_x2 (by decide) rfl rfl rfl hl.1 (Nat.le_of_ble_eq_true rfl) rfl dL_law_1171 ⟨Nat.le_of_ble_eq_true rfl, Nat.le_of_ble_eq_true rfl⟩ ⟨Nat.le_trans (rm_ok0 hkl m1 m2).1 hRm.1, Nat.le_trans (rm_ok0 hkl m1 m2).2 hRm.2⟩) hZ (fun _ _ hW km hZ => ?_)
  replace hkl := hkl.tr km.l
  refine x_wc km ?_
  replace k_x1 := km.at k_x1 (by decide)
  replace k_x2 := km.at k_x2 (by decide)
  exact bL_law_1174 C hX hbl hbA hbase hRm ho hk_18 mk_18 k_x1 k_x2 hkl hW hZ _ (lv_sub hl [0, 1, 2, 3] rfl) hE
set_option maxRecDepth 20000 in
theorem bL_law_1227 {p : Program} {l : Launch} {e : Env} {s : State} {m : MethodId} {below : List Frame} {meth : Method} {c : Code} {X : Ec} {h0 : Hp} {o : Int32 × Hp} {k_18 : Hp → Nat → Nat → Int32 → Option (Int32 × Hp)} {F : Nat} {mn : String} {b L : Nat} {xs : Nat → Int32} (C : Cx X p s m #[Value.ref b] meth c RL code 4 ret mn) (hX : va_X b L xs s s.heap) (hbl : b < s.heap.size) (hbA : ¬ aA (eB X) b) (hbase : eB X = s.heap.size) (hRm : hS o.2 - hS h0 ≤ room_1.cells ∧ hL o.2 - hL h0 ≤ room_1.slots) (ho : o.1 = 1) (hk_18 : ∀ (h : Hp) (x1 : Nat) (x2 : Nat) (x3 : Int32) (H : Heap) (locs : List Loc), hK h x1 = 11 → hK h x2 = 15 → Kl h0 h → Wx X h H → va_S (aA (eB X)) s.heap H locs → ∀ (ls : Array Slot), lv_has ls 4 [(0, .ref b), (1, .ref x1), (2, .ref x2), (3, .int x3)] → k_18 h x1 x2 x3 = some o → W p l e room_1 s m #[Value.ref b] below meth c H locs (hS h - hS h0) (hL h - hL h0) (lw_Z below #[Value.ref b] s) (F0 m 18 ls [])) (mk_18 : ∀ (h : Hp) (x1 : Nat) (x2 : Nat) (x3 : Int32), k_18 h x1 x2 x3 = some o → Le h o.2) {h : Hp} {x1 : Nat} {x2 : Nat} {x3 : Int32} {t0 : Int32} {H : Heap} {locs : List Loc} (k_x1 : hK h x1 = 11) (k_x2 : hK h x2 = 15) (hkl : Kl h0 h) (hW : Wx X h H) (hZ : va_S (aA (eB X)) s.heap H locs) (ls : Array Slot) (hl : lv_has ls 4 [(0, .ref b), (1, .ref x1), (2, .ref x2), (3, .int x3)]) (hE : sL_law_1227 F L xs k_18 h x1 x2 x3 t0 = some o) : W p l e room_1 s m #[Value.ref b] below meth c H locs (hS h - hS h0) (hL h - hL h0) (lw_Z below #[Value.ref b] s) (F0 m 1227 ls [.int t0]) := by
  refine lv_pop C.1 C.2.1 dL_law_1227 rfl ?_
  refine lv_goto (tgt := 1277) C.1 C.2.1 dL_law_1228 (by decide) ?_
  exact bL_law_1277 C hX hbl hbA hbase hRm ho hk_18 mk_18 k_x1 k_x2 hkl hW hZ _ (lv_sub hl [0, 1, 2, 3] rfl) hE
set_option maxRecDepth 20000 in
theorem bL_law_1202 {p : Program} {l : Launch} {e : Env} {s : State} {m : MethodId} {below : List Frame} {meth : Method} {c : Code} {X : Ec} {h0 : Hp} {o : Int32 × Hp} {k_18 : Hp → Nat → Nat → Int32 → Option (Int32 × Hp)} {F : Nat} {mn : String} {b L : Nat} {xs : Nat → Int32} (C : Cx X p s m #[Value.ref b] meth c RL code 4 ret mn) (hX : va_X b L xs s s.heap) (hbl : b < s.heap.size) (hbA : ¬ aA (eB X) b) (hbase : eB X = s.heap.size) (hRm : hS o.2 - hS h0 ≤ room_1.cells ∧ hL o.2 - hL h0 ≤ room_1.slots) (ho : o.1 = 1) (hk_18 : ∀ (h : Hp) (x1 : Nat) (x2 : Nat) (x3 : Int32) (H : Heap) (locs : List Loc), hK h x1 = 11 → hK h x2 = 15 → Kl h0 h → Wx X h H → va_S (aA (eB X)) s.heap H locs → ∀ (ls : Array Slot), lv_has ls 4 [(0, .ref b), (1, .ref x1), (2, .ref x2), (3, .int x3)] → k_18 h x1 x2 x3 = some o → W p l e room_1 s m #[Value.ref b] below meth c H locs (hS h - hS h0) (hL h - hL h0) (lw_Z below #[Value.ref b] s) (F0 m 18 ls [])) (mk_18 : ∀ (h : Hp) (x1 : Nat) (x2 : Nat) (x3 : Int32), k_18 h x1 x2 x3 = some o → Le h o.2) {h : Hp} {x1 : Nat} {x2 : Nat} {x3 : Int32} {t0 : Int32} {H : Heap} {locs : List Loc} (k_x1 : hK h x1 = 11) (k_x2 : hK h x2 = 15) (hkl : Kl h0 h) (hW : Wx X h H) (hZ : va_S (aA (eB X)) s.heap H locs) (ls : Array Slot) (hl : lv_has ls 4 [(0, .ref b), (1, .ref x1), (2, .ref x2), (3, .int x3)]) (hE : sL_law_1202 F L xs k_18 h x1 x2 x3 t0 = some o) : W p l e room_1 s m #[Value.ref b] below meth c H locs (hS h - hS h0) (hL h - hL h0) (lw_Z below #[Value.ref b] s) (F0 m 1202 ls [.int t0]) := by
  refine lv_pop C.1 C.2.1 dL_law_1202 rfl ?_
  refine lv_aload_n C.1 C.2.1 dL_law_1203 rfl (lv_at hl 2 rfl) ?_
  refine lv_aload_n C.1 C.2.1 dL_law_1204 rfl (lv_at hl 0 rfl) ?_
  refine lv_iload_n C.1 C.2.1 dL_law_1205 rfl (lv_at hl 3 rfl) ?_
  refine lv_iconst (v := (1 : Int32)) C.1 C.2.1 dL_law_1206 (by decide) ?_
  refine lv_iadd C.1 C.2.1 dL_law_1207 ?_
  obtain ⟨g_1, hE⟩ := gd_e hE
  refine va_sld C.1 C.2.1 hX hbl hbA hZ g_1 dL_law_1208 ?_
  refine lv_aload_n C.1 C.2.1 dL_law_1209 rfl (lv_at hl 0 rfl) ?_
  refine lv_iload_n C.1 C.2.1 dL_law_1210 rfl (lv_at hl 3 rfl) ?_
  refine lv_iconst (v := (2 : Int32)) C.1 C.2.1 dL_law_1211 (by decide) ?_
  refine lv_iadd C.1 C.2.1 dL_law_1212 ?_
  obtain ⟨g_2, hE⟩ := gd_e hE
  refine va_sld C.1 C.2.1 hX hbl hbA hZ g_2 dL_law_1213 ?_
  refine lv_aload_n C.1 C.2.1 dL_law_1214 rfl (lv_at hl 0 rfl) ?_
  refine lv_iload_n C.1 C.2.1 dL_law_1215 rfl (lv_at hl 3 rfl) ?_
  refine lv_iconst (v := (3 : Int32)) C.1 C.2.1 dL_law_1216 (by decide) ?_
  refine lv_iadd C.1 C.2.1 dL_law_1217 ?_
  obtain ⟨g_3, hE⟩ := gd_e hE
  refine va_sld C.1 C.2.1 hX hbl hbA hZ g_3 dL_law_1218 ?_
  refine lv_aload_n C.1 C.2.1 dL_law_1219 rfl (lv_at hl 0 rfl) ?_
  refine lv_iload_n C.1 C.2.1 dL_law_1220 rfl (lv_at hl 3 rfl) ?_
  refine lv_iconst (v := (4 : Int32)) C.1 C.2.1 dL_law_1221 (by decide) ?_
  refine lv_iadd C.1 C.2.1 dL_law_1222 ?_
  obtain ⟨g_4, hE⟩ := gd_e hE
  refine va_sld C.1 C.2.1 hX hbl hbA hZ g_4 dL_law_1223 ?_
  obtain ⟨o_5, eo_5, hE⟩ := cl_e hE
  have m1 := moX15_problem eo_5
  have m2 := moL_law_1227 mk_18 hE
  refine x_kIA (o := o_5) hkl (z_runV (As := [.int (xs (x3 + (1 : Int32)).toNatClampNeg), .int (xs (x3 + (2 : Int32)).toNatClampNeg), .int (xs (x3 + (3 : Int32)).toNatClampNeg), .int (xs (x3 + (4 : Int32)).toNatClampNeg)]) (rest := []) C (ct_X15_problem l X F k_x2 eo_5) cw_L_159 hW hZ k_x2 (by decide) rfl rfl rfl hl.1 (Nat.le_of_ble_eq_true rfl) rfl dL_law_1224 ⟨Nat.le_of_ble_eq_true rfl, Nat.le_of_ble_eq_true rfl⟩ ⟨Nat.le_trans (rm_ok hkl m1 m2).1 hRm.1, Nat.le_trans (rm_ok hkl m1 m2).2 hRm.2⟩) hZ (fun _ _ hW km hZ => ?_)
  replace hkl := hkl.tr km
  replace k_x1 := km.at k_x1 (by decide)
  replace k_x2 := km.at k_x2 (by decide)
  exact bL_law_1227 C hX hbl hbA hbase hRm ho hk_18 mk_18 k_x1 k_x2 hkl hW hZ _ (lv_sub hl [0, 1, 2, 3] rfl) hE
set_option maxRecDepth 20000 in
theorem bL_law_1250 {p : Program} {l : Launch} {e : Env} {s : State} {m : MethodId} {below : List Frame} {meth : Method} {c : Code} {X : Ec} {h0 : Hp} {o : Int32 × Hp} {k_18 : Hp → Nat → Nat → Int32 → Option (Int32 × Hp)} {F : Nat} {mn : String} {b L : Nat} {xs : Nat → Int32} (C : Cx X p s m #[Value.ref b] meth c RL code 4 ret mn) (hX : va_X b L xs s s.heap) (hbl : b < s.heap.size) (hbA : ¬ aA (eB X) b) (hbase : eB X = s.heap.size) (hRm : hS o.2 - hS h0 ≤ room_1.cells ∧ hL o.2 - hL h0 ≤ room_1.slots) (ho : o.1 = 1) (hk_18 : ∀ (h : Hp) (x1 : Nat) (x2 : Nat) (x3 : Int32) (H : Heap) (locs : List Loc), hK h x1 = 11 → hK h x2 = 15 → Kl h0 h → Wx X h H → va_S (aA (eB X)) s.heap H locs → ∀ (ls : Array Slot), lv_has ls 4 [(0, .ref b), (1, .ref x1), (2, .ref x2), (3, .int x3)] → k_18 h x1 x2 x3 = some o → W p l e room_1 s m #[Value.ref b] below meth c H locs (hS h - hS h0) (hL h - hL h0) (lw_Z below #[Value.ref b] s) (F0 m 18 ls [])) (mk_18 : ∀ (h : Hp) (x1 : Nat) (x2 : Nat) (x3 : Int32), k_18 h x1 x2 x3 = some o → Le h o.2) {h : Hp} {x1 : Nat} {x2 : Nat} {x3 : Int32} {t0 : Int32} {H : Heap} {locs : List Loc} (k_x1 : hK h x1 = 11) (k_x2 : hK h x2 = 15) (hkl : Kl h0 h) (hW : Wx X h H) (hZ : va_S (aA (eB X)) s.heap H locs) (ls : Array Slot) (hl : lv_has ls 4 [(0, .ref b), (1, .ref x1), (2, .ref x2), (3, .int x3)]) (hE : sL_law_1250 F L xs k_18 h x1 x2 x3 t0 = some o) : W p l e room_1 s m #[Value.ref b] below meth c H locs (hS h - hS h0) (hL h - hL h0) (lw_Z below #[Value.ref b] s) (F0 m 1250 ls [.int t0]) := by
  refine lv_pop C.1 C.2.1 dL_law_1250 rfl ?_
  refine lv_goto (tgt := 1277) C.1 C.2.1 dL_law_1251 (by decide) ?_
  exact bL_law_1277 C hX hbl hbA hbase hRm ho hk_18 mk_18 k_x1 k_x2 hkl hW hZ _ (lv_sub hl [0, 1, 2, 3] rfl) hE
set_option maxRecDepth 20000 in
theorem bL_law_1240 {p : Program} {l : Launch} {e : Env} {s : State} {m : MethodId} {below : List Frame} {meth : Method} {c : Code} {X : Ec} {h0 : Hp} {o : Int32 × Hp} {k_18 : Hp → Nat → Nat → Int32 → Option (Int32 × Hp)} {F : Nat} {mn : String} {b L : Nat} {xs : Nat → Int32} (C : Cx X p s m #[Value.ref b] meth c RL code 4 ret mn) (hX : va_X b L xs s s.heap) (hbl : b < s.heap.size) (hbA : ¬ aA (eB X) b) (hbase : eB X = s.heap.size) (hRm : hS o.2 - hS h0 ≤ room_1.cells ∧ hL o.2 - hL h0 ≤ room_1.slots) (ho : o.1 = 1) (hk_18 : ∀ (h : Hp) (x1 : Nat) (x2 : Nat) (x3 : Int32) (H : Heap) (locs : List Loc), hK h x1 = 11 → hK h x2 = 15 → Kl h0 h → Wx X h H → va_S (aA (eB X)) s.heap H locs → ∀ (ls : Array Slot), lv_has ls 4 [(0, .ref b), (1, .ref x1), (2, .ref x2), (3, .int x3)] → k_18 h x1 x2 x3 = some o → W p l e room_1 s m #[Value.ref b] below meth c H locs (hS h - hS h0) (hL h - hL h0) (lw_Z below #[Value.ref b] s) (F0 m 18 ls [])) (mk_18 : ∀ (h : Hp) (x1 : Nat) (x2 : Nat) (x3 : Int32), k_18 h x1 x2 x3 = some o → Le h o.2) {h : Hp} {x1 : Nat} {x2 : Nat} {x3 : Int32} {t0 : Int32} {H : Heap} {locs : List Loc} (k_x1 : hK h x1 = 11) (k_x2 : hK h x2 = 15) (hkl : Kl h0 h) (hW : Wx X h H) (hZ : va_S (aA (eB X)) s.heap H locs) (ls : Array Slot) (hl : lv_has ls 4 [(0, .ref b), (1, .ref x1), (2, .ref x2), (3, .int x3)]) (hE : sL_law_1240 F L xs k_18 h x1 x2 x3 t0 = some o) : W p l e room_1 s m #[Value.ref b] below meth c H locs (hS h - hS h0) (hL h - hL h0) (lw_Z below #[Value.ref b] s) (F0 m 1240 ls [.int t0]) := by
  refine lv_pop C.1 C.2.1 dL_law_1240 rfl ?_
  refine lv_aload_n C.1 C.2.1 dL_law_1241 rfl (lv_at hl 2 rfl) ?_
  refine lv_aload_n C.1 C.2.1 dL_law_1242 rfl (lv_at hl 0 rfl) ?_
  refine lv_iload_n C.1 C.2.1 dL_law_1243 rfl (lv_at hl 3 rfl) ?_
  refine lv_iconst (v := (1 : Int32)) C.1 C.2.1 dL_law_1244 (by decide) ?_
  refine lv_iadd C.1 C.2.1 dL_law_1245 ?_
  obtain ⟨g_1, hE⟩ := gd_e hE
  refine va_sld C.1 C.2.1 hX hbl hbA hZ g_1 dL_law_1246 ?_
  obtain ⟨o_2, eo_2, hE⟩ := cl_e hE
  have m1 := moX15_key eo_2
  have m2 := moL_law_1250 mk_18 hE
  refine x_kI (o := o_2) (z_runV (As := [.int (xs (x3 + (1 : Int32)).toNatClampNeg)]) (rest := []) C (ct_X15_key l X k_x2 eo_2) cw_L_163 hW hZ k_x2 (by decide) rfl rfl rfl hl.1 (Nat.le_of_ble_eq_true rfl) rfl dL_law_1247 ⟨Nat.le_of_ble_eq_true rfl, Nat.le_of_ble_eq_true rfl⟩ ⟨Nat.le_trans (rm_ok0 hkl m1 m2).1 hRm.1, Nat.le_trans (rm_ok0 hkl m1 m2).2 hRm.2⟩) hZ (fun _ _ hW km hZ => ?_)
  replace hkl := hkl.tr km.l
  refine x_wc km ?_
  replace k_x1 := km.at k_x1 (by decide)
  replace k_x2 := km.at k_x2 (by decide)
  exact bL_law_1250 C hX hbl hbA hbase hRm ho hk_18 mk_18 k_x1 k_x2 hkl hW hZ _ (lv_sub hl [0, 1, 2, 3] rfl) hE
set_option maxRecDepth 20000 in
theorem bL_law_1273 {p : Program} {l : Launch} {e : Env} {s : State} {m : MethodId} {below : List Frame} {meth : Method} {c : Code} {X : Ec} {h0 : Hp} {o : Int32 × Hp} {k_18 : Hp → Nat → Nat → Int32 → Option (Int32 × Hp)} {F : Nat} {mn : String} {b L : Nat} {xs : Nat → Int32} (C : Cx X p s m #[Value.ref b] meth c RL code 4 ret mn) (hX : va_X b L xs s s.heap) (hbl : b < s.heap.size) (hbA : ¬ aA (eB X) b) (hbase : eB X = s.heap.size) (hRm : hS o.2 - hS h0 ≤ room_1.cells ∧ hL o.2 - hL h0 ≤ room_1.slots) (ho : o.1 = 1) (hk_18 : ∀ (h : Hp) (x1 : Nat) (x2 : Nat) (x3 : Int32) (H : Heap) (locs : List Loc), hK h x1 = 11 → hK h x2 = 15 → Kl h0 h → Wx X h H → va_S (aA (eB X)) s.heap H locs → ∀ (ls : Array Slot), lv_has ls 4 [(0, .ref b), (1, .ref x1), (2, .ref x2), (3, .int x3)] → k_18 h x1 x2 x3 = some o → W p l e room_1 s m #[Value.ref b] below meth c H locs (hS h - hS h0) (hL h - hL h0) (lw_Z below #[Value.ref b] s) (F0 m 18 ls [])) (mk_18 : ∀ (h : Hp) (x1 : Nat) (x2 : Nat) (x3 : Int32), k_18 h x1 x2 x3 = some o → Le h o.2) {h : Hp} {x1 : Nat} {x2 : Nat} {x3 : Int32} {t0 : Int32} {H : Heap} {locs : List Loc} (k_x1 : hK h x1 = 11) (k_x2 : hK h x2 = 15) (hkl : Kl h0 h) (hW : Wx X h H) (hZ : va_S (aA (eB X)) s.heap H locs) (ls : Array Slot) (hl : lv_has ls 4 [(0, .ref b), (1, .ref x1), (2, .ref x2), (3, .int x3)]) (hE : sL_law_1273 F L xs k_18 h x1 x2 x3 t0 = some o) : W p l e room_1 s m #[Value.ref b] below meth c H locs (hS h - hS h0) (hL h - hL h0) (lw_Z below #[Value.ref b] s) (F0 m 1273 ls [.int t0]) := by
  refine lv_pop C.1 C.2.1 dL_law_1273 rfl ?_
  refine lv_goto (tgt := 1277) C.1 C.2.1 dL_law_1274 (by decide) ?_
  exact bL_law_1277 C hX hbl hbA hbase hRm ho hk_18 mk_18 k_x1 k_x2 hkl hW hZ _ (lv_sub hl [0, 1, 2, 3] rfl) hE
set_option maxRecDepth 20000 in
theorem bL_law_1263 {p : Program} {l : Launch} {e : Env} {s : State} {m : MethodId} {below : List Frame} {meth : Method} {c : Code} {X : Ec} {h0 : Hp} {o : Int32 × Hp} {k_18 : Hp → Nat → Nat → Int32 → Option (Int32 × Hp)} {F : Nat} {mn : String} {b L : Nat} {xs : Nat → Int32} (C : Cx X p s m #[Value.ref b] meth c RL code 4 ret mn) (hX : va_X b L xs s s.heap) (hbl : b < s.heap.size) (hbA : ¬ aA (eB X) b) (hbase : eB X = s.heap.size) (hRm : hS o.2 - hS h0 ≤ room_1.cells ∧ hL o.2 - hL h0 ≤ room_1.slots) (ho : o.1 = 1) (hk_18 : ∀ (h : Hp) (x1 : Nat) (x2 : Nat) (x3 : Int32) (H : Heap) (locs : List Loc), hK h x1 = 11 → hK h x2 = 15 → Kl h0 h → Wx X h H → va_S (aA (eB X)) s.heap H locs → ∀ (ls : Array Slot), lv_has ls 4 [(0, .ref b), (1, .ref x1), (2, .ref x2), (3, .int x3)] → k_18 h x1 x2 x3 = some o → W p l e room_1 s m #[Value.ref b] below meth c H locs (hS h - hS h0) (hL h - hL h0) (lw_Z below #[Value.ref b] s) (F0 m 18 ls [])) (mk_18 : ∀ (h : Hp) (x1 : Nat) (x2 : Nat) (x3 : Int32), k_18 h x1 x2 x3 = some o → Le h o.2) {h : Hp} {x1 : Nat} {x2 : Nat} {x3 : Int32} {t0 : Int32} {H : Heap} {locs : List Loc} (k_x1 : hK h x1 = 11) (k_x2 : hK h x2 = 15) (hkl : Kl h0 h) (hW : Wx X h H) (hZ : va_S (aA (eB X)) s.heap H locs) (ls : Array Slot) (hl : lv_has ls 4 [(0, .ref b), (1, .ref x1), (2, .ref x2), (3, .int x3)]) (hE : sL_law_1263 F L xs k_18 h x1 x2 x3 t0 = some o) : W p l e room_1 s m #[Value.ref b] below meth c H locs (hS h - hS h0) (hL h - hL h0) (lw_Z below #[Value.ref b] s) (F0 m 1263 ls [.int t0]) := by
  refine lv_pop C.1 C.2.1 dL_law_1263 rfl ?_
  refine lv_aload_n C.1 C.2.1 dL_law_1264 rfl (lv_at hl 2 rfl) ?_
  refine lv_aload_n C.1 C.2.1 dL_law_1265 rfl (lv_at hl 0 rfl) ?_
  refine lv_iload_n C.1 C.2.1 dL_law_1266 rfl (lv_at hl 3 rfl) ?_
  refine lv_iconst (v := (1 : Int32)) C.1 C.2.1 dL_law_1267 (by decide) ?_
  refine lv_iadd C.1 C.2.1 dL_law_1268 ?_
  obtain ⟨g_1, hE⟩ := gd_e hE
  refine va_sld C.1 C.2.1 hX hbl hbA hZ g_1 dL_law_1269 ?_
  obtain ⟨o_2, eo_2, hE⟩ := cl_e hE
  have m1 := moX15_refutes eo_2
  have m2 := moL_law_1273 mk_18 hE
  refine x_kIA (o := o_2) hkl (z_runV (As := [.int (xs (x3 + (1 : Int32)).toNatClampNeg)]) (rest := []) C (ct_X15_refutes l X F k_x2 eo_2) cw_L_167 hW hZ k_x2 (by decide) rfl rfl rfl hl.1 (Nat.le_of_ble_eq_true rfl) rfl dL_law_1270 ⟨Nat.le_of_ble_eq_true rfl, Nat.le_of_ble_eq_true rfl⟩ ⟨Nat.le_trans (rm_ok hkl m1 m2).1 hRm.1, Nat.le_trans (rm_ok hkl m1 m2).2 hRm.2⟩) hZ (fun _ _ hW km hZ => ?_)
  replace hkl := hkl.tr km
  replace k_x1 := km.at k_x1 (by decide)
  replace k_x2 := km.at k_x2 (by decide)
  exact bL_law_1273 C hX hbl hbA hbase hRm ho hk_18 mk_18 k_x1 k_x2 hkl hW hZ _ (lv_sub hl [0, 1, 2, 3] rfl) hE
