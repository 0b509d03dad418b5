set_option maxRecDepth 20000 in
theorem bL_law_551 {p : Program} {l : Launch} {e : Env} {s : State} {m : MethodId} {below : List Frame} {meth : Method} {c : Code} {X : Ec} {h0 : Hp} {o : Int32 × Hp} {k_18 : Hp → Nat → Nat → Int32 → Option (Int32 × Hp)} {F : Nat} {mn : String} {b L : Nat} {xs : Nat → Int32} (C : Cx X p s m #[Value.ref b] meth c RL code 4 ret mn) (hX : va_X b L xs s s.heap) (hbl : b < s.heap.size) (hbA : ¬ aA (eB X) b) (hbase : eB X = s.heap.size) (hRm : hS o.2 - hS h0 ≤ room_1.cells ∧ hL o.2 - hL h0 ≤ room_1.slots) (ho : o.1 = 1) (hk_18 : ∀ (h : Hp) (x1 : Nat) (x2 : Nat) (x3 : Int32) (H : Heap) (locs : List Loc), hK h x1 = 11 → hK h x2 = 15 → Kl h0 h → Wx X h H → va_S (aA (eB X)) s.heap H locs → ∀ (ls : Array Slot), lv_has ls 4 [(0, .ref b), (1, .ref x1), (2, .ref x2), (3, .int x3)] → k_18 h x1 x2 x3 = some o → W p l e room_1 s m #[Value.ref b] below meth c H locs (hS h - hS h0) (hL h - hL h0) (lw_Z below #[Value.ref b] s) (F0 m 18 ls [])) (mk_18 : ∀ (h : Hp) (x1 : Nat) (x2 : Nat) (x3 : Int32), k_18 h x1 x2 x3 = some o → Le h o.2) {h : Hp} {x1 : Nat} {x2 : Nat} {x3 : Int32} {t0 : Int32} {H : Heap} {locs : List Loc} (k_x1 : hK h x1 = 11) (k_x2 : hK h x2 = 15) (hkl : Kl h0 h) (hW : Wx X h H) (hZ : va_S (aA (eB X)) s.heap H locs) (ls : Array Slot) (hl : lv_has ls 4 [(0, .ref b), (1, .ref x1), (2, .ref x2), (3, .int x3)]) (hE : sL_law_551 F L xs k_18 h x1 x2 x3 t0 = some o) : W p l e room_1 s m #[Value.ref b] below meth c H locs (hS h - hS h0) (hL h - hL h0) (lw_Z below #[Value.ref b] s) (F0 m 551 ls [.int t0]) := by
  refine lv_aload_n C.1 C.2.1 dL_law_551 rfl (lv_at hl 2 rfl) ?_
  refine lv_aload_n C.1 C.2.1 dL_law_552 rfl (lv_at hl 0 rfl) ?_
  refine lv_iload_n C.1 C.2.1 dL_law_553 rfl (lv_at hl 3 rfl) ?_
  refine lv_iconst (v := (1 : Int32)) C.1 C.2.1 dL_law_554 (by decide) ?_
  refine lv_iadd C.1 C.2.1 dL_law_555 ?_
  obtain ⟨g_1, hE⟩ := gd_e hE
  refine va_sld C.1 C.2.1 hX hbl hbA hZ g_1 dL_law_556 ?_
  obtain ⟨o_2, eo_2, hE⟩ := cl_e hE
  have m1 := moX15_moves eo_2
  have m2 := moL_law_560 mk_18 hE
  refine x_kI (o := o_2) (z_runV (As := [.int (xs (x3 + (1 : Int32)).toNatClampNeg)]) (rest := [.int t0]) C (ct_X15_moves l X F k_x2 eo_2) cw_L_70 hW hZ k_x2 (by decide) rfl rfl rfl hl.1 (Nat.le_of_ble_eq_true rfl) rfl dL_law_557 ⟨Nat.le_of_ble_eq_true rfl, Nat.le_of_ble_eq_true rfl⟩ ⟨Nat.le_trans (rm_ok0 hkl m1 m2).1 hRm.1, Nat.le_trans (rm_ok0 hkl m1 m2).2 hRm.2⟩) hZ (fun _ _ hW km hZ => ?_)
  replace hkl := hkl.tr km.l
  refine x_wc km ?_
  replace k_x1 := km.at k_x1 (by decide)
  replace k_x2 := km.at k_x2 (by decide)
  exact bL_law_560 C hX hbl hbA hbase hRm ho hk_18 mk_18 k_x1 k_x2 hkl hW hZ _ (lv_sub hl [0, 1, 2, 3] rfl) hE
set_option maxRecDepth 20000 in
theorem bL_law_603 {p : Program} {l : Launch} {e : Env} {s : State} {m : MethodId} {below : List Frame} {meth : Method} {c : Code} {X : Ec} {h0 : Hp} {o : Int32 × Hp} {k_18 : Hp → Nat → Nat → Int32 → Option (Int32 × Hp)} {F : Nat} {mn : String} {b L : Nat} {xs : Nat → Int32} (C : Cx X p s m #[Value.ref b] meth c RL code 4 ret mn) (hX : va_X b L xs s s.heap) (hbl : b < s.heap.size) (hbA : ¬ aA (eB X) b) (hbase : eB X = s.heap.size) (hRm : hS o.2 - hS h0 ≤ room_1.cells ∧ hL o.2 - hL h0 ≤ room_1.slots) (ho : o.1 = 1) (hk_18 : ∀ (h : Hp) (x1 : Nat) (x2 : Nat) (x3 : Int32) (H : Heap) (locs : List Loc), hK h x1 = 11 → hK h x2 = 15 → Kl h0 h → Wx X h H → va_S (aA (eB X)) s.heap H locs → ∀ (ls : Array Slot), lv_has ls 4 [(0, .ref b), (1, .ref x1), (2, .ref x2), (3, .int x3)] → k_18 h x1 x2 x3 = some o → W p l e room_1 s m #[Value.ref b] below meth c H locs (hS h - hS h0) (hL h - hL h0) (lw_Z below #[Value.ref b] s) (F0 m 18 ls [])) (mk_18 : ∀ (h : Hp) (x1 : Nat) (x2 : Nat) (x3 : Int32), k_18 h x1 x2 x3 = some o → Le h o.2) {h : Hp} {x1 : Nat} {x2 : Nat} {x3 : Int32} {t0 : Int32} {t1 : Int32} {H : Heap} {locs : List Loc} (k_x1 : hK h x1 = 11) (k_x2 : hK h x2 = 15) (hkl : Kl h0 h) (hW : Wx X h H) (hZ : va_S (aA (eB X)) s.heap H locs) (ls : Array Slot) (hl : lv_has ls 4 [(0, .ref b), (1, .ref x1), (2, .ref x2), (3, .int x3)]) (hE : sL_law_603 F L xs k_18 h x1 x2 x3 t0 t1 = some o) : W p l e room_1 s m #[Value.ref b] below meth c H locs (hS h - hS h0) (hL h - hL h0) (lw_Z below #[Value.ref b] s) (F0 m 603 ls [.int t0, .int t1]) := by
  refine lv_icmp_eq (tgt := 1277) C.1 C.2.1 dL_law_603 (by decide) (fun c_1 => ?_) (fun c_1 => ?_)
  · have hE := br_p hE c_1
    exact bL_law_1277 C hX hbl hbA hbase hRm ho hk_18 mk_18 k_x1 k_x2 hkl hW hZ _ (lv_sub hl [0, 1, 2, 3] rfl) hE
  · have hE := br_n hE c_1
    refine lv_iconst (v := (0 : Int32)) C.1 C.2.1 dL_law_606 (by decide) ?_
    exact x_retL C hZ hbase hRm ho hE dL_law_607
set_option maxRecDepth 20000 in
theorem bL_law_584 {p : Program} {l : Launch} {e : Env} {s : State} {m : MethodId} {below : List Frame} {meth : Method} {c : Code} {X : Ec} {h0 : Hp} {o : Int32 × Hp} {k_18 : Hp → Nat → Nat → Int32 → Option (Int32 × Hp)} {F : Nat} {mn : String} {b L : Nat} {xs : Nat → Int32} (C : Cx X p s m #[Value.ref b] meth c RL code 4 ret mn) (hX : va_X b L xs s s.heap) (hbl : b < s.heap.size) (hbA : ¬ aA (eB X) b) (hbase : eB X = s.heap.size) (hRm : hS o.2 - hS h0 ≤ room_1.cells ∧ hL o.2 - hL h0 ≤ room_1.slots) (ho : o.1 = 1) (hk_18 : ∀ (h : Hp) (x1 : Nat) (x2 : Nat) (x3 : Int32) (H : Heap) (locs : List Loc), hK h x1 = 11 → hK h x2 = 15 → Kl h0 h → Wx X h H → va_S (aA (eB X)) s.heap H locs → ∀ (ls : Array Slot), lv_has ls 4 [(0, .ref b), (1, .ref x1), (2, .ref x2), (3, .int x3)] → k_18 h x1 x2 x3 = some o → W p l e room_1 s m #[Value.ref b] below meth c H locs (hS h - hS h0) (hL h - hL h0) (lw_Z below #[Value.ref b] s) (F0 m 18 ls [])) (mk_18 : ∀ (h : Hp) (x1 : Nat) (x2 : Nat) (x3 : Int32), k_18 h x1 x2 x3 = some o → Le h o.2) {h : Hp} {x1 : Nat} {x2 : Nat} {x3 : Int32} {t0 : Int32} {H : Heap} {locs : List Loc} (k_x1 : hK h x1 = 11) (k_x2 : hK h x2 = 15) (hkl : Kl h0 h) (hW : Wx X h H) (hZ : va_S (aA (eB X)) s.heap H locs) (ls : Array Slot) (hl : lv_has ls 4 [(0, .ref b), (1, .ref x1), (2, .ref x2), (3, .int x3)]) (hE : sL_law_584 F L xs k_18 h x1 x2 x3 t0 = some o) : W p l e room_1 s m #[Value.ref b] below meth c H locs (hS h - hS h0) (hL h - hL h0) (lw_Z below #[Value.ref b] s) (F0 m 584 ls [.int t0]) := by
  refine lv_aload_n C.1 C.2.1 dL_law_584 rfl (lv_at hl 2 rfl) ?_
  refine lv_aload_n C.1 C.2.1 dL_law_585 rfl (lv_at hl 0 rfl) ?_
  refine lv_iload_n C.1 C.2.1 dL_law_586 rfl (lv_at hl 3 rfl) ?_
  refine lv_iconst (v := (1 : Int32)) C.1 C.2.1 dL_law_587 (by decide) ?_
  refine lv_iadd C.1 C.2.1 dL_law_588 ?_
  obtain ⟨g_1, hE⟩ := gd_e hE
  refine va_sld C.1 C.2.1 hX hbl hbA hZ g_1 dL_law_589 ?_
  refine lv_aload_n C.1 C.2.1 dL_law_590 rfl (lv_at hl 0 rfl) ?_
  refine lv_iload_n C.1 C.2.1 dL_law_591 rfl (lv_at hl 3 rfl) ?_
  refine lv_iconst (v := (2 : Int32)) C.1 C.2.1 dL_law_592 (by decide) ?_
  refine lv_iadd C.1 C.2.1 dL_law_593 ?_
  obtain ⟨g_2, hE⟩ := gd_e hE
  refine va_sld C.1 C.2.1 hX hbl hbA hZ g_2 dL_law_594 ?_
  refine lv_aload_n C.1 C.2.1 dL_law_595 rfl (lv_at hl 0 rfl) ?_
  refine lv_iload_n C.1 C.2.1 dL_law_596 rfl (lv_at hl 3 rfl) ?_
  refine lv_iconst (v := (3 : Int32)) C.1 C.2.1 dL_law_597 (by decide) ?_
  refine lv_iadd C.1 C.2.1 dL_law_598 ?_
  obtain ⟨g_3, hE⟩ := gd_e hE
  refine va_sld C.1 C.2.1 hX hbl hbA hZ g_3 dL_law_599 ?_
  obtain ⟨o_4, eo_4, hE⟩ := cl_e hE
  have m1 := moX15_move eo_4
  have m2 := moL_law_603 mk_18 hE
  refine x_kI (o := o_4) (z_runV (As := [.int (xs (x3 + (1 : Int32)).toNatClampNeg), .int (xs (x3 + (2 : Int32)).toNatClampNeg), .int (xs (x3 + (3 : Int32)).toNatClampNeg)]) (rest := [.int t0]) C (ct_X15_move l X F k_x2 eo_4) cw_L_74 hW hZ k_x2 (by decide) rfl rfl rfl hl.1 (Nat.le_of_ble_eq_true rfl) rfl dL_law_600 ⟨Nat.le_of_ble_eq_true rfl, Nat.le_of_ble_eq_true rfl⟩ ⟨Nat.le_trans (rm_ok0 hkl m1 m2).1 hRm.1, Nat.le_trans (rm_ok0 hkl m1 m2).2 hRm.2⟩) hZ (fun _ _ hW km hZ => ?_)
  replace hkl := hkl.tr km.l
  refine x_wc km ?_
  replace k_x1 := km.at k_x1 (by decide)
  replace k_x2 := km.at k_x2 (by decide)
  exact bL_law_603 C hX hbl hbA hbase hRm ho hk_18 mk_18 k_x1 k_x2 hkl hW hZ _ (lv_sub hl [0, 1, 2, 3] rfl) hE
set_option maxRecDepth 20000 in
theorem bL_law_636 {p : Program} {l : Launch} {e : Env} {s : State} {m : MethodId} {below : List Frame} {meth : Method} {c : Code} {X : Ec} {h0 : Hp} {o : Int32 × Hp} {k_18 : Hp → Nat → Nat → Int32 → Option (Int32 × Hp)} {F : Nat} {mn : String} {b L : Nat} {xs : Nat → Int32} (C : Cx X p s m #[Value.ref b] meth c RL code 4 ret mn) (hX : va_X b L xs s s.heap) (hbl : b < s.heap.size) (hbA : ¬ aA (eB X) b) (hbase : eB X = s.heap.size) (hRm : hS o.2 - hS h0 ≤ room_1.cells ∧ hL o.2 - hL h0 ≤ room_1.slots) (ho : o.1 = 1) (hk_18 : ∀ (h : Hp) (x1 : Nat) (x2 : Nat) (x3 : Int32) (H : Heap) (locs : List Loc), hK h x1 = 11 → hK h x2 = 15 → Kl h0 h → Wx X h H → va_S (aA (eB X)) s.heap H locs → ∀ (ls : Array Slot), lv_has ls 4 [(0, .ref b), (1, .ref x1), (2, .ref x2), (3, .int x3)] → k_18 h x1 x2 x3 = some o → W p l e room_1 s m #[Value.ref b] below meth c H locs (hS h - hS h0) (hL h - hL h0) (lw_Z below #[Value.ref b] s) (F0 m 18 ls [])) (mk_18 : ∀ (h : Hp) (x1 : Nat) (x2 : Nat) (x3 : Int32), k_18 h x1 x2 x3 = some o → Le h o.2) {h : Hp} {x1 : Nat} {x2 : Nat} {x3 : Int32} {t0 : Int32} {t1 : Int32} {H : Heap} {locs : List Loc} (k_x1 : hK h x1 = 11) (k_x2 : hK h x2 = 15) (hkl : Kl h0 h) (hW : Wx X h H) (hZ : va_S (aA (eB X)) s.heap H locs) (ls : Array Slot) (hl : lv_has ls 4 [(0, .ref b), (1, .ref x1), (2, .ref x2), (3, .int x3)]) (hE : sL_law_636 F L xs k_18 h x1 x2 x3 t0 t1 = some o) : W p l e room_1 s m #[Value.ref b] below meth c H locs (hS h - hS h0) (hL h - hL h0) (lw_Z below #[Value.ref b] s) (F0 m 636 ls [.int t0, .int t1]) := by
  refine lv_icmp_eq (tgt := 1277) C.1 C.2.1 dL_law_636 (by decide) (fun c_1 => ?_) (fun c_1 => ?_)
  · have hE := br_p hE c_1
    exact bL_law_1277 C hX hbl hbA hbase hRm ho hk_18 mk_18 k_x1 k_x2 hkl hW hZ _ (lv_sub hl [0, 1, 2, 3] rfl) hE
  · have hE := br_n hE c_1
    refine lv_iconst (v := (0 : Int32)) C.1 C.2.1 dL_law_639 (by decide) ?_
    exact x_retL C hZ hbase hRm ho hE dL_law_640
set_option maxRecDepth 20000 in
theorem bL_law_622 {p : Program} {l : Launch} {e : Env} {s : State} {m : MethodId} {below : List Frame} {meth : Method} {c : Code} {X : Ec} {h0 : Hp} {o : Int32 × Hp} {k_18 : Hp → Nat → Nat → Int32 → Option (Int32 × Hp)} {F : Nat} {mn : String} {b L : Nat} {xs : Nat → Int32} (C : Cx X p s m #[Value.ref b] meth c RL code 4 ret mn) (hX : va_X b L xs s s.heap) (hbl : b < s.heap.size) (hbA : ¬ aA (eB X) b) (hbase : eB X = s.heap.size) (hRm : hS o.2 - hS h0 ≤ room_1.cells ∧ hL o.2 - hL h0 ≤ room_1.slots) (ho : o.1 = 1) (hk_18 : ∀ (h : Hp) (x1 : Nat) (x2 : Nat) (x3 : Int32) (H : Heap) (locs : List Loc), hK h x1 = 11 → hK h x2 = 15 → Kl h0 h → Wx X h H → va_S (aA (eB X)) s.heap H locs → ∀ (ls : Array Slot), lv_has ls 4 [(0, .ref b), (1, .ref x1), (2, .ref x2), (3, .int x3)] → k_18 h x1 x2 x3 = some o → W p l e room_1 s m #[Value.ref b] below meth c H locs (hS h - hS h0) (hL h - hL h0) (lw_Z below #[Value.ref b] s) (F0 m 18 ls [])) (mk_18 : ∀ (h : Hp) (x1 : Nat) (x2 : Nat) (x3 : Int32), k_18 h x1 x2 x3 = some o → Le h o.2) {h : Hp} {x1 : Nat} {x2 : Nat} {x3 : Int32} {t0 : Int32} {H : Heap} {locs : List Loc} (k_x1 : hK h x1 = 11) (k_x2 : hK h x2 = 15) (hkl : Kl h0 h) (hW : Wx X h H) (hZ : va_S (aA (eB X)) s.heap H locs) (ls : Array Slot) (hl : lv_has ls 4 [(0, .ref b), (1, .ref x1), (2, .ref x2), (3, .int x3)]) (hE : sL_law_622 F L xs k_18 h x1 x2 x3 t0 = some o) : W p l e room_1 s m #[Value.ref b] below meth c H locs (hS h - hS h0) (hL h - hL h0) (lw_Z below #[Value.ref b] s) (F0 m 622 ls [.int t0]) := by
  refine lv_aload_n C.1 C.2.1 dL_law_622 rfl (lv_at hl 2 rfl) ?_
  refine lv_aload_n C.1 C.2.1 dL_law_623 rfl (lv_at hl 0 rfl) ?_
  refine lv_iload_n C.1 C.2.1 dL_law_624 rfl (lv_at hl 3 rfl) ?_
  refine lv_iconst (v := (1 : Int32)) C.1 C.2.1 dL_law_625 (by decide) ?_
  refine lv_iadd C.1 C.2.1 dL_law_626 ?_
  obtain ⟨g_1, hE⟩ := gd_e hE
  refine va_sld C.1 C.2.1 hX hbl hbA hZ g_1 dL_law_627 ?_
  refine lv_aload_n C.1 C.2.1 dL_law_628 rfl (lv_at hl 0 rfl) ?_
  refine lv_iload_n C.1 C.2.1 dL_law_629 rfl (lv_at hl 3 rfl) ?_
  refine lv_iconst (v := (2 : Int32)) C.1 C.2.1 dL_law_630 (by decide) ?_
  refine lv_iadd C.1 C.2.1 dL_law_631 ?_
  obtain ⟨g_2, hE⟩ := gd_e hE
  refine va_sld C.1 C.2.1 hX hbl hbA hZ g_2 dL_law_632 ?_
  obtain ⟨o_3, eo_3, hE⟩ := cl_e hE
  have m1 := moX15_go eo_3
  have m2 := moL_law_636 mk_18 hE
  refine x_kIA (o := o_3) hkl (z_runV (As := [.int (xs (x3 + (1 : Int32)).toNatClampNeg), .int (xs (x3 + (2 : Int32)).toNatClampNeg)]) (rest := [.int t0]) C (ct_X15_go l X F k_x2 eo_3) cw_L_78 hW hZ k_x2 (by decide) rfl rfl rfl hl.1 (Nat.le_of_ble_eq_true rfl) rfl dL_law_633 ⟨Nat.le_of_ble_eq_true rfl, Nat.le_of_ble_eq_true rfl⟩ ⟨Nat.le_trans (rm_ok hkl m1 m2).1 hRm.1, Nat.le_trans (rm_ok hkl m1 m2).2 hRm.2⟩) hZ (fun _ _ hW km hZ => ?_)
  replace hkl := hkl.tr km
  replace k_x1 := km.at k_x1 (by decide)
  replace k_x2 := km.at k_x2 (by decide)
  exact bL_law_636 C hX hbl hbA hbase hRm ho hk_18 mk_18 k_x1 k_x2 hkl hW hZ _ (lv_sub hl [0, 1, 2, 3] rfl) hE
set_option maxRecDepth 20000 in
theorem bL_law_669 {p : Program} {l : Launch} {e : Env} {s : State} {m : MethodId} {below : List Frame} {meth : Method} {c : Code} {X : Ec} {h0 : Hp} {o : Int32 × Hp} {k_18 : Hp → Nat → Nat → Int32 → Option (Int32 × Hp)} {F : Nat} {mn : String} {b L : Nat} {xs : Nat → Int32} (C : Cx X p s m #[Value.ref b] meth c RL code 4 ret mn) (hX : va_X b L xs s s.heap) (hbl : b < s.heap.size) (hbA : ¬ aA (eB X) b) (hbase : eB X = s.heap.size) (hRm : hS o.2 - hS h0 ≤ room_1.cells ∧ hL o.2 - hL h0 ≤ room_1.slots) (ho : o.1 = 1) (hk_18 : ∀ (h : Hp) (x1 : Nat) (x2 : Nat) (x3 : Int32) (H : Heap) (locs : List Loc), hK h x1 = 11 → hK h x2 = 15 → Kl h0 h → Wx X h H → va_S (aA (eB X)) s.heap H locs → ∀ (ls : Array Slot), lv_has ls 4 [(0, .ref b), (1, .ref x1), (2, .ref x2), (3, .int x3)] → k_18 h x1 x2 x3 = some o → W p l e room_1 s m #[Value.ref b] below meth c H locs (hS h - hS h0) (hL h - hL h0) (lw_Z below #[Value.ref b] s) (F0 m 18 ls [])) (mk_18 : ∀ (h : Hp) (x1 : Nat) (x2 : Nat) (x3 : Int32), k_18 h x1 x2 x3 = some o → Le h o.2) {h : Hp} {x1 : Nat} {x2 : Nat} {x3 : Int32} {t0 : Int32} {t1 : Int32} {H : Heap} {locs : List Loc} (k_x1 : hK h x1 = 11) (k_x2 : hK h x2 = 15) (hkl : Kl h0 h) (hW : Wx X h H) (hZ : va_S (aA (eB X)) s.heap H locs) (ls : Array Slot) (hl : lv_has ls 4 [(0, .ref b), (1, .ref x1), (2, .ref x2), (3, .int x3)]) (hE : sL_law_669 F L xs k_18 h x1 x2 x3 t0 t1 = some o) : W p l e room_1 s m #[Value.ref b] below meth c H locs (hS h - hS h0) (hL h - hL h0) (lw_Z below #[Value.ref b] s) (F0 m 669 ls [.int t0, .int t1]) := by
  refine lv_icmp_eq (tgt := 1277) C.1 C.2.1 dL_law_669 (by decide) (fun c_1 => ?_) (fun c_1 => ?_)
  · have hE := br_p hE c_1
    exact bL_law_1277 C hX hbl hbA hbase hRm ho hk_18 mk_18 k_x1 k_x2 hkl hW hZ _ (lv_sub hl [0, 1, 2, 3] rfl) hE
  · have hE := br_n hE c_1
    refine lv_iconst (v := (0 : Int32)) C.1 C.2.1 dL_law_672 (by decide) ?_
    exact x_retL C hZ hbase hRm ho hE dL_law_673
set_option maxRecDepth 20000 in
theorem bL_law_655 {p : Program} {l : Launch} {e : Env} {s : State} {m : MethodId} {below : List Frame} {meth : Method} {c : Code} {X : Ec} {h0 : Hp} {o : Int32 × Hp} {k_18 : Hp → Nat → Nat → Int32 → Option (Int32 × Hp)} {F : Nat} {mn : String} {b L : Nat} {xs : Nat → Int32} (C : Cx X p s m #[Value.ref b] meth c RL code 4 ret mn) (hX : va_X b L xs s s.heap) (hbl : b < s.heap.size) (hbA : ¬ aA (eB X) b) (hbase : eB X = s.heap.size) (hRm : hS o.2 - hS h0 ≤ room_1.cells ∧ hL o.2 - hL h0 ≤ room_1.slots) (ho : o.1 = 1) (hk_18 : ∀ (h : Hp) (x1 : Nat) (x2 : Nat) (x3 : Int32) (H : Heap) (locs : List Loc), hK h x1 = 11 → hK h x2 = 15 → Kl h0 h → Wx X h H → va_S (aA (eB X)) s.heap H locs → ∀ (ls : Array Slot), lv_has ls 4 [(0, .ref b), (1, .ref x1), (2, .ref x2), (3, .int x3)] → k_18 h x1 x2 x3 = some o → W p l e room_1 s m #[Value.ref b] below meth c H locs (hS h - hS h0) (hL h - hL h0) (lw_Z below #[Value.ref b] s) (F0 m 18 ls [])) (mk_18 : ∀ (h : Hp) (x1 : Nat) (x2 : Nat) (x3 : Int32), k_18 h x1 x2 x3 = some o → Le h o.2) {h : Hp} {x1 : Nat} {x2 : Nat} {x3 : Int32} {t0 : Int32} {H : Heap} {locs : List Loc} (k_x1 : hK h x1 = 11) (k_x2 : hK h x2 = 15) (hkl : Kl h0 h) (hW : Wx X h H) (hZ : va_S (aA (eB X)) s.heap H locs) (ls : Array Slot) (hl : lv_has ls 4 [(0, .ref b), (1, .ref x1), (2, .ref x2), (3, .int x3)]) (hE : sL_law_655 F L xs k_18 h x1 x2 x3 t0 = some o) : W p l e room_1 s m #[Value.ref b] below meth c H locs (hS h - hS h0) (hL h - hL h0) (lw_Z below #[Value.ref b] s) (F0 m 655 ls [.int t0]) := by
  refine lv_aload_n C.1 C.2.1 dL_law_655 rfl (lv_at hl 2 rfl) ?_
  refine lv_aload_n C.1 C.2.1 dL_law_656 rfl (lv_at hl 0 rfl) ?_
  refine lv_iload_n C.1 C.2.1 dL_law_657 rfl (lv_at hl 3 rfl) ?_
  refine lv_iconst (v := (1 : Int32)) C.1 C.2.1 dL_law_658 (by decide) ?_
  refine lv_iadd C.1 C.2.1 dL_law_659 ?_
  obtain ⟨g_1, hE⟩ := gd_e hE
  refine va_sld C.1 C.2.1 hX hbl hbA hZ g_1 dL_law_660 ?_
  refine lv_aload_n C.1 C.2.1 dL_law_661 rfl (lv_at hl 0 rfl) ?_
  refine lv_iload_n C.1 C.2.1 dL_law_662 rfl (lv_at hl 3 rfl) ?_
  refine lv_iconst (v := (2 : Int32)) C.1 C.2.1 dL_law_663 (by decide) ?_
  refine lv_iadd C.1 C.2.1 dL_law_664 ?_
  obtain ⟨g_2, hE⟩ := gd_e hE
  refine va_sld C.1 C.2.1 hX hbl hbA hZ g_2 dL_law_665 ?_
  obtain ⟨o_3, eo_3, hE⟩ := cl_e hE
  have m1 := moX15_rows eo_3
  have m2 := moL_law_669 mk_18 hE
  refine x_kIA (o := o_3) hkl (z_runV (As := [.int (xs (x3 + (1 : Int32)).toNatClampNeg), .int (xs (x3 + (2 : Int32)).toNatClampNeg)]) (rest := [.int t0]) C (ct_X15_rows l X F k_x2 eo_3) cw_L_82 hW hZ k_x2 (by decide) rfl rfl rfl hl.1 (Nat.le_of_ble_eq_true rfl) rfl dL_law_666 ⟨Nat.le_of_ble_eq_true rfl, Nat.le_of_ble_eq_true rfl⟩ ⟨Nat.le_trans (rm_ok hkl m1 m2).1 hRm.1, Nat.le_trans (rm_ok hkl m1 m2).2 hRm.2⟩) hZ (fun _ _ hW km hZ => ?_)
  replace hkl := hkl.tr km
  replace k_x1 := km.at k_x1 (by decide)
  replace k_x2 := km.at k_x2 (by decide)
  exact bL_law_669 C hX hbl hbA hbase hRm ho hk_18 mk_18 k_x1 k_x2 hkl hW hZ _ (lv_sub hl [0, 1, 2, 3] rfl) hE
set_option maxRecDepth 20000 in
theorem bL_law_692 {p : Program} {l : Launch} {e : Env} {s : State} {m : MethodId} {below : List Frame} {meth : Method} {c : Code} {X : Ec} {h0 : Hp} {o : Int32 × Hp} {k_18 : Hp → Nat → Nat → Int32 → Option (Int32 × Hp)} {F : Nat} {mn : String} {b L : Nat} {xs : Nat → Int32} (C : Cx X p s m #[Value.ref b] meth c RL code 4 ret mn) (hX : va_X b L xs s s.heap) (hbl : b < s.heap.size) (hbA : ¬ aA (eB X) b) (hbase : eB X = s.heap.size) (hRm : hS o.2 - hS h0 ≤ room_1.cells ∧ hL o.2 - hL h0 ≤ room_1.slots) (ho : o.1 = 1) (hk_18 : ∀ (h : Hp) (x1 : Nat) (x2 : Nat) (x3 : Int32) (H : Heap) (locs : List Loc), hK h x1 = 11 → hK h x2 = 15 → Kl h0 h → Wx X h H → va_S (aA (eB X)) s.heap H locs → ∀ (ls : Array Slot), lv_has ls 4 [(0, .ref b), (1, .ref x1), (2, .ref x2), (3, .int x3)] → k_18 h x1 x2 x3 = some o → W p l e room_1 s m #[Value.ref b] below meth c H locs (hS h - hS h0) (hL h - hL h0) (lw_Z below #[Value.ref b] s) (F0 m 18 ls [])) (mk_18 : ∀ (h : Hp) (x1 : Nat) (x2 : Nat) (x3 : Int32), k_18 h x1 x2 x3 = some o → Le h o.2) {h : Hp} {x1 : Nat} {x2 : Nat} {x3 : Int32} {t0 : Int32} {t1 : Int32} {H : Heap} {locs : List Loc} (k_x1 : hK h x1 = 11) (k_x2 : hK h x2 = 15) (hkl : Kl h0 h) (hW : Wx X h H) (hZ : va_S (aA (eB X)) s.heap H locs) (ls : Array Slot) (hl : lv_has ls 4 [(0, .ref b), (1, .ref x1), (2, .ref x2), (3, .int x3)]) (hE : sL_law_692 F L xs k_18 h x1 x2 x3 t0 t1 = some o) : W p l e room_1 s m #[Value.ref b] below meth c H locs (hS h - hS h0) (hL h - hL h0) (lw_Z below #[Value.ref b] s) (F0 m 692 ls [.int t0, .int t1]) := by
  refine lv_icmp_eq (tgt := 1277) C.1 C.2.1 dL_law_692 (by decide) (fun c_1 => ?_) (fun c_1 => ?_)
  · have hE := br_p hE c_1
    exact bL_law_1277 C hX hbl hbA hbase hRm ho hk_18 mk_18 k_x1 k_x2 hkl hW hZ _ (lv_sub hl [0, 1, 2, 3] rfl) hE
  · have hE := br_n hE c_1
    refine lv_iconst (v := (0 : Int32)) C.1 C.2.1 dL_law_695 (by decide) ?_
    exact x_retL C hZ hbase hRm ho hE dL_law_696
set_option maxRecDepth 20000 in
theorem bL_law_683 {p : Program} {l : Launch} {e : Env} {s : State} {m : MethodId} {below : List Frame} {meth : Method} {c : Code} {X : Ec} {h0 : Hp} {o : Int32 × Hp} {k_18 : Hp → Nat → Nat → Int32 → Option (Int32 × Hp)} {F : Nat} {mn : String} {b L : Nat} {xs : Nat → Int32} (C : Cx X p s m #[Value.ref b] meth c RL code 4 ret mn) (hX : va_X b L xs s s.heap) (hbl : b < s.heap.size) (hbA : ¬ aA (eB X) b) (hbase : eB X = s.heap.size) (hRm : hS o.2 - hS h0 ≤ room_1.cells ∧ hL o.2 - hL h0 ≤ room_1.slots) (ho : o.1 = 1) (hk_18 : ∀ (h : Hp) (x1 : Nat) (x2 : Nat) (x3 : Int32) (H : Heap) (locs : List Loc), hK h x1 = 11 → hK h x2 = 15 → Kl h0 h → Wx X h H → va_S (aA (eB X)) s.heap H locs → ∀ (ls : Array Slot), lv_has ls 4 [(0, .ref b), (1, .ref x1), (2, .ref x2), (3, .int x3)] → k_18 h x1 x2 x3 = some o → W p l e room_1 s m #[Value.ref b] below meth c H locs (hS h - hS h0) (hL h - hL h0) (lw_Z below #[Value.ref b] s) (F0 m 18 ls [])) (mk_18 : ∀ (h : Hp) (x1 : Nat) (x2 : Nat) (x3 : Int32), k_18 h x1 x2 x3 = some o → Le h o.2) {h : Hp} {x1 : Nat} {x2 : Nat} {x3 : Int32} {t0 : Int32} {H : Heap} {locs : List Loc} (k_x1 : hK h x1 = 11) (k_x2 : hK h x2 = 15) (hkl : Kl h0 h) (hW : Wx X h H) (hZ : va_S (aA (eB X)) s.heap H locs) (ls : Array Slot) (hl : lv_has ls 4 [(0, .ref b), (1, .ref x1), (2, .ref x2), (3, .int x3)]) (hE : sL_law_683 F L xs k_18 h x1 x2 x3 t0 = some o) : W p l e room_1 s m #[Value.ref b] below meth c H locs (hS h - hS h0) (hL h - hL h0) (lw_Z below #[Value.ref b] s) (F0 m 683 ls [.int t0]) := by
  refine lv_aload_n C.1 C.2.1 dL_law_683 rfl (lv_at hl 2 rfl) ?_
  refine lv_aload_n C.1 C.2.1 dL_law_684 rfl (lv_at hl 0 rfl) ?_
  refine lv_iload_n C.1 C.2.1 dL_law_685 rfl (lv_at hl 3 rfl) ?_
  refine lv_iconst (v := (1 : Int32)) C.1 C.2.1 dL_law_686 (by decide) ?_
  refine lv_iadd C.1 C.2.1 dL_law_687 ?_
  obtain ⟨g_1, hE⟩ := gd_e hE
  refine va_sld C.1 C.2.1 hX hbl hbA hZ g_1 dL_law_688 ?_
  obtain ⟨o_2, eo_2, hE⟩ := cl_e hE
  have m1 := moX15_ended eo_2
  have m2 := moL_law_692 mk_18 hE
  refine x_kI (o := o_2) (z_runV (As := [.int (xs (x3 + (1 : Int32)).toNatClampNeg)]) (rest := [.int t0]) C (ct_X15_ended l X F k_x2 eo_2) cw_L_86 hW hZ k_x2 (by decide) rfl rfl rfl hl.1 (Nat.le_of_ble_eq_true rfl) rfl dL_law_689 ⟨Nat.le_of_ble_eq_true rfl, Nat.le_of_ble_eq_true rfl⟩ ⟨Nat.le_trans (rm_ok0 hkl m1 m2).1 hRm.1, Nat.le_trans (rm_ok0 hkl m1 m2).2 hRm.2⟩) hZ (fun _ _ hW km hZ => ?_)
  replace hkl := hkl.tr km.l
  refine x_wc km ?_
  replace k_x1 := km.at k_x1 (by decide)
  replace k_x2 := km.at k_x2 (by decide)
  exact bL_law_692 C hX hbl hbA hbase hRm ho hk_18 mk_18 k_x1 k_x2 hkl hW hZ _ (lv_sub hl [0, 1, 2, 3] rfl) hE
set_option maxRecDepth 20000 in
theorem bL_law_715 {p : Program} {l : Launch} {e : Env} {s : State} {m : MethodId} {below : List Frame} {meth : Method} {c : Code} {X : Ec} {h0 : Hp} {o : Int32 × Hp} {k_18 : Hp → Nat → Nat → Int32 → Option (Int32 × Hp)} {F : Nat} {mn : String} {b L : Nat} {xs : Nat → Int32} (C : Cx X p s m #[Value.ref b] meth c RL code 4 ret mn) (hX : va_X b L xs s s.heap) (hbl : b < s.heap.size) (hbA : ¬ aA (eB X) b) (hbase : eB X = s.heap.size) (hRm : hS o.2 - hS h0 ≤ room_1.cells ∧ hL o.2 - hL h0 ≤ room_1.slots) (ho : o.1 = 1) (hk_18 : ∀ (h : Hp) (x1 : Nat) (x2 : Nat) (x3 : Int32) (H : Heap) (locs : List Loc), hK h x1 = 11 → hK h x2 = 15 → Kl h0 h → Wx X h H → va_S (aA (eB X)) s.heap H locs → ∀ (ls : Array Slot), lv_has ls 4 [(0, .ref b), (1, .ref x1), (2, .ref x2), (3, .int x3)] → k_18 h x1 x2 x3 = some o → W p l e room_1 s m #[Value.ref b] below meth c H locs (hS h - hS h0) (hL h - hL h0) (lw_Z below #[Value.ref b] s) (F0 m 18 ls [])) (mk_18 : ∀ (h : Hp) (x1 : Nat) (x2 : Nat) (x3 : Int32), k_18 h x1 x2 x3 = some o → Le h o.2) {h : Hp} {x1 : Nat} {x2 : Nat} {x3 : Int32} {t0 : Int32} {t1 : Int32} {H : Heap} {locs : List Loc} (k_x1 : hK h x1 = 11) (k_x2 : hK h x2 = 15) (hkl : Kl h0 h) (hW : Wx X h H) (hZ : va_S (aA (eB X)) s.heap H locs) (ls : Array Slot) (hl : lv_has ls 4 [(0, .ref b), (1, .ref x1), (2, .ref x2), (3, .int x3)]) (hE : sL_law_715 F L xs k_18 h x1 x2 x3 t0 t1 = some o) : W p l e room_1 s m #[Value.ref b] below meth c H locs (hS h - hS h0) (hL h - hL h0) (lw_Z below #[Value.ref b] s) (F0 m 715 ls [.int t0, .int t1]) := by
  refine lv_icmp_eq (tgt := 1277) C.1 C.2.1 dL_law_715 (by decide) (fun c_1 => ?_) (fun c_1 => ?_)
  · have hE := br_p hE c_1
    exact bL_law_1277 C hX hbl hbA hbase hRm ho hk_18 mk_18 k_x1 k_x2 hkl hW hZ _ (lv_sub hl [0, 1, 2, 3] rfl) hE
  · have hE := br_n hE c_1
    refine lv_iconst (v := (0 : Int32)) C.1 C.2.1 dL_law_718 (by decide) ?_
    exact x_retL C hZ hbase hRm ho hE dL_law_719
set_option maxRecDepth 20000 in
theorem bL_law_706 {p : Program} {l : Launch} {e : Env} {s : State} {m : MethodId} {below : List Frame} {meth : Method} {c : Code} {X : Ec} {h0 : Hp} {o : Int32 × Hp} {k_18 : Hp → Nat → Nat → Int32 → Option (Int32 × Hp)} {F : Nat} {mn : String} {b L : Nat} {xs : Nat → Int32} (C : Cx X p s m #[Value.ref b] meth c RL code 4 ret mn) (hX : va_X b L xs s s.heap) (hbl : b < s.heap.size) (hbA : ¬ aA (eB X) b) (hbase : eB X = s.heap.size) (hRm : hS o.2 - hS h0 ≤ room_1.cells ∧ hL o.2 - hL h0 ≤ room_1.slots) (ho : o.1 = 1) (hk_18 : ∀ (h : Hp) (x1 : Nat) (x2 : Nat) (x3 : Int32) (H : Heap) (locs : List Loc), hK h x1 = 11 → hK h x2 = 15 → Kl h0 h → Wx X h H → va_S (aA (eB X)) s.heap H locs → ∀ (ls : Array Slot), lv_has ls 4 [(0, .ref b), (1, .ref x1), (2, .ref x2), (3, .int x3)] → k_18 h x1 x2 x3 = some o → W p l e room_1 s m #[Value.ref b] below meth c H locs (hS h - hS h0) (hL h - hL h0) (lw_Z below #[Value.ref b] s) (F0 m 18 ls [])) (mk_18 : ∀ (h : Hp) (x1 : Nat) (x2 : Nat) (x3 : Int32), k_18 h x1 x2 x3 = some o → Le h o.2) {h : Hp} {x1 : Nat} {x2 : Nat} {x3 : Int32} {t0 : Int32} {H : Heap} {locs : List Loc} (k_x1 : hK h x1 = 11) (k_x2 : hK h x2 = 15) (hkl : Kl h0 h) (hW : Wx X h H) (hZ : va_S (aA (eB X)) s.heap H locs) (ls : Array Slot) (hl : lv_has ls 4 [(0, .ref b), (1, .ref x1), (2, .ref x2), (3, .int x3)]) (hE : sL_law_706 F L xs k_18 h x1 x2 x3 t0 = some o) : W p l e room_1 s m #[Value.ref b] below meth c H locs (hS h - hS h0) (hL h - hL h0) (lw_Z below #[Value.ref b] s) (F0 m 706 ls [.int t0]) := by
  refine lv_aload_n C.1 C.2.1 dL_law_706 rfl (lv_at hl 2 rfl) ?_
  refine lv_aload_n C.1 C.2.1 dL_law_707 rfl (lv_at hl 0 rfl) ?_
  refine lv_iload_n C.1 C.2.1 dL_law_708 rfl (lv_at hl 3 rfl) ?_
  refine lv_iconst (v := (1 : Int32)) C.1 C.2.1 dL_law_709 (by decide) ?_
  refine lv_iadd C.1 C.2.1 dL_law_710 ?_
  obtain ⟨g_1, hE⟩ := gd_e hE
  refine va_sld C.1 C.2.1 hX hbl hbA hZ g_1 dL_law_711 ?_
  obtain ⟨o_2, eo_2, hE⟩ := cl_e hE
  have m1 := moX15_result eo_2
  have m2 := moL_law_715 mk_18 hE
  refine x_kI (o := o_2) (z_runV (As := [.int (xs (x3 + (1 : Int32)).toNatClampNeg)]) (rest := [.int t0]) C (ct_X15_result l X F k_x2 eo_2) cw_L_90 hW hZ k_x2 (by decide) rfl rfl rfl hl.1 (Nat.le_of_ble_eq_true rfl) rfl dL_law_712 ⟨Nat.le_of_ble_eq_true rfl, Nat.le_of_ble_eq_true rfl⟩ ⟨Nat.le_trans (rm_ok0 hkl m1 m2).1 hRm.1, Nat.le_trans (rm_ok0 hkl m1 m2).2 hRm.2⟩) hZ (fun _ _ hW km hZ => ?_)
  replace hkl := hkl.tr km.l
  refine x_wc km ?_
  replace k_x1 := km.at k_x1 (by decide)
  replace k_x2 := km.at k_x2 (by decide)
  exact bL_law_715 C hX hbl hbA hbase hRm ho hk_18 mk_18 k_x1 k_x2 hkl hW hZ _ (lv_sub hl [0, 1, 2, 3] rfl) hE
set_option maxRecDepth 20000 in
theorem bL_law_748 {p : Program} {l : Launch} {e : Env} {s : State} {m : MethodId} {below : List Frame} {meth : Method} {c : Code} {X : Ec} {h0 : Hp} {o : Int32 × Hp} {k_18 : Hp → Nat → Nat → Int32 → Option (Int32 × Hp)} {F : Nat} {mn : String} {b L : Nat} {xs : Nat → Int32} (C : Cx X p s m #[Value.ref b] meth c RL code 4 ret mn) (hX : va_X b L xs s s.heap) (hbl : b < s.heap.size) (hbA : ¬ aA (eB X) b) (hbase : eB X = s.heap.size) (hRm : hS o.2 - hS h0 ≤ room_1.cells ∧ hL o.2 - hL h0 ≤ room_1.slots) (ho : o.1 = 1) (hk_18 : ∀ (h : Hp) (x1 : Nat) (x2 : Nat) (x3 : Int32) (H : Heap) (locs : List Loc), hK h x1 = 11 → hK h x2 = 15 → Kl h0 h → Wx X h H → va_S (aA (eB X)) s.heap H locs → ∀ (ls : Array Slot), lv_has ls 4 [(0, .ref b), (1, .ref x1), (2, .ref x2), (3, .int x3)] → k_18 h x1 x2 x3 = some o → W p l e room_1 s m #[Value.ref b] below meth c H locs (hS h - hS h0) (hL h - hL h0) (lw_Z below #[Value.ref b] s) (F0 m 18 ls [])) (mk_18 : ∀ (h : Hp) (x1 : Nat) (x2 : Nat) (x3 : Int32), k_18 h x1 x2 x3 = some o → Le h o.2) {h : Hp} {x1 : Nat} {x2 : Nat} {x3 : Int32} {t0 : Int32} {t1 : Int32} {H : Heap} {locs : List Loc} (k_x1 : hK h x1 = 11) (k_x2 : hK h x2 = 15) (hkl : Kl h0 h) (hW : Wx X h H) (hZ : va_S (aA (eB X)) s.heap H locs) (ls : Array Slot) (hl : lv_has ls 4 [(0, .ref b), (1, .ref x1), (2, .ref x2), (3, .int x3)]) (hE : sL_law_748 F L xs k_18 h x1 x2 x3 t0 t1 = some o) : W p l e room_1 s m #[Value.ref b] below meth c H locs (hS h - hS h0) (hL h - hL h0) (lw_Z below #[Value.ref b] s) (F0 m 748 ls [.int t0, .int t1]) := by
  refine lv_icmp_eq (tgt := 1277) C.1 C.2.1 dL_law_748 (by decide) (fun c_1 => ?_) (fun c_1 => ?_)
  · have hE := br_p hE c_1
    exact bL_law_1277 C hX hbl hbA hbase hRm ho hk_18 mk_18 k_x1 k_x2 hkl hW hZ _ (lv_sub hl [0, 1, 2, 3] rfl) hE
  · have hE := br_n hE c_1
    refine lv_iconst (v := (0 : Int32)) C.1 C.2.1 dL_law_751 (by decide) ?_
    exact x_retL C hZ hbase hRm ho hE dL_law_752
set_option maxRecDepth 20000 in
theorem bL_law_734 {p : Program} {l : Launch} {e : Env} {s : State} {m : MethodId} {below : List Frame} {meth : Method} {c : Code} {X : Ec} {h0 : Hp} {o : Int32 × Hp} {k_18 : Hp → Nat → Nat → Int32 → Option (Int32 × Hp)} {F : Nat} {mn : String} {b L : Nat} {xs : Nat → Int32} (C : Cx X p s m #[Value.ref b] meth c RL code 4 ret mn) (hX : va_X b L xs s s.heap) (hbl : b < s.heap.size) (hbA : ¬ aA (eB X) b) (hbase : eB X = s.heap.size) (hRm : hS o.2 - hS h0 ≤ room_1.cells ∧ hL o.2 - hL h0 ≤ room_1.slots) (ho : o.1 = 1) (hk_18 : ∀ (h : Hp) (x1 : Nat) (x2 : Nat) (x3 : Int32) (H : Heap) (locs : List Loc), hK h x1 = 11 → hK h x2 = 15 → Kl h0 h → Wx X h H → va_S (aA (eB X)) s.heap H locs → ∀ (ls : Array Slot), lv_has ls 4 [(0, .ref b), (1, .ref x1), (2, .ref x2), (3, .int x3)] → k_18 h x1 x2 x3 = some o → W p l e room_1 s m #[Value.ref b] below meth c H locs (hS h - hS h0) (hL h - hL h0) (lw_Z below #[Value.ref b] s) (F0 m 18 ls [])) (mk_18 : ∀ (h : Hp) (x1 : Nat) (x2 : Nat) (x3 : Int32), k_18 h x1 x2 x3 = some o → Le h o.2) {h : Hp} {x1 : Nat} {x2 : Nat} {x3 : Int32} {t0 : Int32} {H : Heap} {locs : List Loc} (k_x1 : hK h x1 = 11) (k_x2 : hK h x2 = 15) (hkl : Kl h0 h) (hW : Wx X h H) (hZ : va_S (aA (eB X)) s.heap H locs) (ls : Array Slot) (hl : lv_has ls 4 [(0, .ref b), (1, .ref x1), (2, .ref x2), (3, .int x3)]) (hE : sL_law_734 F L xs k_18 h x1 x2 x3 t0 = some o) : W p l e room_1 s m #[Value.ref b] below meth c H locs (hS h - hS h0) (hL h - hL h0) (lw_Z below #[Value.ref b] s) (F0 m 734 ls [.int t0]) := by
  refine lv_aload_n C.1 C.2.1 dL_law_734 rfl (lv_at hl 2 rfl) ?_
  refine lv_aload_n C.1 C.2.1 dL_law_735 rfl (lv_at hl 0 rfl) ?_
  refine lv_iload_n C.1 C.2.1 dL_law_736 rfl (lv_at hl 3 rfl) ?_
  refine lv_iconst (v := (1 : Int32)) C.1 C.2.1 dL_law_737 (by decide) ?_
  refine lv_iadd C.1 C.2.1 dL_law_738 ?_
  obtain ⟨g_1, hE⟩ := gd_e hE
  refine va_sld C.1 C.2.1 hX hbl hbA hZ g_1 dL_law_739 ?_
  refine lv_aload_n C.1 C.2.1 dL_law_740 rfl (lv_at hl 0 rfl) ?_
  refine lv_iload_n C.1 C.2.1 dL_law_741 rfl (lv_at hl 3 rfl) ?_
  refine lv_iconst (v := (2 : Int32)) C.1 C.2.1 dL_law_742 (by decide) ?_
  refine lv_iadd C.1 C.2.1 dL_law_743 ?_
  obtain ⟨g_2, hE⟩ := gd_e hE
  refine va_sld C.1 C.2.1 hX hbl hbA hZ g_2 dL_law_744 ?_
  obtain ⟨o_3, eo_3, hE⟩ := cl_e hE
  have m1 := moX15_say_ eo_3
  have m2 := moL_law_748 mk_18 hE
  refine x_kI (o := o_3) (z_runV (As := [.int (xs (x3 + (1 : Int32)).toNatClampNeg), .int (xs (x3 + (2 : Int32)).toNatClampNeg)]) (rest := [.int t0]) C (ct_X15_say_ l X F k_x2 eo_3) cw_L_94 hW hZ k_x2 (by decide) rfl rfl rfl hl.1 (Nat.le_of_ble_eq_true rfl) rfl dL_law_745 ⟨Nat.le_of_ble_eq_true rfl, Nat.le_of_ble_eq_true rfl⟩ ⟨Nat.le_trans (rm_ok0 hkl m1 m2).1 hRm.1, Nat.le_trans (rm_ok0 hkl m1 m2).2 hRm.2⟩) hZ (fun _ _ hW km hZ => ?_)
  replace hkl := hkl.tr km.l
  refine x_wc km ?_
  replace k_x1 := km.at k_x1 (by decide)
  replace k_x2 := km.at k_x2 (by decide)
  exact bL_law_748 C hX hbl hbA hbase hRm ho hk_18 mk_18 k_x1 k_x2 hkl hW hZ _ (lv_sub hl [0, 1, 2, 3] rfl) hE
set_option maxRecDepth 20000 in
theorem bL_law_771 {p : Program} {l : Launch} {e : Env} {s : State} {m : MethodId} {below : List Frame} {meth : Method} {c : Code} {X : Ec} {h0 : Hp} {o : Int32 × Hp} {k_18 : Hp → Nat → Nat → Int32 → Option (Int32 × Hp)} {F : Nat} {mn : String} {b L : Nat} {xs : Nat → Int32} (C : Cx X p s m #[Value.ref b] meth c RL code 4 ret mn) (hX : va_X b L xs s s.heap) (hbl : b < s.heap.size) (hbA : ¬ aA (eB X) b) (hbase : eB X = s.heap.size) (hRm : hS o.2 - hS h0 ≤ room_1.cells ∧ hL o.2 - hL h0 ≤ room_1.slots) (ho : o.1 = 1) (hk_18 : ∀ (h : Hp) (x1 : Nat) (x2 : Nat) (x3 : Int32) (H : Heap) (locs : List Loc), hK h x1 = 11 → hK h x2 = 15 → Kl h0 h → Wx X h H → va_S (aA (eB X)) s.heap H locs → ∀ (ls : Array Slot), lv_has ls 4 [(0, .ref b), (1, .ref x1), (2, .ref x2), (3, .int x3)] → k_18 h x1 x2 x3 = some o → W p l e room_1 s m #[Value.ref b] below meth c H locs (hS h - hS h0) (hL h - hL h0) (lw_Z below #[Value.ref b] s) (F0 m 18 ls [])) (mk_18 : ∀ (h : Hp) (x1 : Nat) (x2 : Nat) (x3 : Int32), k_18 h x1 x2 x3 = some o → Le h o.2) {h : Hp} {x1 : Nat} {x2 : Nat} {x3 : Int32} {t0 : Int32} {t1 : Int32} {H : Heap} {locs : List Loc} (k_x1 : hK h x1 = 11) (k_x2 : hK h x2 = 15) (hkl : Kl h0 h) (hW : Wx X h H) (hZ : va_S (aA (eB X)) s.heap H locs) (ls : Array Slot) (hl : lv_has ls 4 [(0, .ref b), (1, .ref x1), (2, .ref x2), (3, .int x3)]) (hE : sL_law_771 F L xs k_18 h x1 x2 x3 t0 t1 = some o) : W p l e room_1 s m #[Value.ref b] below meth c H locs (hS h - hS h0) (hL h - hL h0) (lw_Z below #[Value.ref b] s) (F0 m 771 ls [.int t0, .int t1]) := by
  refine lv_icmp_eq (tgt := 1277) C.1 C.2.1 dL_law_771 (by decide) (fun c_1 => ?_) (fun c_1 => ?_)
  · have hE := br_p hE c_1
    exact bL_law_1277 C hX hbl hbA hbase hRm ho hk_18 mk_18 k_x1 k_x2 hkl hW hZ _ (lv_sub hl [0, 1, 2, 3] rfl) hE
  · have hE := br_n hE c_1
    refine lv_iconst (v := (0 : Int32)) C.1 C.2.1 dL_law_774 (by decide) ?_
    exact x_retL C hZ hbase hRm ho hE dL_law_775
set_option maxRecDepth 20000 in
theorem bL_law_762 {p : Program} {l : Launch} {e : Env} {s : State} {m : MethodId} {below : List Frame} {meth : Method} {c : Code} {X : Ec} {h0 : Hp} {o : Int32 × Hp} {k_18 : Hp → Nat → Nat → Int32 → Option (Int32 × Hp)} {F : Nat} {mn : String} {b L : Nat} {xs : Nat → Int32} (C : Cx X p s m #[Value.ref b] meth c RL code 4 ret mn) (hX : va_X b L xs s s.heap) (hbl : b < s.heap.size) (hbA : ¬ aA (eB X) b) (hbase : eB X = s.heap.size) (hRm : hS o.2 - hS h0 ≤ room_1.cells ∧ hL o.2 - hL h0 ≤ room_1.slots) (ho : o.1 = 1) (hk_18 : ∀ (h : Hp) (x1 : Nat) (x2 : Nat) (x3 : Int32) (H : Heap) (locs : List Loc), hK h x1 = 11 → hK h x2 = 15 → Kl h0 h → Wx X h H → va_S (aA (eB X)) s.heap H locs → ∀ (ls : Array Slot), lv_has ls 4 [(0, .ref b), (1, .ref x1), (2, .ref x2), (3, .int x3)] → k_18 h x1 x2 x3 = some o → W p l e room_1 s m #[Value.ref b] below meth c H locs (hS h - hS h0) (hL h - hL h0) (lw_Z below #[Value.ref b] s) (F0 m 18 ls [])) (mk_18 : ∀ (h : Hp) (x1 : Nat) (x2 : Nat) (x3 : Int32), k_18 h x1 x2 x3 = some o → Le h o.2) {h : Hp} {x1 : Nat} {x2 : Nat} {x3 : Int32} {t0 : Int32} {H : Heap} {locs : List Loc} (k_x1 : hK h x1 = 11) (k_x2 : hK h x2 = 15) (hkl : Kl h0 h) (hW : Wx X h H) (hZ : va_S (aA (eB X)) s.heap H locs) (ls : Array Slot) (hl : lv_has ls 4 [(0, .ref b), (1, .ref x1), (2, .ref x2), (3, .int x3)]) (hE : sL_law_762 F L xs k_18 h x1 x2 x3 t0 = some o) : W p l e room_1 s m #[Value.ref b] below meth c H locs (hS h - hS h0) (hL h - hL h0) (lw_Z below #[Value.ref b] s) (F0 m 762 ls [.int t0]) := by
  refine lv_aload_n C.1 C.2.1 dL_law_762 rfl (lv_at hl 2 rfl) ?_
  refine lv_aload_n C.1 C.2.1 dL_law_763 rfl (lv_at hl 0 rfl) ?_
  refine lv_iload_n C.1 C.2.1 dL_law_764 rfl (lv_at hl 3 rfl) ?_
  refine lv_iconst (v := (1 : Int32)) C.1 C.2.1 dL_law_765 (by decide) ?_
  refine lv_iadd C.1 C.2.1 dL_law_766 ?_
  obtain ⟨g_1, hE⟩ := gd_e hE
  refine va_sld C.1 C.2.1 hX hbl hbA hZ g_1 dL_law_767 ?_
  obtain ⟨o_2, eo_2, hE⟩ := cl_e hE
  have m1 := moX15_hear eo_2
  have m2 := moL_law_771 mk_18 hE
  refine x_kI (o := o_2) (z_runV (As := [.int (xs (x3 + (1 : Int32)).toNatClampNeg)]) (rest := [.int t0]) C (ct_X15_hear l X F k_x2 eo_2) cw_L_98 hW hZ k_x2 (by decide) rfl rfl rfl hl.1 (Nat.le_of_ble_eq_true rfl) rfl dL_law_768 ⟨Nat.le_of_ble_eq_true rfl, Nat.le_of_ble_eq_true rfl⟩ ⟨Nat.le_trans (rm_ok0 hkl m1 m2).1 hRm.1, Nat.le_trans (rm_ok0 hkl m1 m2).2 hRm.2⟩) hZ (fun _ _ hW km hZ => ?_)
  replace hkl := hkl.tr km.l
  refine x_wc km ?_
  replace k_x1 := km.at k_x1 (by decide)
  replace k_x2 := km.at k_x2 (by decide)
  exact bL_law_771 C hX hbl hbA hbase hRm ho hk_18 mk_18 k_x1 k_x2 hkl hW hZ _ (lv_sub hl [0, 1, 2, 3] rfl) hE
set_option maxRecDepth 20000 in
theorem bL_law_804 {p : Program} {l : Launch} {e : Env} {s : State} {m : MethodId} {below : List Frame} {meth : Method} {c : Code} {X : Ec} {h0 : Hp} {o : Int32 × Hp} {k_18 : Hp → Nat → Nat → Int32 → Option (Int32 × Hp)} {F : Nat} {mn : String} {b L : Nat} {xs : Nat → Int32} (C : Cx X p s m #[Value.ref b] meth c RL code 4 ret mn) (hX : va_X b L xs s s.heap) (hbl : b < s.heap.size) (hbA : ¬ aA (eB X) b) (hbase : eB X = s.heap.size) (hRm : hS o.2 - hS h0 ≤ room_1.cells ∧ hL o.2 - hL h0 ≤ room_1.slots) (ho : o.1 = 1) (hk_18 : ∀ (h : Hp) (x1 : Nat) (x2 : Nat) (x3 : Int32) (H : Heap) (locs : List Loc), hK h x1 = 11 → hK h x2 = 15 → Kl h0 h → Wx X h H → va_S (aA (eB X)) s.heap H locs → ∀ (ls : Array Slot), lv_has ls 4 [(0, .ref b), (1, .ref x1), (2, .ref x2), (3, .int x3)] → k_18 h x1 x2 x3 = some o → W p l e room_1 s m #[Value.ref b] below meth c H locs (hS h - hS h0) (hL h - hL h0) (lw_Z below #[Value.ref b] s) (F0 m 18 ls [])) (mk_18 : ∀ (h : Hp) (x1 : Nat) (x2 : Nat) (x3 : Int32), k_18 h x1 x2 x3 = some o → Le h o.2) {h : Hp} {x1 : Nat} {x2 : Nat} {x3 : Int32} {t0 : Int32} {t1 : Int32} {H : Heap} {locs : List Loc} (k_x1 : hK h x1 = 11) (k_x2 : hK h x2 = 15) (hkl : Kl h0 h) (hW : Wx X h H) (hZ : va_S (aA (eB X)) s.heap H locs) (ls : Array Slot) (hl : lv_has ls 4 [(0, .ref b), (1, .ref x1), (2, .ref x2), (3, .int x3)]) (hE : sL_law_804 F L xs k_18 h x1 x2 x3 t0 t1 = some o) : W p l e room_1 s m #[Value.ref b] below meth c H locs (hS h - hS h0) (hL h - hL h0) (lw_Z below #[Value.ref b] s) (F0 m 804 ls [.int t0, .int t1]) := by
  refine lv_icmp_eq (tgt := 1277) C.1 C.2.1 dL_law_804 (by decide) (fun c_1 => ?_) (fun c_1 => ?_)
  · have hE := br_p hE c_1
    exact bL_law_1277 C hX hbl hbA hbase hRm ho hk_18 mk_18 k_x1 k_x2 hkl hW hZ _ (lv_sub hl [0, 1, 2, 3] rfl) hE
  · have hE := br_n hE c_1
    refine lv_iconst (v := (0 : Int32)) C.1 C.2.1 dL_law_807 (by decide) ?_
    exact x_retL C hZ hbase hRm ho hE dL_law_808
set_option maxRecDepth 20000 in
theorem bL_law_790 {p : Program} {l : Launch} {e : Env} {s : State} {m : MethodId} {below : List Frame} {meth : Method} {c : Code} {X : Ec} {h0 : Hp} {o : Int32 × Hp} {k_18 : Hp → Nat → Nat → Int32 → Option (Int32 × Hp)} {F : Nat} {mn : String} {b L : Nat} {xs : Nat → Int32} (C : Cx X p s m #[Value.ref b] meth c RL code 4 ret mn) (hX : va_X b L xs s s.heap) (hbl : b < s.heap.size) (hbA : ¬ aA (eB X) b) (hbase : eB X = s.heap.size) (hRm : hS o.2 - hS h0 ≤ room_1.cells ∧ hL o.2 - hL h0 ≤ room_1.slots) (ho : o.1 = 1) (hk_18 : ∀ (h : Hp) (x1 : Nat) (x2 : Nat) (x3 : Int32) (H : Heap) (locs : List Loc), hK h x1 = 11 → hK h x2 = 15 → Kl h0 h → Wx X h H → va_S (aA (eB X)) s.heap H locs → ∀ (ls : Array Slot), lv_has ls 4 [(0, .ref b), (1, .ref x1), (2, .ref x2), (3, .int x3)] → k_18 h x1 x2 x3 = some o → W p l e room_1 s m #[Value.ref b] below meth c H locs (hS h - hS h0) (hL h - hL h0) (lw_Z below #[Value.ref b] s) (F0 m 18 ls [])) (mk_18 : ∀ (h : Hp) (x1 : Nat) (x2 : Nat) (x3 : Int32), k_18 h x1 x2 x3 = some o → Le h o.2) {h : Hp} {x1 : Nat} {x2 : Nat} {x3 : Int32} {t0 : Int32} {H : Heap} {locs : List Loc} (k_x1 : hK h x1 = 11) (k_x2 : hK h x2 = 15) (hkl : Kl h0 h) (hW : Wx X h H) (hZ : va_S (aA (eB X)) s.heap H locs) (ls : Array Slot) (hl : lv_has ls 4 [(0, .ref b), (1, .ref x1), (2, .ref x2), (3, .int x3)]) (hE : sL_law_790 F L xs k_18 h x1 x2 x3 t0 = some o) : W p l e room_1 s m #[Value.ref b] below meth c H locs (hS h - hS h0) (hL h - hL h0) (lw_Z below #[Value.ref b] s) (F0 m 790 ls [.int t0]) := by
  refine lv_aload_n C.1 C.2.1 dL_law_790 rfl (lv_at hl 2 rfl) ?_
  refine lv_aload_n C.1 C.2.1 dL_law_791 rfl (lv_at hl 0 rfl) ?_
  refine lv_iload_n C.1 C.2.1 dL_law_792 rfl (lv_at hl 3 rfl) ?_
  refine lv_iconst (v := (1 : Int32)) C.1 C.2.1 dL_law_793 (by decide) ?_
  refine lv_iadd C.1 C.2.1 dL_law_794 ?_
  obtain ⟨g_1, hE⟩ := gd_e hE
  refine va_sld C.1 C.2.1 hX hbl hbA hZ g_1 dL_law_795 ?_
  refine lv_aload_n C.1 C.2.1 dL_law_796 rfl (lv_at hl 0 rfl) ?_
  refine lv_iload_n C.1 C.2.1 dL_law_797 rfl (lv_at hl 3 rfl) ?_
  refine lv_iconst (v := (2 : Int32)) C.1 C.2.1 dL_law_798 (by decide) ?_
  refine lv_iadd C.1 C.2.1 dL_law_799 ?_
  obtain ⟨g_2, hE⟩ := gd_e hE
  refine va_sld C.1 C.2.1 hX hbl hbA hZ g_2 dL_law_800 ?_
  obtain ⟨o_3, eo_3, hE⟩ := cl_e hE
  have m1 := moX15_start eo_3
  have m2 := moL_law_804 mk_18 hE
  refine x_kIA (o := o_3) hkl (z_runV (As := [.int (xs (x3 + (1 : Int32)).toNatClampNeg), .int (xs (x3 + (2 : Int32)).toNatClampNeg)]) (rest := [.int t0]) C (ct_X15_start l X k_x2 eo_3) cw_L_102 hW hZ k_x2 (by decide) rfl rfl rfl hl.1 (Nat.le_of_ble_eq_true rfl) rfl dL_law_801 ⟨Nat.le_of_ble_eq_true rfl, Nat.le_of_ble_eq_true rfl⟩ ⟨Nat.le_trans (rm_ok hkl m1 m2).1 hRm.1, Nat.le_trans (rm_ok hkl m1 m2).2 hRm.2⟩) hZ (fun _ _ hW km hZ => ?_)
  replace hkl := hkl.tr km
  replace k_x1 := km.at k_x1 (by decide)
  replace k_x2 := km.at k_x2 (by decide)
  exact bL_law_804 C hX hbl hbA hbase hRm ho hk_18 mk_18 k_x1 k_x2 hkl hW hZ _ (lv_sub hl [0, 1, 2, 3] rfl) hE
set_option maxRecDepth 20000 in
theorem bL_law_837 {p : Program} {l : Launch} {e : Env} {s : State} {m : MethodId} {below : List Frame} {meth : Method} {c : Code} {X : Ec} {h0 : Hp} {o : Int32 × Hp} {k_18 : Hp → Nat → Nat → Int32 → Option (Int32 × Hp)} {F : Nat} {mn : String} {b L : Nat} {xs : Nat → Int32} (C : Cx X p s m #[Value.ref b] meth c RL code 4 ret mn) (hX : va_X b L xs s s.heap) (hbl : b < s.heap.size) (hbA : ¬ aA (eB X) b) (hbase : eB X = s.heap.size) (hRm : hS o.2 - hS h0 ≤ room_1.cells ∧ hL o.2 - hL h0 ≤ room_1.slots) (ho : o.1 = 1) (hk_18 : ∀ (h : Hp) (x1 : Nat) (x2 : Nat) (x3 : Int32) (H : Heap) (locs : List Loc), hK h x1 = 11 → hK h x2 = 15 → Kl h0 h → Wx X h H → va_S (aA (eB X)) s.heap H locs → ∀ (ls : Array Slot), lv_has ls 4 [(0, .ref b), (1, .ref x1), (2, .ref x2), (3, .int x3)] → k_18 h x1 x2 x3 = some o → W p l e room_1 s m #[Value.ref b] below meth c H locs (hS h - hS h0) (hL h - hL h0) (lw_Z below #[Value.ref b] s) (F0 m 18 ls [])) (mk_18 : ∀ (h : Hp) (x1 : Nat) (x2 : Nat) (x3 : Int32), k_18 h x1 x2 x3 = some o → Le h o.2) {h : Hp} {x1 : Nat} {x2 : Nat} {x3 : Int32} {t0 : Int32} {t1 : Int32} {H : Heap} {locs : List Loc} (k_x1 : hK h x1 = 11) (k_x2 : hK h x2 = 15) (hkl : Kl h0 h) (hW : Wx X h H) (hZ : va_S (aA (eB X)) s.heap H locs) (ls : Array Slot) (hl : lv_has ls 4 [(0, .ref b), (1, .ref x1), (2, .ref x2), (3, .int x3)]) (hE : sL_law_837 F L xs k_18 h x1 x2 x3 t0 t1 = some o) : W p l e room_1 s m #[Value.ref b] below meth c H locs (hS h - hS h0) (hL h - hL h0) (lw_Z below #[Value.ref b] s) (F0 m 837 ls [.int t0, .int t1]) := by
  refine lv_icmp_eq (tgt := 1277) C.1 C.2.1 dL_law_837 (by decide) (fun c_1 => ?_) (fun c_1 => ?_)
  · have hE := br_p hE c_1
    exact bL_law_1277 C hX hbl hbA hbase hRm ho hk_18 mk_18 k_x1 k_x2 hkl hW hZ _ (lv_sub hl [0, 1, 2, 3] rfl) hE
  · have hE := br_n hE c_1
    refine lv_iconst (v := (0 : Int32)) C.1 C.2.1 dL_law_840 (by decide) ?_
    exact x_retL C hZ hbase hRm ho hE dL_law_841
set_option maxRecDepth 20000 in
theorem bL_law_823 {p : Program} {l : Launch} {e : Env} {s : State} {m : MethodId} {below : List Frame} {meth : Method} {c : Code} {X : Ec} {h0 : Hp} {o : Int32 × Hp} {k_18 : Hp → Nat → Nat → Int32 → Option (Int32 × Hp)} {F : Nat} {mn : String} {b L : Nat} {xs : Nat → Int32} (C : Cx X p s m #[Value.ref b] meth c RL code 4 ret mn) (hX : va_X b L xs s s.heap) (hbl : b < s.heap.size) (hbA : ¬ aA (eB X) b) (hbase : eB X = s.heap.size) (hRm : hS o.2 - hS h0 ≤ room_1.cells ∧ hL o.2 - hL h0 ≤ room_1.slots) (ho : o.1 = 1) (hk_18 : ∀ (h : Hp) (x1 : Nat) (x2 : Nat) (x3 : Int32) (H : Heap) (locs : List Loc), hK h x1 = 11 → hK h x2 = 15 → Kl h0 h → Wx X h H → va_S (aA (eB X)) s.heap H locs → ∀ (ls : Array Slot), lv_has ls 4 [(0, .ref b), (1, .ref x1), (2, .ref x2), (3, .int x3)] → k_18 h x1 x2 x3 = some o → W p l e room_1 s m #[Value.ref b] below meth c H locs (hS h - hS h0) (hL h - hL h0) (lw_Z below #[Value.ref b] s) (F0 m 18 ls [])) (mk_18 : ∀ (h : Hp) (x1 : Nat) (x2 : Nat) (x3 : Int32), k_18 h x1 x2 x3 = some o → Le h o.2) {h : Hp} {x1 : Nat} {x2 : Nat} {x3 : Int32} {t0 : Int32} {H : Heap} {locs : List Loc} (k_x1 : hK h x1 = 11) (k_x2 : hK h x2 = 15) (hkl : Kl h0 h) (hW : Wx X h H) (hZ : va_S (aA (eB X)) s.heap H locs) (ls : Array Slot) (hl : lv_has ls 4 [(0, .ref b), (1, .ref x1), (2, .ref x2), (3, .int x3)]) (hE : sL_law_823 F L xs k_18 h x1 x2 x3 t0 = some o) : W p l e room_1 s m #[Value.ref b] below meth c H locs (hS h - hS h0) (hL h - hL h0) (lw_Z below #[Value.ref b] s) (F0 m 823 ls [.int t0]) := by
  refine lv_aload_n C.1 C.2.1 dL_law_823 rfl (lv_at hl 2 rfl) ?_
  refine lv_aload_n C.1 C.2.1 dL_law_824 rfl (lv_at hl 0 rfl) ?_
  refine lv_iload_n C.1 C.2.1 dL_law_825 rfl (lv_at hl 3 rfl) ?_
  refine lv_iconst (v := (1 : Int32)) C.1 C.2.1 dL_law_826 (by decide) ?_
  refine lv_iadd C.1 C.2.1 dL_law_827 ?_
  obtain ⟨g_1, hE⟩ := gd_e hE
  refine va_sld C.1 C.2.1 hX hbl hbA hZ g_1 dL_law_828 ?_
  refine lv_aload_n C.1 C.2.1 dL_law_829 rfl (lv_at hl 0 rfl) ?_
  refine lv_iload_n C.1 C.2.1 dL_law_830 rfl (lv_at hl 3 rfl) ?_
  refine lv_iconst (v := (2 : Int32)) C.1 C.2.1 dL_law_831 (by decide) ?_
  refine lv_iadd C.1 C.2.1 dL_law_832 ?_
  obtain ⟨g_2, hE⟩ := gd_e hE
  refine va_sld C.1 C.2.1 hX hbl hbA hZ g_2 dL_law_833 ?_
  obtain ⟨o_3, eo_3, hE⟩ := cl_e hE
  have m1 := moX15_add eo_3
  have m2 := moL_law_837 mk_18 hE
  refine x_kIA (o := o_3) hkl (z_runV (As := [.int (xs (x3 + (1 : Int32)).toNatClampNeg), .int (xs (x3 + (2 : Int32)).toNatClampNeg)]) (rest := [.int t0]) C (ct_X15_add l X F k_x2 eo_3) cw_L_106 hW hZ k_x2 (by decide) rfl rfl rfl hl.1 (Nat.le_of_ble_eq_true rfl) rfl dL_law_834 ⟨Nat.le_of_ble_eq_true rfl, Nat.le_of_ble_eq_true rfl⟩ ⟨Nat.le_trans (rm_ok hkl m1 m2).1 hRm.1, Nat.le_trans (rm_ok hkl m1 m2).2 hRm.2⟩) hZ (fun _ _ hW km hZ => ?_)
  replace hkl := hkl.tr km
  replace k_x1 := km.at k_x1 (by decide)
  replace k_x2 := km.at k_x2 (by decide)
  exact bL_law_837 C hX hbl hbA hbase hRm ho hk_18 mk_18 k_x1 k_x2 hkl hW hZ _ (lv_sub hl [0, 1, 2, 3] rfl) hE
set_option maxRecDepth 20000 in
theorem bL_law_860 {p : Program} {l : Launch} {e : Env} {s : State} {m : MethodId} {below : List Frame} {meth : Method} {c : Code} {X : Ec} {h0 : Hp} {o : Int32 × Hp} {k_18 : Hp → Nat → Nat → Int32 → Option (Int32 × Hp)} {F : Nat} {mn : String} {b L : Nat} {xs : Nat → Int32} (C : Cx X p s m #[Value.ref b] meth c RL code 4 ret mn) (hX : va_X b L xs s s.heap) (hbl : b < s.heap.size) (hbA : ¬ aA (eB X) b) (hbase : eB X = s.heap.size) (hRm : hS o.2 - hS h0 ≤ room_1.cells ∧ hL o.2 - hL h0 ≤ room_1.slots) (ho : o.1 = 1) (hk_18 : ∀ (h : Hp) (x1 : Nat) (x2 : Nat) (x3 : Int32) (H : Heap) (locs : List Loc), hK h x1 = 11 → hK h x2 = 15 → Kl h0 h → Wx X h H → va_S (aA (eB X)) s.heap H locs → ∀ (ls : Array Slot), lv_has ls 4 [(0, .ref b), (1, .ref x1), (2, .ref x2), (3, .int x3)] → k_18 h x1 x2 x3 = some o → W p l e room_1 s m #[Value.ref b] below meth c H locs (hS h - hS h0) (hL h - hL h0) (lw_Z below #[Value.ref b] s) (F0 m 18 ls [])) (mk_18 : ∀ (h : Hp) (x1 : Nat) (x2 : Nat) (x3 : Int32), k_18 h x1 x2 x3 = some o → Le h o.2) {h : Hp} {x1 : Nat} {x2 : Nat} {x3 : Int32} {t0 : Int32} {t1 : Int32} {H : Heap} {locs : List Loc} (k_x1 : hK h x1 = 11) (k_x2 : hK h x2 = 15) (hkl : Kl h0 h) (hW : Wx X h H) (hZ : va_S (aA (eB X)) s.heap H locs) (ls : Array Slot) (hl : lv_has ls 4 [(0, .ref b), (1, .ref x1), (2, .ref x2), (3, .int x3)]) (hE : sL_law_860 F L xs k_18 h x1 x2 x3 t0 t1 = some o) : W p l e room_1 s m #[Value.ref b] below meth c H locs (hS h - hS h0) (hL h - hL h0) (lw_Z below #[Value.ref b] s) (F0 m 860 ls [.int t0, .int t1]) := by
  refine lv_icmp_eq (tgt := 1277) C.1 C.2.1 dL_law_860 (by decide) (fun c_1 => ?_) (fun c_1 => ?_)
  · have hE := br_p hE c_1
    exact bL_law_1277 C hX hbl hbA hbase hRm ho hk_18 mk_18 k_x1 k_x2 hkl hW hZ _ (lv_sub hl [0, 1, 2, 3] rfl) hE
  · have hE := br_n hE c_1
    refine lv_iconst (v := (0 : Int32)) C.1 C.2.1 dL_law_863 (by decide) ?_
    exact x_retL C hZ hbase hRm ho hE dL_law_864
set_option maxRecDepth 20000 in
theorem bL_law_851 {p : Program} {l : Launch} {e : Env} {s : State} {m : MethodId} {below : List Frame} {meth : Method} {c : Code} {X : Ec} {h0 : Hp} {o : Int32 × Hp} {k_18 : Hp → Nat → Nat → Int32 → Option (Int32 × Hp)} {F : Nat} {mn : String} {b L : Nat} {xs : Nat → Int32} (C : Cx X p s m #[Value.ref b] meth c RL code 4 ret mn) (hX : va_X b L xs s s.heap) (hbl : b < s.heap.size) (hbA : ¬ aA (eB X) b) (hbase : eB X = s.heap.size) (hRm : hS o.2 - hS h0 ≤ room_1.cells ∧ hL o.2 - hL h0 ≤ room_1.slots) (ho : o.1 = 1) (hk_18 : ∀ (h : Hp) (x1 : Nat) (x2 : Nat) (x3 : Int32) (H : Heap) (locs : List Loc), hK h x1 = 11 → hK h x2 = 15 → Kl h0 h → Wx X h H → va_S (aA (eB X)) s.heap H locs → ∀ (ls : Array Slot), lv_has ls 4 [(0, .ref b), (1, .ref x1), (2, .ref x2), (3, .int x3)] → k_18 h x1 x2 x3 = some o → W p l e room_1 s m #[Value.ref b] below meth c H locs (hS h - hS h0) (hL h - hL h0) (lw_Z below #[Value.ref b] s) (F0 m 18 ls [])) (mk_18 : ∀ (h : Hp) (x1 : Nat) (x2 : Nat) (x3 : Int32), k_18 h x1 x2 x3 = some o → Le h o.2) {h : Hp} {x1 : Nat} {x2 : Nat} {x3 : Int32} {t0 : Int32} {H : Heap} {locs : List Loc} (k_x1 : hK h x1 = 11) (k_x2 : hK h x2 = 15) (hkl : Kl h0 h) (hW : Wx X h H) (hZ : va_S (aA (eB X)) s.heap H locs) (ls : Array Slot) (hl : lv_has ls 4 [(0, .ref b), (1, .ref x1), (2, .ref x2), (3, .int x3)]) (hE : sL_law_851 F L xs k_18 h x1 x2 x3 t0 = some o) : W p l e room_1 s m #[Value.ref b] below meth c H locs (hS h - hS h0) (hL h - hL h0) (lw_Z below #[Value.ref b] s) (F0 m 851 ls [.int t0]) := by
  refine lv_aload_n C.1 C.2.1 dL_law_851 rfl (lv_at hl 2 rfl) ?_
  refine lv_aload_n C.1 C.2.1 dL_law_852 rfl (lv_at hl 0 rfl) ?_
  refine lv_iload_n C.1 C.2.1 dL_law_853 rfl (lv_at hl 3 rfl) ?_
  refine lv_iconst (v := (1 : Int32)) C.1 C.2.1 dL_law_854 (by decide) ?_
  refine lv_iadd C.1 C.2.1 dL_law_855 ?_
  obtain ⟨g_1, hE⟩ := gd_e hE
  refine va_sld C.1 C.2.1 hX hbl hbA hZ g_1 dL_law_856 ?_
  obtain ⟨o_2, eo_2, hE⟩ := cl_e hE
  have m1 := moX15_back eo_2
  have m2 := moL_law_860 mk_18 hE
  refine x_kI (o := o_2) (z_runV (As := [.int (xs (x3 + (1 : Int32)).toNatClampNeg)]) (rest := [.int t0]) C (ct_X15_back l X k_x2 eo_2) cw_L_110 hW hZ k_x2 (by decide) rfl rfl rfl hl.1 (Nat.le_of_ble_eq_true rfl) rfl dL_law_857 ⟨Nat.le_of_ble_eq_true rfl, Nat.le_of_ble_eq_true rfl⟩ ⟨Nat.le_trans (rm_ok0 hkl m1 m2).1 hRm.1, Nat.le_trans (rm_ok0 hkl m1 m2).2 hRm.2⟩) hZ (fun _ _ hW km hZ => ?_)
  replace hkl := hkl.tr km.l
  refine x_wc km ?_
  replace k_x1 := km.at k_x1 (by decide)
  replace k_x2 := km.at k_x2 (by decide)
  exact bL_law_860 C hX hbl hbA hbase hRm ho hk_18 mk_18 k_x1 k_x2 hkl hW hZ _ (lv_sub hl [0, 1, 2, 3] rfl) hE
set_option maxRecDepth 20000 in
theorem bL_law_893 {p : Program} {l : Launch} {e : Env} {s : State} {m : MethodId} {below : List Frame} {meth : Method} {c : Code} {X : Ec} {h0 : Hp} {o : Int32 × Hp} {k_18 : Hp → Nat → Nat → Int32 → Option (Int32 × Hp)} {F : Nat} {mn : String} {b L : Nat} {xs : Nat → Int32} (C : Cx X p s m #[Value.ref b] meth c RL code 4 ret mn) (hX : va_X b L xs s s.heap) (hbl : b < s.heap.size) (hbA : ¬ aA (eB X) b) (hbase : eB X = s.heap.size) (hRm : hS o.2 - hS h0 ≤ room_1.cells ∧ hL o.2 - hL h0 ≤ room_1.slots) (ho : o.1 = 1) (hk_18 : ∀ (h : Hp) (x1 : Nat) (x2 : Nat) (x3 : Int32) (H : Heap) (locs : List Loc), hK h x1 = 11 → hK h x2 = 15 → Kl h0 h → Wx X h H → va_S (aA (eB X)) s.heap H locs → ∀ (ls : Array Slot), lv_has ls 4 [(0, .ref b), (1, .ref x1), (2, .ref x2), (3, .int x3)] → k_18 h x1 x2 x3 = some o → W p l e room_1 s m #[Value.ref b] below meth c H locs (hS h - hS h0) (hL h - hL h0) (lw_Z below #[Value.ref b] s) (F0 m 18 ls [])) (mk_18 : ∀ (h : Hp) (x1 : Nat) (x2 : Nat) (x3 : Int32), k_18 h x1 x2 x3 = some o → Le h o.2) {h : Hp} {x1 : Nat} {x2 : Nat} {x3 : Int32} {t0 : Int32} {t1 : Int32} {H : Heap} {locs : List Loc} (k_x1 : hK h x1 = 11) (k_x2 : hK h x2 = 15) (hkl : Kl h0 h) (hW : Wx X h H) (hZ : va_S (aA (eB X)) s.heap H locs) (ls : Array Slot) (hl : lv_has ls 4 [(0, .ref b), (1, .ref x1), (2, .ref x2), (3, .int x3)]) (hE : sL_law_893 F L xs k_18 h x1 x2 x3 t0 t1 = some o) : W p l e room_1 s m #[Value.ref b] below meth c H locs (hS h - hS h0) (hL h - hL h0) (lw_Z below #[Value.ref b] s) (F0 m 893 ls [.int t0, .int t1]) := by
  refine lv_icmp_eq (tgt := 1277) C.1 C.2.1 dL_law_893 (by decide) (fun c_1 => ?_) (fun c_1 => ?_)
  · have hE := br_p hE c_1
    exact bL_law_1277 C hX hbl hbA hbase hRm ho hk_18 mk_18 k_x1 k_x2 hkl hW hZ _ (lv_sub hl [0, 1, 2, 3] rfl) hE
  · have hE := br_n hE c_1
    refine lv_iconst (v := (0 : Int32)) C.1 C.2.1 dL_law_896 (by decide) ?_
    exact x_retL C hZ hbase hRm ho hE dL_law_897
set_option maxRecDepth 20000 in
theorem bL_law_879 {p : Program} {l : Launch} {e : Env} {s : State} {m : MethodId} {below : List Frame} {meth : Method} {c : Code} {X : Ec} {h0 : Hp} {o : Int32 × Hp} {k_18 : Hp → Nat → Nat → Int32 → Option (Int32 × Hp)} {F : Nat} {mn : String} {b L : Nat} {xs : Nat → Int32} (C : Cx X p s m #[Value.ref b] meth c RL code 4 ret mn) (hX : va_X b L xs s s.heap) (hbl : b < s.heap.size) (hbA : ¬ aA (eB X) b) (hbase : eB X = s.heap.size) (hRm : hS o.2 - hS h0 ≤ room_1.cells ∧ hL o.2 - hL h0 ≤ room_1.slots) (ho : o.1 = 1) (hk_18 : ∀ (h : Hp) (x1 : Nat) (x2 : Nat) (x3 : Int32) (H : Heap) (locs : List Loc), hK h x1 = 11 → hK h x2 = 15 → Kl h0 h → Wx X h H → va_S (aA (eB X)) s.heap H locs → ∀ (ls : Array Slot), lv_has ls 4 [(0, .ref b), (1, .ref x1), (2, .ref x2), (3, .int x3)] → k_18 h x1 x2 x3 = some o → W p l e room_1 s m #[Value.ref b] below meth c H locs (hS h - hS h0) (hL h - hL h0) (lw_Z below #[Value.ref b] s) (F0 m 18 ls [])) (mk_18 : ∀ (h : Hp) (x1 : Nat) (x2 : Nat) (x3 : Int32), k_18 h x1 x2 x3 = some o → Le h o.2) {h : Hp} {x1 : Nat} {x2 : Nat} {x3 : Int32} {t0 : Int32} {H : Heap} {locs : List Loc} (k_x1 : hK h x1 = 11) (k_x2 : hK h x2 = 15) (hkl : Kl h0 h) (hW : Wx X h H) (hZ : va_S (aA (eB X)) s.heap H locs) (ls : Array Slot) (hl : lv_has ls 4 [(0, .ref b), (1, .ref x1), (2, .ref x2), (3, .int x3)]) (hE : sL_law_879 F L xs k_18 h x1 x2 x3 t0 = some o) : W p l e room_1 s m #[Value.ref b] below meth c H locs (hS h - hS h0) (hL h - hL h0) (lw_Z below #[Value.ref b] s) (F0 m 879 ls [.int t0]) := by
  refine lv_aload_n C.1 C.2.1 dL_law_879 rfl (lv_at hl 2 rfl) ?_
  refine lv_aload_n C.1 C.2.1 dL_law_880 rfl (lv_at hl 0 rfl) ?_
  refine lv_iload_n C.1 C.2.1 dL_law_881 rfl (lv_at hl 3 rfl) ?_
  refine lv_iconst (v := (1 : Int32)) C.1 C.2.1 dL_law_882 (by decide) ?_
  refine lv_iadd C.1 C.2.1 dL_law_883 ?_
  obtain ⟨g_1, hE⟩ := gd_e hE
  refine va_sld C.1 C.2.1 hX hbl hbA hZ g_1 dL_law_884 ?_
  refine lv_aload_n C.1 C.2.1 dL_law_885 rfl (lv_at hl 0 rfl) ?_
  refine lv_iload_n C.1 C.2.1 dL_law_886 rfl (lv_at hl 3 rfl) ?_
  refine lv_iconst (v := (2 : Int32)) C.1 C.2.1 dL_law_887 (by decide) ?_
  refine lv_iadd C.1 C.2.1 dL_law_888 ?_
  obtain ⟨g_2, hE⟩ := gd_e hE
  refine va_sld C.1 C.2.1 hX hbl hbA hZ g_2 dL_law_889 ?_
  obtain ⟨o_3, eo_3, hE⟩ := cl_e hE
  have m1 := moX15_game eo_3
  have m2 := moL_law_893 mk_18 hE
  refine x_kIA (o := o_3) hkl (z_runV (As := [.int (xs (x3 + (1 : Int32)).toNatClampNeg), .int (xs (x3 + (2 : Int32)).toNatClampNeg)]) (rest := [.int t0]) C (ct_X15_game l X F k_x2 eo_3) cw_L_114 hW hZ k_x2 (by decide) rfl rfl rfl hl.1 (Nat.le_of_ble_eq_true rfl) rfl dL_law_890 ⟨Nat.le_of_ble_eq_true rfl, Nat.le_of_ble_eq_true rfl⟩ ⟨Nat.le_trans (rm_ok hkl m1 m2).1 hRm.1, Nat.le_trans (rm_ok hkl m1 m2).2 hRm.2⟩) hZ (fun _ _ hW km hZ => ?_)
  replace hkl := hkl.tr km
  replace k_x1 := km.at k_x1 (by decide)
  replace k_x2 := km.at k_x2 (by decide)
  exact bL_law_893 C hX hbl hbA hbase hRm ho hk_18 mk_18 k_x1 k_x2 hkl hW hZ _ (lv_sub hl [0, 1, 2, 3] rfl) hE
set_option maxRecDepth 20000 in
theorem bL_law_926 {p : Program} {l : Launch} {e : Env} {s : State} {m : MethodId} {below : List Frame} {meth : Method} {c : Code} {X : Ec} {h0 : Hp} {o : Int32 × Hp} {k_18 : Hp → Nat → Nat → Int32 → Option (Int32 × Hp)} {F : Nat} {mn : String} {b L : Nat} {xs : Nat → Int32} (C : Cx X p s m #[Value.ref b] meth c RL code 4 ret mn) (hX : va_X b L xs s s.heap) (hbl : b < s.heap.size) (hbA : ¬ aA (eB X) b) (hbase : eB X = s.heap.size) (hRm : hS o.2 - hS h0 ≤ room_1.cells ∧ hL o.2 - hL h0 ≤ room_1.slots) (ho : o.1 = 1) (hk_18 : ∀ (h : Hp) (x1 : Nat) (x2 : Nat) (x3 : Int32) (H : Heap) (locs : List Loc), hK h x1 = 11 → hK h x2 = 15 → Kl h0 h → Wx X h H → va_S (aA (eB X)) s.heap H locs → ∀ (ls : Array Slot), lv_has ls 4 [(0, .ref b), (1, .ref x1), (2, .ref x2), (3, .int x3)] → k_18 h x1 x2 x3 = some o → W p l e room_1 s m #[Value.ref b] below meth c H locs (hS h - hS h0) (hL h - hL h0) (lw_Z below #[Value.ref b] s) (F0 m 18 ls [])) (mk_18 : ∀ (h : Hp) (x1 : Nat) (x2 : Nat) (x3 : Int32), k_18 h x1 x2 x3 = some o → Le h o.2) {h : Hp} {x1 : Nat} {x2 : Nat} {x3 : Int32} {t0 : Int32} {t1 : Int32} {H : Heap} {locs : List Loc} (k_x1 : hK h x1 = 11) (k_x2 : hK h x2 = 15) (hkl : Kl h0 h) (hW : Wx X h H) (hZ : va_S (aA (eB X)) s.heap H locs) (ls : Array Slot) (hl : lv_has ls 4 [(0, .ref b), (1, .ref x1), (2, .ref x2), (3, .int x3)]) (hE : sL_law_926 F L xs k_18 h x1 x2 x3 t0 t1 = some o) : W p l e room_1 s m #[Value.ref b] below meth c H locs (hS h - hS h0) (hL h - hL h0) (lw_Z below #[Value.ref b] s) (F0 m 926 ls [.int t0, .int t1]) := by
  refine lv_icmp_eq (tgt := 1277) C.1 C.2.1 dL_law_926 (by decide) (fun c_1 => ?_) (fun c_1 => ?_)
  · have hE := br_p hE c_1
    exact bL_law_1277 C hX hbl hbA hbase hRm ho hk_18 mk_18 k_x1 k_x2 hkl hW hZ _ (lv_sub hl [0, 1, 2, 3] rfl) hE
  · have hE := br_n hE c_1
    refine lv_iconst (v := (0 : Int32)) C.1 C.2.1 dL_law_929 (by decide) ?_
    exact x_retL C hZ hbase hRm ho hE dL_law_930
set_option maxRecDepth 20000 in
theorem bL_law_912 {p : Program} {l : Launch} {e : Env} {s : State} {m : MethodId} {below : List Frame} {meth : Method} {c : Code} {X : Ec} {h0 : Hp} {o : Int32 × Hp} {k_18 : Hp → Nat → Nat → Int32 → Option (Int32 × Hp)} {F : Nat} {mn : String} {b L : Nat} {xs : Nat → Int32} (C : Cx X p s m #[Value.ref b] meth c RL code 4 ret mn) (hX : va_X b L xs s s.heap) (hbl : b < s.heap.size) (hbA : ¬ aA (eB X) b) (hbase : eB X = s.heap.size) (hRm : hS o.2 - hS h0 ≤ room_1.cells ∧ hL o.2 - hL h0 ≤ room_1.slots) (ho : o.1 = 1) (hk_18 : ∀ (h : Hp) (x1 : Nat) (x2 : Nat) (x3 : Int32) (H : Heap) (locs : List Loc), hK h x1 = 11 → hK h x2 = 15 → Kl h0 h → Wx X h H → va_S (aA (eB X)) s.heap H locs → ∀ (ls : Array Slot), lv_has ls 4 [(0, .ref b), (1, .ref x1), (2, .ref x2), (3, .int x3)] → k_18 h x1 x2 x3 = some o → W p l e room_1 s m #[Value.ref b] below meth c H locs (hS h - hS h0) (hL h - hL h0) (lw_Z below #[Value.ref b] s) (F0 m 18 ls [])) (mk_18 : ∀ (h : Hp) (x1 : Nat) (x2 : Nat) (x3 : Int32), k_18 h x1 x2 x3 = some o → Le h o.2) {h : Hp} {x1 : Nat} {x2 : Nat} {x3 : Int32} {t0 : Int32} {H : Heap} {locs : List Loc} (k_x1 : hK h x1 = 11) (k_x2 : hK h x2 = 15) (hkl : Kl h0 h) (hW : Wx X h H) (hZ : va_S (aA (eB X)) s.heap H locs) (ls : Array Slot) (hl : lv_has ls 4 [(0, .ref b), (1, .ref x1), (2, .ref x2), (3, .int x3)]) (hE : sL_law_912 F L xs k_18 h x1 x2 x3 t0 = some o) : W p l e room_1 s m #[Value.ref b] below meth c H locs (hS h - hS h0) (hL h - hL h0) (lw_Z below #[Value.ref b] s) (F0 m 912 ls [.int t0]) := by
  refine lv_aload_n C.1 C.2.1 dL_law_912 rfl (lv_at hl 2 rfl) ?_
  refine lv_aload_n C.1 C.2.1 dL_law_913 rfl (lv_at hl 0 rfl) ?_
  refine lv_iload_n C.1 C.2.1 dL_law_914 rfl (lv_at hl 3 rfl) ?_
  refine lv_iconst (v := (1 : Int32)) C.1 C.2.1 dL_law_915 (by decide) ?_
  refine lv_iadd C.1 C.2.1 dL_law_916 ?_
  obtain ⟨g_1, hE⟩ := gd_e hE
  refine va_sld C.1 C.2.1 hX hbl hbA hZ g_1 dL_law_917 ?_
  refine lv_aload_n C.1 C.2.1 dL_law_918 rfl (lv_at hl 0 rfl) ?_
  refine lv_iload_n C.1 C.2.1 dL_law_919 rfl (lv_at hl 3 rfl) ?_
  refine lv_iconst (v := (2 : Int32)) C.1 C.2.1 dL_law_920 (by decide) ?_
  refine lv_iadd C.1 C.2.1 dL_law_921 ?_
  obtain ⟨g_2, hE⟩ := gd_e hE
  refine va_sld C.1 C.2.1 hX hbl hbA hZ g_2 dL_law_922 ?_
  obtain ⟨o_3, eo_3, hE⟩ := cl_e hE
  have m1 := moX15_played eo_3
  have m2 := moL_law_926 mk_18 hE
  refine x_kI (o := o_3) (z_runV (As := [.int (xs (x3 + (1 : Int32)).toNatClampNeg), .int (xs (x3 + (2 : Int32)).toNatClampNeg)]) (rest := [.int t0]) C (ct_X15_played l X k_x2 eo_3) cw_L_118 hW hZ k_x2 (by decide) rfl rfl rfl hl.1 (Nat.le_of_ble_eq_true rfl) rfl dL_law_923 ⟨Nat.le_of_ble_eq_true rfl, Nat.le_of_ble_eq_true rfl⟩ ⟨Nat.le_trans (rm_ok0 hkl m1 m2).1 hRm.1, Nat.le_trans (rm_ok0 hkl m1 m2).2 hRm.2⟩) hZ (fun _ _ hW km hZ => ?_)
  replace hkl := hkl.tr km.l
  refine x_wc km ?_
  replace k_x1 := km.at k_x1 (by decide)
  replace k_x2 := km.at k_x2 (by decide)
  exact bL_law_926 C hX hbl hbA hbase hRm ho hk_18 mk_18 k_x1 k_x2 hkl hW hZ _ (lv_sub hl [0, 1, 2, 3] rfl) hE
set_option maxRecDepth 20000 in
theorem bL_law_949 {p : Program} {l : Launch} {e : Env} {s : State} {m : MethodId} {below : List Frame} {meth : Method} {c : Code} {X : Ec} {h0 : Hp} {o : Int32 × Hp} {k_18 : Hp → Nat → Nat → Int32 → Option (Int32 × Hp)} {F : Nat} {mn : String} {b L : Nat} {xs : Nat → Int32} (C : Cx X p s m #[Value.ref b] meth c RL code 4 ret mn) (hX : va_X b L xs s s.heap) (hbl : b < s.heap.size) (hbA : ¬ aA (eB X) b) (hbase : eB X = s.heap.size) (hRm : hS o.2 - hS h0 ≤ room_1.cells ∧ hL o.2 - hL h0 ≤ room_1.slots) (ho : o.1 = 1) (hk_18 : ∀ (h : Hp) (x1 : Nat) (x2 : Nat) (x3 : Int32) (H : Heap) (locs : List Loc), hK h x1 = 11 → hK h x2 = 15 → Kl h0 h → Wx X h H → va_S (aA (eB X)) s.heap H locs → ∀ (ls : Array Slot), lv_has ls 4 [(0, .ref b), (1, .ref x1), (2, .ref x2), (3, .int x3)] → k_18 h x1 x2 x3 = some o → W p l e room_1 s m #[Value.ref b] below meth c H locs (hS h - hS h0) (hL h - hL h0) (lw_Z below #[Value.ref b] s) (F0 m 18 ls [])) (mk_18 : ∀ (h : Hp) (x1 : Nat) (x2 : Nat) (x3 : Int32), k_18 h x1 x2 x3 = some o → Le h o.2) {h : Hp} {x1 : Nat} {x2 : Nat} {x3 : Int32} {t0 : Int32} {t1 : Int32} {H : Heap} {locs : List Loc} (k_x1 : hK h x1 = 11) (k_x2 : hK h x2 = 15) (hkl : Kl h0 h) (hW : Wx X h H) (hZ : va_S (aA (eB X)) s.heap H locs) (ls : Array Slot) (hl : lv_has ls 4 [(0, .ref b), (1, .ref x1), (2, .ref x2), (3, .int x3)]) (hE : sL_law_949 F L xs k_18 h x1 x2 x3 t0 t1 = some o) : W p l e room_1 s m #[Value.ref b] below meth c H locs (hS h - hS h0) (hL h - hL h0) (lw_Z below #[Value.ref b] s) (F0 m 949 ls [.int t0, .int t1]) := by
  refine lv_icmp_eq (tgt := 1277) C.1 C.2.1 dL_law_949 (by decide) (fun c_1 => ?_) (fun c_1 => ?_)
  · have hE := br_p hE c_1
    exact bL_law_1277 C hX hbl hbA hbase hRm ho hk_18 mk_18 k_x1 k_x2 hkl hW hZ _ (lv_sub hl [0, 1, 2, 3] rfl) hE
  · have hE := br_n hE c_1
    refine lv_iconst (v := (0 : Int32)) C.1 C.2.1 dL_law_952 (by decide) ?_
    exact x_retL C hZ hbase hRm ho hE dL_law_953
set_option maxRecDepth 20000 in
theorem bL_law_940 {p : Program} {l : Launch} {e : Env} {s : State} {m : MethodId} {below : List Frame} {meth : Method} {c : Code} {X : Ec} {h0 : Hp} {o : Int32 × Hp} {k_18 : Hp → Nat → Nat → Int32 → Option (Int32 × Hp)} {F : Nat} {mn : String} {b L : Nat} {xs : Nat → Int32} (C : Cx X p s m #[Value.ref b] meth c RL code 4 ret mn) (hX : va_X b L xs s s.heap) (hbl : b < s.heap.size) (hbA : ¬ aA (eB X) b) (hbase : eB X = s.heap.size) (hRm : hS o.2 - hS h0 ≤ room_1.cells ∧ hL o.2 - hL h0 ≤ room_1.slots) (ho : o.1 = 1) (hk_18 : ∀ (h : Hp) (x1 : Nat) (x2 : Nat) (x3 : Int32) (H : Heap) (locs : List Loc), hK h x1 = 11 → hK h x2 = 15 → Kl h0 h → Wx X h H → va_S (aA (eB X)) s.heap H locs → ∀ (ls : Array Slot), lv_has ls 4 [(0, .ref b), (1, .ref x1), (2, .ref x2), (3, .int x3)] → k_18 h x1 x2 x3 = some o → W p l e room_1 s m #[Value.ref b] below meth c H locs (hS h - hS h0) (hL h - hL h0) (lw_Z below #[Value.ref b] s) (F0 m 18 ls [])) (mk_18 : ∀ (h : Hp) (x1 : Nat) (x2 : Nat) (x3 : Int32), k_18 h x1 x2 x3 = some o → Le h o.2) {h : Hp} {x1 : Nat} {x2 : Nat} {x3 : Int32} {t0 : Int32} {H : Heap} {locs : List Loc} (k_x1 : hK h x1 = 11) (k_x2 : hK h x2 = 15) (hkl : Kl h0 h) (hW : Wx X h H) (hZ : va_S (aA (eB X)) s.heap H locs) (ls : Array Slot) (hl : lv_has ls 4 [(0, .ref b), (1, .ref x1), (2, .ref x2), (3, .int x3)]) (hE : sL_law_940 F L xs k_18 h x1 x2 x3 t0 = some o) : W p l e room_1 s m #[Value.ref b] below meth c H locs (hS h - hS h0) (hL h - hL h0) (lw_Z below #[Value.ref b] s) (F0 m 940 ls [.int t0]) := by
  refine lv_aload_n C.1 C.2.1 dL_law_940 rfl (lv_at hl 2 rfl) ?_
  refine lv_aload_n C.1 C.2.1 dL_law_941 rfl (lv_at hl 0 rfl) ?_
  refine lv_iload_n C.1 C.2.1 dL_law_942 rfl (lv_at hl 3 rfl) ?_
  refine lv_iconst (v := (1 : Int32)) C.1 C.2.1 dL_law_943 (by decide) ?_
  refine lv_iadd C.1 C.2.1 dL_law_944 ?_
  obtain ⟨g_1, hE⟩ := gd_e hE
  refine va_sld C.1 C.2.1 hX hbl hbA hZ g_1 dL_law_945 ?_
  obtain ⟨o_2, eo_2, hE⟩ := cl_e hE
  have m1 := moX15_now eo_2
  have m2 := moL_law_949 mk_18 hE
  refine x_kIA (o := o_2) hkl (z_runV (As := [.int (xs (x3 + (1 : Int32)).toNatClampNeg)]) (rest := [.int t0]) C (ct_X15_now l X F k_x2 eo_2) cw_L_122 hW hZ k_x2 (by decide) rfl rfl rfl hl.1 (Nat.le_of_ble_eq_true rfl) rfl dL_law_946 ⟨Nat.le_of_ble_eq_true rfl, Nat.le_of_ble_eq_true rfl⟩ ⟨Nat.le_trans (rm_ok hkl m1 m2).1 hRm.1, Nat.le_trans (rm_ok hkl m1 m2).2 hRm.2⟩) hZ (fun _ _ hW km hZ => ?_)
  replace hkl := hkl.tr km
  replace k_x1 := km.at k_x1 (by decide)
  replace k_x2 := km.at k_x2 (by decide)
  exact bL_law_949 C hX hbl hbA hbase hRm ho hk_18 mk_18 k_x1 k_x2 hkl hW hZ _ (lv_sub hl [0, 1, 2, 3] rfl) hE
set_option maxRecDepth 20000 in
theorem bL_law_982 {p : Program} {l : Launch} {e : Env} {s : State} {m : MethodId} {below : List Frame} {meth : Method} {c : Code} {X : Ec} {h0 : Hp} {o : Int32 × Hp} {k_18 : Hp → Nat → Nat → Int32 → Option (Int32 × Hp)} {F : Nat} {mn : String} {b L : Nat} {xs : Nat → Int32} (C : Cx X p s m #[Value.ref b] meth c RL code 4 ret mn) (hX : va_X b L xs s s.heap) (hbl : b < s.heap.size) (hbA : ¬ aA (eB X) b) (hbase : eB X = s.heap.size) (hRm : hS o.2 - hS h0 ≤ room_1.cells ∧ hL o.2 - hL h0 ≤ room_1.slots) (ho : o.1 = 1) (hk_18 : ∀ (h : Hp) (x1 : Nat) (x2 : Nat) (x3 : Int32) (H : Heap) (locs : List Loc), hK h x1 = 11 → hK h x2 = 15 → Kl h0 h → Wx X h H → va_S (aA (eB X)) s.heap H locs → ∀ (ls : Array Slot), lv_has ls 4 [(0, .ref b), (1, .ref x1), (2, .ref x2), (3, .int x3)] → k_18 h x1 x2 x3 = some o → W p l e room_1 s m #[Value.ref b] below meth c H locs (hS h - hS h0) (hL h - hL h0) (lw_Z below #[Value.ref b] s) (F0 m 18 ls [])) (mk_18 : ∀ (h : Hp) (x1 : Nat) (x2 : Nat) (x3 : Int32), k_18 h x1 x2 x3 = some o → Le h o.2) {h : Hp} {x1 : Nat} {x2 : Nat} {x3 : Int32} {t0 : Int32} {t1 : Int32} {H : Heap} {locs : List Loc} (k_x1 : hK h x1 = 11) (k_x2 : hK h x2 = 15) (hkl : Kl h0 h) (hW : Wx X h H) (hZ : va_S (aA (eB X)) s.heap H locs) (ls : Array Slot) (hl : lv_has ls 4 [(0, .ref b), (1, .ref x1), (2, .ref x2), (3, .int x3)]) (hE : sL_law_982 F L xs k_18 h x1 x2 x3 t0 t1 = some o) : W p l e room_1 s m #[Value.ref b] below meth c H locs (hS h - hS h0) (hL h - hL h0) (lw_Z below #[Value.ref b] s) (F0 m 982 ls [.int t0, .int t1]) := by
  refine lv_icmp_eq (tgt := 1277) C.1 C.2.1 dL_law_982 (by decide) (fun c_1 => ?_) (fun c_1 => ?_)
  · have hE := br_p hE c_1
    exact bL_law_1277 C hX hbl hbA hbase hRm ho hk_18 mk_18 k_x1 k_x2 hkl hW hZ _ (lv_sub hl [0, 1, 2, 3] rfl) hE
  · have hE := br_n hE c_1
    refine lv_iconst (v := (0 : Int32)) C.1 C.2.1 dL_law_985 (by decide) ?_
    exact x_retL C hZ hbase hRm ho hE dL_law_986
set_option maxRecDepth 20000 in
theorem bL_law_968 {p : Program} {l : Launch} {e : Env} {s : State} {m : MethodId} {below : List Frame} {meth : Method} {c : Code} {X : Ec} {h0 : Hp} {o : Int32 × Hp} {k_18 : Hp → Nat → Nat → Int32 → Option (Int32 × Hp)} {F : Nat} {mn : String} {b L : Nat} {xs : Nat → Int32} (C : Cx X p s m #[Value.ref b] meth c RL code 4 ret mn) (hX : va_X b L xs s s.heap) (hbl : b < s.heap.size) (hbA : ¬ aA (eB X) b) (hbase : eB X = s.heap.size) (hRm : hS o.2 - hS h0 ≤ room_1.cells ∧ hL o.2 - hL h0 ≤ room_1.slots) (ho : o.1 = 1) (hk_18 : ∀ (h : Hp) (x1 : Nat) (x2 : Nat) (x3 : Int32) (H : Heap) (locs : List Loc), hK h x1 = 11 → hK h x2 = 15 → Kl h0 h → Wx X h H → va_S (aA (eB X)) s.heap H locs → ∀ (ls : Array Slot), lv_has ls 4 [(0, .ref b), (1, .ref x1), (2, .ref x2), (3, .int x3)] → k_18 h x1 x2 x3 = some o → W p l e room_1 s m #[Value.ref b] below meth c H locs (hS h - hS h0) (hL h - hL h0) (lw_Z below #[Value.ref b] s) (F0 m 18 ls [])) (mk_18 : ∀ (h : Hp) (x1 : Nat) (x2 : Nat) (x3 : Int32), k_18 h x1 x2 x3 = some o → Le h o.2) {h : Hp} {x1 : Nat} {x2 : Nat} {x3 : Int32} {t0 : Int32} {H : Heap} {locs : List Loc} (k_x1 : hK h x1 = 11) (k_x2 : hK h x2 = 15) (hkl : Kl h0 h) (hW : Wx X h H) (hZ : va_S (aA (eB X)) s.heap H locs) (ls : Array Slot) (hl : lv_has ls 4 [(0, .ref b), (1, .ref x1), (2, .ref x2), (3, .int x3)]) (hE : sL_law_968 F L xs k_18 h x1 x2 x3 t0 = some o) : W p l e room_1 s m #[Value.ref b] below meth c H locs (hS h - hS h0) (hL h - hL h0) (lw_Z below #[Value.ref b] s) (F0 m 968 ls [.int t0]) := by
  refine lv_aload_n C.1 C.2.1 dL_law_968 rfl (lv_at hl 2 rfl) ?_
  refine lv_aload_n C.1 C.2.1 dL_law_969 rfl (lv_at hl 0 rfl) ?_
  refine lv_iload_n C.1 C.2.1 dL_law_970 rfl (lv_at hl 3 rfl) ?_
  refine lv_iconst (v := (1 : Int32)) C.1 C.2.1 dL_law_971 (by decide) ?_
  refine lv_iadd C.1 C.2.1 dL_law_972 ?_
  obtain ⟨g_1, hE⟩ := gd_e hE
  refine va_sld C.1 C.2.1 hX hbl hbA hZ g_1 dL_law_973 ?_
  refine lv_aload_n C.1 C.2.1 dL_law_974 rfl (lv_at hl 0 rfl) ?_
  refine lv_iload_n C.1 C.2.1 dL_law_975 rfl (lv_at hl 3 rfl) ?_
  refine lv_iconst (v := (2 : Int32)) C.1 C.2.1 dL_law_976 (by decide) ?_
  refine lv_iadd C.1 C.2.1 dL_law_977 ?_
  obtain ⟨g_2, hE⟩ := gd_e hE
  refine va_sld C.1 C.2.1 hX hbl hbA hZ g_2 dL_law_978 ?_
  obtain ⟨o_3, eo_3, hE⟩ := cl_e hE
  have m1 := moX15_book eo_3
  have m2 := moL_law_982 mk_18 hE
  refine x_kIA (o := o_3) hkl (z_runV (As := [.int (xs (x3 + (1 : Int32)).toNatClampNeg), .int (xs (x3 + (2 : Int32)).toNatClampNeg)]) (rest := [.int t0]) C (ct_X15_book l X F k_x2 eo_3) cw_L_126 hW hZ k_x2 (by decide) rfl rfl rfl hl.1 (Nat.le_of_ble_eq_true rfl) rfl dL_law_979 ⟨Nat.le_of_ble_eq_true rfl, Nat.le_of_ble_eq_true rfl⟩ ⟨Nat.le_trans (rm_ok hkl m1 m2).1 hRm.1, Nat.le_trans (rm_ok hkl m1 m2).2 hRm.2⟩) hZ (fun _ _ hW km hZ => ?_)
  replace hkl := hkl.tr km
  replace k_x1 := km.at k_x1 (by decide)
  replace k_x2 := km.at k_x2 (by decide)
  exact bL_law_982 C hX hbl hbA hbase hRm ho hk_18 mk_18 k_x1 k_x2 hkl hW hZ _ (lv_sub hl [0, 1, 2, 3] rfl) hE
set_option maxRecDepth 20000 in
theorem bL_law_1025 {p : Program} {l : Launch} {e : Env} {s : State} {m : MethodId} {below : List Frame} {meth : Method} {c : Code} {X : Ec} {h0 : Hp} {o : Int32 × Hp} {k_18 : Hp → Nat → Nat → Int32 → Option (Int32 × Hp)} {F : Nat} {mn : String} {b L : Nat} {xs : Nat → Int32} (C : Cx X p s m #[Value.ref b] meth c RL code 4 ret mn) (hX : va_X b L xs s s.heap) (hbl : b < s.heap.size) (hbA : ¬ aA (eB X) b) (hbase : eB X = s.heap.size) (hRm : hS o.2 - hS h0 ≤ room_1.cells ∧ hL o.2 - hL h0 ≤ room_1.slots) (ho : o.1 = 1) (hk_18 : ∀ (h : Hp) (x1 : Nat) (x2 : Nat) (x3 : Int32) (H : Heap) (locs : List Loc), hK h x1 = 11 → hK h x2 = 15 → Kl h0 h → Wx X h H → va_S (aA (eB X)) s.heap H locs → ∀ (ls : Array Slot), lv_has ls 4 [(0, .ref b), (1, .ref x1), (2, .ref x2), (3, .int x3)] → k_18 h x1 x2 x3 = some o → W p l e room_1 s m #[Value.ref b] below meth c H locs (hS h - hS h0) (hL h - hL h0) (lw_Z below #[Value.ref b] s) (F0 m 18 ls [])) (mk_18 : ∀ (h : Hp) (x1 : Nat) (x2 : Nat) (x3 : Int32), k_18 h x1 x2 x3 = some o → Le h o.2) {h : Hp} {x1 : Nat} {x2 : Nat} {x3 : Int32} {t0 : Int32} {t1 : Int32} {H : Heap} {locs : List Loc} (k_x1 : hK h x1 = 11) (k_x2 : hK h x2 = 15) (hkl : Kl h0 h) (hW : Wx X h H) (hZ : va_S (aA (eB X)) s.heap H locs) (ls : Array Slot) (hl : lv_has ls 4 [(0, .ref b), (1, .ref x1), (2, .ref x2), (3, .int x3)]) (hE : sL_law_1025 F L xs k_18 h x1 x2 x3 t0 t1 = some o) : W p l e room_1 s m #[Value.ref b] below meth c H locs (hS h - hS h0) (hL h - hL h0) (lw_Z below #[Value.ref b] s) (F0 m 1025 ls [.int t0, .int t1]) := by
  refine lv_icmp_eq (tgt := 1277) C.1 C.2.1 dL_law_1025 (by decide) (fun c_1 => ?_) (fun c_1 => ?_)
  · have hE := br_p hE c_1
    exact bL_law_1277 C hX hbl hbA hbase hRm ho hk_18 mk_18 k_x1 k_x2 hkl hW hZ _ (lv_sub hl [0, 1, 2, 3] rfl) hE
  · have hE := br_n hE c_1
    refine lv_iconst (v := (0 : Int32)) C.1 C.2.1 dL_law_1028 (by decide) ?_
    exact x_retL C hZ hbase hRm ho hE dL_law_1029
set_option maxRecDepth 20000 in
theorem bL_law_1006 {p : Program} {l : Launch} {e : Env} {s : State} {m : MethodId} {below : List Frame} {meth : Method} {c : Code} {X : Ec} {h0 : Hp} {o : Int32 × Hp} {k_18 : Hp → Nat → Nat → Int32 → Option (Int32 × Hp)} {F : Nat} {mn : String} {b L : Nat} {xs : Nat → Int32} (C : Cx X p s m #[Value.ref b] meth c RL code 4 ret mn) (hX : va_X b L xs s s.heap) (hbl : b < s.heap.size) (hbA : ¬ aA (eB X) b) (hbase : eB X = s.heap.size) (hRm : hS o.2 - hS h0 ≤ room_1.cells ∧ hL o.2 - hL h0 ≤ room_1.slots) (ho : o.1 = 1) (hk_18 : ∀ (h : Hp) (x1 : Nat) (x2 : Nat) (x3 : Int32) (H : Heap) (locs : List Loc), hK h x1 = 11 → hK h x2 = 15 → Kl h0 h → Wx X h H → va_S (aA (eB X)) s.heap H locs → ∀ (ls : Array Slot), lv_has ls 4 [(0, .ref b), (1, .ref x1), (2, .ref x2), (3, .int x3)] → k_18 h x1 x2 x3 = some o → W p l e room_1 s m #[Value.ref b] below meth c H locs (hS h - hS h0) (hL h - hL h0) (lw_Z below #[Value.ref b] s) (F0 m 18 ls [])) (mk_18 : ∀ (h : Hp) (x1 : Nat) (x2 : Nat) (x3 : Int32), k_18 h x1 x2 x3 = some o → Le h o.2) {h : Hp} {x1 : Nat} {x2 : Nat} {x3 : Int32} {t0 : Int32} {H : Heap} {locs : List Loc} (k_x1 : hK h x1 = 11) (k_x2 : hK h x2 = 15) (hkl : Kl h0 h) (hW : Wx X h H) (hZ : va_S (aA (eB X)) s.heap H locs) (ls : Array Slot) (hl : lv_has ls 4 [(0, .ref b), (1, .ref x1), (2, .ref x2), (3, .int x3)]) (hE : sL_law_1006 F L xs k_18 h x1 x2 x3 t0 = some o) : W p l e room_1 s m #[Value.ref b] below meth c H locs (hS h - hS h0) (hL h - hL h0) (lw_Z below #[Value.ref b] s) (F0 m 1006 ls [.int t0]) := by
  refine lv_aload_n C.1 C.2.1 dL_law_1006 rfl (lv_at hl 2 rfl) ?_
  refine lv_aload_n C.1 C.2.1 dL_law_1007 rfl (lv_at hl 0 rfl) ?_
  refine lv_iload_n C.1 C.2.1 dL_law_1008 rfl (lv_at hl 3 rfl) ?_
  refine lv_iconst (v := (1 : Int32)) C.1 C.2.1 dL_law_1009 (by decide) ?_
  refine lv_iadd C.1 C.2.1 dL_law_1010 ?_
  obtain ⟨g_1, hE⟩ := gd_e hE
  refine va_sld C.1 C.2.1 hX hbl hbA hZ g_1 dL_law_1011 ?_
  refine lv_aload_n C.1 C.2.1 dL_law_1012 rfl (lv_at hl 0 rfl) ?_
  refine lv_iload_n C.1 C.2.1 dL_law_1013 rfl (lv_at hl 3 rfl) ?_
  refine lv_iconst (v := (2 : Int32)) C.1 C.2.1 dL_law_1014 (by decide) ?_
  refine lv_iadd C.1 C.2.1 dL_law_1015 ?_
  obtain ⟨g_2, hE⟩ := gd_e hE
  refine va_sld C.1 C.2.1 hX hbl hbA hZ g_2 dL_law_1016 ?_
  refine lv_aload_n C.1 C.2.1 dL_law_1017 rfl (lv_at hl 0 rfl) ?_
  refine lv_iload_n C.1 C.2.1 dL_law_1018 rfl (lv_at hl 3 rfl) ?_
  refine lv_iconst (v := (3 : Int32)) C.1 C.2.1 dL_law_1019 (by decide) ?_
  refine lv_iadd C.1 C.2.1 dL_law_1020 ?_
  obtain ⟨g_3, hE⟩ := gd_e hE
  refine va_sld C.1 C.2.1 hX hbl hbA hZ g_3 dL_law_1021 ?_
  obtain ⟨o_4, eo_4, hE⟩ := cl_e hE
  have m1 := moX15_sees eo_4
  have m2 := moL_law_1025 mk_18 hE
  refine x_kI (o := o_4) (z_runV (As := [.int (xs (x3 + (1 : Int32)).toNatClampNeg), .int (xs (x3 + (2 : Int32)).toNatClampNeg), .int (xs (x3 + (3 : Int32)).toNatClampNeg)]) (rest := [.int t0]) C (ct_X15_sees l X F k_x2 eo_4) cw_L_130 hW hZ k_x2 (by decide) rfl rfl rfl hl.1 (Nat.le_of_ble_eq_true rfl) rfl dL_law_1022 ⟨Nat.le_of_ble_eq_true rfl, Nat.le_of_ble_eq_true rfl⟩ ⟨Nat.le_trans (rm_ok0 hkl m1 m2).1 hRm.1, Nat.le_trans (rm_ok0 hkl m1 m2).2 hRm.2⟩) hZ (fun _ _ hW km hZ => ?_)
  replace hkl := hkl.tr km.l
  refine x_wc km ?_
  replace k_x1 := km.at k_x1 (by decide)
  replace k_x2 := km.at k_x2 (by decide)
  exact bL_law_1025 C hX hbl hbA hbase hRm ho hk_18 mk_18 k_x1 k_x2 hkl hW hZ _ (lv_sub hl [0, 1, 2, 3] rfl) hE
set_option maxRecDepth 20000 in
theorem bL_law_1058 {p : Program} {l : Launch} {e : Env} {s : State} {m : MethodId} {below : List Frame} {meth : Method} {c : Code} {X : Ec} {h0 : Hp} {o : Int32 × Hp} {k_18 : Hp → Nat → Nat → Int32 → Option (Int32 × Hp)} {F : Nat} {mn : String} {b L : Nat} {xs : Nat → Int32} (C : Cx X p s m #[Value.ref b] meth c RL code 4 ret mn) (hX : va_X b L xs s s.heap) (hbl : b < s.heap.size) (hbA : ¬ aA (eB X) b) (hbase : eB X = s.heap.size) (hRm : hS o.2 - hS h0 ≤ room_1.cells ∧ hL o.2 - hL h0 ≤ room_1.slots) (ho : o.1 = 1) (hk_18 : ∀ (h : Hp) (x1 : Nat) (x2 : Nat) (x3 : Int32) (H : Heap) (locs : List Loc), hK h x1 = 11 → hK h x2 = 15 → Kl h0 h → Wx X h H → va_S (aA (eB X)) s.heap H locs → ∀ (ls : Array Slot), lv_has ls 4 [(0, .ref b), (1, .ref x1), (2, .ref x2), (3, .int x3)] → k_18 h x1 x2 x3 = some o → W p l e room_1 s m #[Value.ref b] below meth c H locs (hS h - hS h0) (hL h - hL h0) (lw_Z below #[Value.ref b] s) (F0 m 18 ls [])) (mk_18 : ∀ (h : Hp) (x1 : Nat) (x2 : Nat) (x3 : Int32), k_18 h x1 x2 x3 = some o → Le h o.2) {h : Hp} {x1 : Nat} {x2 : Nat} {x3 : Int32} {t0 : Int32} {t1 : Int32} {H : Heap} {locs : List Loc} (k_x1 : hK h x1 = 11) (k_x2 : hK h x2 = 15) (hkl : Kl h0 h) (hW : Wx X h H) (hZ : va_S (aA (eB X)) s.heap H locs) (ls : Array Slot) (hl : lv_has ls 4 [(0, .ref b), (1, .ref x1), (2, .ref x2), (3, .int x3)]) (hE : sL_law_1058 F L xs k_18 h x1 x2 x3 t0 t1 = some o) : W p l e room_1 s m #[Value.ref b] below meth c H locs (hS h - hS h0) (hL h - hL h0) (lw_Z below #[Value.ref b] s) (F0 m 1058 ls [.int t0, .int t1]) := by
  refine lv_icmp_eq (tgt := 1277) C.1 C.2.1 dL_law_1058 (by decide) (fun c_1 => ?_) (fun c_1 => ?_)
  · have hE := br_p hE c_1
    exact bL_law_1277 C hX hbl hbA hbase hRm ho hk_18 mk_18 k_x1 k_x2 hkl hW hZ _ (lv_sub hl [0, 1, 2, 3] rfl) hE
  · have hE := br_n hE c_1
    refine lv_iconst (v := (0 : Int32)) C.1 C.2.1 dL_law_1061 (by decide) ?_
    exact x_retL C hZ hbase hRm ho hE dL_law_1062
set_option maxRecDepth 20000 in
theorem bL_law_1044 {p : Program} {l : Launch} {e : Env} {s : State} {m : MethodId} {below : List Frame} {meth : Method} {c : Code} {X : Ec} {h0 : Hp} {o : Int32 × Hp} {k_18 : Hp → Nat → Nat → Int32 → Option (Int32 × Hp)} {F : Nat} {mn : String} {b L : Nat} {xs : Nat → Int32} (C : Cx X p s m #[Value.ref b] meth c RL code 4 ret mn) (hX : va_X b L xs s s.heap) (hbl : b < s.heap.size) (hbA : ¬ aA (eB X) b) (hbase : eB X = s.heap.size) (hRm : hS o.2 - hS h0 ≤ room_1.cells ∧ hL o.2 - hL h0 ≤ room_1.slots) (ho : o.1 = 1) (hk_18 : ∀ (h : Hp) (x1 : Nat) (x2 : Nat) (x3 : Int32) (H : Heap) (locs : List Loc), hK h x1 = 11 → hK h x2 = 15 → Kl h0 h → Wx X h H → va_S (aA (eB X)) s.heap H locs → ∀ (ls : Array Slot), lv_has ls 4 [(0, .ref b), (1, .ref x1), (2, .ref x2), (3, .int x3)] → k_18 h x1 x2 x3 = some o → W p l e room_1 s m #[Value.ref b] below meth c H locs (hS h - hS h0) (hL h - hL h0) (lw_Z below #[Value.ref b] s) (F0 m 18 ls [])) (mk_18 : ∀ (h : Hp) (x1 : Nat) (x2 : Nat) (x3 : Int32), k_18 h x1 x2 x3 = some o → Le h o.2) {h : Hp} {x1 : Nat} {x2 : Nat} {x3 : Int32} {t0 : Int32} {H : Heap} {locs : List Loc} (k_x1 : hK h x1 = 11) (k_x2 : hK h x2 = 15) (hkl : Kl h0 h) (hW : Wx X h H) (hZ : va_S (aA (eB X)) s.heap H locs) (ls : Array Slot) (hl : lv_has ls 4 [(0, .ref b), (1, .ref x1), (2, .ref x2), (3, .int x3)]) (hE : sL_law_1044 F L xs k_18 h x1 x2 x3 t0 = some o) : W p l e room_1 s m #[Value.ref b] below meth c H locs (hS h - hS h0) (hL h - hL h0) (lw_Z below #[Value.ref b] s) (F0 m 1044 ls [.int t0]) := by
  refine lv_aload_n C.1 C.2.1 dL_law_1044 rfl (lv_at hl 2 rfl) ?_
  refine lv_aload_n C.1 C.2.1 dL_law_1045 rfl (lv_at hl 0 rfl) ?_
  refine lv_iload_n C.1 C.2.1 dL_law_1046 rfl (lv_at hl 3 rfl) ?_
  refine lv_iconst (v := (1 : Int32)) C.1 C.2.1 dL_law_1047 (by decide) ?_
  refine lv_iadd C.1 C.2.1 dL_law_1048 ?_
  obtain ⟨g_1, hE⟩ := gd_e hE
  refine va_sld C.1 C.2.1 hX hbl hbA hZ g_1 dL_law_1049 ?_
  refine lv_aload_n C.1 C.2.1 dL_law_1050 rfl (lv_at hl 0 rfl) ?_
  refine lv_iload_n C.1 C.2.1 dL_law_1051 rfl (lv_at hl 3 rfl) ?_
  refine lv_iconst (v := (2 : Int32)) C.1 C.2.1 dL_law_1052 (by decide) ?_
  refine lv_iadd C.1 C.2.1 dL_law_1053 ?_
  obtain ⟨g_2, hE⟩ := gd_e hE
  refine va_sld C.1 C.2.1 hX hbl hbA hZ g_2 dL_law_1054 ?_
  obtain ⟨o_3, eo_3, hE⟩ := cl_e hE
  have m1 := moX15_view eo_3
  have m2 := moL_law_1058 mk_18 hE
  refine x_kI (o := o_3) (z_runV (As := [.int (xs (x3 + (1 : Int32)).toNatClampNeg), .int (xs (x3 + (2 : Int32)).toNatClampNeg)]) (rest := [.int t0]) C (ct_X15_view l X F k_x2 eo_3) cw_L_134 hW hZ k_x2 (by decide) rfl rfl rfl hl.1 (Nat.le_of_ble_eq_true rfl) rfl dL_law_1055 ⟨Nat.le_of_ble_eq_true rfl, Nat.le_of_ble_eq_true rfl⟩ ⟨Nat.le_trans (rm_ok0 hkl m1 m2).1 hRm.1, Nat.le_trans (rm_ok0 hkl m1 m2).2 hRm.2⟩) hZ (fun _ _ hW km hZ => ?_)
  replace hkl := hkl.tr km.l
  refine x_wc km ?_
  replace k_x1 := km.at k_x1 (by decide)
  replace k_x2 := km.at k_x2 (by decide)
  exact bL_law_1058 C hX hbl hbA hbase hRm ho hk_18 mk_18 k_x1 k_x2 hkl hW hZ _ (lv_sub hl [0, 1, 2, 3] rfl) hE
set_option maxRecDepth 20000 in
theorem bL_law_1081 {p : Program} {l : Launch} {e : Env} {s : State} {m : MethodId} {below : List Frame} {meth : Method} {c : Code} {X : Ec} {h0 : Hp} {o : Int32 × Hp} {k_18 : Hp → Nat → Nat → Int32 → Option (Int32 × Hp)} {F : Nat} {mn : String} {b L : Nat} {xs : Nat → Int32} (C : Cx X p s m #[Value.ref b] meth c RL code 4 ret mn) (hX : va_X b L xs s s.heap) (hbl : b < s.heap.size) (hbA : ¬ aA (eB X) b) (hbase : eB X = s.heap.size) (hRm : hS o.2 - hS h0 ≤ room_1.cells ∧ hL o.2 - hL h0 ≤ room_1.slots) (ho : o.1 = 1) (hk_18 : ∀ (h : Hp) (x1 : Nat) (x2 : Nat) (x3 : Int32) (H : Heap) (locs : List Loc), hK h x1 = 11 → hK h x2 = 15 → Kl h0 h → Wx X h H → va_S (aA (eB X)) s.heap H locs → ∀ (ls : Array Slot), lv_has ls 4 [(0, .ref b), (1, .ref x1), (2, .ref x2), (3, .int x3)] → k_18 h x1 x2 x3 = some o → W p l e room_1 s m #[Value.ref b] below meth c H locs (hS h - hS h0) (hL h - hL h0) (lw_Z below #[Value.ref b] s) (F0 m 18 ls [])) (mk_18 : ∀ (h : Hp) (x1 : Nat) (x2 : Nat) (x3 : Int32), k_18 h x1 x2 x3 = some o → Le h o.2) {h : Hp} {x1 : Nat} {x2 : Nat} {x3 : Int32} {t0 : Int32} {t1 : Int32} {H : Heap} {locs : List Loc} (k_x1 : hK h x1 = 11) (k_x2 : hK h x2 = 15) (hkl : Kl h0 h) (hW : Wx X h H) (hZ : va_S (aA (eB X)) s.heap H locs) (ls : Array Slot) (hl : lv_has ls 4 [(0, .ref b), (1, .ref x1), (2, .ref x2), (3, .int x3)]) (hE : sL_law_1081 F L xs k_18 h x1 x2 x3 t0 t1 = some o) : W p l e room_1 s m #[Value.ref b] below meth c H locs (hS h - hS h0) (hL h - hL h0) (lw_Z below #[Value.ref b] s) (F0 m 1081 ls [.int t0, .int t1]) := by
  refine lv_icmp_eq (tgt := 1277) C.1 C.2.1 dL_law_1081 (by decide) (fun c_1 => ?_) (fun c_1 => ?_)
  · have hE := br_p hE c_1
    exact bL_law_1277 C hX hbl hbA hbase hRm ho hk_18 mk_18 k_x1 k_x2 hkl hW hZ _ (lv_sub hl [0, 1, 2, 3] rfl) hE
  · have hE := br_n hE c_1
    refine lv_iconst (v := (0 : Int32)) C.1 C.2.1 dL_law_1084 (by decide) ?_
    exact x_retL C hZ hbase hRm ho hE dL_law_1085
set_option maxRecDepth 20000 in
theorem bL_law_1072 {p : Program} {l : Launch} {e : Env} {s : State} {m : MethodId} {below : List Frame} {meth : Method} {c : Code} {X : Ec} {h0 : Hp} {o : Int32 × Hp} {k_18 : Hp → Nat → Nat → Int32 → Option (Int32 × Hp)} {F : Nat} {mn : String} {b L : Nat} {xs : Nat → Int32} (C : Cx X p s m #[Value.ref b] meth c RL code 4 ret mn) (hX : va_X b L xs s s.heap) (hbl : b < s.heap.size) (hbA : ¬ aA (eB X) b) (hbase : eB X = s.heap.size) (hRm : hS o.2 - hS h0 ≤ room_1.cells ∧ hL o.2 - hL h0 ≤ room_1.slots) (ho : o.1 = 1) (hk_18 : ∀ (h : Hp) (x1 : Nat) (x2 : Nat) (x3 : Int32) (H : Heap) (locs : List Loc), hK h x1 = 11 → hK h x2 = 15 → Kl h0 h → Wx X h H → va_S (aA (eB X)) s.heap H locs → ∀ (ls : Array Slot), lv_has ls 4 [(0, .ref b), (1, .ref x1), (2, .ref x2), (3, .int x3)] → k_18 h x1 x2 x3 = some o → W p l e room_1 s m #[Value.ref b] below meth c H locs (hS h - hS h0) (hL h - hL h0) (lw_Z below #[Value.ref b] s) (F0 m 18 ls [])) (mk_18 : ∀ (h : Hp) (x1 : Nat) (x2 : Nat) (x3 : Int32), k_18 h x1 x2 x3 = some o → Le h o.2) {h : Hp} {x1 : Nat} {x2 : Nat} {x3 : Int32} {t0 : Int32} {H : Heap} {locs : List Loc} (k_x1 : hK h x1 = 11) (k_x2 : hK h x2 = 15) (hkl : Kl h0 h) (hW : Wx X h H) (hZ : va_S (aA (eB X)) s.heap H locs) (ls : Array Slot) (hl : lv_has ls 4 [(0, .ref b), (1, .ref x1), (2, .ref x2), (3, .int x3)]) (hE : sL_law_1072 F L xs k_18 h x1 x2 x3 t0 = some o) : W p l e room_1 s m #[Value.ref b] below meth c H locs (hS h - hS h0) (hL h - hL h0) (lw_Z below #[Value.ref b] s) (F0 m 1072 ls [.int t0]) := by
  refine lv_aload_n C.1 C.2.1 dL_law_1072 rfl (lv_at hl 2 rfl) ?_
  refine lv_aload_n C.1 C.2.1 dL_law_1073 rfl (lv_at hl 0 rfl) ?_
  refine lv_iload_n C.1 C.2.1 dL_law_1074 rfl (lv_at hl 3 rfl) ?_
  refine lv_iconst (v := (1 : Int32)) C.1 C.2.1 dL_law_1075 (by decide) ?_
  refine lv_iadd C.1 C.2.1 dL_law_1076 ?_
  obtain ⟨g_1, hE⟩ := gd_e hE
  refine va_sld C.1 C.2.1 hX hbl hbA hZ g_1 dL_law_1077 ?_
  obtain ⟨o_2, eo_2, hE⟩ := cl_e hE
  have m1 := moX15_before eo_2
  have m2 := moL_law_1081 mk_18 hE
  refine x_kIA (o := o_2) hkl (z_runV (As := [.int (xs (x3 + (1 : Int32)).toNatClampNeg)]) (rest := [.int t0]) C (ct_X15_before l X F k_x2 eo_2) cw_L_138 hW hZ k_x2 (by decide) rfl rfl rfl hl.1 (Nat.le_of_ble_eq_true rfl) rfl dL_law_1078 ⟨Nat.le_of_ble_eq_true rfl, Nat.le_of_ble_eq_true rfl⟩ ⟨Nat.le_trans (rm_ok hkl m1 m2).1 hRm.1, Nat.le_trans (rm_ok hkl m1 m2).2 hRm.2⟩) hZ (fun _ _ hW km hZ => ?_)
  replace hkl := hkl.tr km
  replace k_x1 := km.at k_x1 (by decide)
  replace k_x2 := km.at k_x2 (by decide)
  exact bL_law_1081 C hX hbl hbA hbase hRm ho hk_18 mk_18 k_x1 k_x2 hkl hW hZ _ (lv_sub hl [0, 1, 2, 3] rfl) hE
set_option maxRecDepth 20000 in
theorem bL_law_1104 {p : Program} {l : Launch} {e : Env} {s : State} {m : MethodId} {below : List Frame} {meth : Method} {c : Code} {X : Ec} {h0 : Hp} {o : Int32 × Hp} {k_18 : Hp → Nat → Nat → Int32 → Option (Int32 × Hp)} {F : Nat} {mn : String} {b L : Nat} {xs : Nat → Int32} (C : Cx X p s m #[Value.ref b] meth c RL code 4 ret mn) (hX : va_X b L xs s s.heap) (hbl : b < s.heap.size) (hbA : ¬ aA (eB X) b) (hbase : eB X = s.heap.size) (hRm : hS o.2 - hS h0 ≤ room_1.cells ∧ hL o.2 - hL h0 ≤ room_1.slots) (ho : o.1 = 1) (hk_18 : ∀ (h : Hp) (x1 : Nat) (x2 : Nat) (x3 : Int32) (H : Heap) (locs : List Loc), hK h x1 = 11 → hK h x2 = 15 → Kl h0 h → Wx X h H → va_S (aA (eB X)) s.heap H locs → ∀ (ls : Array Slot), lv_has ls 4 [(0, .ref b), (1, .ref x1), (2, .ref x2), (3, .int x3)] → k_18 h x1 x2 x3 = some o → W p l e room_1 s m #[Value.ref b] below meth c H locs (hS h - hS h0) (hL h - hL h0) (lw_Z below #[Value.ref b] s) (F0 m 18 ls [])) (mk_18 : ∀ (h : Hp) (x1 : Nat) (x2 : Nat) (x3 : Int32), k_18 h x1 x2 x3 = some o → Le h o.2) {h : Hp} {x1 : Nat} {x2 : Nat} {x3 : Int32} {t0 : Int32} {t1 : Int32} {H : Heap} {locs : List Loc} (k_x1 : hK h x1 = 11) (k_x2 : hK h x2 = 15) (hkl : Kl h0 h) (hW : Wx X h H) (hZ : va_S (aA (eB X)) s.heap H locs) (ls : Array Slot) (hl : lv_has ls 4 [(0, .ref b), (1, .ref x1), (2, .ref x2), (3, .int x3)]) (hE : sL_law_1104 F L xs k_18 h x1 x2 x3 t0 t1 = some o) : W p l e room_1 s m #[Value.ref b] below meth c H locs (hS h - hS h0) (hL h - hL h0) (lw_Z below #[Value.ref b] s) (F0 m 1104 ls [.int t0, .int t1]) := by
  refine lv_icmp_eq (tgt := 1277) C.1 C.2.1 dL_law_1104 (by decide) (fun c_1 => ?_) (fun c_1 => ?_)
  · have hE := br_p hE c_1
    exact bL_law_1277 C hX hbl hbA hbase hRm ho hk_18 mk_18 k_x1 k_x2 hkl hW hZ _ (lv_sub hl [0, 1, 2, 3] rfl) hE
  · have hE := br_n hE c_1
    refine lv_iconst (v := (0 : Int32)) C.1 C.2.1 dL_law_1107 (by decide) ?_
    exact x_retL C hZ hbase hRm ho hE dL_law_1108
set_option maxRecDepth 20000 in
theorem bL_law_1095 {p : Program} {l : Launch} {e : Env} {s : State} {m : MethodId} {below : List Frame} {meth : Method} {c : Code} {X : Ec} {h0 : Hp} {o : Int32 × Hp} {k_18 : Hp → Nat → Nat → Int32 → Option (Int32 × Hp)} {F : Nat} {mn : String} {b L : Nat} {xs : Nat → Int32} (C : Cx X p s m #[Value.ref b] meth c RL code 4 ret mn) (hX : va_X b L xs s s.heap) (hbl : b < s.heap.size) (hbA : ¬ aA (eB X) b) (hbase : eB X = s.heap.size) (hRm : hS o.2 - hS h0 ≤ room_1.cells ∧ hL o.2 - hL h0 ≤ room_1.slots) (ho : o.1 = 1) (hk_18 : ∀ (h : Hp) (x1 : Nat) (x2 : Nat) (x3 : Int32) (H : Heap) (locs : List Loc), hK h x1 = 11 → hK h x2 = 15 → Kl h0 h → Wx X h H → va_S (aA (eB X)) s.heap H locs → ∀ (ls : Array Slot), lv_has ls 4 [(0, .ref b), (1, .ref x1), (2, .ref x2), (3, .int x3)] → k_18 h x1 x2 x3 = some o → W p l e room_1 s m #[Value.ref b] below meth c H locs (hS h - hS h0) (hL h - hL h0) (lw_Z below #[Value.ref b] s) (F0 m 18 ls [])) (mk_18 : ∀ (h : Hp) (x1 : Nat) (x2 : Nat) (x3 : Int32), k_18 h x1 x2 x3 = some o → Le h o.2) {h : Hp} {x1 : Nat} {x2 : Nat} {x3 : Int32} {t0 : Int32} {H : Heap} {locs : List Loc} (k_x1 : hK h x1 = 11) (k_x2 : hK h x2 = 15) (hkl : Kl h0 h) (hW : Wx X h H) (hZ : va_S (aA (eB X)) s.heap H locs) (ls : Array Slot) (hl : lv_has ls 4 [(0, .ref b), (1, .ref x1), (2, .ref x2), (3, .int x3)]) (hE : sL_law_1095 F L xs k_18 h x1 x2 x3 t0 = some o) : W p l e room_1 s m #[Value.ref b] below meth c H locs (hS h - hS h0) (hL h - hL h0) (lw_Z below #[Value.ref b] s) (F0 m 1095 ls [.int t0]) := by
  refine lv_aload_n C.1 C.2.1 dL_law_1095 rfl (lv_at hl 2 rfl) ?_
  refine lv_aload_n C.1 C.2.1 dL_law_1096 rfl (lv_at hl 0 rfl) ?_
  refine lv_iload_n C.1 C.2.1 dL_law_1097 rfl (lv_at hl 3 rfl) ?_
  refine lv_iconst (v := (1 : Int32)) C.1 C.2.1 dL_law_1098 (by decide) ?_
  refine lv_iadd C.1 C.2.1 dL_law_1099 ?_
  obtain ⟨g_1, hE⟩ := gd_e hE
  refine va_sld C.1 C.2.1 hX hbl hbA hZ g_1 dL_law_1100 ?_
  obtain ⟨o_2, eo_2, hE⟩ := cl_e hE
  have m1 := moX15_beforeAt eo_2
  have m2 := moL_law_1104 mk_18 hE
  refine x_kIA (o := o_2) hkl (z_runV (As := [.int (xs (x3 + (1 : Int32)).toNatClampNeg)]) (rest := [.int t0]) C (ct_X15_beforeAt l X F k_x2 eo_2) cw_L_142 hW hZ k_x2 (by decide) rfl rfl rfl hl.1 (Nat.le_of_ble_eq_true rfl) rfl dL_law_1101 ⟨Nat.le_of_ble_eq_true rfl, Nat.le_of_ble_eq_true rfl⟩ ⟨Nat.le_trans (rm_ok hkl m1 m2).1 hRm.1, Nat.le_trans (rm_ok hkl m1 m2).2 hRm.2⟩) hZ (fun _ _ hW km hZ => ?_)
  replace hkl := hkl.tr km
  replace k_x1 := km.at k_x1 (by decide)
  replace k_x2 := km.at k_x2 (by decide)
  exact bL_law_1104 C hX hbl hbA hbase hRm ho hk_18 mk_18 k_x1 k_x2 hkl hW hZ _ (lv_sub hl [0, 1, 2, 3] rfl) hE
set_option maxRecDepth 20000 in
theorem bL_law_1117 {p : Program} {l : Launch} {e : Env} {s : State} {m : MethodId} {below : List Frame} {meth : Method} {c : Code} {X : Ec} {h0 : Hp} {o : Int32 × Hp} {k_18 : Hp → Nat → Nat → Int32 → Option (Int32 × Hp)} {F : Nat} {mn : String} {b L : Nat} {xs : Nat → Int32} (C : Cx X p s m #[Value.ref b] meth c RL code 4 ret mn) (hX : va_X b L xs s s.heap) (hbl : b < s.heap.size) (hbA : ¬ aA (eB X) b) (hbase : eB X = s.heap.size) (hRm : hS o.2 - hS h0 ≤ room_1.cells ∧ hL o.2 - hL h0 ≤ room_1.slots) (ho : o.1 = 1) (hk_18 : ∀ (h : Hp) (x1 : Nat) (x2 : Nat) (x3 : Int32) (H : Heap) (locs : List Loc), hK h x1 = 11 → hK h x2 = 15 → Kl h0 h → Wx X h H → va_S (aA (eB X)) s.heap H locs → ∀ (ls : Array Slot), lv_has ls 4 [(0, .ref b), (1, .ref x1), (2, .ref x2), (3, .int x3)] → k_18 h x1 x2 x3 = some o → W p l e room_1 s m #[Value.ref b] below meth c H locs (hS h - hS h0) (hL h - hL h0) (lw_Z below #[Value.ref b] s) (F0 m 18 ls [])) (mk_18 : ∀ (h : Hp) (x1 : Nat) (x2 : Nat) (x3 : Int32), k_18 h x1 x2 x3 = some o → Le h o.2) {h : Hp} {x1 : Nat} {x2 : Nat} {x3 : Int32} {t0 : Int32} {t1 : Int32} {H : Heap} {locs : List Loc} (k_x1 : hK h x1 = 11) (k_x2 : hK h x2 = 15) (hkl : Kl h0 h) (hW : Wx X h H) (hZ : va_S (aA (eB X)) s.heap H locs) (ls : Array Slot) (hl : lv_has ls 4 [(0, .ref b), (1, .ref x1), (2, .ref x2), (3, .int x3)]) (hE : sL_law_1117 F L xs k_18 h x1 x2 x3 t0 t1 = some o) : W p l e room_1 s m #[Value.ref b] below meth c H locs (hS h - hS h0) (hL h - hL h0) (lw_Z below #[Value.ref b] s) (F0 m 1117 ls [.int t0, .int t1]) := by
  refine lv_icmp_eq (tgt := 1277) C.1 C.2.1 dL_law_1117 (by decide) (fun c_1 => ?_) (fun c_1 => ?_)
  · have hE := br_p hE c_1
    exact bL_law_1277 C hX hbl hbA hbase hRm ho hk_18 mk_18 k_x1 k_x2 hkl hW hZ _ (lv_sub hl [0, 1, 2, 3] rfl) hE
  · have hE := br_n hE c_1
    refine lv_iconst (v := (0 : Int32)) C.1 C.2.1 dL_law_1120 (by decide) ?_
    exact x_retL C hZ hbase hRm ho hE dL_law_1121
set_option maxRecDepth 20000 in
theorem bL_law_1113 {p : Program} {l : Launch} {e : Env} {s : State} {m : MethodId} {below : List Frame} {meth : Method} {c : Code} {X : Ec} {h0 : Hp} {o : Int32 × Hp} {k_18 : Hp → Nat → Nat → Int32 → Option (Int32 × Hp)} {F : Nat} {mn : String} {b L : Nat} {xs : Nat → Int32} (C : Cx X p s m #[Value.ref b] meth c RL code 4 ret mn) (hX : va_X b L xs s s.heap) (hbl : b < s.heap.size) (hbA : ¬ aA (eB X) b) (hbase : eB X = s.heap.size) (hRm : hS o.2 - hS h0 ≤ room_1.cells ∧ hL o.2 - hL h0 ≤ room_1.slots) (ho : o.1 = 1) (hk_18 : ∀ (h : Hp) (x1 : Nat) (x2 : Nat) (x3 : Int32) (H : Heap) (locs : List Loc), hK h x1 = 11 → hK h x2 = 15 → Kl h0 h → Wx X h H → va_S (aA (eB X)) s.heap H locs → ∀ (ls : Array Slot), lv_has ls 4 [(0, .ref b), (1, .ref x1), (2, .ref x2), (3, .int x3)] → k_18 h x1 x2 x3 = some o → W p l e room_1 s m #[Value.ref b] below meth c H locs (hS h - hS h0) (hL h - hL h0) (lw_Z below #[Value.ref b] s) (F0 m 18 ls [])) (mk_18 : ∀ (h : Hp) (x1 : Nat) (x2 : Nat) (x3 : Int32), k_18 h x1 x2 x3 = some o → Le h o.2) {h : Hp} {x1 : Nat} {x2 : Nat} {x3 : Int32} {t0 : Int32} {H : Heap} {locs : List Loc} (k_x1 : hK h x1 = 11) (k_x2 : hK h x2 = 15) (hkl : Kl h0 h) (hW : Wx X h H) (hZ : va_S (aA (eB X)) s.heap H locs) (ls : Array Slot) (hl : lv_has ls 4 [(0, .ref b), (1, .ref x1), (2, .ref x2), (3, .int x3)]) (hE : sL_law_1113 F L xs k_18 h x1 x2 x3 t0 = some o) : W p l e room_1 s m #[Value.ref b] below meth c H locs (hS h - hS h0) (hL h - hL h0) (lw_Z below #[Value.ref b] s) (F0 m 1113 ls [.int t0]) := by
  refine lv_aload_n C.1 C.2.1 dL_law_1113 rfl (lv_at hl 2 rfl) ?_
  obtain ⟨o_1, eo_1, hE⟩ := cl_e hE
  have m1 := moX15_solve eo_1
  have m2 := moL_law_1117 mk_18 hE
  refine x_kIA (o := o_1) hkl (z_runV (As := []) (rest := [.int t0]) C (ct_X15_solve l X F k_x2 eo_1) cw_L_146 hW hZ k_x2 (by decide) rfl rfl rfl hl.1 (Nat.le_of_ble_eq_true rfl) rfl dL_law_1114 ⟨Nat.le_of_ble_eq_true rfl, Nat.le_of_ble_eq_true rfl⟩ ⟨Nat.le_trans (rm_ok hkl m1 m2).1 hRm.1, Nat.le_trans (rm_ok hkl m1 m2).2 hRm.2⟩) hZ (fun _ _ hW km hZ => ?_)
  replace hkl := hkl.tr km
  replace k_x1 := km.at k_x1 (by decide)
  replace k_x2 := km.at k_x2 (by decide)
  exact bL_law_1117 C hX hbl hbA hbase hRm ho hk_18 mk_18 k_x1 k_x2 hkl hW hZ _ (lv_sub hl [0, 1, 2, 3] rfl) hE
set_option maxRecDepth 20000 in
theorem bL_law_1140 {p : Program} {l : Launch} {e : Env} {s : State} {m : MethodId} {below : List Frame} {meth : Method} {c : Code} {X : Ec} {h0 : Hp} {o : Int32 × Hp} {k_18 : Hp → Nat → Nat → Int32 → Option (Int32 × Hp)} {F : Nat} {mn : String} {b L : Nat} {xs : Nat → Int32} (C : Cx X p s m #[Value.ref b] meth c RL code 4 ret mn) (hX : va_X b L xs s s.heap) (hbl : b < s.heap.size) (hbA : ¬ aA (eB X) b) (hbase : eB X = s.heap.size) (hRm : hS o.2 - hS h0 ≤ room_1.cells ∧ hL o.2 - hL h0 ≤ room_1.slots) (ho : o.1 = 1) (hk_18 : ∀ (h : Hp) (x1 : Nat) (x2 : Nat) (x3 : Int32) (H : Heap) (locs : List Loc), hK h x1 = 11 → hK h x2 = 15 → Kl h0 h → Wx X h H → va_S (aA (eB X)) s.heap H locs → ∀ (ls : Array Slot), lv_has ls 4 [(0, .ref b), (1, .ref x1), (2, .ref x2), (3, .int x3)] → k_18 h x1 x2 x3 = some o → W p l e room_1 s m #[Value.ref b] below meth c H locs (hS h - hS h0) (hL h - hL h0) (lw_Z below #[Value.ref b] s) (F0 m 18 ls [])) (mk_18 : ∀ (h : Hp) (x1 : Nat) (x2 : Nat) (x3 : Int32), k_18 h x1 x2 x3 = some o → Le h o.2) {h : Hp} {x1 : Nat} {x2 : Nat} {x3 : Int32} {t0 : Int32} {t1 : Int32} {H : Heap} {locs : List Loc} (k_x1 : hK h x1 = 11) (k_x2 : hK h x2 = 15) (hkl : Kl h0 h) (hW : Wx X h H) (hZ : va_S (aA (eB X)) s.heap H locs) (ls : Array Slot) (hl : lv_has ls 4 [(0, .ref b), (1, .ref x1), (2, .ref x2), (3, .int x3)]) (hE : sL_law_1140 F L xs k_18 h x1 x2 x3 t0 t1 = some o) : W p l e room_1 s m #[Value.ref b] below meth c H locs (hS h - hS h0) (hL h - hL h0) (lw_Z below #[Value.ref b] s) (F0 m 1140 ls [.int t0, .int t1]) := by
  refine lv_icmp_eq (tgt := 1277) C.1 C.2.1 dL_law_1140 (by decide) (fun c_1 => ?_) (fun c_1 => ?_)
  · have hE := br_p hE c_1
    exact bL_law_1277 C hX hbl hbA hbase hRm ho hk_18 mk_18 k_x1 k_x2 hkl hW hZ _ (lv_sub hl [0, 1, 2, 3] rfl) hE
  · have hE := br_n hE c_1
    refine lv_iconst (v := (0 : Int32)) C.1 C.2.1 dL_law_1143 (by decide) ?_
    exact x_retL C hZ hbase hRm ho hE dL_law_1144
set_option maxRecDepth 20000 in
theorem bL_law_1131 {p : Program} {l : Launch} {e : Env} {s : State} {m : MethodId} {below : List Frame} {meth : Method} {c : Code} {X : Ec} {h0 : Hp} {o : Int32 × Hp} {k_18 : Hp → Nat → Nat → Int32 → Option (Int32 × Hp)} {F : Nat} {mn : String} {b L : Nat} {xs : Nat → Int32} (C : Cx X p s m #[Value.ref b] meth c RL code 4 ret mn) (hX : va_X b L xs s s.heap) (hbl : b < s.heap.size) (hbA : ¬ aA (eB X) b) (hbase : eB X = s.heap.size) (hRm : hS o.2 - hS h0 ≤ room_1.cells ∧ hL o.2 - hL h0 ≤ room_1.slots) (ho : o.1 = 1) (hk_18 : ∀ (h : Hp) (x1 : Nat) (x2 : Nat) (x3 : Int32) (H : Heap) (locs : List Loc), hK h x1 = 11 → hK h x2 = 15 → Kl h0 h → Wx X h H → va_S (aA (eB X)) s.heap H locs → ∀ (ls : Array Slot), lv_has ls 4 [(0, .ref b), (1, .ref x1), (2, .ref x2), (3, .int x3)] → k_18 h x1 x2 x3 = some o → W p l e room_1 s m #[Value.ref b] below meth c H locs (hS h - hS h0) (hL h - hL h0) (lw_Z below #[Value.ref b] s) (F0 m 18 ls [])) (mk_18 : ∀ (h : Hp) (x1 : Nat) (x2 : Nat) (x3 : Int32), k_18 h x1 x2 x3 = some o → Le h o.2) {h : Hp} {x1 : Nat} {x2 : Nat} {x3 : Int32} {t0 : Int32} {H : Heap} {locs : List Loc} (k_x1 : hK h x1 = 11) (k_x2 : hK h x2 = 15) (hkl : Kl h0 h) (hW : Wx X h H) (hZ : va_S (aA (eB X)) s.heap H locs) (ls : Array Slot) (hl : lv_has ls 4 [(0, .ref b), (1, .ref x1), (2, .ref x2), (3, .int x3)]) (hE : sL_law_1131 F L xs k_18 h x1 x2 x3 t0 = some o) : W p l e room_1 s m #[Value.ref b] below meth c H locs (hS h - hS h0) (hL h - hL h0) (lw_Z below #[Value.ref b] s) (F0 m 1131 ls [.int t0]) := by
  refine lv_aload_n C.1 C.2.1 dL_law_1131 rfl (lv_at hl 2 rfl) ?_
  refine lv_aload_n C.1 C.2.1 dL_law_1132 rfl (lv_at hl 0 rfl) ?_
  refine lv_iload_n C.1 C.2.1 dL_law_1133 rfl (lv_at hl 3 rfl) ?_
  refine lv_iconst (v := (1 : Int32)) C.1 C.2.1 dL_law_1134 (by decide) ?_
  refine lv_iadd C.1 C.2.1 dL_law_1135 ?_
  obtain ⟨g_1, hE⟩ := gd_e hE
  refine va_sld C.1 C.2.1 hX hbl hbA hZ g_1 dL_law_1136 ?_
  obtain ⟨o_2, eo_2, hE⟩ := cl_e hE
  have m1 := moX15_worth eo_2
  have m2 := moL_law_1140 mk_18 hE
  refine x_kI (o := o_2) (z_runV (As := [.int (xs (x3 + (1 : Int32)).toNatClampNeg)]) (rest := [.int t0]) C (ct_X15_worth l X F k_x2 eo_2) cw_L_150 hW hZ k_x2 (by decide) rfl rfl rfl hl.1 (Nat.le_of_ble_eq_true rfl) rfl dL_law_1137 ⟨Nat.le_of_ble_eq_true rfl, Nat.le_of_ble_eq_true rfl⟩ ⟨Nat.le_trans (rm_ok0 hkl m1 m2).1 hRm.1, Nat.le_trans (rm_ok0 hkl m1 m2).2 hRm.2⟩) hZ (fun _ _ hW km hZ => ?_)
  replace hkl := hkl.tr km.l
  refine x_wc km ?_
  replace k_x1 := km.at k_x1 (by decide)
  replace k_x2 := km.at k_x2 (by decide)
  exact bL_law_1140 C hX hbl hbA hbase hRm ho hk_18 mk_18 k_x1 k_x2 hkl hW hZ _ (lv_sub hl [0, 1, 2, 3] rfl) hE
set_option maxRecDepth 20000 in
theorem bL_law_1173 {p : Program} {l : Launch} {e : Env} {s : State} {m : MethodId} {below : List Frame} {meth : Method} {c : Code} {X : Ec} {h0 : Hp} {o : Int32 × Hp} {k_18 : Hp → Nat → Nat → Int32 → Option (Int32 × Hp)} {F : Nat} {mn : String} {b L : Nat} {xs : Nat → Int32} (C : Cx X p s m #[Value.ref b] meth c RL code 4 ret mn) (hX : va_X b L xs s s.heap) (hbl : b < s.heap.size) (hbA : ¬ aA (eB X) b) (hbase : eB X = s.heap.size) (hRm : hS o.2 - hS h0 ≤ room_1.cells ∧ hL o.2 - hL h0 ≤ room_1.slots) (ho : o.1 = 1) (hk_18 : ∀ (h : Hp) (x1 : Nat) (x2 : Nat) (x3 : Int32) (H : Heap) (locs : List Loc), hK h x1 = 11 → hK h x2 = 15 → Kl h0 h → Wx X h H → va_S (aA (eB X)) s.heap H locs → ∀ (ls : Array Slot), lv_has ls 4 [(0, .ref b), (1, .ref x1), (2, .ref x2), (3, .int x3)] → k_18 h x1 x2 x3 = some o → W p l e room_1 s m #[Value.ref b] below meth c H locs (hS h - hS h0) (hL h - hL h0) (lw_Z below #[Value.ref b] s) (F0 m 18 ls [])) (mk_18 : ∀ (h : Hp) (x1 : Nat) (x2 : Nat) (x3 : Int32), k_18 h x1 x2 x3 = some o → Le h o.2) {h : Hp} {x1 : Nat} {x2 : Nat} {x3 : Int32} {t0 : Int32} {t1 : Int32} {H : Heap} {locs : List Loc} (k_x1 : hK h x1 = 11) (k_x2 : hK h x2 = 15) (hkl : Kl h0 h) (hW : Wx X h H) (hZ : va_S (aA (eB X)) s.heap H locs) (ls : Array Slot) (hl : lv_has ls 4 [(0, .ref b), (1, .ref x1), (2, .ref x2), (3, .int x3)]) (hE : sL_law_1173 F L xs k_18 h x1 x2 x3 t0 t1 = some o) : W p l e room_1 s m #[Value.ref b] below meth c H locs (hS h - hS h0) (hL h - hL h0) (lw_Z below #[Value.ref b] s) (F0 m 1173 ls [.int t0, .int t1]) := by
  refine lv_icmp_eq (tgt := 1277) C.1 C.2.1 dL_law_1173 (by decide) (fun c_1 => ?_) (fun c_1 => ?_)
  · have hE := br_p hE c_1
    exact bL_law_1277 C hX hbl hbA hbase hRm ho hk_18 mk_18 k_x1 k_x2 hkl hW hZ _ (lv_sub hl [0, 1, 2, 3] rfl) hE
  · have hE := br_n hE c_1
    refine lv_iconst (v := (0 : Int32)) C.1 C.2.1 dL_law_1176 (by decide) ?_
    exact x_retL C hZ hbase hRm ho hE dL_law_1177
set_option maxRecDepth 20000 in
theorem bL_law_1159 {p : Program} {l : Launch} {e : Env} {s : State} {m : MethodId} {below : List Frame} {meth : Method} {c : Code} {X : Ec} {h0 : Hp} {o : Int32 × Hp} {k_18 : Hp → Nat → Nat → Int32 → Option (Int32 × Hp)} {F : Nat} {mn : String} {b L : Nat} {xs : Nat → Int32} (C : Cx X p s m #[Value.ref b] meth c RL code 4 ret mn) (hX : va_X b L xs s s.heap) (hbl : b < s.heap.size) (hbA : ¬ aA (eB X) b) (hbase : eB X = s.heap.size) (hRm : hS o.2 - hS h0 ≤ room_1.cells ∧ hL o.2 - hL h0 ≤ room_1.slots) (ho : o.1 = 1) (hk_18 : ∀ (h : Hp) (x1 : Nat) (x2 : Nat) (x3 : Int32) (H : Heap) (locs : List Loc), hK h x1 = 11 → hK h x2 = 15 → Kl h0 h → Wx X h H → va_S (aA (eB X)) s.heap H locs → ∀ (ls : Array Slot), lv_has ls 4 [(0, .ref b), (1, .ref x1), (2, .ref x2), (3, .int x3)] → k_18 h x1 x2 x3 = some o → W p l e room_1 s m #[Value.ref b] below meth c H locs (hS h - hS h0) (hL h - hL h0) (lw_Z below #[Value.ref b] s) (F0 m 18 ls [])) (mk_18 : ∀ (h : Hp) (x1 : Nat) (x2 : Nat) (x3 : Int32), k_18 h x1 x2 x3 = some o → Le h o.2) {h : Hp} {x1 : Nat} {x2 : Nat} {x3 : Int32} {t0 : Int32} {H : Heap} {locs : List Loc} (k_x1 : hK h x1 = 11) (k_x2 : hK h x2 = 15) (hkl : Kl h0 h) (hW : Wx X h H) (hZ : va_S (aA (eB X)) s.heap H locs) (ls : Array Slot) (hl : lv_has ls 4 [(0, .ref b), (1, .ref x1), (2, .ref x2), (3, .int x3)]) (hE : sL_law_1159 F L xs k_18 h x1 x2 x3 t0 = some o) : W p l e room_1 s m #[Value.ref b] below meth c H locs (hS h - hS h0) (hL h - hL h0) (lw_Z below #[Value.ref b] s) (F0 m 1159 ls [.int t0]) := by
  refine lv_aload_n C.1 C.2.1 dL_law_1159 rfl (lv_at hl 2 rfl) ?_
  refine lv_aload_n C.1 C.2.1 dL_law_1160 rfl (lv_at hl 0 rfl) ?_
  refine lv_iload_n C.1 C.2.1 dL_law_1161 rfl (lv_at hl 3 rfl) ?_
  refine lv_iconst (v := (1 : Int32)) C.1 C.2.1 dL_law_1162 (by decide) ?_
  refine lv_iadd C.1 C.2.1 dL_law_1163 ?_
  obtain ⟨g_1, hE⟩ := gd_e hE
  refine va_sld C.1 C.2.1 hX hbl hbA hZ g_1 dL_law_1164 ?_
  refine lv_aload_n C.1 C.2.1 dL_law_1165 rfl (lv_at hl 0 rfl) ?_
  refine lv_iload_n C.1 C.2.1 dL_law_1166 rfl (lv_at hl 3 rfl) ?_
  refine lv_iconst (v := (2 : Int32)) C.1 C.2.1 dL_law_1167 (by decide) ?_
  refine lv_iadd C.1 C.2.1 dL_law_1168 ?_
  obtain ⟨g_2, hE⟩ := gd_e hE
  refine va_sld C.1 C.2.1 hX hbl hbA hZ g_2 dL_law_1169 ?_
  obtain ⟨o_3, eo_3, hE⟩ := cl_e hE
  have m1 := moX15_tally eo_3
  have m2 := moL_law_1173 mk_18 hE
  refine x_kI (o := o_3) (z_runV (As := [.int (xs (x3 + (1 : Int32)).toNatClampNeg), .int (xs (x3 + (2 : Int32)).toNatClampNeg)]) (rest := [.int t0]) C (ct_X15_tally l X F k_x2 eo_3) cw_L_154 hW hZ k_x2 (by decide) rfl rfl rfl hl.1 (Nat.le_of_ble_eq_true rfl) rfl dL_law_1170 ⟨Nat.le_of_ble_eq_true rfl, Nat.le_of_ble_eq_true rfl⟩ ⟨Nat.le_trans (rm_ok0 hkl m1 m2).1 hRm.1, Nat.le_trans (rm_ok0 hkl m1 m2).2 hRm.2⟩) hZ (fun _ _ hW km hZ => ?_)
  replace hkl := hkl.tr km.l
  refine x_wc km ?_
  replace k_x1 := km.at k_x1 (by decide)
  replace k_x2 := km.at k_x2 (by decide)
  exact bL_law_1173 C hX hbl hbA hbase hRm ho hk_18 mk_18 k_x1 k_x2 hkl hW hZ _ (lv_sub hl [0, 1, 2, 3] rfl) hE
set_option maxRecDepth 20000 in
theorem bL_law_1226 {p : Program} {l : Launch} {e : Env} {s : State} {m : MethodId} {below : List Frame} {meth : Method} {c : Code} {X : Ec} {h0 : Hp} {o : Int32 × Hp} {k_18 : Hp → Nat → Nat → Int32 → Option (Int32 × Hp)} {F : Nat} {mn : String} {b L : Nat} {xs : Nat → Int32} (C : Cx X p s m #[Value.ref b] meth c RL code 4 ret mn) (hX : va_X b L xs s s.heap) (hbl : b < s.heap.size) (hbA : ¬ aA (eB X) b) (hbase : eB X = s.heap.size) (hRm : hS o.2 - hS h0 ≤ room_1.cells ∧ hL o.2 - hL h0 ≤ room_1.slots) (ho : o.1 = 1) (hk_18 : ∀ (h : Hp) (x1 : Nat) (x2 : Nat) (x3 : Int32) (H : Heap) (locs : List Loc), hK h x1 = 11 → hK h x2 = 15 → Kl h0 h → Wx X h H → va_S (aA (eB X)) s.heap H locs → ∀ (ls : Array Slot), lv_has ls 4 [(0, .ref b), (1, .ref x1), (2, .ref x2), (3, .int x3)] → k_18 h x1 x2 x3 = some o → W p l e room_1 s m #[Value.ref b] below meth c H locs (hS h - hS h0) (hL h - hL h0) (lw_Z below #[Value.ref b] s) (F0 m 18 ls [])) (mk_18 : ∀ (h : Hp) (x1 : Nat) (x2 : Nat) (x3 : Int32), k_18 h x1 x2 x3 = some o → Le h o.2) {h : Hp} {x1 : Nat} {x2 : Nat} {x3 : Int32} {t0 : Int32} {t1 : Int32} {H : Heap} {locs : List Loc} (k_x1 : hK h x1 = 11) (k_x2 : hK h x2 = 15) (hkl : Kl h0 h) (hW : Wx X h H) (hZ : va_S (aA (eB X)) s.heap H locs) (ls : Array Slot) (hl : lv_has ls 4 [(0, .ref b), (1, .ref x1), (2, .ref x2), (3, .int x3)]) (hE : sL_law_1226 F L xs k_18 h x1 x2 x3 t0 t1 = some o) : W p l e room_1 s m #[Value.ref b] below meth c H locs (hS h - hS h0) (hL h - hL h0) (lw_Z below #[Value.ref b] s) (F0 m 1226 ls [.int t0, .int t1]) := by
  refine lv_icmp_eq (tgt := 1277) C.1 C.2.1 dL_law_1226 (by decide) (fun c_1 => ?_) (fun c_1 => ?_)
  · have hE := br_p hE c_1
    exact bL_law_1277 C hX hbl hbA hbase hRm ho hk_18 mk_18 k_x1 k_x2 hkl hW hZ _ (lv_sub hl [0, 1, 2, 3] rfl) hE
  · have hE := br_n hE c_1
    refine lv_iconst (v := (0 : Int32)) C.1 C.2.1 dL_law_1229 (by decide) ?_
    exact x_retL C hZ hbase hRm ho hE dL_law_1230
set_option maxRecDepth 20000 in
theorem bL_law_1202 {p : Program} {l : Launch} {e : Env} {s : State} {m : MethodId} {below : List Frame} {meth : Method} {c : Code} {X : Ec} {h0 : Hp} {o : Int32 × Hp} {k_18 : Hp → Nat → Nat → Int32 → Option (Int32 × Hp)} {F : Nat} {mn : String} {b L : Nat} {xs : Nat → Int32} (C : Cx X p s m #[Value.ref b] meth c RL code 4 ret mn) (hX : va_X b L xs s s.heap) (hbl : b < s.heap.size) (hbA : ¬ aA (eB X) b) (hbase : eB X = s.heap.size) (hRm : hS o.2 - hS h0 ≤ room_1.cells ∧ hL o.2 - hL h0 ≤ room_1.slots) (ho : o.1 = 1) (hk_18 : ∀ (h : Hp) (x1 : Nat) (x2 : Nat) (x3 : Int32) (H : Heap) (locs : List Loc), hK h x1 = 11 → hK h x2 = 15 → Kl h0 h → Wx X h H → va_S (aA (eB X)) s.heap H locs → ∀ (ls : Array Slot), lv_has ls 4 [(0, .ref b), (1, .ref x1), (2, .ref x2), (3, .int x3)] → k_18 h x1 x2 x3 = some o → W p l e room_1 s m #[Value.ref b] below meth c H locs (hS h - hS h0) (hL h - hL h0) (lw_Z below #[Value.ref b] s) (F0 m 18 ls [])) (mk_18 : ∀ (h : Hp) (x1 : Nat) (x2 : Nat) (x3 : Int32), k_18 h x1 x2 x3 = some o → Le h o.2) {h : Hp} {x1 : Nat} {x2 : Nat} {x3 : Int32} {t0 : Int32} {H : Heap} {locs : List Loc} (k_x1 : hK h x1 = 11) (k_x2 : hK h x2 = 15) (hkl : Kl h0 h) (hW : Wx X h H) (hZ : va_S (aA (eB X)) s.heap H locs) (ls : Array Slot) (hl : lv_has ls 4 [(0, .ref b), (1, .ref x1), (2, .ref x2), (3, .int x3)]) (hE : sL_law_1202 F L xs k_18 h x1 x2 x3 t0 = some o) : W p l e room_1 s m #[Value.ref b] below meth c H locs (hS h - hS h0) (hL h - hL h0) (lw_Z below #[Value.ref b] s) (F0 m 1202 ls [.int t0]) := by
  refine lv_aload_n C.1 C.2.1 dL_law_1202 rfl (lv_at hl 2 rfl) ?_
  refine lv_aload_n C.1 C.2.1 dL_law_1203 rfl (lv_at hl 0 rfl) ?_
  refine lv_iload_n C.1 C.2.1 dL_law_1204 rfl (lv_at hl 3 rfl) ?_
  refine lv_iconst (v := (1 : Int32)) C.1 C.2.1 dL_law_1205 (by decide) ?_
  refine lv_iadd C.1 C.2.1 dL_law_1206 ?_
  obtain ⟨g_1, hE⟩ := gd_e hE
  refine va_sld C.1 C.2.1 hX hbl hbA hZ g_1 dL_law_1207 ?_
  refine lv_aload_n C.1 C.2.1 dL_law_1208 rfl (lv_at hl 0 rfl) ?_
  refine lv_iload_n C.1 C.2.1 dL_law_1209 rfl (lv_at hl 3 rfl) ?_
  refine lv_iconst (v := (2 : Int32)) C.1 C.2.1 dL_law_1210 (by decide) ?_
  refine lv_iadd C.1 C.2.1 dL_law_1211 ?_
  obtain ⟨g_2, hE⟩ := gd_e hE
  refine va_sld C.1 C.2.1 hX hbl hbA hZ g_2 dL_law_1212 ?_
  refine lv_aload_n C.1 C.2.1 dL_law_1213 rfl (lv_at hl 0 rfl) ?_
  refine lv_iload_n C.1 C.2.1 dL_law_1214 rfl (lv_at hl 3 rfl) ?_
  refine lv_iconst (v := (3 : Int32)) C.1 C.2.1 dL_law_1215 (by decide) ?_
  refine lv_iadd C.1 C.2.1 dL_law_1216 ?_
  obtain ⟨g_3, hE⟩ := gd_e hE
  refine va_sld C.1 C.2.1 hX hbl hbA hZ g_3 dL_law_1217 ?_
  refine lv_aload_n C.1 C.2.1 dL_law_1218 rfl (lv_at hl 0 rfl) ?_
  refine lv_iload_n C.1 C.2.1 dL_law_1219 rfl (lv_at hl 3 rfl) ?_
  refine lv_iconst (v := (4 : Int32)) C.1 C.2.1 dL_law_1220 (by decide) ?_
  refine lv_iadd C.1 C.2.1 dL_law_1221 ?_
  obtain ⟨g_4, hE⟩ := gd_e hE
  refine va_sld C.1 C.2.1 hX hbl hbA hZ g_4 dL_law_1222 ?_
  obtain ⟨o_5, eo_5, hE⟩ := cl_e hE
  have m1 := moX15_problem eo_5
  have m2 := moL_law_1226 mk_18 hE
  refine x_kIA (o := o_5) hkl (z_runV (As := [.int (xs (x3 + (1 : Int32)).toNatClampNeg), .int (xs (x3 + (2 : Int32)).toNatClampNeg), .int (xs (x3 + (3 : Int32)).toNatClampNeg), .int (xs (x3 + (4 : Int32)).toNatClampNeg)]) (rest := [.int t0]) C (ct_X15_problem l X F k_x2 eo_5) cw_L_159 hW hZ k_x2 (by decide) rfl rfl rfl hl.1 (Nat.le_of_ble_eq_true rfl) rfl dL_law_1223 ⟨Nat.le_of_ble_eq_true rfl, Nat.le_of_ble_eq_true rfl⟩ ⟨Nat.le_trans (rm_ok hkl m1 m2).1 hRm.1, Nat.le_trans (rm_ok hkl m1 m2).2 hRm.2⟩) hZ (fun _ _ hW km hZ => ?_)
  replace hkl := hkl.tr km
  replace k_x1 := km.at k_x1 (by decide)
  replace k_x2 := km.at k_x2 (by decide)
  exact bL_law_1226 C hX hbl hbA hbase hRm ho hk_18 mk_18 k_x1 k_x2 hkl hW hZ _ (lv_sub hl [0, 1, 2, 3] rfl) hE
