set_option maxRecDepth 20000 in
theorem bL_law_15 {p : Program} {l : Launch} {e : Env} {s : State} {m : MethodId} {below : List Frame} {meth : Method} {c : Code} {X : Ec} {h0 : Hp} {o : Int32 × Hp} {F : Nat} {mn : String} {b L : Nat} {xs : Nat → Int32} (C : Cx X p s m #[Value.ref b] meth c RL code 4 ret mn) (hX : va_X b L xs s s.heap) (hbl : b < s.heap.size) (hbA : ¬ aA (eB X) b) (hbase : eB X = s.heap.size) (hRm : hS o.2 - hS h0 ≤ room_1.cells ∧ hL o.2 - hL h0 ≤ room_1.slots) (ho : o.1 = 1) {h : Hp} {x1 : Nat} {t0 : Nat} {H : Heap} {locs : List Loc} (k_x1 : hK h x1 = 11) (k_t0 : hK h t0 = 15) (hkl : Kl h0 h) (hW : Wx X h H) (hZ : va_S (aA (eB X)) s.heap H locs) (ls : Array Slot) (hl : lv_has ls 4 [(0, .ref b), (1, .ref x1)]) (hE : sL_law_15 F L xs h x1 t0 = some o) : W p l e room_1 s m #[Value.ref b] below meth c H locs (hS h - hS h0) (hL h - hL h0) (lw_Z below #[Value.ref b] s) (F0 m 15 ls [.ref t0]) := by
  refine lv_astore_n (lv' := [(2, .ref t0), (0, .ref b), (1, .ref x1)]) C.1 C.2.1 dL_law_15 rfl hl (by decide) rfl (fun ls hl => ?_)
  refine lv_iconst (v := (0 : Int32)) C.1 C.2.1 dL_law_16 (by decide) ?_
  refine lv_istore_n (lv' := [(3, .int (0 : Int32)), (2, .ref t0), (0, .ref b), (1, .ref x1)]) C.1 C.2.1 dL_law_17 rfl hl (by decide) rfl (fun ls hl => ?_)
  exact bL_law_18 C hX hbl hbA hbase hRm ho F k_x1 k_t0 hkl hW hZ _ (lv_sub hl [2, 3, 1, 0] rfl) hE
set_option maxRecDepth 20000 in
theorem bL_law_11 {p : Program} {l : Launch} {e : Env} {s : State} {m : MethodId} {below : List Frame} {meth : Method} {c : Code} {X : Ec} {h0 : Hp} {o : Int32 × Hp} {F : Nat} {mn : String} {b L : Nat} {xs : Nat → Int32} (C : Cx X p s m #[Value.ref b] meth c RL code 4 ret mn) (hX : va_X b L xs s s.heap) (hbl : b < s.heap.size) (hbA : ¬ aA (eB X) b) (hbase : eB X = s.heap.size) (hRm : hS o.2 - hS h0 ≤ room_1.cells ∧ hL o.2 - hL h0 ≤ room_1.slots) (ho : o.1 = 1) {h : Hp} {x1 : Nat} {t0 : Nat} {H : Heap} {locs : List Loc} (k_x1 : hK h x1 = 11) (k_t0 : hK h t0 = 15) (hkl : Kl h0 h) (hW : Wx X h H) (hZ : va_S (aA (eB X)) s.heap H locs) (ls : Array Slot) (hl : lv_has ls 4 [(0, .ref b), (1, .ref x1)]) (hE : sL_law_11 F L xs h x1 t0 = some o) : W p l e room_1 s m #[Value.ref b] below meth c H locs (hS h - hS h0) (hL h - hL h0) (lw_Z below #[Value.ref b] s) (F0 m 11 ls [.ref t0]) := by
  refine lv_dup C.1 C.2.1 dL_law_11 rfl ?_
  obtain ⟨o_1, eo_1, hE⟩ := cl_e hE
  have m1 := moX15_init eo_1
  have m2 := moL_law_15 hE
  refine x_kVA (o := o_1) hkl (z_runI (As := []) (rest := [.ref t0]) C (ct_X15_init l X F k_t0 eo_1) ci_L_12 hW hZ rfl hl.1 (Nat.le_of_ble_eq_true rfl) rfl dL_law_12 ⟨Nat.le_of_ble_eq_true rfl, Nat.le_of_ble_eq_true rfl⟩ ⟨Nat.le_trans (rm_ok hkl m1 m2).1 hRm.1, Nat.le_trans (rm_ok hkl m1 m2).2 hRm.2⟩) hZ (fun _ _ hW km hZ => ?_)
  replace hkl := hkl.tr km
  replace k_x1 := km.at k_x1 (by decide)
  replace k_t0 := km.at k_t0 (by decide)
  exact bL_law_15 C hX hbl hbA hbase hRm ho k_x1 k_t0 hkl hW hZ _ (lv_sub hl [0, 1] rfl) hE
set_option maxRecDepth 20000 in
theorem bL_law_7 {p : Program} {l : Launch} {e : Env} {s : State} {m : MethodId} {below : List Frame} {meth : Method} {c : Code} {X : Ec} {h0 : Hp} {o : Int32 × Hp} {F : Nat} {mn : String} {b L : Nat} {xs : Nat → Int32} (C : Cx X p s m #[Value.ref b] meth c RL code 4 ret mn) (hX : va_X b L xs s s.heap) (hbl : b < s.heap.size) (hbA : ¬ aA (eB X) b) (hbase : eB X = s.heap.size) (hRm : hS o.2 - hS h0 ≤ room_1.cells ∧ hL o.2 - hL h0 ≤ room_1.slots) (ho : o.1 = 1) {h : Hp} {t0 : Nat} {H : Heap} {locs : List Loc} (k_t0 : hK h t0 = 11) (hkl : Kl h0 h) (hW : Wx X h H) (hZ : va_S (aA (eB X)) s.heap H locs) (ls : Array Slot) (hl : lv_has ls 4 [(0, .ref b)]) (hE : sL_law_7 F L xs h  t0 = some o) : W p l e room_1 s m #[Value.ref b] below meth c H locs (hS h - hS h0) (hL h - hL h0) (lw_Z below #[Value.ref b] s) (F0 m 7 ls [.ref t0]) := by
  refine lv_astore_n (lv' := [(1, .ref t0), (0, .ref b)]) C.1 C.2.1 dL_law_7 rfl hl (by decide) rfl (fun ls hl => ?_)
  obtain ⟨a_1, ea_1, hE⟩ := nm_e2 hE
  obtain ⟨h_2, eh_2, hE⟩ := nm_e2 hE
  refine y_newL C hW hZ hkl (moL_law_11 hE) hRm i_X15 tyX15 tyX15_ok (by decide) rfl rfl dv_X15 m_1794 m_1795 m_19 eh_2 dL_law_8 (fun _ hW km k_a_1 hZ => ?_)
  replace hkl := hkl.tr km
  refine x_nmA ea_1 ?_
  rw [← ea_1] at k_a_1
  replace k_t0 := km.at k_t0 (by decide)
  exact bL_law_11 C hX hbl hbA hbase hRm ho k_t0 k_a_1 hkl hW hZ _ (lv_sub hl [1, 0] rfl) hE
set_option maxRecDepth 20000 in
theorem bL_law_3 {p : Program} {l : Launch} {e : Env} {s : State} {m : MethodId} {below : List Frame} {meth : Method} {c : Code} {X : Ec} {h0 : Hp} {o : Int32 × Hp} {F : Nat} {mn : String} {b L : Nat} {xs : Nat → Int32} (C : Cx X p s m #[Value.ref b] meth c RL code 4 ret mn) (hX : va_X b L xs s s.heap) (hbl : b < s.heap.size) (hbA : ¬ aA (eB X) b) (hbase : eB X = s.heap.size) (hRm : hS o.2 - hS h0 ≤ room_1.cells ∧ hL o.2 - hL h0 ≤ room_1.slots) (ho : o.1 = 1) {h : Hp} {t0 : Nat} {H : Heap} {locs : List Loc} (k_t0 : hK h t0 = 11) (hkl : Kl h0 h) (hW : Wx X h H) (hZ : va_S (aA (eB X)) s.heap H locs) (ls : Array Slot) (hl : lv_has ls 4 [(0, .ref b)]) (hE : sL_law_3 F L xs h  t0 = some o) : W p l e room_1 s m #[Value.ref b] below meth c H locs (hS h - hS h0) (hL h - hL h0) (lw_Z below #[Value.ref b] s) (F0 m 3 ls [.ref t0]) := by
  refine lv_dup C.1 C.2.1 dL_law_3 rfl ?_
  obtain ⟨o_1, eo_1, hE⟩ := cl_e hE
  have m1 := moX11_init eo_1
  have m2 := moL_law_7 hE
  refine x_kVA (o := o_1) hkl (z_runI (As := []) (rest := [.ref t0]) C (ct_X11_init l X F k_t0 eo_1) ci_L_9 hW hZ rfl hl.1 (Nat.le_of_ble_eq_true rfl) rfl dL_law_4 ⟨Nat.le_of_ble_eq_true rfl, Nat.le_of_ble_eq_true rfl⟩ ⟨Nat.le_trans (rm_ok hkl m1 m2).1 hRm.1, Nat.le_trans (rm_ok hkl m1 m2).2 hRm.2⟩) hZ (fun _ _ hW km hZ => ?_)
  replace hkl := hkl.tr km
  replace k_t0 := km.at k_t0 (by decide)
  exact bL_law_7 C hX hbl hbA hbase hRm ho k_t0 hkl hW hZ _ (lv_sub hl [0] rfl) hE
set_option maxRecDepth 20000 in
theorem bL_law {p : Program} {l : Launch} {e : Env} {s : State} {m : MethodId} {below : List Frame} {meth : Method} {c : Code} {X : Ec} {h0 : Hp} {o : Int32 × Hp} {F : Nat} {mn : String} {b L : Nat} {xs : Nat → Int32} (C : Cx X p s m #[Value.ref b] meth c RL code 4 ret mn) (hX : va_X b L xs s s.heap) (hbl : b < s.heap.size) (hbA : ¬ aA (eB X) b) (hbase : eB X = s.heap.size) (hRm : hS o.2 - hS h0 ≤ room_1.cells ∧ hL o.2 - hL h0 ≤ room_1.slots) (ho : o.1 = 1) {h : Hp} {H : Heap} {locs : List Loc} (hkl : Kl h0 h) (hW : Wx X h H) (hZ : va_S (aA (eB X)) s.heap H locs) (ls : Array Slot) (hl : lv_has ls 4 [(0, .ref b)]) (hE : sL_law F L xs h = some o) : W p l e room_1 s m #[Value.ref b] below meth c H locs (hS h - hS h0) (hL h - hL h0) (lw_Z below #[Value.ref b] s) (F0 m 0 ls []) := by
  obtain ⟨a_1, ea_1, hE⟩ := nm_e2 hE
  obtain ⟨h_2, eh_2, hE⟩ := nm_e2 hE
  refine y_newL C hW hZ hkl (moL_law_3 hE) hRm i_X11 tyX11 tyX11_ok (by decide) rfl rfl dv_X11 m_26 m_27 m_1 eh_2 dL_law_0 (fun _ hW km k_a_1 hZ => ?_)
  replace hkl := hkl.tr km
  refine x_nmA ea_1 ?_
  rw [← ea_1] at k_a_1
  exact bL_law_3 C hX hbl hbA hbase hRm ho k_a_1 hkl hW hZ _ (lv_sub hl [0] rfl) hE

