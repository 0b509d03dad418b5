set_option maxRecDepth 20000 in
theorem bL_law_1249 {p : Program} {l : Launch} {e : Env} {s : State} {m : MethodId} {below : List Frame} {meth : Method} {c : Code} {X : Ec} {h0 : Hp} {o : Int32 × Hp} {k_18 : Hp → Nat → Nat → Int32 → Option (Int32 × Hp)} {F : Nat} {mn : String} {b L : Nat} {xs : Nat → Int32} (C : Cx X p s m #[Value.ref b] meth c RL code 4 ret mn) (hX : va_X b L xs s s.heap) (hbl : b < s.heap.size) (hbA : ¬ aA (eB X) b) (hbase : eB X = s.heap.size) (hRm : hS o.2 - hS h0 ≤ room_1.cells ∧ hL o.2 - hL h0 ≤ room_1.slots) (ho : o.1 = 1) (hk_18 : ∀ (h : Hp) (x1 : Nat) (x2 : Nat) (x3 : Int32) (H : Heap) (locs : List Loc), hK h x1 = 11 → hK h x2 = 15 → Kl h0 h → Wx X h H → va_S (aA (eB X)) s.heap H locs → ∀ (ls : Array Slot), lv_has ls 4 [(0, .ref b), (1, .ref x1), (2, .ref x2), (3, .int x3)] → k_18 h x1 x2 x3 = some o → W p l e room_1 s m #[Value.ref b] below meth c H locs (hS h - hS h0) (hL h - hL h0) (lw_Z below #[Value.ref b] s) (F0 m 18 ls [])) (mk_18 : ∀ (h : Hp) (x1 : Nat) (x2 : Nat) (x3 : Int32), k_18 h x1 x2 x3 = some o → Le h o.2) {h : Hp} {x1 : Nat} {x2 : Nat} {x3 : Int32} {t0 : Int32} {t1 : Int32} {H : Heap} {locs : List Loc} (k_x1 : hK h x1 = 11) (k_x2 : hK h x2 = 15) (hkl : Kl h0 h) (hW : Wx X h H) (hZ : va_S (aA (eB X)) s.heap H locs) (ls : Array Slot) (hl : lv_has ls 4 [(0, .ref b), (1, .ref x1), (2, .ref x2), (3, .int x3)]) (hE : sL_law_1249 F L xs k_18 h x1 x2 x3 t0 t1 = some o) : W p l e room_1 s m #[Value.ref b] below meth c H locs (hS h - hS h0) (hL h - hL h0) (lw_Z below #[Value.ref b] s) (F0 m 1249 ls [.int t0, .int t1]) := by
  refine lv_icmp_eq (tgt := 1277) C.1 C.2.1 dL_law_1249 (by decide) (fun c_1 => ?_) (fun c_1 => ?_)
  · have hE := br_p hE c_1
    exact bL_law_1277 C hX hbl hbA hbase hRm ho hk_18 mk_18 k_x1 k_x2 hkl hW hZ _ (lv_sub hl [0, 1, 2, 3] rfl) hE
  · have hE := br_n hE c_1
    refine lv_iconst (v := (0 : Int32)) C.1 C.2.1 dL_law_1252 (by decide) ?_
    exact x_retL C hZ hbase hRm ho hE dL_law_1253
set_option maxRecDepth 20000 in
theorem bL_law_1240 {p : Program} {l : Launch} {e : Env} {s : State} {m : MethodId} {below : List Frame} {meth : Method} {c : Code} {X : Ec} {h0 : Hp} {o : Int32 × Hp} {k_18 : Hp → Nat → Nat → Int32 → Option (Int32 × Hp)} {F : Nat} {mn : String} {b L : Nat} {xs : Nat → Int32} (C : Cx X p s m #[Value.ref b] meth c RL code 4 ret mn) (hX : va_X b L xs s s.heap) (hbl : b < s.heap.size) (hbA : ¬ aA (eB X) b) (hbase : eB X = s.heap.size) (hRm : hS o.2 - hS h0 ≤ room_1.cells ∧ hL o.2 - hL h0 ≤ room_1.slots) (ho : o.1 = 1) (hk_18 : ∀ (h : Hp) (x1 : Nat) (x2 : Nat) (x3 : Int32) (H : Heap) (locs : List Loc), hK h x1 = 11 → hK h x2 = 15 → Kl h0 h → Wx X h H → va_S (aA (eB X)) s.heap H locs → ∀ (ls : Array Slot), lv_has ls 4 [(0, .ref b), (1, .ref x1), (2, .ref x2), (3, .int x3)] → k_18 h x1 x2 x3 = some o → W p l e room_1 s m #[Value.ref b] below meth c H locs (hS h - hS h0) (hL h - hL h0) (lw_Z below #[Value.ref b] s) (F0 m 18 ls [])) (mk_18 : ∀ (h : Hp) (x1 : Nat) (x2 : Nat) (x3 : Int32), k_18 h x1 x2 x3 = some o → Le h o.2) {h : Hp} {x1 : Nat} {x2 : Nat} {x3 : Int32} {t0 : Int32} {H : Heap} {locs : List Loc} (k_x1 : hK h x1 = 11) (k_x2 : hK h x2 = 15) (hkl : Kl h0 h) (hW : Wx X h H) (hZ : va_S (aA (eB X)) s.heap H locs) (ls : Array Slot) (hl : lv_has ls 4 [(0, .ref b), (1, .ref x1), (2, .ref x2), (3, .int x3)]) (hE : sL_law_1240 F L xs k_18 h x1 x2 x3 t0 = some o) : W p l e room_1 s m #[Value.ref b] below meth c H locs (hS h - hS h0) (hL h - hL h0) (lw_Z below #[Value.ref b] s) (F0 m 1240 ls [.int t0]) := by
  refine lv_aload_n C.1 C.2.1 dL_law_1240 rfl (lv_at hl 2 rfl) ?_
  refine lv_aload_n C.1 C.2.1 dL_law_1241 rfl (lv_at hl 0 rfl) ?_
  refine lv_iload_n C.1 C.2.1 dL_law_1242 rfl (lv_at hl 3 rfl) ?_
  refine lv_iconst (v := (1 : Int32)) C.1 C.2.1 dL_law_1243 (by decide) ?_
  refine lv_iadd C.1 C.2.1 dL_law_1244 ?_
  obtain ⟨g_1, hE⟩ := gd_e hE
  refine va_sld C.1 C.2.1 hX hbl hbA hZ g_1 dL_law_1245 ?_
  obtain ⟨o_2, eo_2, hE⟩ := cl_e hE
  have m1 := moX15_key eo_2
  have m2 := moL_law_1249 mk_18 hE
  refine x_kI (o := o_2) (z_runV (As := [.int (xs (x3 + (1 : Int32)).toNatClampNeg)]) (rest := [.int t0]) C (ct_X15_key l X k_x2 eo_2) cw_L_163 hW hZ k_x2 (by decide) rfl rfl rfl hl.1 (Nat.le_of_ble_eq_true rfl) rfl dL_law_1246 ⟨Nat.le_of_ble_eq_true rfl, Nat.le_of_ble_eq_true rfl⟩ ⟨Nat.le_trans (rm_ok0 hkl m1 m2).1 hRm.1, Nat.le_trans (rm_ok0 hkl m1 m2).2 hRm.2⟩) hZ (fun _ _ hW km hZ => ?_)
  replace hkl := hkl.tr km.l
  refine x_wc km ?_
  replace k_x1 := km.at k_x1 (by decide)
  replace k_x2 := km.at k_x2 (by decide)
  exact bL_law_1249 C hX hbl hbA hbase hRm ho hk_18 mk_18 k_x1 k_x2 hkl hW hZ _ (lv_sub hl [0, 1, 2, 3] rfl) hE
set_option maxRecDepth 20000 in
theorem bL_law_1272 {p : Program} {l : Launch} {e : Env} {s : State} {m : MethodId} {below : List Frame} {meth : Method} {c : Code} {X : Ec} {h0 : Hp} {o : Int32 × Hp} {k_18 : Hp → Nat → Nat → Int32 → Option (Int32 × Hp)} {F : Nat} {mn : String} {b L : Nat} {xs : Nat → Int32} (C : Cx X p s m #[Value.ref b] meth c RL code 4 ret mn) (hX : va_X b L xs s s.heap) (hbl : b < s.heap.size) (hbA : ¬ aA (eB X) b) (hbase : eB X = s.heap.size) (hRm : hS o.2 - hS h0 ≤ room_1.cells ∧ hL o.2 - hL h0 ≤ room_1.slots) (ho : o.1 = 1) (hk_18 : ∀ (h : Hp) (x1 : Nat) (x2 : Nat) (x3 : Int32) (H : Heap) (locs : List Loc), hK h x1 = 11 → hK h x2 = 15 → Kl h0 h → Wx X h H → va_S (aA (eB X)) s.heap H locs → ∀ (ls : Array Slot), lv_has ls 4 [(0, .ref b), (1, .ref x1), (2, .ref x2), (3, .int x3)] → k_18 h x1 x2 x3 = some o → W p l e room_1 s m #[Value.ref b] below meth c H locs (hS h - hS h0) (hL h - hL h0) (lw_Z below #[Value.ref b] s) (F0 m 18 ls [])) (mk_18 : ∀ (h : Hp) (x1 : Nat) (x2 : Nat) (x3 : Int32), k_18 h x1 x2 x3 = some o → Le h o.2) {h : Hp} {x1 : Nat} {x2 : Nat} {x3 : Int32} {t0 : Int32} {t1 : Int32} {H : Heap} {locs : List Loc} (k_x1 : hK h x1 = 11) (k_x2 : hK h x2 = 15) (hkl : Kl h0 h) (hW : Wx X h H) (hZ : va_S (aA (eB X)) s.heap H locs) (ls : Array Slot) (hl : lv_has ls 4 [(0, .ref b), (1, .ref x1), (2, .ref x2), (3, .int x3)]) (hE : sL_law_1272 F L xs k_18 h x1 x2 x3 t0 t1 = some o) : W p l e room_1 s m #[Value.ref b] below meth c H locs (hS h - hS h0) (hL h - hL h0) (lw_Z below #[Value.ref b] s) (F0 m 1272 ls [.int t0, .int t1]) := by
  refine lv_icmp_eq (tgt := 1277) C.1 C.2.1 dL_law_1272 (by decide) (fun c_1 => ?_) (fun c_1 => ?_)
  · have hE := br_p hE c_1
    exact bL_law_1277 C hX hbl hbA hbase hRm ho hk_18 mk_18 k_x1 k_x2 hkl hW hZ _ (lv_sub hl [0, 1, 2, 3] rfl) hE
  · have hE := br_n hE c_1
    refine lv_iconst (v := (0 : Int32)) C.1 C.2.1 dL_law_1275 (by decide) ?_
    exact x_retL C hZ hbase hRm ho hE dL_law_1276
set_option maxRecDepth 20000 in
theorem bL_law_1263 {p : Program} {l : Launch} {e : Env} {s : State} {m : MethodId} {below : List Frame} {meth : Method} {c : Code} {X : Ec} {h0 : Hp} {o : Int32 × Hp} {k_18 : Hp → Nat → Nat → Int32 → Option (Int32 × Hp)} {F : Nat} {mn : String} {b L : Nat} {xs : Nat → Int32} (C : Cx X p s m #[Value.ref b] meth c RL code 4 ret mn) (hX : va_X b L xs s s.heap) (hbl : b < s.heap.size) (hbA : ¬ aA (eB X) b) (hbase : eB X = s.heap.size) (hRm : hS o.2 - hS h0 ≤ room_1.cells ∧ hL o.2 - hL h0 ≤ room_1.slots) (ho : o.1 = 1) (hk_18 : ∀ (h : Hp) (x1 : Nat) (x2 : Nat) (x3 : Int32) (H : Heap) (locs : List Loc), hK h x1 = 11 → hK h x2 = 15 → Kl h0 h → Wx X h H → va_S (aA (eB X)) s.heap H locs → ∀ (ls : Array Slot), lv_has ls 4 [(0, .ref b), (1, .ref x1), (2, .ref x2), (3, .int x3)] → k_18 h x1 x2 x3 = some o → W p l e room_1 s m #[Value.ref b] below meth c H locs (hS h - hS h0) (hL h - hL h0) (lw_Z below #[Value.ref b] s) (F0 m 18 ls [])) (mk_18 : ∀ (h : Hp) (x1 : Nat) (x2 : Nat) (x3 : Int32), k_18 h x1 x2 x3 = some o → Le h o.2) {h : Hp} {x1 : Nat} {x2 : Nat} {x3 : Int32} {t0 : Int32} {H : Heap} {locs : List Loc} (k_x1 : hK h x1 = 11) (k_x2 : hK h x2 = 15) (hkl : Kl h0 h) (hW : Wx X h H) (hZ : va_S (aA (eB X)) s.heap H locs) (ls : Array Slot) (hl : lv_has ls 4 [(0, .ref b), (1, .ref x1), (2, .ref x2), (3, .int x3)]) (hE : sL_law_1263 F L xs k_18 h x1 x2 x3 t0 = some o) : W p l e room_1 s m #[Value.ref b] below meth c H locs (hS h - hS h0) (hL h - hL h0) (lw_Z below #[Value.ref b] s) (F0 m 1263 ls [.int t0]) := by
  refine lv_aload_n C.1 C.2.1 dL_law_1263 rfl (lv_at hl 2 rfl) ?_
  refine lv_aload_n C.1 C.2.1 dL_law_1264 rfl (lv_at hl 0 rfl) ?_
  refine lv_iload_n C.1 C.2.1 dL_law_1265 rfl (lv_at hl 3 rfl) ?_
  refine lv_iconst (v := (1 : Int32)) C.1 C.2.1 dL_law_1266 (by decide) ?_
  refine lv_iadd C.1 C.2.1 dL_law_1267 ?_
  obtain ⟨g_1, hE⟩ := gd_e hE
  refine va_sld C.1 C.2.1 hX hbl hbA hZ g_1 dL_law_1268 ?_
  obtain ⟨o_2, eo_2, hE⟩ := cl_e hE
  have m1 := moX15_refutes eo_2
  have m2 := moL_law_1272 mk_18 hE
  refine x_kIA (o := o_2) hkl (z_runV (As := [.int (xs (x3 + (1 : Int32)).toNatClampNeg)]) (rest := [.int t0]) C (ct_X15_refutes l X F k_x2 eo_2) cw_L_167 hW hZ k_x2 (by decide) rfl rfl rfl hl.1 (Nat.le_of_ble_eq_true rfl) rfl dL_law_1269 ⟨Nat.le_of_ble_eq_true rfl, Nat.le_of_ble_eq_true rfl⟩ ⟨Nat.le_trans (rm_ok hkl m1 m2).1 hRm.1, Nat.le_trans (rm_ok hkl m1 m2).2 hRm.2⟩) hZ (fun _ _ hW km hZ => ?_)
  replace hkl := hkl.tr km
  replace k_x1 := km.at k_x1 (by decide)
  replace k_x2 := km.at k_x2 (by decide)
  exact bL_law_1272 C hX hbl hbA hbase hRm ho hk_18 mk_18 k_x1 k_x2 hkl hW hZ _ (lv_sub hl [0, 1, 2, 3] rfl) hE
set_option maxRecDepth 20000 in
theorem bL_law_18 {p : Program} {l : Launch} {e : Env} {s : State} {m : MethodId} {below : List Frame} {meth : Method} {c : Code} {X : Ec} {h0 : Hp} {o : Int32 × Hp} {F : Nat} {mn : String} {b L : Nat} {xs : Nat → Int32} (C : Cx X p s m #[Value.ref b] meth c RL code 4 ret mn) (hX : va_X b L xs s s.heap) (hbl : b < s.heap.size) (hbA : ¬ aA (eB X) b) (hbase : eB X = s.heap.size) (hRm : hS o.2 - hS h0 ≤ room_1.cells ∧ hL o.2 - hL h0 ≤ room_1.slots) (ho : o.1 = 1) : ∀ (f : Nat) {h : Hp} {x1 : Nat} {x2 : Nat} {x3 : Int32} {H : Heap} {locs : List Loc} (k_x1 : hK h x1 = 11) (k_x2 : hK h x2 = 15), Kl h0 h → Wx X h H → va_S (aA (eB X)) s.heap H locs → ∀ (ls : Array Slot), lv_has ls 4 [(0, .ref b), (1, .ref x1), (2, .ref x2), (3, .int x3)] → sL_law_18 F L xs f h x1 x2 x3 = some o → W p l e room_1 s m #[Value.ref b] below meth c H locs (hS h - hS h0) (hL h - hL h0) (lw_Z below #[Value.ref b] s) (F0 m 18 ls []) := by
  intro f
  induction f with
  | zero =>
    intro h x1 x2 x3 H locs k_x1 k_x2 hkl hW hZ ls hl hE
    rw [sL_law_18] at hE
    cases hE
  | succ f ih =>
    intro h x1 x2 x3 H locs k_x1 k_x2 hkl hW hZ ls hl hE
    rw [sL_law_18] at hE
    have mk_18 : ∀ (h : Hp) (x1 : Nat) (x2 : Nat) (x3 : Int32), sL_law_18 F L xs f h x1 x2 x3 = some o → Le h o.2 := fun h x1 x2 x3 hE => moL_law_18 _ hE
    have hk_18 : ∀ (h : Hp) (x1 : Nat) (x2 : Nat) (x3 : Int32) (H : Heap) (locs : List Loc), hK h x1 = 11 → hK h x2 = 15 → Kl h0 h → Wx X h H → va_S (aA (eB X)) s.heap H locs → ∀ (ls : Array Slot), lv_has ls 4 [(0, .ref b), (1, .ref x1), (2, .ref x2), (3, .int x3)] → sL_law_18 F L xs f h x1 x2 x3 = some o → W p l e room_1 s m #[Value.ref b] below meth c H locs (hS h - hS h0) (hL h - hL h0) (lw_Z below #[Value.ref b] s) (F0 m 18 ls []) := fun h x1 x2 x3 H locs k_x1 k_x2 a b c ls hl hE => ih k_x1 k_x2 a b c ls hl hE
    refine lv_iload_n C.1 C.2.1 dL_law_18 rfl (lv_at hl 3 rfl) ?_
    refine lv_aload_n C.1 C.2.1 dL_law_19 rfl (lv_at hl 0 rfl) ?_
    refine va_slen C.1 C.2.1 hX hbl hbA hZ dL_law_20 ?_
    refine lv_bipush (v := (6 : Int32)) C.1 C.2.1 dL_law_21 (by decide) ?_
    refine lv_isub C.1 C.2.1 dL_law_23 ?_
    refine lv_icmp_gt (tgt := 1283) C.1 C.2.1 dL_law_24 (by decide) (fun c_1 => ?_) (fun c_1 => ?_)
    · have hE := br_p hE c_1
      refine lv_iconst (v := (1 : Int32)) C.1 C.2.1 dL_law_1283 (by decide) ?_
      exact x_retL C hZ hbase hRm ho hE dL_law_1284
    · have hE := br_n hE c_1
      refine lv_aload_n C.1 C.2.1 dL_law_27 rfl (lv_at hl 0 rfl) ?_
      refine lv_iload_n C.1 C.2.1 dL_law_28 rfl (lv_at hl 3 rfl) ?_
      obtain ⟨g_2, hE⟩ := gd_e hE
      refine va_sld C.1 C.2.1 hX hbl hbA hZ g_2 dL_law_29 ?_
      refine lv_bipush (v := (63 : Int32)) C.1 C.2.1 dL_law_30 (by decide) ?_
      refine lv_iand C.1 C.2.1 dL_law_32 ?_
      by_cases c_9 : ((xs x3.toNatClampNeg) &&& (63 : Int32)) = (0 : Int32)
      · have hE := br_p hE c_9
        refine lv_tableIn (off := 163) (tgt := 196) C.1 C.2.1 dL_law_33 (by rw [c_9]; decide) (by rw [c_9]; decide) (by rw [c_9]; rfl) (by decide) ?_
        refine lv_aload_n C.1 C.2.1 dL_law_196 rfl (lv_at hl 1 rfl) ?_
        refine lv_aload_n C.1 C.2.1 dL_law_197 rfl (lv_at hl 0 rfl) ?_
        refine lv_iload_n C.1 C.2.1 dL_law_198 rfl (lv_at hl 3 rfl) ?_
        refine lv_iconst (v := (1 : Int32)) C.1 C.2.1 dL_law_199 (by decide) ?_
        refine lv_iadd C.1 C.2.1 dL_law_200 ?_
        obtain ⟨g_3, hE⟩ := gd_e hE
        refine va_sld C.1 C.2.1 hX hbl hbA hZ g_3 dL_law_201 ?_
        refine lv_aload_n C.1 C.2.1 dL_law_202 rfl (lv_at hl 0 rfl) ?_
        refine lv_iload_n C.1 C.2.1 dL_law_203 rfl (lv_at hl 3 rfl) ?_
        refine lv_iconst (v := (2 : Int32)) C.1 C.2.1 dL_law_204 (by decide) ?_
        refine lv_iadd C.1 C.2.1 dL_law_205 ?_
        obtain ⟨g_4, hE⟩ := gd_e hE
        refine va_sld C.1 C.2.1 hX hbl hbA hZ g_4 dL_law_206 ?_
        refine lv_aload_n C.1 C.2.1 dL_law_207 rfl (lv_at hl 0 rfl) ?_
        refine lv_iload_n C.1 C.2.1 dL_law_208 rfl (lv_at hl 3 rfl) ?_
        refine lv_iconst (v := (3 : Int32)) C.1 C.2.1 dL_law_209 (by decide) ?_
        refine lv_iadd C.1 C.2.1 dL_law_210 ?_
        obtain ⟨g_5, hE⟩ := gd_e hE
        refine va_sld C.1 C.2.1 hX hbl hbA hZ g_5 dL_law_211 ?_
        refine lv_aload_n C.1 C.2.1 dL_law_212 rfl (lv_at hl 0 rfl) ?_
        refine lv_iload_n C.1 C.2.1 dL_law_213 rfl (lv_at hl 3 rfl) ?_
        refine lv_iconst (v := (4 : Int32)) C.1 C.2.1 dL_law_214 (by decide) ?_
        refine lv_iadd C.1 C.2.1 dL_law_215 ?_
        obtain ⟨g_6, hE⟩ := gd_e hE
        refine va_sld C.1 C.2.1 hX hbl hbA hZ g_6 dL_law_216 ?_
        refine lv_aload_n C.1 C.2.1 dL_law_217 rfl (lv_at hl 0 rfl) ?_
        refine lv_iload_n C.1 C.2.1 dL_law_218 rfl (lv_at hl 3 rfl) ?_
        refine lv_iconst (v := (5 : Int32)) C.1 C.2.1 dL_law_219 (by decide) ?_
        refine lv_iadd C.1 C.2.1 dL_law_220 ?_
        obtain ⟨g_7, hE⟩ := gd_e hE
        refine va_sld C.1 C.2.1 hX hbl hbA hZ g_7 dL_law_221 ?_
        obtain ⟨o_8, eo_8, hE⟩ := cl_e hE
        have m1 := moX11_feed eo_8
        have m2 := moL_law_225 mk_18 hE
        refine x_kI (o := o_8) (z_runV (As := [.int (xs (x3 + (1 : Int32)).toNatClampNeg), .int (xs (x3 + (2 : Int32)).toNatClampNeg), .int (xs (x3 + (3 : Int32)).toNatClampNeg), .int (xs (x3 + (4 : Int32)).toNatClampNeg), .int (xs (x3 + (5 : Int32)).toNatClampNeg)]) (rest := []) C (ct_X11_feed l X k_x1 eo_8) cw_L_13 hW hZ k_x1 (by decide) rfl rfl rfl hl.1 (Nat.le_of_ble_eq_true rfl) rfl dL_law_222 ⟨Nat.le_of_ble_eq_true rfl, Nat.le_of_ble_eq_true rfl⟩ ⟨Nat.le_trans (rm_ok0 hkl m1 m2).1 hRm.1, Nat.le_trans (rm_ok0 hkl m1 m2).2 hRm.2⟩) hZ (fun _ _ hW km hZ => ?_)
        replace hkl := hkl.tr km.l
        refine x_wc km ?_
        replace k_x1 := km.at k_x1 (by decide)
        replace k_x2 := km.at k_x2 (by decide)
        exact bL_law_225 C hX hbl hbA hbase hRm ho hk_18 mk_18 k_x1 k_x2 hkl hW hZ _ (lv_sub hl [0, 1, 2, 3] rfl) hE
      have hE := br_n hE c_9
      by_cases c_12 : ((xs x3.toNatClampNeg) &&& (63 : Int32)) = (1 : Int32)
      · have hE := br_p hE c_12
        refine lv_tableIn (off := 226) (tgt := 259) C.1 C.2.1 dL_law_33 (by rw [c_12]; decide) (by rw [c_12]; decide) (by rw [c_12]; rfl) (by decide) ?_
        refine lv_aload_n C.1 C.2.1 dL_law_259 rfl (lv_at hl 1 rfl) ?_
        refine lv_aload_n C.1 C.2.1 dL_law_260 rfl (lv_at hl 0 rfl) ?_
        refine lv_iload_n C.1 C.2.1 dL_law_261 rfl (lv_at hl 3 rfl) ?_
        refine lv_iconst (v := (1 : Int32)) C.1 C.2.1 dL_law_262 (by decide) ?_
        refine lv_iadd C.1 C.2.1 dL_law_263 ?_
        obtain ⟨g_10, hE⟩ := gd_e hE
        refine va_sld C.1 C.2.1 hX hbl hbA hZ g_10 dL_law_264 ?_
        obtain ⟨o_11, eo_11, hE⟩ := cl_e hE
        have m1 := moX11_end eo_11
        have m2 := moL_law_268 mk_18 hE
        refine x_kI (o := o_11) (z_runV (As := [.int (xs (x3 + (1 : Int32)).toNatClampNeg)]) (rest := []) C (ct_X11_end l X k_x1 eo_11) cw_L_18 hW hZ k_x1 (by decide) rfl rfl rfl hl.1 (Nat.le_of_ble_eq_true rfl) rfl dL_law_265 ⟨Nat.le_of_ble_eq_true rfl, Nat.le_of_ble_eq_true rfl⟩ ⟨Nat.le_trans (rm_ok0 hkl m1 m2).1 hRm.1, Nat.le_trans (rm_ok0 hkl m1 m2).2 hRm.2⟩) hZ (fun _ _ hW km hZ => ?_)
        replace hkl := hkl.tr km.l
        refine x_wc km ?_
        replace k_x1 := km.at k_x1 (by decide)
        replace k_x2 := km.at k_x2 (by decide)
        exact bL_law_268 C hX hbl hbA hbase hRm ho hk_18 mk_18 k_x1 k_x2 hkl hW hZ _ (lv_sub hl [0, 1, 2, 3] rfl) hE
      have hE := br_n hE c_12
      by_cases c_14 : ((xs x3.toNatClampNeg) &&& (63 : Int32)) = (2 : Int32)
      · have hE := br_p hE c_14
        refine lv_tableIn (off := 249) (tgt := 282) C.1 C.2.1 dL_law_33 (by rw [c_14]; decide) (by rw [c_14]; decide) (by rw [c_14]; rfl) (by decide) ?_
        refine lv_aload_n C.1 C.2.1 dL_law_282 rfl (lv_at hl 1 rfl) ?_
        obtain ⟨o_13, eo_13, hE⟩ := cl_e hE
        have m1 := moX11_rules eo_13
        have m2 := moL_law_286 mk_18 hE
        refine x_kI (o := o_13) (z_runV (As := []) (rest := []) C (ct_X11_rules l X F k_x1 eo_13) cw_L_23 hW hZ k_x1 (by decide) rfl rfl rfl hl.1 (Nat.le_of_ble_eq_true rfl) rfl dL_law_283 ⟨Nat.le_of_ble_eq_true rfl, Nat.le_of_ble_eq_true rfl⟩ ⟨Nat.le_trans (rm_ok0 hkl m1 m2).1 hRm.1, Nat.le_trans (rm_ok0 hkl m1 m2).2 hRm.2⟩) hZ (fun _ _ hW km hZ => ?_)
        replace hkl := hkl.tr km.l
        refine x_wc km ?_
        replace k_x1 := km.at k_x1 (by decide)
        replace k_x2 := km.at k_x2 (by decide)
        exact bL_law_286 C hX hbl hbA hbase hRm ho hk_18 mk_18 k_x1 k_x2 hkl hW hZ _ (lv_sub hl [0, 1, 2, 3] rfl) hE
      have hE := br_n hE c_14
      by_cases c_17 : ((xs x3.toNatClampNeg) &&& (63 : Int32)) = (3 : Int32)
      · have hE := br_p hE c_17
        refine lv_tableIn (off := 262) (tgt := 295) C.1 C.2.1 dL_law_33 (by rw [c_17]; decide) (by rw [c_17]; decide) (by rw [c_17]; rfl) (by decide) ?_
        refine lv_aload_n C.1 C.2.1 dL_law_295 rfl (lv_at hl 1 rfl) ?_
        refine lv_aload_n C.1 C.2.1 dL_law_296 rfl (lv_at hl 0 rfl) ?_
        refine lv_iload_n C.1 C.2.1 dL_law_297 rfl (lv_at hl 3 rfl) ?_
        refine lv_iconst (v := (1 : Int32)) C.1 C.2.1 dL_law_298 (by decide) ?_
        refine lv_iadd C.1 C.2.1 dL_law_299 ?_
        obtain ⟨g_15, hE⟩ := gd_e hE
        refine va_sld C.1 C.2.1 hX hbl hbA hZ g_15 dL_law_300 ?_
        obtain ⟨o_16, eo_16, hE⟩ := cl_e hE
        have m1 := moX11_told eo_16
        have m2 := moL_law_304 mk_18 hE
        refine x_kI (o := o_16) (z_runV (As := [.int (xs (x3 + (1 : Int32)).toNatClampNeg)]) (rest := []) C (ct_X11_told l X F k_x1 eo_16) cw_L_28 hW hZ k_x1 (by decide) rfl rfl rfl hl.1 (Nat.le_of_ble_eq_true rfl) rfl dL_law_301 ⟨Nat.le_of_ble_eq_true rfl, Nat.le_of_ble_eq_true rfl⟩ ⟨Nat.le_trans (rm_ok0 hkl m1 m2).1 hRm.1, Nat.le_trans (rm_ok0 hkl m1 m2).2 hRm.2⟩) hZ (fun _ _ hW km hZ => ?_)
        replace hkl := hkl.tr km.l
        refine x_wc km ?_
        replace k_x1 := km.at k_x1 (by decide)
        replace k_x2 := km.at k_x2 (by decide)
        exact bL_law_304 C hX hbl hbA hbase hRm ho hk_18 mk_18 k_x1 k_x2 hkl hW hZ _ (lv_sub hl [0, 1, 2, 3] rfl) hE
      have hE := br_n hE c_17
      by_cases c_20 : ((xs x3.toNatClampNeg) &&& (63 : Int32)) = (4 : Int32)
      · have hE := br_p hE c_20
        refine lv_tableIn (off := 285) (tgt := 318) C.1 C.2.1 dL_law_33 (by rw [c_20]; decide) (by rw [c_20]; decide) (by rw [c_20]; rfl) (by decide) ?_
        refine lv_aload_n C.1 C.2.1 dL_law_318 rfl (lv_at hl 1 rfl) ?_
        refine lv_aload_n C.1 C.2.1 dL_law_319 rfl (lv_at hl 0 rfl) ?_
        refine lv_iload_n C.1 C.2.1 dL_law_320 rfl (lv_at hl 3 rfl) ?_
        refine lv_iconst (v := (1 : Int32)) C.1 C.2.1 dL_law_321 (by decide) ?_
        refine lv_iadd C.1 C.2.1 dL_law_322 ?_
        obtain ⟨g_18, hE⟩ := gd_e hE
        refine va_sld C.1 C.2.1 hX hbl hbA hZ g_18 dL_law_323 ?_
        obtain ⟨o_19, eo_19, hE⟩ := cl_e hE
        have m1 := moX11_out eo_19
        have m2 := moL_law_327 mk_18 hE
        refine x_kI (o := o_19) (z_runV (As := [.int (xs (x3 + (1 : Int32)).toNatClampNeg)]) (rest := []) C (ct_X11_out l X k_x1 eo_19) cw_L_32 hW hZ k_x1 (by decide) rfl rfl rfl hl.1 (Nat.le_of_ble_eq_true rfl) rfl dL_law_324 ⟨Nat.le_of_ble_eq_true rfl, Nat.le_of_ble_eq_true rfl⟩ ⟨Nat.le_trans (rm_ok0 hkl m1 m2).1 hRm.1, Nat.le_trans (rm_ok0 hkl m1 m2).2 hRm.2⟩) hZ (fun _ _ hW km hZ => ?_)
        replace hkl := hkl.tr km.l
        refine x_wc km ?_
        replace k_x1 := km.at k_x1 (by decide)
        replace k_x2 := km.at k_x2 (by decide)
        exact bL_law_327 C hX hbl hbA hbase hRm ho hk_18 mk_18 k_x1 k_x2 hkl hW hZ _ (lv_sub hl [0, 1, 2, 3] rfl) hE
      have hE := br_n hE c_20
      by_cases c_22 : ((xs x3.toNatClampNeg) &&& (63 : Int32)) = (5 : Int32)
      · have hE := br_p hE c_22
        refine lv_tableIn (off := 308) (tgt := 341) C.1 C.2.1 dL_law_33 (by rw [c_22]; decide) (by rw [c_22]; decide) (by rw [c_22]; rfl) (by decide) ?_
        refine lv_aload_n C.1 C.2.1 dL_law_341 rfl (lv_at hl 1 rfl) ?_
        obtain ⟨o_21, eo_21, hE⟩ := cl_e hE
        have m1 := moX11_position eo_21
        have m2 := moL_law_345 mk_18 hE
        refine x_kI (o := o_21) (z_runV (As := []) (rest := []) C (ct_X11_position l X F k_x1 eo_21) cw_L_36 hW hZ k_x1 (by decide) rfl rfl rfl hl.1 (Nat.le_of_ble_eq_true rfl) rfl dL_law_342 ⟨Nat.le_of_ble_eq_true rfl, Nat.le_of_ble_eq_true rfl⟩ ⟨Nat.le_trans (rm_ok0 hkl m1 m2).1 hRm.1, Nat.le_trans (rm_ok0 hkl m1 m2).2 hRm.2⟩) hZ (fun _ _ hW km hZ => ?_)
        replace hkl := hkl.tr km.l
        refine x_wc km ?_
        replace k_x1 := km.at k_x1 (by decide)
        replace k_x2 := km.at k_x2 (by decide)
        exact bL_law_345 C hX hbl hbA hbase hRm ho hk_18 mk_18 k_x1 k_x2 hkl hW hZ _ (lv_sub hl [0, 1, 2, 3] rfl) hE
      have hE := br_n hE c_22
      by_cases c_25 : ((xs x3.toNatClampNeg) &&& (63 : Int32)) = (6 : Int32)
      · have hE := br_p hE c_25
        refine lv_tableIn (off := 321) (tgt := 354) C.1 C.2.1 dL_law_33 (by rw [c_25]; decide) (by rw [c_25]; decide) (by rw [c_25]; rfl) (by decide) ?_
        refine lv_aload_n C.1 C.2.1 dL_law_354 rfl (lv_at hl 1 rfl) ?_
        refine lv_aload_n C.1 C.2.1 dL_law_355 rfl (lv_at hl 0 rfl) ?_
        refine lv_iload_n C.1 C.2.1 dL_law_356 rfl (lv_at hl 3 rfl) ?_
        refine lv_iconst (v := (1 : Int32)) C.1 C.2.1 dL_law_357 (by decide) ?_
        refine lv_iadd C.1 C.2.1 dL_law_358 ?_
        obtain ⟨g_23, hE⟩ := gd_e hE
        refine va_sld C.1 C.2.1 hX hbl hbA hZ g_23 dL_law_359 ?_
        obtain ⟨o_24, eo_24, hE⟩ := cl_e hE
        have m1 := moX11_drop eo_24
        have m2 := moL_law_363 mk_18 hE
        refine x_kI (o := o_24) (z_runV (As := [.int (xs (x3 + (1 : Int32)).toNatClampNeg)]) (rest := []) C (ct_X11_drop l X k_x1 eo_24) cw_L_40 hW hZ k_x1 (by decide) rfl rfl rfl hl.1 (Nat.le_of_ble_eq_true rfl) rfl dL_law_360 ⟨Nat.le_of_ble_eq_true rfl, Nat.le_of_ble_eq_true rfl⟩ ⟨Nat.le_trans (rm_ok0 hkl m1 m2).1 hRm.1, Nat.le_trans (rm_ok0 hkl m1 m2).2 hRm.2⟩) hZ (fun _ _ hW km hZ => ?_)
        replace hkl := hkl.tr km.l
        refine x_wc km ?_
        replace k_x1 := km.at k_x1 (by decide)
        replace k_x2 := km.at k_x2 (by decide)
        exact bL_law_363 C hX hbl hbA hbase hRm ho hk_18 mk_18 k_x1 k_x2 hkl hW hZ _ (lv_sub hl [0, 1, 2, 3] rfl) hE
      have hE := br_n hE c_25
      by_cases c_28 : ((xs x3.toNatClampNeg) &&& (63 : Int32)) = (7 : Int32)
      · have hE := br_p hE c_28
        refine lv_tableIn (off := 344) (tgt := 377) C.1 C.2.1 dL_law_33 (by rw [c_28]; decide) (by rw [c_28]; decide) (by rw [c_28]; rfl) (by decide) ?_
        refine lv_aload_n C.1 C.2.1 dL_law_377 rfl (lv_at hl 1 rfl) ?_
        refine lv_aload_n C.1 C.2.1 dL_law_378 rfl (lv_at hl 0 rfl) ?_
        refine lv_iload_n C.1 C.2.1 dL_law_379 rfl (lv_at hl 3 rfl) ?_
        refine lv_iconst (v := (1 : Int32)) C.1 C.2.1 dL_law_380 (by decide) ?_
        refine lv_iadd C.1 C.2.1 dL_law_381 ?_
        obtain ⟨g_26, hE⟩ := gd_e hE
        refine va_sld C.1 C.2.1 hX hbl hbA hZ g_26 dL_law_382 ?_
        obtain ⟨o_27, eo_27, hE⟩ := cl_e hE
        have m1 := moX11_write eo_27
        have m2 := moL_law_386 mk_18 hE
        refine x_kI (o := o_27) (z_runV (As := [.int (xs (x3 + (1 : Int32)).toNatClampNeg)]) (rest := []) C (ct_X11_write l X F k_x1 eo_27) cw_L_44 hW hZ k_x1 (by decide) rfl rfl rfl hl.1 (Nat.le_of_ble_eq_true rfl) rfl dL_law_383 ⟨Nat.le_of_ble_eq_true rfl, Nat.le_of_ble_eq_true rfl⟩ ⟨Nat.le_trans (rm_ok0 hkl m1 m2).1 hRm.1, Nat.le_trans (rm_ok0 hkl m1 m2).2 hRm.2⟩) hZ (fun _ _ hW km hZ => ?_)
        replace hkl := hkl.tr km.l
        refine x_wc km ?_
        replace k_x1 := km.at k_x1 (by decide)
        replace k_x2 := km.at k_x2 (by decide)
        exact bL_law_386 C hX hbl hbA hbase hRm ho hk_18 mk_18 k_x1 k_x2 hkl hW hZ _ (lv_sub hl [0, 1, 2, 3] rfl) hE
      have hE := br_n hE c_28
      by_cases c_32 : ((xs x3.toNatClampNeg) &&& (63 : Int32)) = (8 : Int32)
      · have hE := br_p hE c_32
        refine lv_tableIn (off := 367) (tgt := 400) C.1 C.2.1 dL_law_33 (by rw [c_32]; decide) (by rw [c_32]; decide) (by rw [c_32]; rfl) (by decide) ?_
        refine lv_aload_n C.1 C.2.1 dL_law_400 rfl (lv_at hl 1 rfl) ?_
        refine lv_aload_n C.1 C.2.1 dL_law_401 rfl (lv_at hl 0 rfl) ?_
        refine lv_iload_n C.1 C.2.1 dL_law_402 rfl (lv_at hl 3 rfl) ?_
        refine lv_iconst (v := (1 : Int32)) C.1 C.2.1 dL_law_403 (by decide) ?_
        refine lv_iadd C.1 C.2.1 dL_law_404 ?_
        obtain ⟨g_29, hE⟩ := gd_e hE
        refine va_sld C.1 C.2.1 hX hbl hbA hZ g_29 dL_law_405 ?_
        refine lv_aload_n C.1 C.2.1 dL_law_406 rfl (lv_at hl 0 rfl) ?_
        refine lv_iload_n C.1 C.2.1 dL_law_407 rfl (lv_at hl 3 rfl) ?_
        refine lv_iconst (v := (2 : Int32)) C.1 C.2.1 dL_law_408 (by decide) ?_
        refine lv_iadd C.1 C.2.1 dL_law_409 ?_
        obtain ⟨g_30, hE⟩ := gd_e hE
        refine va_sld C.1 C.2.1 hX hbl hbA hZ g_30 dL_law_410 ?_
        obtain ⟨o_31, eo_31, hE⟩ := cl_e hE
        have m1 := moX11_same eo_31
        have m2 := moL_law_414 mk_18 hE
        refine x_kI (o := o_31) (z_runV (As := [.int (xs (x3 + (1 : Int32)).toNatClampNeg), .int (xs (x3 + (2 : Int32)).toNatClampNeg)]) (rest := []) C (ct_X11_same l X F k_x1 eo_31) cw_L_48 hW hZ k_x1 (by decide) rfl rfl rfl hl.1 (Nat.le_of_ble_eq_true rfl) rfl dL_law_411 ⟨Nat.le_of_ble_eq_true rfl, Nat.le_of_ble_eq_true rfl⟩ ⟨Nat.le_trans (rm_ok0 hkl m1 m2).1 hRm.1, Nat.le_trans (rm_ok0 hkl m1 m2).2 hRm.2⟩) hZ (fun _ _ hW km hZ => ?_)
        replace hkl := hkl.tr km.l
        refine x_wc km ?_
        replace k_x1 := km.at k_x1 (by decide)
        replace k_x2 := km.at k_x2 (by decide)
        exact bL_law_414 C hX hbl hbA hbase hRm ho hk_18 mk_18 k_x1 k_x2 hkl hW hZ _ (lv_sub hl [0, 1, 2, 3] rfl) hE
      have hE := br_n hE c_32
      by_cases c_36 : ((xs x3.toNatClampNeg) &&& (63 : Int32)) = (9 : Int32)
      · have hE := br_p hE c_36
        refine lv_tableIn (off := 400) (tgt := 433) C.1 C.2.1 dL_law_33 (by rw [c_36]; decide) (by rw [c_36]; decide) (by rw [c_36]; rfl) (by decide) ?_
        refine lv_aload_n C.1 C.2.1 dL_law_433 rfl (lv_at hl 1 rfl) ?_
        refine lv_aload_n C.1 C.2.1 dL_law_434 rfl (lv_at hl 0 rfl) ?_
        refine lv_iload_n C.1 C.2.1 dL_law_435 rfl (lv_at hl 3 rfl) ?_
        refine lv_iconst (v := (1 : Int32)) C.1 C.2.1 dL_law_436 (by decide) ?_
        refine lv_iadd C.1 C.2.1 dL_law_437 ?_
        obtain ⟨g_33, hE⟩ := gd_e hE
        refine va_sld C.1 C.2.1 hX hbl hbA hZ g_33 dL_law_438 ?_
        refine lv_aload_n C.1 C.2.1 dL_law_439 rfl (lv_at hl 0 rfl) ?_
        refine lv_iload_n C.1 C.2.1 dL_law_440 rfl (lv_at hl 3 rfl) ?_
        refine lv_iconst (v := (2 : Int32)) C.1 C.2.1 dL_law_441 (by decide) ?_
        refine lv_iadd C.1 C.2.1 dL_law_442 ?_
        obtain ⟨g_34, hE⟩ := gd_e hE
        refine va_sld C.1 C.2.1 hX hbl hbA hZ g_34 dL_law_443 ?_
        obtain ⟨o_35, eo_35, hE⟩ := cl_e hE
        have m1 := moX11_at eo_35
        have m2 := moL_law_447 mk_18 hE
        refine x_kI (o := o_35) (z_runV (As := [.int (xs (x3 + (1 : Int32)).toNatClampNeg), .int (xs (x3 + (2 : Int32)).toNatClampNeg)]) (rest := []) C (ct_X11_at l X k_x1 eo_35) cw_L_53 hW hZ k_x1 (by decide) rfl rfl rfl hl.1 (Nat.le_of_ble_eq_true rfl) rfl dL_law_444 ⟨Nat.le_of_ble_eq_true rfl, Nat.le_of_ble_eq_true rfl⟩ ⟨Nat.le_trans (rm_ok0 hkl m1 m2).1 hRm.1, Nat.le_trans (rm_ok0 hkl m1 m2).2 hRm.2⟩) hZ (fun _ _ hW km hZ => ?_)
        replace hkl := hkl.tr km.l
        refine x_wc km ?_
        replace k_x1 := km.at k_x1 (by decide)
        replace k_x2 := km.at k_x2 (by decide)
        exact bL_law_447 C hX hbl hbA hbase hRm ho hk_18 mk_18 k_x1 k_x2 hkl hW hZ _ (lv_sub hl [0, 1, 2, 3] rfl) hE
      have hE := br_n hE c_36
      by_cases c_40 : ((xs x3.toNatClampNeg) &&& (63 : Int32)) = (10 : Int32)
      · have hE := br_p hE c_40
        refine lv_tableIn (off := 433) (tgt := 466) C.1 C.2.1 dL_law_33 (by rw [c_40]; decide) (by rw [c_40]; decide) (by rw [c_40]; rfl) (by decide) ?_
        refine lv_aload_n C.1 C.2.1 dL_law_466 rfl (lv_at hl 1 rfl) ?_
        refine lv_aload_n C.1 C.2.1 dL_law_467 rfl (lv_at hl 0 rfl) ?_
        refine lv_iload_n C.1 C.2.1 dL_law_468 rfl (lv_at hl 3 rfl) ?_
        refine lv_iconst (v := (1 : Int32)) C.1 C.2.1 dL_law_469 (by decide) ?_
        refine lv_iadd C.1 C.2.1 dL_law_470 ?_
        obtain ⟨g_37, hE⟩ := gd_e hE
        refine va_sld C.1 C.2.1 hX hbl hbA hZ g_37 dL_law_471 ?_
        refine lv_aload_n C.1 C.2.1 dL_law_472 rfl (lv_at hl 0 rfl) ?_
        refine lv_iload_n C.1 C.2.1 dL_law_473 rfl (lv_at hl 3 rfl) ?_
        refine lv_iconst (v := (2 : Int32)) C.1 C.2.1 dL_law_474 (by decide) ?_
        refine lv_iadd C.1 C.2.1 dL_law_475 ?_
        obtain ⟨g_38, hE⟩ := gd_e hE
        refine va_sld C.1 C.2.1 hX hbl hbA hZ g_38 dL_law_476 ?_
        obtain ⟨o_39, eo_39, hE⟩ := cl_e hE
        have m1 := moX11_figure eo_39
        have m2 := moL_law_480 mk_18 hE
        refine x_kI (o := o_39) (z_runV (As := [.int (xs (x3 + (1 : Int32)).toNatClampNeg), .int (xs (x3 + (2 : Int32)).toNatClampNeg)]) (rest := []) C (ct_X11_figure l X F k_x1 eo_39) cw_L_58 hW hZ k_x1 (by decide) rfl rfl rfl hl.1 (Nat.le_of_ble_eq_true rfl) rfl dL_law_477 ⟨Nat.le_of_ble_eq_true rfl, Nat.le_of_ble_eq_true rfl⟩ ⟨Nat.le_trans (rm_ok0 hkl m1 m2).1 hRm.1, Nat.le_trans (rm_ok0 hkl m1 m2).2 hRm.2⟩) hZ (fun _ _ hW km hZ => ?_)
        replace hkl := hkl.tr km.l
        refine x_wc km ?_
        replace k_x1 := km.at k_x1 (by decide)
        replace k_x2 := km.at k_x2 (by decide)
        exact bL_law_480 C hX hbl hbA hbase hRm ho hk_18 mk_18 k_x1 k_x2 hkl hW hZ _ (lv_sub hl [0, 1, 2, 3] rfl) hE
      have hE := br_n hE c_40
      by_cases c_45 : ((xs x3.toNatClampNeg) &&& (63 : Int32)) = (11 : Int32)
      · have hE := br_p hE c_45
        refine lv_tableIn (off := 466) (tgt := 499) C.1 C.2.1 dL_law_33 (by rw [c_45]; decide) (by rw [c_45]; decide) (by rw [c_45]; rfl) (by decide) ?_
        refine lv_aload_n C.1 C.2.1 dL_law_499 rfl (lv_at hl 1 rfl) ?_
        refine lv_aload_n C.1 C.2.1 dL_law_500 rfl (lv_at hl 0 rfl) ?_
        refine lv_iload_n C.1 C.2.1 dL_law_501 rfl (lv_at hl 3 rfl) ?_
        refine lv_iconst (v := (1 : Int32)) C.1 C.2.1 dL_law_502 (by decide) ?_
        refine lv_iadd C.1 C.2.1 dL_law_503 ?_
        obtain ⟨g_41, hE⟩ := gd_e hE
        refine va_sld C.1 C.2.1 hX hbl hbA hZ g_41 dL_law_504 ?_
        refine lv_aload_n C.1 C.2.1 dL_law_505 rfl (lv_at hl 0 rfl) ?_
        refine lv_iload_n C.1 C.2.1 dL_law_506 rfl (lv_at hl 3 rfl) ?_
        refine lv_iconst (v := (2 : Int32)) C.1 C.2.1 dL_law_507 (by decide) ?_
        refine lv_iadd C.1 C.2.1 dL_law_508 ?_
        obtain ⟨g_42, hE⟩ := gd_e hE
        refine va_sld C.1 C.2.1 hX hbl hbA hZ g_42 dL_law_509 ?_
        refine lv_aload_n C.1 C.2.1 dL_law_510 rfl (lv_at hl 0 rfl) ?_
        refine lv_iload_n C.1 C.2.1 dL_law_511 rfl (lv_at hl 3 rfl) ?_
        refine lv_iconst (v := (3 : Int32)) C.1 C.2.1 dL_law_512 (by decide) ?_
        refine lv_iadd C.1 C.2.1 dL_law_513 ?_
        obtain ⟨g_43, hE⟩ := gd_e hE
        refine va_sld C.1 C.2.1 hX hbl hbA hZ g_43 dL_law_514 ?_
        obtain ⟨o_44, eo_44, hE⟩ := cl_e hE
        have m1 := moX11_attacked eo_44
        have m2 := moL_law_518 mk_18 hE
        refine x_kI (o := o_44) (z_runV (As := [.int (xs (x3 + (1 : Int32)).toNatClampNeg), .int (xs (x3 + (2 : Int32)).toNatClampNeg), .int (xs (x3 + (3 : Int32)).toNatClampNeg)]) (rest := []) C (ct_X11_attacked l X F k_x1 eo_44) cw_L_62 hW hZ k_x1 (by decide) rfl rfl rfl hl.1 (Nat.le_of_ble_eq_true rfl) rfl dL_law_515 ⟨Nat.le_of_ble_eq_true rfl, Nat.le_of_ble_eq_true rfl⟩ ⟨Nat.le_trans (rm_ok0 hkl m1 m2).1 hRm.1, Nat.le_trans (rm_ok0 hkl m1 m2).2 hRm.2⟩) hZ (fun _ _ hW km hZ => ?_)
        replace hkl := hkl.tr km.l
        refine x_wc km ?_
        replace k_x1 := km.at k_x1 (by decide)
        replace k_x2 := km.at k_x2 (by decide)
        exact bL_law_518 C hX hbl hbA hbase hRm ho hk_18 mk_18 k_x1 k_x2 hkl hW hZ _ (lv_sub hl [0, 1, 2, 3] rfl) hE
      have hE := br_n hE c_45
      by_cases c_48 : ((xs x3.toNatClampNeg) &&& (63 : Int32)) = (12 : Int32)
      · have hE := br_p hE c_48
        refine lv_tableIn (off := 509) (tgt := 542) C.1 C.2.1 dL_law_33 (by rw [c_48]; decide) (by rw [c_48]; decide) (by rw [c_48]; rfl) (by decide) ?_
        refine lv_aload_n C.1 C.2.1 dL_law_542 rfl (lv_at hl 1 rfl) ?_
        refine lv_aload_n C.1 C.2.1 dL_law_543 rfl (lv_at hl 0 rfl) ?_
        refine lv_iload_n C.1 C.2.1 dL_law_544 rfl (lv_at hl 3 rfl) ?_
        refine lv_iconst (v := (1 : Int32)) C.1 C.2.1 dL_law_545 (by decide) ?_
        refine lv_iadd C.1 C.2.1 dL_law_546 ?_
        obtain ⟨g_46, hE⟩ := gd_e hE
        refine va_sld C.1 C.2.1 hX hbl hbA hZ g_46 dL_law_547 ?_
        obtain ⟨o_47, eo_47, hE⟩ := cl_e hE
        have m1 := moX11_moves eo_47
        have m2 := moL_law_551 mk_18 hE
        refine x_kI (o := o_47) (z_runV (As := [.int (xs (x3 + (1 : Int32)).toNatClampNeg)]) (rest := []) C (ct_X11_moves l X F k_x1 eo_47) cw_L_67 hW hZ k_x1 (by decide) rfl rfl rfl hl.1 (Nat.le_of_ble_eq_true rfl) rfl dL_law_548 ⟨Nat.le_of_ble_eq_true rfl, Nat.le_of_ble_eq_true rfl⟩ ⟨Nat.le_trans (rm_ok0 hkl m1 m2).1 hRm.1, Nat.le_trans (rm_ok0 hkl m1 m2).2 hRm.2⟩) hZ (fun _ _ hW km hZ => ?_)
        replace hkl := hkl.tr km.l
        refine x_wc km ?_
        replace k_x1 := km.at k_x1 (by decide)
        replace k_x2 := km.at k_x2 (by decide)
        exact bL_law_551 C hX hbl hbA hbase hRm ho hk_18 mk_18 k_x1 k_x2 hkl hW hZ _ (lv_sub hl [0, 1, 2, 3] rfl) hE
      have hE := br_n hE c_48
      by_cases c_53 : ((xs x3.toNatClampNeg) &&& (63 : Int32)) = (13 : Int32)
      · have hE := br_p hE c_53
        refine lv_tableIn (off := 532) (tgt := 565) C.1 C.2.1 dL_law_33 (by rw [c_53]; decide) (by rw [c_53]; decide) (by rw [c_53]; rfl) (by decide) ?_
        refine lv_aload_n C.1 C.2.1 dL_law_565 rfl (lv_at hl 1 rfl) ?_
        refine lv_aload_n C.1 C.2.1 dL_law_566 rfl (lv_at hl 0 rfl) ?_
        refine lv_iload_n C.1 C.2.1 dL_law_567 rfl (lv_at hl 3 rfl) ?_
        refine lv_iconst (v := (1 : Int32)) C.1 C.2.1 dL_law_568 (by decide) ?_
        refine lv_iadd C.1 C.2.1 dL_law_569 ?_
        obtain ⟨g_49, hE⟩ := gd_e hE
        refine va_sld C.1 C.2.1 hX hbl hbA hZ g_49 dL_law_570 ?_
        refine lv_aload_n C.1 C.2.1 dL_law_571 rfl (lv_at hl 0 rfl) ?_
        refine lv_iload_n C.1 C.2.1 dL_law_572 rfl (lv_at hl 3 rfl) ?_
        refine lv_iconst (v := (2 : Int32)) C.1 C.2.1 dL_law_573 (by decide) ?_
        refine lv_iadd C.1 C.2.1 dL_law_574 ?_
        obtain ⟨g_50, hE⟩ := gd_e hE
        refine va_sld C.1 C.2.1 hX hbl hbA hZ g_50 dL_law_575 ?_
        refine lv_aload_n C.1 C.2.1 dL_law_576 rfl (lv_at hl 0 rfl) ?_
        refine lv_iload_n C.1 C.2.1 dL_law_577 rfl (lv_at hl 3 rfl) ?_
        refine lv_iconst (v := (3 : Int32)) C.1 C.2.1 dL_law_578 (by decide) ?_
        refine lv_iadd C.1 C.2.1 dL_law_579 ?_
        obtain ⟨g_51, hE⟩ := gd_e hE
        refine va_sld C.1 C.2.1 hX hbl hbA hZ g_51 dL_law_580 ?_
        obtain ⟨o_52, eo_52, hE⟩ := cl_e hE
        have m1 := moX11_move eo_52
        have m2 := moL_law_584 mk_18 hE
        refine x_kI (o := o_52) (z_runV (As := [.int (xs (x3 + (1 : Int32)).toNatClampNeg), .int (xs (x3 + (2 : Int32)).toNatClampNeg), .int (xs (x3 + (3 : Int32)).toNatClampNeg)]) (rest := []) C (ct_X11_move l X F k_x1 eo_52) cw_L_71 hW hZ k_x1 (by decide) rfl rfl rfl hl.1 (Nat.le_of_ble_eq_true rfl) rfl dL_law_581 ⟨Nat.le_of_ble_eq_true rfl, Nat.le_of_ble_eq_true rfl⟩ ⟨Nat.le_trans (rm_ok0 hkl m1 m2).1 hRm.1, Nat.le_trans (rm_ok0 hkl m1 m2).2 hRm.2⟩) hZ (fun _ _ hW km hZ => ?_)
        replace hkl := hkl.tr km.l
        refine x_wc km ?_
        replace k_x1 := km.at k_x1 (by decide)
        replace k_x2 := km.at k_x2 (by decide)
        exact bL_law_584 C hX hbl hbA hbase hRm ho hk_18 mk_18 k_x1 k_x2 hkl hW hZ _ (lv_sub hl [0, 1, 2, 3] rfl) hE
      have hE := br_n hE c_53
      by_cases c_57 : ((xs x3.toNatClampNeg) &&& (63 : Int32)) = (14 : Int32)
      · have hE := br_p hE c_57
        refine lv_tableIn (off := 575) (tgt := 608) C.1 C.2.1 dL_law_33 (by rw [c_57]; decide) (by rw [c_57]; decide) (by rw [c_57]; rfl) (by decide) ?_
        refine lv_aload_n C.1 C.2.1 dL_law_608 rfl (lv_at hl 1 rfl) ?_
        refine lv_aload_n C.1 C.2.1 dL_law_609 rfl (lv_at hl 0 rfl) ?_
        refine lv_iload_n C.1 C.2.1 dL_law_610 rfl (lv_at hl 3 rfl) ?_
        refine lv_iconst (v := (1 : Int32)) C.1 C.2.1 dL_law_611 (by decide) ?_
        refine lv_iadd C.1 C.2.1 dL_law_612 ?_
        obtain ⟨g_54, hE⟩ := gd_e hE
        refine va_sld C.1 C.2.1 hX hbl hbA hZ g_54 dL_law_613 ?_
        refine lv_aload_n C.1 C.2.1 dL_law_614 rfl (lv_at hl 0 rfl) ?_
        refine lv_iload_n C.1 C.2.1 dL_law_615 rfl (lv_at hl 3 rfl) ?_
        refine lv_iconst (v := (2 : Int32)) C.1 C.2.1 dL_law_616 (by decide) ?_
        refine lv_iadd C.1 C.2.1 dL_law_617 ?_
        obtain ⟨g_55, hE⟩ := gd_e hE
        refine va_sld C.1 C.2.1 hX hbl hbA hZ g_55 dL_law_618 ?_
        obtain ⟨o_56, eo_56, hE⟩ := cl_e hE
        have m1 := moX11_go eo_56
        have m2 := moL_law_622 mk_18 hE
        refine x_kI (o := o_56) (z_runV (As := [.int (xs (x3 + (1 : Int32)).toNatClampNeg), .int (xs (x3 + (2 : Int32)).toNatClampNeg)]) (rest := []) C (ct_X11_go l X F k_x1 eo_56) cw_L_75 hW hZ k_x1 (by decide) rfl rfl rfl hl.1 (Nat.le_of_ble_eq_true rfl) rfl dL_law_619 ⟨Nat.le_of_ble_eq_true rfl, Nat.le_of_ble_eq_true rfl⟩ ⟨Nat.le_trans (rm_ok0 hkl m1 m2).1 hRm.1, Nat.le_trans (rm_ok0 hkl m1 m2).2 hRm.2⟩) hZ (fun _ _ hW km hZ => ?_)
        replace hkl := hkl.tr km.l
        refine x_wc km ?_
        replace k_x1 := km.at k_x1 (by decide)
        replace k_x2 := km.at k_x2 (by decide)
        exact bL_law_622 C hX hbl hbA hbase hRm ho hk_18 mk_18 k_x1 k_x2 hkl hW hZ _ (lv_sub hl [0, 1, 2, 3] rfl) hE
      have hE := br_n hE c_57
      by_cases c_61 : ((xs x3.toNatClampNeg) &&& (63 : Int32)) = (15 : Int32)
      · have hE := br_p hE c_61
        refine lv_tableIn (off := 608) (tgt := 641) C.1 C.2.1 dL_law_33 (by rw [c_61]; decide) (by rw [c_61]; decide) (by rw [c_61]; rfl) (by decide) ?_
        refine lv_aload_n C.1 C.2.1 dL_law_641 rfl (lv_at hl 1 rfl) ?_
        refine lv_aload_n C.1 C.2.1 dL_law_642 rfl (lv_at hl 0 rfl) ?_
        refine lv_iload_n C.1 C.2.1 dL_law_643 rfl (lv_at hl 3 rfl) ?_
        refine lv_iconst (v := (1 : Int32)) C.1 C.2.1 dL_law_644 (by decide) ?_
        refine lv_iadd C.1 C.2.1 dL_law_645 ?_
        obtain ⟨g_58, hE⟩ := gd_e hE
        refine va_sld C.1 C.2.1 hX hbl hbA hZ g_58 dL_law_646 ?_
        refine lv_aload_n C.1 C.2.1 dL_law_647 rfl (lv_at hl 0 rfl) ?_
        refine lv_iload_n C.1 C.2.1 dL_law_648 rfl (lv_at hl 3 rfl) ?_
        refine lv_iconst (v := (2 : Int32)) C.1 C.2.1 dL_law_649 (by decide) ?_
        refine lv_iadd C.1 C.2.1 dL_law_650 ?_
        obtain ⟨g_59, hE⟩ := gd_e hE
        refine va_sld C.1 C.2.1 hX hbl hbA hZ g_59 dL_law_651 ?_
        obtain ⟨o_60, eo_60, hE⟩ := cl_e hE
        have m1 := moX11_rows eo_60
        have m2 := moL_law_655 mk_18 hE
        refine x_kI (o := o_60) (z_runV (As := [.int (xs (x3 + (1 : Int32)).toNatClampNeg), .int (xs (x3 + (2 : Int32)).toNatClampNeg)]) (rest := []) C (ct_X11_rows l X F k_x1 eo_60) cw_L_79 hW hZ k_x1 (by decide) rfl rfl rfl hl.1 (Nat.le_of_ble_eq_true rfl) rfl dL_law_652 ⟨Nat.le_of_ble_eq_true rfl, Nat.le_of_ble_eq_true rfl⟩ ⟨Nat.le_trans (rm_ok0 hkl m1 m2).1 hRm.1, Nat.le_trans (rm_ok0 hkl m1 m2).2 hRm.2⟩) hZ (fun _ _ hW km hZ => ?_)
        replace hkl := hkl.tr km.l
        refine x_wc km ?_
        replace k_x1 := km.at k_x1 (by decide)
        replace k_x2 := km.at k_x2 (by decide)
        exact bL_law_655 C hX hbl hbA hbase hRm ho hk_18 mk_18 k_x1 k_x2 hkl hW hZ _ (lv_sub hl [0, 1, 2, 3] rfl) hE
      have hE := br_n hE c_61
      by_cases c_64 : ((xs x3.toNatClampNeg) &&& (63 : Int32)) = (16 : Int32)
      · have hE := br_p hE c_64
        refine lv_tableIn (off := 641) (tgt := 674) C.1 C.2.1 dL_law_33 (by rw [c_64]; decide) (by rw [c_64]; decide) (by rw [c_64]; rfl) (by decide) ?_
        refine lv_aload_n C.1 C.2.1 dL_law_674 rfl (lv_at hl 1 rfl) ?_
        refine lv_aload_n C.1 C.2.1 dL_law_675 rfl (lv_at hl 0 rfl) ?_
        refine lv_iload_n C.1 C.2.1 dL_law_676 rfl (lv_at hl 3 rfl) ?_
        refine lv_iconst (v := (1 : Int32)) C.1 C.2.1 dL_law_677 (by decide) ?_
        refine lv_iadd C.1 C.2.1 dL_law_678 ?_
        obtain ⟨g_62, hE⟩ := gd_e hE
        refine va_sld C.1 C.2.1 hX hbl hbA hZ g_62 dL_law_679 ?_
        obtain ⟨o_63, eo_63, hE⟩ := cl_e hE
        have m1 := moX11_ended eo_63
        have m2 := moL_law_683 mk_18 hE
        refine x_kI (o := o_63) (z_runV (As := [.int (xs (x3 + (1 : Int32)).toNatClampNeg)]) (rest := []) C (ct_X11_ended l X F k_x1 eo_63) cw_L_83 hW hZ k_x1 (by decide) rfl rfl rfl hl.1 (Nat.le_of_ble_eq_true rfl) rfl dL_law_680 ⟨Nat.le_of_ble_eq_true rfl, Nat.le_of_ble_eq_true rfl⟩ ⟨Nat.le_trans (rm_ok0 hkl m1 m2).1 hRm.1, Nat.le_trans (rm_ok0 hkl m1 m2).2 hRm.2⟩) hZ (fun _ _ hW km hZ => ?_)
        replace hkl := hkl.tr km.l
        refine x_wc km ?_
        replace k_x1 := km.at k_x1 (by decide)
        replace k_x2 := km.at k_x2 (by decide)
        exact bL_law_683 C hX hbl hbA hbase hRm ho hk_18 mk_18 k_x1 k_x2 hkl hW hZ _ (lv_sub hl [0, 1, 2, 3] rfl) hE
      have hE := br_n hE c_64
      by_cases c_67 : ((xs x3.toNatClampNeg) &&& (63 : Int32)) = (17 : Int32)
      · have hE := br_p hE c_67
        refine lv_tableIn (off := 664) (tgt := 697) C.1 C.2.1 dL_law_33 (by rw [c_67]; decide) (by rw [c_67]; decide) (by rw [c_67]; rfl) (by decide) ?_
        refine lv_aload_n C.1 C.2.1 dL_law_697 rfl (lv_at hl 1 rfl) ?_
        refine lv_aload_n C.1 C.2.1 dL_law_698 rfl (lv_at hl 0 rfl) ?_
        refine lv_iload_n C.1 C.2.1 dL_law_699 rfl (lv_at hl 3 rfl) ?_
        refine lv_iconst (v := (1 : Int32)) C.1 C.2.1 dL_law_700 (by decide) ?_
        refine lv_iadd C.1 C.2.1 dL_law_701 ?_
        obtain ⟨g_65, hE⟩ := gd_e hE
        refine va_sld C.1 C.2.1 hX hbl hbA hZ g_65 dL_law_702 ?_
        obtain ⟨o_66, eo_66, hE⟩ := cl_e hE
        have m1 := moX11_result eo_66
        have m2 := moL_law_706 mk_18 hE
        refine x_kI (o := o_66) (z_runV (As := [.int (xs (x3 + (1 : Int32)).toNatClampNeg)]) (rest := []) C (ct_X11_result l X F k_x1 eo_66) cw_L_87 hW hZ k_x1 (by decide) rfl rfl rfl hl.1 (Nat.le_of_ble_eq_true rfl) rfl dL_law_703 ⟨Nat.le_of_ble_eq_true rfl, Nat.le_of_ble_eq_true rfl⟩ ⟨Nat.le_trans (rm_ok0 hkl m1 m2).1 hRm.1, Nat.le_trans (rm_ok0 hkl m1 m2).2 hRm.2⟩) hZ (fun _ _ hW km hZ => ?_)
        replace hkl := hkl.tr km.l
        refine x_wc km ?_
        replace k_x1 := km.at k_x1 (by decide)
        replace k_x2 := km.at k_x2 (by decide)
        exact bL_law_706 C hX hbl hbA hbase hRm ho hk_18 mk_18 k_x1 k_x2 hkl hW hZ _ (lv_sub hl [0, 1, 2, 3] rfl) hE
      have hE := br_n hE c_67
      by_cases c_71 : ((xs x3.toNatClampNeg) &&& (63 : Int32)) = (18 : Int32)
      · have hE := br_p hE c_71
        refine lv_tableIn (off := 687) (tgt := 720) C.1 C.2.1 dL_law_33 (by rw [c_71]; decide) (by rw [c_71]; decide) (by rw [c_71]; rfl) (by decide) ?_
        refine lv_aload_n C.1 C.2.1 dL_law_720 rfl (lv_at hl 1 rfl) ?_
        refine lv_aload_n C.1 C.2.1 dL_law_721 rfl (lv_at hl 0 rfl) ?_
        refine lv_iload_n C.1 C.2.1 dL_law_722 rfl (lv_at hl 3 rfl) ?_
        refine lv_iconst (v := (1 : Int32)) C.1 C.2.1 dL_law_723 (by decide) ?_
        refine lv_iadd C.1 C.2.1 dL_law_724 ?_
        obtain ⟨g_68, hE⟩ := gd_e hE
        refine va_sld C.1 C.2.1 hX hbl hbA hZ g_68 dL_law_725 ?_
        refine lv_aload_n C.1 C.2.1 dL_law_726 rfl (lv_at hl 0 rfl) ?_
        refine lv_iload_n C.1 C.2.1 dL_law_727 rfl (lv_at hl 3 rfl) ?_
        refine lv_iconst (v := (2 : Int32)) C.1 C.2.1 dL_law_728 (by decide) ?_
        refine lv_iadd C.1 C.2.1 dL_law_729 ?_
        obtain ⟨g_69, hE⟩ := gd_e hE
        refine va_sld C.1 C.2.1 hX hbl hbA hZ g_69 dL_law_730 ?_
        obtain ⟨o_70, eo_70, hE⟩ := cl_e hE
        have m1 := moX11_say eo_70
        have m2 := moL_law_734 mk_18 hE
        refine x_kI (o := o_70) (z_runV (As := [.int (xs (x3 + (1 : Int32)).toNatClampNeg), .int (xs (x3 + (2 : Int32)).toNatClampNeg)]) (rest := []) C (ct_X11_say l X F k_x1 eo_70) cw_L_91 hW hZ k_x1 (by decide) rfl rfl rfl hl.1 (Nat.le_of_ble_eq_true rfl) rfl dL_law_731 ⟨Nat.le_of_ble_eq_true rfl, Nat.le_of_ble_eq_true rfl⟩ ⟨Nat.le_trans (rm_ok0 hkl m1 m2).1 hRm.1, Nat.le_trans (rm_ok0 hkl m1 m2).2 hRm.2⟩) hZ (fun _ _ hW km hZ => ?_)
        replace hkl := hkl.tr km.l
        refine x_wc km ?_
        replace k_x1 := km.at k_x1 (by decide)
        replace k_x2 := km.at k_x2 (by decide)
        exact bL_law_734 C hX hbl hbA hbase hRm ho hk_18 mk_18 k_x1 k_x2 hkl hW hZ _ (lv_sub hl [0, 1, 2, 3] rfl) hE
      have hE := br_n hE c_71
      by_cases c_74 : ((xs x3.toNatClampNeg) &&& (63 : Int32)) = (19 : Int32)
      · have hE := br_p hE c_74
        refine lv_tableIn (off := 720) (tgt := 753) C.1 C.2.1 dL_law_33 (by rw [c_74]; decide) (by rw [c_74]; decide) (by rw [c_74]; rfl) (by decide) ?_
        refine lv_aload_n C.1 C.2.1 dL_law_753 rfl (lv_at hl 1 rfl) ?_
        refine lv_aload_n C.1 C.2.1 dL_law_754 rfl (lv_at hl 0 rfl) ?_
        refine lv_iload_n C.1 C.2.1 dL_law_755 rfl (lv_at hl 3 rfl) ?_
        refine lv_iconst (v := (1 : Int32)) C.1 C.2.1 dL_law_756 (by decide) ?_
        refine lv_iadd C.1 C.2.1 dL_law_757 ?_
        obtain ⟨g_72, hE⟩ := gd_e hE
        refine va_sld C.1 C.2.1 hX hbl hbA hZ g_72 dL_law_758 ?_
        obtain ⟨o_73, eo_73, hE⟩ := cl_e hE
        have m1 := moX11_hear eo_73
        have m2 := moL_law_762 mk_18 hE
        refine x_kI (o := o_73) (z_runV (As := [.int (xs (x3 + (1 : Int32)).toNatClampNeg)]) (rest := []) C (ct_X11_hear l X F k_x1 eo_73) cw_L_95 hW hZ k_x1 (by decide) rfl rfl rfl hl.1 (Nat.le_of_ble_eq_true rfl) rfl dL_law_759 ⟨Nat.le_of_ble_eq_true rfl, Nat.le_of_ble_eq_true rfl⟩ ⟨Nat.le_trans (rm_ok0 hkl m1 m2).1 hRm.1, Nat.le_trans (rm_ok0 hkl m1 m2).2 hRm.2⟩) hZ (fun _ _ hW km hZ => ?_)
        replace hkl := hkl.tr km.l
        refine x_wc km ?_
        replace k_x1 := km.at k_x1 (by decide)
        replace k_x2 := km.at k_x2 (by decide)
        exact bL_law_762 C hX hbl hbA hbase hRm ho hk_18 mk_18 k_x1 k_x2 hkl hW hZ _ (lv_sub hl [0, 1, 2, 3] rfl) hE
      have hE := br_n hE c_74
      by_cases c_78 : ((xs x3.toNatClampNeg) &&& (63 : Int32)) = (20 : Int32)
      · have hE := br_p hE c_78
        refine lv_tableIn (off := 743) (tgt := 776) C.1 C.2.1 dL_law_33 (by rw [c_78]; decide) (by rw [c_78]; decide) (by rw [c_78]; rfl) (by decide) ?_
        refine lv_aload_n C.1 C.2.1 dL_law_776 rfl (lv_at hl 1 rfl) ?_
        refine lv_aload_n C.1 C.2.1 dL_law_777 rfl (lv_at hl 0 rfl) ?_
        refine lv_iload_n C.1 C.2.1 dL_law_778 rfl (lv_at hl 3 rfl) ?_
        refine lv_iconst (v := (1 : Int32)) C.1 C.2.1 dL_law_779 (by decide) ?_
        refine lv_iadd C.1 C.2.1 dL_law_780 ?_
        obtain ⟨g_75, hE⟩ := gd_e hE
        refine va_sld C.1 C.2.1 hX hbl hbA hZ g_75 dL_law_781 ?_
        refine lv_aload_n C.1 C.2.1 dL_law_782 rfl (lv_at hl 0 rfl) ?_
        refine lv_iload_n C.1 C.2.1 dL_law_783 rfl (lv_at hl 3 rfl) ?_
        refine lv_iconst (v := (2 : Int32)) C.1 C.2.1 dL_law_784 (by decide) ?_
        refine lv_iadd C.1 C.2.1 dL_law_785 ?_
        obtain ⟨g_76, hE⟩ := gd_e hE
        refine va_sld C.1 C.2.1 hX hbl hbA hZ g_76 dL_law_786 ?_
        obtain ⟨o_77, eo_77, hE⟩ := cl_e hE
        have m1 := moX11_start eo_77
        have m2 := moL_law_790 mk_18 hE
        refine x_kIA (o := o_77) hkl (z_runV (As := [.int (xs (x3 + (1 : Int32)).toNatClampNeg), .int (xs (x3 + (2 : Int32)).toNatClampNeg)]) (rest := []) C (ct_X11_start l X F k_x1 eo_77) cw_L_99 hW hZ k_x1 (by decide) rfl rfl rfl hl.1 (Nat.le_of_ble_eq_true rfl) rfl dL_law_787 ⟨Nat.le_of_ble_eq_true rfl, Nat.le_of_ble_eq_true rfl⟩ ⟨Nat.le_trans (rm_ok hkl m1 m2).1 hRm.1, Nat.le_trans (rm_ok hkl m1 m2).2 hRm.2⟩) hZ (fun _ _ hW km hZ => ?_)
        replace hkl := hkl.tr km
        replace k_x1 := km.at k_x1 (by decide)
        replace k_x2 := km.at k_x2 (by decide)
        exact bL_law_790 C hX hbl hbA hbase hRm ho hk_18 mk_18 k_x1 k_x2 hkl hW hZ _ (lv_sub hl [0, 1, 2, 3] rfl) hE
      have hE := br_n hE c_78
      by_cases c_82 : ((xs x3.toNatClampNeg) &&& (63 : Int32)) = (21 : Int32)
      · have hE := br_p hE c_82
        refine lv_tableIn (off := 776) (tgt := 809) C.1 C.2.1 dL_law_33 (by rw [c_82]; decide) (by rw [c_82]; decide) (by rw [c_82]; rfl) (by decide) ?_
        refine lv_aload_n C.1 C.2.1 dL_law_809 rfl (lv_at hl 1 rfl) ?_
        refine lv_aload_n C.1 C.2.1 dL_law_810 rfl (lv_at hl 0 rfl) ?_
        refine lv_iload_n C.1 C.2.1 dL_law_811 rfl (lv_at hl 3 rfl) ?_
        refine lv_iconst (v := (1 : Int32)) C.1 C.2.1 dL_law_812 (by decide) ?_
        refine lv_iadd C.1 C.2.1 dL_law_813 ?_
        obtain ⟨g_79, hE⟩ := gd_e hE
        refine va_sld C.1 C.2.1 hX hbl hbA hZ g_79 dL_law_814 ?_
        refine lv_aload_n C.1 C.2.1 dL_law_815 rfl (lv_at hl 0 rfl) ?_
        refine lv_iload_n C.1 C.2.1 dL_law_816 rfl (lv_at hl 3 rfl) ?_
        refine lv_iconst (v := (2 : Int32)) C.1 C.2.1 dL_law_817 (by decide) ?_
        refine lv_iadd C.1 C.2.1 dL_law_818 ?_
        obtain ⟨g_80, hE⟩ := gd_e hE
        refine va_sld C.1 C.2.1 hX hbl hbA hZ g_80 dL_law_819 ?_
        obtain ⟨o_81, eo_81, hE⟩ := cl_e hE
        have m1 := moX11_add eo_81
        have m2 := moL_law_823 mk_18 hE
        refine x_kIA (o := o_81) hkl (z_runV (As := [.int (xs (x3 + (1 : Int32)).toNatClampNeg), .int (xs (x3 + (2 : Int32)).toNatClampNeg)]) (rest := []) C (ct_X11_add l X F k_x1 eo_81) cw_L_103 hW hZ k_x1 (by decide) rfl rfl rfl hl.1 (Nat.le_of_ble_eq_true rfl) rfl dL_law_820 ⟨Nat.le_of_ble_eq_true rfl, Nat.le_of_ble_eq_true rfl⟩ ⟨Nat.le_trans (rm_ok hkl m1 m2).1 hRm.1, Nat.le_trans (rm_ok hkl m1 m2).2 hRm.2⟩) hZ (fun _ _ hW km hZ => ?_)
        replace hkl := hkl.tr km
        replace k_x1 := km.at k_x1 (by decide)
        replace k_x2 := km.at k_x2 (by decide)
        exact bL_law_823 C hX hbl hbA hbase hRm ho hk_18 mk_18 k_x1 k_x2 hkl hW hZ _ (lv_sub hl [0, 1, 2, 3] rfl) hE
      have hE := br_n hE c_82
      by_cases c_85 : ((xs x3.toNatClampNeg) &&& (63 : Int32)) = (22 : Int32)
      · have hE := br_p hE c_85
        refine lv_tableIn (off := 809) (tgt := 842) C.1 C.2.1 dL_law_33 (by rw [c_85]; decide) (by rw [c_85]; decide) (by rw [c_85]; rfl) (by decide) ?_
        refine lv_aload_n C.1 C.2.1 dL_law_842 rfl (lv_at hl 1 rfl) ?_
        refine lv_aload_n C.1 C.2.1 dL_law_843 rfl (lv_at hl 0 rfl) ?_
        refine lv_iload_n C.1 C.2.1 dL_law_844 rfl (lv_at hl 3 rfl) ?_
        refine lv_iconst (v := (1 : Int32)) C.1 C.2.1 dL_law_845 (by decide) ?_
        refine lv_iadd C.1 C.2.1 dL_law_846 ?_
        obtain ⟨g_83, hE⟩ := gd_e hE
        refine va_sld C.1 C.2.1 hX hbl hbA hZ g_83 dL_law_847 ?_
        obtain ⟨o_84, eo_84, hE⟩ := cl_e hE
        have m1 := moX11_back eo_84
        have m2 := moL_law_851 mk_18 hE
        refine x_kI (o := o_84) (z_runV (As := [.int (xs (x3 + (1 : Int32)).toNatClampNeg)]) (rest := []) C (ct_X11_back l X k_x1 eo_84) cw_L_107 hW hZ k_x1 (by decide) rfl rfl rfl hl.1 (Nat.le_of_ble_eq_true rfl) rfl dL_law_848 ⟨Nat.le_of_ble_eq_true rfl, Nat.le_of_ble_eq_true rfl⟩ ⟨Nat.le_trans (rm_ok0 hkl m1 m2).1 hRm.1, Nat.le_trans (rm_ok0 hkl m1 m2).2 hRm.2⟩) hZ (fun _ _ hW km hZ => ?_)
        replace hkl := hkl.tr km.l
        refine x_wc km ?_
        replace k_x1 := km.at k_x1 (by decide)
        replace k_x2 := km.at k_x2 (by decide)
        exact bL_law_851 C hX hbl hbA hbase hRm ho hk_18 mk_18 k_x1 k_x2 hkl hW hZ _ (lv_sub hl [0, 1, 2, 3] rfl) hE
      have hE := br_n hE c_85
      by_cases c_89 : ((xs x3.toNatClampNeg) &&& (63 : Int32)) = (23 : Int32)
      · have hE := br_p hE c_89
        refine lv_tableIn (off := 832) (tgt := 865) C.1 C.2.1 dL_law_33 (by rw [c_89]; decide) (by rw [c_89]; decide) (by rw [c_89]; rfl) (by decide) ?_
        refine lv_aload_n C.1 C.2.1 dL_law_865 rfl (lv_at hl 1 rfl) ?_
        refine lv_aload_n C.1 C.2.1 dL_law_866 rfl (lv_at hl 0 rfl) ?_
        refine lv_iload_n C.1 C.2.1 dL_law_867 rfl (lv_at hl 3 rfl) ?_
        refine lv_iconst (v := (1 : Int32)) C.1 C.2.1 dL_law_868 (by decide) ?_
        refine lv_iadd C.1 C.2.1 dL_law_869 ?_
        obtain ⟨g_86, hE⟩ := gd_e hE
        refine va_sld C.1 C.2.1 hX hbl hbA hZ g_86 dL_law_870 ?_
        refine lv_aload_n C.1 C.2.1 dL_law_871 rfl (lv_at hl 0 rfl) ?_
        refine lv_iload_n C.1 C.2.1 dL_law_872 rfl (lv_at hl 3 rfl) ?_
        refine lv_iconst (v := (2 : Int32)) C.1 C.2.1 dL_law_873 (by decide) ?_
        refine lv_iadd C.1 C.2.1 dL_law_874 ?_
        obtain ⟨g_87, hE⟩ := gd_e hE
        refine va_sld C.1 C.2.1 hX hbl hbA hZ g_87 dL_law_875 ?_
        obtain ⟨o_88, eo_88, hE⟩ := cl_e hE
        have m1 := moX11_game eo_88
        have m2 := moL_law_879 mk_18 hE
        refine x_kIA (o := o_88) hkl (z_runV (As := [.int (xs (x3 + (1 : Int32)).toNatClampNeg), .int (xs (x3 + (2 : Int32)).toNatClampNeg)]) (rest := []) C (ct_X11_game l X F k_x1 eo_88) cw_L_111 hW hZ k_x1 (by decide) rfl rfl rfl hl.1 (Nat.le_of_ble_eq_true rfl) rfl dL_law_876 ⟨Nat.le_of_ble_eq_true rfl, Nat.le_of_ble_eq_true rfl⟩ ⟨Nat.le_trans (rm_ok hkl m1 m2).1 hRm.1, Nat.le_trans (rm_ok hkl m1 m2).2 hRm.2⟩) hZ (fun _ _ hW km hZ => ?_)
        replace hkl := hkl.tr km
        replace k_x1 := km.at k_x1 (by decide)
        replace k_x2 := km.at k_x2 (by decide)
        exact bL_law_879 C hX hbl hbA hbase hRm ho hk_18 mk_18 k_x1 k_x2 hkl hW hZ _ (lv_sub hl [0, 1, 2, 3] rfl) hE
      have hE := br_n hE c_89
      by_cases c_93 : ((xs x3.toNatClampNeg) &&& (63 : Int32)) = (24 : Int32)
      · have hE := br_p hE c_93
        refine lv_tableIn (off := 865) (tgt := 898) C.1 C.2.1 dL_law_33 (by rw [c_93]; decide) (by rw [c_93]; decide) (by rw [c_93]; rfl) (by decide) ?_
        refine lv_aload_n C.1 C.2.1 dL_law_898 rfl (lv_at hl 1 rfl) ?_
        refine lv_aload_n C.1 C.2.1 dL_law_899 rfl (lv_at hl 0 rfl) ?_
        refine lv_iload_n C.1 C.2.1 dL_law_900 rfl (lv_at hl 3 rfl) ?_
        refine lv_iconst (v := (1 : Int32)) C.1 C.2.1 dL_law_901 (by decide) ?_
        refine lv_iadd C.1 C.2.1 dL_law_902 ?_
        obtain ⟨g_90, hE⟩ := gd_e hE
        refine va_sld C.1 C.2.1 hX hbl hbA hZ g_90 dL_law_903 ?_
        refine lv_aload_n C.1 C.2.1 dL_law_904 rfl (lv_at hl 0 rfl) ?_
        refine lv_iload_n C.1 C.2.1 dL_law_905 rfl (lv_at hl 3 rfl) ?_
        refine lv_iconst (v := (2 : Int32)) C.1 C.2.1 dL_law_906 (by decide) ?_
        refine lv_iadd C.1 C.2.1 dL_law_907 ?_
        obtain ⟨g_91, hE⟩ := gd_e hE
        refine va_sld C.1 C.2.1 hX hbl hbA hZ g_91 dL_law_908 ?_
        obtain ⟨o_92, eo_92, hE⟩ := cl_e hE
        have m1 := moX11_played eo_92
        have m2 := moL_law_912 mk_18 hE
        refine x_kI (o := o_92) (z_runV (As := [.int (xs (x3 + (1 : Int32)).toNatClampNeg), .int (xs (x3 + (2 : Int32)).toNatClampNeg)]) (rest := []) C (ct_X11_played l X k_x1 eo_92) cw_L_115 hW hZ k_x1 (by decide) rfl rfl rfl hl.1 (Nat.le_of_ble_eq_true rfl) rfl dL_law_909 ⟨Nat.le_of_ble_eq_true rfl, Nat.le_of_ble_eq_true rfl⟩ ⟨Nat.le_trans (rm_ok0 hkl m1 m2).1 hRm.1, Nat.le_trans (rm_ok0 hkl m1 m2).2 hRm.2⟩) hZ (fun _ _ hW km hZ => ?_)
        replace hkl := hkl.tr km.l
        refine x_wc km ?_
        replace k_x1 := km.at k_x1 (by decide)
        replace k_x2 := km.at k_x2 (by decide)
        exact bL_law_912 C hX hbl hbA hbase hRm ho hk_18 mk_18 k_x1 k_x2 hkl hW hZ _ (lv_sub hl [0, 1, 2, 3] rfl) hE
      have hE := br_n hE c_93
      by_cases c_96 : ((xs x3.toNatClampNeg) &&& (63 : Int32)) = (25 : Int32)
      · have hE := br_p hE c_96
        refine lv_tableIn (off := 898) (tgt := 931) C.1 C.2.1 dL_law_33 (by rw [c_96]; decide) (by rw [c_96]; decide) (by rw [c_96]; rfl) (by decide) ?_
        refine lv_aload_n C.1 C.2.1 dL_law_931 rfl (lv_at hl 1 rfl) ?_
        refine lv_aload_n C.1 C.2.1 dL_law_932 rfl (lv_at hl 0 rfl) ?_
        refine lv_iload_n C.1 C.2.1 dL_law_933 rfl (lv_at hl 3 rfl) ?_
        refine lv_iconst (v := (1 : Int32)) C.1 C.2.1 dL_law_934 (by decide) ?_
        refine lv_iadd C.1 C.2.1 dL_law_935 ?_
        obtain ⟨g_94, hE⟩ := gd_e hE
        refine va_sld C.1 C.2.1 hX hbl hbA hZ g_94 dL_law_936 ?_
        obtain ⟨o_95, eo_95, hE⟩ := cl_e hE
        have m1 := moX11_now eo_95
        have m2 := moL_law_940 mk_18 hE
        refine x_kIA (o := o_95) hkl (z_runV (As := [.int (xs (x3 + (1 : Int32)).toNatClampNeg)]) (rest := []) C (ct_X11_now l X F k_x1 eo_95) cw_L_119 hW hZ k_x1 (by decide) rfl rfl rfl hl.1 (Nat.le_of_ble_eq_true rfl) rfl dL_law_937 ⟨Nat.le_of_ble_eq_true rfl, Nat.le_of_ble_eq_true rfl⟩ ⟨Nat.le_trans (rm_ok hkl m1 m2).1 hRm.1, Nat.le_trans (rm_ok hkl m1 m2).2 hRm.2⟩) hZ (fun _ _ hW km hZ => ?_)
        replace hkl := hkl.tr km
        replace k_x1 := km.at k_x1 (by decide)
        replace k_x2 := km.at k_x2 (by decide)
        exact bL_law_940 C hX hbl hbA hbase hRm ho hk_18 mk_18 k_x1 k_x2 hkl hW hZ _ (lv_sub hl [0, 1, 2, 3] rfl) hE
      have hE := br_n hE c_96
      by_cases c_100 : ((xs x3.toNatClampNeg) &&& (63 : Int32)) = (26 : Int32)
      · have hE := br_p hE c_100
        refine lv_tableIn (off := 921) (tgt := 954) C.1 C.2.1 dL_law_33 (by rw [c_100]; decide) (by rw [c_100]; decide) (by rw [c_100]; rfl) (by decide) ?_
        refine lv_aload_n C.1 C.2.1 dL_law_954 rfl (lv_at hl 1 rfl) ?_
        refine lv_aload_n C.1 C.2.1 dL_law_955 rfl (lv_at hl 0 rfl) ?_
        refine lv_iload_n C.1 C.2.1 dL_law_956 rfl (lv_at hl 3 rfl) ?_
        refine lv_iconst (v := (1 : Int32)) C.1 C.2.1 dL_law_957 (by decide) ?_
        refine lv_iadd C.1 C.2.1 dL_law_958 ?_
        obtain ⟨g_97, hE⟩ := gd_e hE
        refine va_sld C.1 C.2.1 hX hbl hbA hZ g_97 dL_law_959 ?_
        refine lv_aload_n C.1 C.2.1 dL_law_960 rfl (lv_at hl 0 rfl) ?_
        refine lv_iload_n C.1 C.2.1 dL_law_961 rfl (lv_at hl 3 rfl) ?_
        refine lv_iconst (v := (2 : Int32)) C.1 C.2.1 dL_law_962 (by decide) ?_
        refine lv_iadd C.1 C.2.1 dL_law_963 ?_
        obtain ⟨g_98, hE⟩ := gd_e hE
        refine va_sld C.1 C.2.1 hX hbl hbA hZ g_98 dL_law_964 ?_
        obtain ⟨o_99, eo_99, hE⟩ := cl_e hE
        have m1 := moX11_book eo_99
        have m2 := moL_law_968 mk_18 hE
        refine x_kIA (o := o_99) hkl (z_runV (As := [.int (xs (x3 + (1 : Int32)).toNatClampNeg), .int (xs (x3 + (2 : Int32)).toNatClampNeg)]) (rest := []) C (ct_X11_book l X F k_x1 eo_99) cw_L_123 hW hZ k_x1 (by decide) rfl rfl rfl hl.1 (Nat.le_of_ble_eq_true rfl) rfl dL_law_965 ⟨Nat.le_of_ble_eq_true rfl, Nat.le_of_ble_eq_true rfl⟩ ⟨Nat.le_trans (rm_ok hkl m1 m2).1 hRm.1, Nat.le_trans (rm_ok hkl m1 m2).2 hRm.2⟩) hZ (fun _ _ hW km hZ => ?_)
        replace hkl := hkl.tr km
        replace k_x1 := km.at k_x1 (by decide)
        replace k_x2 := km.at k_x2 (by decide)
        exact bL_law_968 C hX hbl hbA hbase hRm ho hk_18 mk_18 k_x1 k_x2 hkl hW hZ _ (lv_sub hl [0, 1, 2, 3] rfl) hE
      have hE := br_n hE c_100
      by_cases c_105 : ((xs x3.toNatClampNeg) &&& (63 : Int32)) = (27 : Int32)
      · have hE := br_p hE c_105
        refine lv_tableIn (off := 954) (tgt := 987) C.1 C.2.1 dL_law_33 (by rw [c_105]; decide) (by rw [c_105]; decide) (by rw [c_105]; rfl) (by decide) ?_
        refine lv_aload_n C.1 C.2.1 dL_law_987 rfl (lv_at hl 1 rfl) ?_
        refine lv_aload_n C.1 C.2.1 dL_law_988 rfl (lv_at hl 0 rfl) ?_
        refine lv_iload_n C.1 C.2.1 dL_law_989 rfl (lv_at hl 3 rfl) ?_
        refine lv_iconst (v := (1 : Int32)) C.1 C.2.1 dL_law_990 (by decide) ?_
        refine lv_iadd C.1 C.2.1 dL_law_991 ?_
        obtain ⟨g_101, hE⟩ := gd_e hE
        refine va_sld C.1 C.2.1 hX hbl hbA hZ g_101 dL_law_992 ?_
        refine lv_aload_n C.1 C.2.1 dL_law_993 rfl (lv_at hl 0 rfl) ?_
        refine lv_iload_n C.1 C.2.1 dL_law_994 rfl (lv_at hl 3 rfl) ?_
        refine lv_iconst (v := (2 : Int32)) C.1 C.2.1 dL_law_995 (by decide) ?_
        refine lv_iadd C.1 C.2.1 dL_law_996 ?_
        obtain ⟨g_102, hE⟩ := gd_e hE
        refine va_sld C.1 C.2.1 hX hbl hbA hZ g_102 dL_law_997 ?_
        refine lv_aload_n C.1 C.2.1 dL_law_998 rfl (lv_at hl 0 rfl) ?_
        refine lv_iload_n C.1 C.2.1 dL_law_999 rfl (lv_at hl 3 rfl) ?_
        refine lv_iconst (v := (3 : Int32)) C.1 C.2.1 dL_law_1000 (by decide) ?_
        refine lv_iadd C.1 C.2.1 dL_law_1001 ?_
        obtain ⟨g_103, hE⟩ := gd_e hE
        refine va_sld C.1 C.2.1 hX hbl hbA hZ g_103 dL_law_1002 ?_
        obtain ⟨o_104, eo_104, hE⟩ := cl_e hE
        have m1 := moX11_sees eo_104
        have m2 := moL_law_1006 mk_18 hE
        refine x_kI (o := o_104) (z_runV (As := [.int (xs (x3 + (1 : Int32)).toNatClampNeg), .int (xs (x3 + (2 : Int32)).toNatClampNeg), .int (xs (x3 + (3 : Int32)).toNatClampNeg)]) (rest := []) C (ct_X11_sees l X F k_x1 eo_104) cw_L_127 hW hZ k_x1 (by decide) rfl rfl rfl hl.1 (Nat.le_of_ble_eq_true rfl) rfl dL_law_1003 ⟨Nat.le_of_ble_eq_true rfl, Nat.le_of_ble_eq_true rfl⟩ ⟨Nat.le_trans (rm_ok0 hkl m1 m2).1 hRm.1, Nat.le_trans (rm_ok0 hkl m1 m2).2 hRm.2⟩) hZ (fun _ _ hW km hZ => ?_)
        replace hkl := hkl.tr km.l
        refine x_wc km ?_
        replace k_x1 := km.at k_x1 (by decide)
        replace k_x2 := km.at k_x2 (by decide)
        exact bL_law_1006 C hX hbl hbA hbase hRm ho hk_18 mk_18 k_x1 k_x2 hkl hW hZ _ (lv_sub hl [0, 1, 2, 3] rfl) hE
      have hE := br_n hE c_105
      by_cases c_109 : ((xs x3.toNatClampNeg) &&& (63 : Int32)) = (28 : Int32)
      · have hE := br_p hE c_109
        refine lv_tableIn (off := 997) (tgt := 1030) C.1 C.2.1 dL_law_33 (by rw [c_109]; decide) (by rw [c_109]; decide) (by rw [c_109]; rfl) (by decide) ?_
        refine lv_aload_n C.1 C.2.1 dL_law_1030 rfl (lv_at hl 1 rfl) ?_
        refine lv_aload_n C.1 C.2.1 dL_law_1031 rfl (lv_at hl 0 rfl) ?_
        refine lv_iload_n C.1 C.2.1 dL_law_1032 rfl (lv_at hl 3 rfl) ?_
        refine lv_iconst (v := (1 : Int32)) C.1 C.2.1 dL_law_1033 (by decide) ?_
        refine lv_iadd C.1 C.2.1 dL_law_1034 ?_
        obtain ⟨g_106, hE⟩ := gd_e hE
        refine va_sld C.1 C.2.1 hX hbl hbA hZ g_106 dL_law_1035 ?_
        refine lv_aload_n C.1 C.2.1 dL_law_1036 rfl (lv_at hl 0 rfl) ?_
        refine lv_iload_n C.1 C.2.1 dL_law_1037 rfl (lv_at hl 3 rfl) ?_
        refine lv_iconst (v := (2 : Int32)) C.1 C.2.1 dL_law_1038 (by decide) ?_
        refine lv_iadd C.1 C.2.1 dL_law_1039 ?_
        obtain ⟨g_107, hE⟩ := gd_e hE
        refine va_sld C.1 C.2.1 hX hbl hbA hZ g_107 dL_law_1040 ?_
        obtain ⟨o_108, eo_108, hE⟩ := cl_e hE
        have m1 := moX11_view eo_108
        have m2 := moL_law_1044 mk_18 hE
        refine x_kI (o := o_108) (z_runV (As := [.int (xs (x3 + (1 : Int32)).toNatClampNeg), .int (xs (x3 + (2 : Int32)).toNatClampNeg)]) (rest := []) C (ct_X11_view l X F k_x1 eo_108) cw_L_131 hW hZ k_x1 (by decide) rfl rfl rfl hl.1 (Nat.le_of_ble_eq_true rfl) rfl dL_law_1041 ⟨Nat.le_of_ble_eq_true rfl, Nat.le_of_ble_eq_true rfl⟩ ⟨Nat.le_trans (rm_ok0 hkl m1 m2).1 hRm.1, Nat.le_trans (rm_ok0 hkl m1 m2).2 hRm.2⟩) hZ (fun _ _ hW km hZ => ?_)
        replace hkl := hkl.tr km.l
        refine x_wc km ?_
        replace k_x1 := km.at k_x1 (by decide)
        replace k_x2 := km.at k_x2 (by decide)
        exact bL_law_1044 C hX hbl hbA hbase hRm ho hk_18 mk_18 k_x1 k_x2 hkl hW hZ _ (lv_sub hl [0, 1, 2, 3] rfl) hE
      have hE := br_n hE c_109
      by_cases c_112 : ((xs x3.toNatClampNeg) &&& (63 : Int32)) = (29 : Int32)
      · have hE := br_p hE c_112
        refine lv_tableIn (off := 1030) (tgt := 1063) C.1 C.2.1 dL_law_33 (by rw [c_112]; decide) (by rw [c_112]; decide) (by rw [c_112]; rfl) (by decide) ?_
        refine lv_aload_n C.1 C.2.1 dL_law_1063 rfl (lv_at hl 1 rfl) ?_
        refine lv_aload_n C.1 C.2.1 dL_law_1064 rfl (lv_at hl 0 rfl) ?_
        refine lv_iload_n C.1 C.2.1 dL_law_1065 rfl (lv_at hl 3 rfl) ?_
        refine lv_iconst (v := (1 : Int32)) C.1 C.2.1 dL_law_1066 (by decide) ?_
        refine lv_iadd C.1 C.2.1 dL_law_1067 ?_
        obtain ⟨g_110, hE⟩ := gd_e hE
        refine va_sld C.1 C.2.1 hX hbl hbA hZ g_110 dL_law_1068 ?_
        obtain ⟨o_111, eo_111, hE⟩ := cl_e hE
        have m1 := moX11_before eo_111
        have m2 := moL_law_1072 mk_18 hE
        refine x_kI (o := o_111) (z_runV (As := [.int (xs (x3 + (1 : Int32)).toNatClampNeg)]) (rest := []) C (ct_X11_before l X F k_x1 eo_111) cw_L_135 hW hZ k_x1 (by decide) rfl rfl rfl hl.1 (Nat.le_of_ble_eq_true rfl) rfl dL_law_1069 ⟨Nat.le_of_ble_eq_true rfl, Nat.le_of_ble_eq_true rfl⟩ ⟨Nat.le_trans (rm_ok0 hkl m1 m2).1 hRm.1, Nat.le_trans (rm_ok0 hkl m1 m2).2 hRm.2⟩) hZ (fun _ _ hW km hZ => ?_)
        replace hkl := hkl.tr km.l
        refine x_wc km ?_
        replace k_x1 := km.at k_x1 (by decide)
        replace k_x2 := km.at k_x2 (by decide)
        exact bL_law_1072 C hX hbl hbA hbase hRm ho hk_18 mk_18 k_x1 k_x2 hkl hW hZ _ (lv_sub hl [0, 1, 2, 3] rfl) hE
      have hE := br_n hE c_112
      by_cases c_115 : ((xs x3.toNatClampNeg) &&& (63 : Int32)) = (30 : Int32)
      · have hE := br_p hE c_115
        refine lv_tableIn (off := 1053) (tgt := 1086) C.1 C.2.1 dL_law_33 (by rw [c_115]; decide) (by rw [c_115]; decide) (by rw [c_115]; rfl) (by decide) ?_
        refine lv_aload_n C.1 C.2.1 dL_law_1086 rfl (lv_at hl 1 rfl) ?_
        refine lv_aload_n C.1 C.2.1 dL_law_1087 rfl (lv_at hl 0 rfl) ?_
        refine lv_iload_n C.1 C.2.1 dL_law_1088 rfl (lv_at hl 3 rfl) ?_
        refine lv_iconst (v := (1 : Int32)) C.1 C.2.1 dL_law_1089 (by decide) ?_
        refine lv_iadd C.1 C.2.1 dL_law_1090 ?_
        obtain ⟨g_113, hE⟩ := gd_e hE
        refine va_sld C.1 C.2.1 hX hbl hbA hZ g_113 dL_law_1091 ?_
        obtain ⟨o_114, eo_114, hE⟩ := cl_e hE
        have m1 := moX11_beforeAt eo_114
        have m2 := moL_law_1095 mk_18 hE
        refine x_kI (o := o_114) (z_runV (As := [.int (xs (x3 + (1 : Int32)).toNatClampNeg)]) (rest := []) C (ct_X11_beforeAt l X F k_x1 eo_114) cw_L_139 hW hZ k_x1 (by decide) rfl rfl rfl hl.1 (Nat.le_of_ble_eq_true rfl) rfl dL_law_1092 ⟨Nat.le_of_ble_eq_true rfl, Nat.le_of_ble_eq_true rfl⟩ ⟨Nat.le_trans (rm_ok0 hkl m1 m2).1 hRm.1, Nat.le_trans (rm_ok0 hkl m1 m2).2 hRm.2⟩) hZ (fun _ _ hW km hZ => ?_)
        replace hkl := hkl.tr km.l
        refine x_wc km ?_
        replace k_x1 := km.at k_x1 (by decide)
        replace k_x2 := km.at k_x2 (by decide)
        exact bL_law_1095 C hX hbl hbA hbase hRm ho hk_18 mk_18 k_x1 k_x2 hkl hW hZ _ (lv_sub hl [0, 1, 2, 3] rfl) hE
      have hE := br_n hE c_115
      by_cases c_117 : ((xs x3.toNatClampNeg) &&& (63 : Int32)) = (31 : Int32)
      · have hE := br_p hE c_117
        refine lv_tableIn (off := 1076) (tgt := 1109) C.1 C.2.1 dL_law_33 (by rw [c_117]; decide) (by rw [c_117]; decide) (by rw [c_117]; rfl) (by decide) ?_
        refine lv_aload_n C.1 C.2.1 dL_law_1109 rfl (lv_at hl 1 rfl) ?_
        obtain ⟨o_116, eo_116, hE⟩ := cl_e hE
        have m1 := moX11_solve eo_116
        have m2 := moL_law_1113 mk_18 hE
        refine x_kIA (o := o_116) hkl (z_runV (As := []) (rest := []) C (ct_X11_solve l X F k_x1 eo_116) cw_L_143 hW hZ k_x1 (by decide) rfl rfl rfl hl.1 (Nat.le_of_ble_eq_true rfl) rfl dL_law_1110 ⟨Nat.le_of_ble_eq_true rfl, Nat.le_of_ble_eq_true rfl⟩ ⟨Nat.le_trans (rm_ok hkl m1 m2).1 hRm.1, Nat.le_trans (rm_ok hkl m1 m2).2 hRm.2⟩) hZ (fun _ _ hW km hZ => ?_)
        replace hkl := hkl.tr km
        replace k_x1 := km.at k_x1 (by decide)
        replace k_x2 := km.at k_x2 (by decide)
        exact bL_law_1113 C hX hbl hbA hbase hRm ho hk_18 mk_18 k_x1 k_x2 hkl hW hZ _ (lv_sub hl [0, 1, 2, 3] rfl) hE
      have hE := br_n hE c_117
      by_cases c_120 : ((xs x3.toNatClampNeg) &&& (63 : Int32)) = (32 : Int32)
      · have hE := br_p hE c_120
        refine lv_tableIn (off := 1089) (tgt := 1122) C.1 C.2.1 dL_law_33 (by rw [c_120]; decide) (by rw [c_120]; decide) (by rw [c_120]; rfl) (by decide) ?_
        refine lv_aload_n C.1 C.2.1 dL_law_1122 rfl (lv_at hl 1 rfl) ?_
        refine lv_aload_n C.1 C.2.1 dL_law_1123 rfl (lv_at hl 0 rfl) ?_
        refine lv_iload_n C.1 C.2.1 dL_law_1124 rfl (lv_at hl 3 rfl) ?_
        refine lv_iconst (v := (1 : Int32)) C.1 C.2.1 dL_law_1125 (by decide) ?_
        refine lv_iadd C.1 C.2.1 dL_law_1126 ?_
        obtain ⟨g_118, hE⟩ := gd_e hE
        refine va_sld C.1 C.2.1 hX hbl hbA hZ g_118 dL_law_1127 ?_
        obtain ⟨o_119, eo_119, hE⟩ := cl_e hE
        have m1 := moX11_worth eo_119
        have m2 := moL_law_1131 mk_18 hE
        refine x_kI (o := o_119) (z_runV (As := [.int (xs (x3 + (1 : Int32)).toNatClampNeg)]) (rest := []) C (ct_X11_worth l X F k_x1 eo_119) cw_L_147 hW hZ k_x1 (by decide) rfl rfl rfl hl.1 (Nat.le_of_ble_eq_true rfl) rfl dL_law_1128 ⟨Nat.le_of_ble_eq_true rfl, Nat.le_of_ble_eq_true rfl⟩ ⟨Nat.le_trans (rm_ok0 hkl m1 m2).1 hRm.1, Nat.le_trans (rm_ok0 hkl m1 m2).2 hRm.2⟩) hZ (fun _ _ hW km hZ => ?_)
        replace hkl := hkl.tr km.l
        refine x_wc km ?_
        replace k_x1 := km.at k_x1 (by decide)
        replace k_x2 := km.at k_x2 (by decide)
        exact bL_law_1131 C hX hbl hbA hbase hRm ho hk_18 mk_18 k_x1 k_x2 hkl hW hZ _ (lv_sub hl [0, 1, 2, 3] rfl) hE
      have hE := br_n hE c_120
      by_cases c_124 : ((xs x3.toNatClampNeg) &&& (63 : Int32)) = (33 : Int32)
      · have hE := br_p hE c_124
        refine lv_tableIn (off := 1112) (tgt := 1145) C.1 C.2.1 dL_law_33 (by rw [c_124]; decide) (by rw [c_124]; decide) (by rw [c_124]; rfl) (by decide) ?_
        refine lv_aload_n C.1 C.2.1 dL_law_1145 rfl (lv_at hl 1 rfl) ?_
        refine lv_aload_n C.1 C.2.1 dL_law_1146 rfl (lv_at hl 0 rfl) ?_
        refine lv_iload_n C.1 C.2.1 dL_law_1147 rfl (lv_at hl 3 rfl) ?_
        refine lv_iconst (v := (1 : Int32)) C.1 C.2.1 dL_law_1148 (by decide) ?_
        refine lv_iadd C.1 C.2.1 dL_law_1149 ?_
        obtain ⟨g_121, hE⟩ := gd_e hE
        refine va_sld C.1 C.2.1 hX hbl hbA hZ g_121 dL_law_1150 ?_
        refine lv_aload_n C.1 C.2.1 dL_law_1151 rfl (lv_at hl 0 rfl) ?_
        refine lv_iload_n C.1 C.2.1 dL_law_1152 rfl (lv_at hl 3 rfl) ?_
        refine lv_iconst (v := (2 : Int32)) C.1 C.2.1 dL_law_1153 (by decide) ?_
        refine lv_iadd C.1 C.2.1 dL_law_1154 ?_
        obtain ⟨g_122, hE⟩ := gd_e hE
        refine va_sld C.1 C.2.1 hX hbl hbA hZ g_122 dL_law_1155 ?_
        obtain ⟨o_123, eo_123, hE⟩ := cl_e hE
        have m1 := moX11_tally eo_123
        have m2 := moL_law_1159 mk_18 hE
        refine x_kI (o := o_123) (z_runV (As := [.int (xs (x3 + (1 : Int32)).toNatClampNeg), .int (xs (x3 + (2 : Int32)).toNatClampNeg)]) (rest := []) C (ct_X11_tally l X F k_x1 eo_123) cw_L_151 hW hZ k_x1 (by decide) rfl rfl rfl hl.1 (Nat.le_of_ble_eq_true rfl) rfl dL_law_1156 ⟨Nat.le_of_ble_eq_true rfl, Nat.le_of_ble_eq_true rfl⟩ ⟨Nat.le_trans (rm_ok0 hkl m1 m2).1 hRm.1, Nat.le_trans (rm_ok0 hkl m1 m2).2 hRm.2⟩) hZ (fun _ _ hW km hZ => ?_)
        replace hkl := hkl.tr km.l
        refine x_wc km ?_
        replace k_x1 := km.at k_x1 (by decide)
        replace k_x2 := km.at k_x2 (by decide)
        exact bL_law_1159 C hX hbl hbA hbase hRm ho hk_18 mk_18 k_x1 k_x2 hkl hW hZ _ (lv_sub hl [0, 1, 2, 3] rfl) hE
      have hE := br_n hE c_124
      by_cases c_130 : ((xs x3.toNatClampNeg) &&& (63 : Int32)) = (34 : Int32)
      · have hE := br_p hE c_130
        refine lv_tableIn (off := 1145) (tgt := 1178) C.1 C.2.1 dL_law_33 (by rw [c_130]; decide) (by rw [c_130]; decide) (by rw [c_130]; rfl) (by decide) ?_
        refine lv_aload_n C.1 C.2.1 dL_law_1178 rfl (lv_at hl 1 rfl) ?_
        refine lv_aload_n C.1 C.2.1 dL_law_1179 rfl (lv_at hl 0 rfl) ?_
        refine lv_iload_n C.1 C.2.1 dL_law_1180 rfl (lv_at hl 3 rfl) ?_
        refine lv_iconst (v := (1 : Int32)) C.1 C.2.1 dL_law_1181 (by decide) ?_
        refine lv_iadd C.1 C.2.1 dL_law_1182 ?_
        obtain ⟨g_125, hE⟩ := gd_e hE
        refine va_sld C.1 C.2.1 hX hbl hbA hZ g_125 dL_law_1183 ?_
        refine lv_aload_n C.1 C.2.1 dL_law_1184 rfl (lv_at hl 0 rfl) ?_
        refine lv_iload_n C.1 C.2.1 dL_law_1185 rfl (lv_at hl 3 rfl) ?_
        refine lv_iconst (v := (2 : Int32)) C.1 C.2.1 dL_law_1186 (by decide) ?_
        refine lv_iadd C.1 C.2.1 dL_law_1187 ?_
        obtain ⟨g_126, hE⟩ := gd_e hE
        refine va_sld C.1 C.2.1 hX hbl hbA hZ g_126 dL_law_1188 ?_
        refine lv_aload_n C.1 C.2.1 dL_law_1189 rfl (lv_at hl 0 rfl) ?_
        refine lv_iload_n C.1 C.2.1 dL_law_1190 rfl (lv_at hl 3 rfl) ?_
        refine lv_iconst (v := (3 : Int32)) C.1 C.2.1 dL_law_1191 (by decide) ?_
        refine lv_iadd C.1 C.2.1 dL_law_1192 ?_
        obtain ⟨g_127, hE⟩ := gd_e hE
        refine va_sld C.1 C.2.1 hX hbl hbA hZ g_127 dL_law_1193 ?_
        refine lv_aload_n C.1 C.2.1 dL_law_1194 rfl (lv_at hl 0 rfl) ?_
        refine lv_iload_n C.1 C.2.1 dL_law_1195 rfl (lv_at hl 3 rfl) ?_
        refine lv_iconst (v := (4 : Int32)) C.1 C.2.1 dL_law_1196 (by decide) ?_
        refine lv_iadd C.1 C.2.1 dL_law_1197 ?_
        obtain ⟨g_128, hE⟩ := gd_e hE
        refine va_sld C.1 C.2.1 hX hbl hbA hZ g_128 dL_law_1198 ?_
        obtain ⟨o_129, eo_129, hE⟩ := cl_e hE
        have m1 := moX11_problem eo_129
        have m2 := moL_law_1202 mk_18 hE
        refine x_kI (o := o_129) (z_runV (As := [.int (xs (x3 + (1 : Int32)).toNatClampNeg), .int (xs (x3 + (2 : Int32)).toNatClampNeg), .int (xs (x3 + (3 : Int32)).toNatClampNeg), .int (xs (x3 + (4 : Int32)).toNatClampNeg)]) (rest := []) C (ct_X11_problem l X F k_x1 eo_129) cw_L_155 hW hZ k_x1 (by decide) rfl rfl rfl hl.1 (Nat.le_of_ble_eq_true rfl) rfl dL_law_1199 ⟨Nat.le_of_ble_eq_true rfl, Nat.le_of_ble_eq_true rfl⟩ ⟨Nat.le_trans (rm_ok0 hkl m1 m2).1 hRm.1, Nat.le_trans (rm_ok0 hkl m1 m2).2 hRm.2⟩) hZ (fun _ _ hW km hZ => ?_)
        replace hkl := hkl.tr km.l
        refine x_wc km ?_
        replace k_x1 := km.at k_x1 (by decide)
        replace k_x2 := km.at k_x2 (by decide)
        exact bL_law_1202 C hX hbl hbA hbase hRm ho hk_18 mk_18 k_x1 k_x2 hkl hW hZ _ (lv_sub hl [0, 1, 2, 3] rfl) hE
      have hE := br_n hE c_130
      by_cases c_133 : ((xs x3.toNatClampNeg) &&& (63 : Int32)) = (35 : Int32)
      · have hE := br_p hE c_133
        refine lv_tableIn (off := 1198) (tgt := 1231) C.1 C.2.1 dL_law_33 (by rw [c_133]; decide) (by rw [c_133]; decide) (by rw [c_133]; rfl) (by decide) ?_
        refine lv_aload_n C.1 C.2.1 dL_law_1231 rfl (lv_at hl 1 rfl) ?_
        refine lv_aload_n C.1 C.2.1 dL_law_1232 rfl (lv_at hl 0 rfl) ?_
        refine lv_iload_n C.1 C.2.1 dL_law_1233 rfl (lv_at hl 3 rfl) ?_
        refine lv_iconst (v := (1 : Int32)) C.1 C.2.1 dL_law_1234 (by decide) ?_
        refine lv_iadd C.1 C.2.1 dL_law_1235 ?_
        obtain ⟨g_131, hE⟩ := gd_e hE
        refine va_sld C.1 C.2.1 hX hbl hbA hZ g_131 dL_law_1236 ?_
        obtain ⟨o_132, eo_132, hE⟩ := cl_e hE
        have m1 := moX11_key eo_132
        have m2 := moL_law_1240 mk_18 hE
        refine x_kI (o := o_132) (z_runV (As := [.int (xs (x3 + (1 : Int32)).toNatClampNeg)]) (rest := []) C (ct_X11_key l X k_x1 eo_132) cw_L_160 hW hZ k_x1 (by decide) rfl rfl rfl hl.1 (Nat.le_of_ble_eq_true rfl) rfl dL_law_1237 ⟨Nat.le_of_ble_eq_true rfl, Nat.le_of_ble_eq_true rfl⟩ ⟨Nat.le_trans (rm_ok0 hkl m1 m2).1 hRm.1, Nat.le_trans (rm_ok0 hkl m1 m2).2 hRm.2⟩) hZ (fun _ _ hW km hZ => ?_)
        replace hkl := hkl.tr km.l
        refine x_wc km ?_
        replace k_x1 := km.at k_x1 (by decide)
        replace k_x2 := km.at k_x2 (by decide)
        exact bL_law_1240 C hX hbl hbA hbase hRm ho hk_18 mk_18 k_x1 k_x2 hkl hW hZ _ (lv_sub hl [0, 1, 2, 3] rfl) hE
      have hE := br_n hE c_133
      by_cases c_136 : ((xs x3.toNatClampNeg) &&& (63 : Int32)) = (36 : Int32)
      · have hE := br_p hE c_136
        refine lv_tableIn (off := 1221) (tgt := 1254) C.1 C.2.1 dL_law_33 (by rw [c_136]; decide) (by rw [c_136]; decide) (by rw [c_136]; rfl) (by decide) ?_
        refine lv_aload_n C.1 C.2.1 dL_law_1254 rfl (lv_at hl 1 rfl) ?_
        refine lv_aload_n C.1 C.2.1 dL_law_1255 rfl (lv_at hl 0 rfl) ?_
        refine lv_iload_n C.1 C.2.1 dL_law_1256 rfl (lv_at hl 3 rfl) ?_
        refine lv_iconst (v := (1 : Int32)) C.1 C.2.1 dL_law_1257 (by decide) ?_
        refine lv_iadd C.1 C.2.1 dL_law_1258 ?_
        obtain ⟨g_134, hE⟩ := gd_e hE
        refine va_sld C.1 C.2.1 hX hbl hbA hZ g_134 dL_law_1259 ?_
        obtain ⟨o_135, eo_135, hE⟩ := cl_e hE
        have m1 := moX11_refutes eo_135
        have m2 := moL_law_1263 mk_18 hE
        refine x_kI (o := o_135) (z_runV (As := [.int (xs (x3 + (1 : Int32)).toNatClampNeg)]) (rest := []) C (ct_X11_refutes l X k_x1 eo_135) cw_L_164 hW hZ k_x1 (by decide) rfl rfl rfl hl.1 (Nat.le_of_ble_eq_true rfl) rfl dL_law_1260 ⟨Nat.le_of_ble_eq_true rfl, Nat.le_of_ble_eq_true rfl⟩ ⟨Nat.le_trans (rm_ok0 hkl m1 m2).1 hRm.1, Nat.le_trans (rm_ok0 hkl m1 m2).2 hRm.2⟩) hZ (fun _ _ hW km hZ => ?_)
        replace hkl := hkl.tr km.l
        refine x_wc km ?_
        replace k_x1 := km.at k_x1 (by decide)
        replace k_x2 := km.at k_x2 (by decide)
        exact bL_law_1263 C hX hbl hbA hbase hRm ho hk_18 mk_18 k_x1 k_x2 hkl hW hZ _ (lv_sub hl [0, 1, 2, 3] rfl) hE
      have hE := br_n hE c_136
      refine lv_tableOut (tgt := 1277) C.1 C.2.1 dL_law_33 (by have zc_9 := lv_neT (a := 0) c_9 (by decide); have zc_12 := lv_neT (a := 1) c_12 (by decide); have zc_14 := lv_neT (a := 2) c_14 (by decide); have zc_17 := lv_neT (a := 3) c_17 (by decide); have zc_20 := lv_neT (a := 4) c_20 (by decide); have zc_22 := lv_neT (a := 5) c_22 (by decide); have zc_25 := lv_neT (a := 6) c_25 (by decide); have zc_28 := lv_neT (a := 7) c_28 (by decide); have zc_32 := lv_neT (a := 8) c_32 (by decide); have zc_36 := lv_neT (a := 9) c_36 (by decide); have zc_40 := lv_neT (a := 10) c_40 (by decide); have zc_45 := lv_neT (a := 11) c_45 (by decide); have zc_48 := lv_neT (a := 12) c_48 (by decide); have zc_53 := lv_neT (a := 13) c_53 (by decide); have zc_57 := lv_neT (a := 14) c_57 (by decide); have zc_61 := lv_neT (a := 15) c_61 (by decide); have zc_64 := lv_neT (a := 16) c_64 (by decide); have zc_67 := lv_neT (a := 17) c_67 (by decide); have zc_71 := lv_neT (a := 18) c_71 (by decide); have zc_74 := lv_neT (a := 19) c_74 (by decide); have zc_78 := lv_neT (a := 20) c_78 (by decide); have zc_82 := lv_neT (a := 21) c_82 (by decide); have zc_85 := lv_neT (a := 22) c_85 (by decide); have zc_89 := lv_neT (a := 23) c_89 (by decide); have zc_93 := lv_neT (a := 24) c_93 (by decide); have zc_96 := lv_neT (a := 25) c_96 (by decide); have zc_100 := lv_neT (a := 26) c_100 (by decide); have zc_105 := lv_neT (a := 27) c_105 (by decide); have zc_109 := lv_neT (a := 28) c_109 (by decide); have zc_112 := lv_neT (a := 29) c_112 (by decide); have zc_115 := lv_neT (a := 30) c_115 (by decide); have zc_117 := lv_neT (a := 31) c_117 (by decide); have zc_120 := lv_neT (a := 32) c_120 (by decide); have zc_124 := lv_neT (a := 33) c_124 (by decide); have zc_130 := lv_neT (a := 34) c_130 (by decide); have zc_133 := lv_neT (a := 35) c_133 (by decide); have zc_136 := lv_neT (a := 36) c_136 (by decide); omega) (by decide) ?_
      exact bL_law_1277 C hX hbl hbA hbase hRm ho hk_18 mk_18 k_x1 k_x2 hkl hW hZ _ (lv_sub hl [0, 1, 2, 3] rfl) hE
set_option maxRecDepth 20000 in
theorem bL_law_15 {p : Program} {l : Launch} {e : Env} {s : State} {m : MethodId} {below : List Frame} {meth : Method} {c : Code} {X : Ec} {h0 : Hp} {o : Int32 × Hp} {F : Nat} {mn : String} {b L : Nat} {xs : Nat → Int32} (C : Cx X p s m #[Value.ref b] meth c RL code 4 ret mn) (hX : va_X b L xs s s.heap) (hbl : b < s.heap.size) (hbA : ¬ aA (eB X) b) (hbase : eB X = s.heap.size) (hRm : hS o.2 - hS h0 ≤ room_1.cells ∧ hL o.2 - hL h0 ≤ room_1.slots) (ho : o.1 = 1) {h : Hp} {x1 : Nat} {t0 : Nat} {H : Heap} {locs : List Loc} (k_x1 : hK h x1 = 11) (k_t0 : hK h t0 = 15) (hkl : Kl h0 h) (hW : Wx X h H) (hZ : va_S (aA (eB X)) s.heap H locs) (ls : Array Slot) (hl : lv_has ls 4 [(0, .ref b), (1, .ref x1)]) (hE : sL_law_15 F L xs h x1 t0 = some o) : W p l e room_1 s m #[Value.ref b] below meth c H locs (hS h - hS h0) (hL h - hL h0) (lw_Z below #[Value.ref b] s) (F0 m 15 ls [.ref t0]) := by
  refine lv_astore_n (lv' := [(2, .ref t0), (0, .ref b), (1, .ref x1)]) C.1 C.2.1 dL_law_15 rfl hl (by decide) rfl (fun ls hl => ?_)
  refine lv_iconst (v := (0 : Int32)) C.1 C.2.1 dL_law_16 (by decide) ?_
  refine lv_istore_n (lv' := [(3, .int (0 : Int32)), (2, .ref t0), (0, .ref b), (1, .ref x1)]) C.1 C.2.1 dL_law_17 rfl hl (by decide) rfl (fun ls hl => ?_)
  exact bL_law_18 C hX hbl hbA hbase hRm ho F k_x1 k_t0 hkl hW hZ _ (lv_sub hl [2, 3, 1, 0] rfl) hE
set_option maxRecDepth 20000 in
theorem bL_law_11 {p : Program} {l : Launch} {e : Env} {s : State} {m : MethodId} {below : List Frame} {meth : Method} {c : Code} {X : Ec} {h0 : Hp} {o : Int32 × Hp} {F : Nat} {mn : String} {b L : Nat} {xs : Nat → Int32} (C : Cx X p s m #[Value.ref b] meth c RL code 4 ret mn) (hX : va_X b L xs s s.heap) (hbl : b < s.heap.size) (hbA : ¬ aA (eB X) b) (hbase : eB X = s.heap.size) (hRm : hS o.2 - hS h0 ≤ room_1.cells ∧ hL o.2 - hL h0 ≤ room_1.slots) (ho : o.1 = 1) {h : Hp} {x1 : Nat} {t0 : Nat} {H : Heap} {locs : List Loc} (k_x1 : hK h x1 = 11) (k_t0 : hK h t0 = 15) (hkl : Kl h0 h) (hW : Wx X h H) (hZ : va_S (aA (eB X)) s.heap H locs) (ls : Array Slot) (hl : lv_has ls 4 [(0, .ref b), (1, .ref x1)]) (hE : sL_law_11 F L xs h x1 t0 = some o) : W p l e room_1 s m #[Value.ref b] below meth c H locs (hS h - hS h0) (hL h - hL h0) (lw_Z below #[Value.ref b] s) (F0 m 11 ls [.ref t0]) := by
  refine lv_dup C.1 C.2.1 dL_law_11 rfl ?_
  obtain ⟨o_1, eo_1, hE⟩ := cl_e hE
  have m1 := moX15_init eo_1
  have m2 := moL_law_15 hE
  refine x_kVA (o := o_1) hkl (z_runI (As := []) (rest := [.ref t0]) C (ct_X15_init l X F k_t0 eo_1) ci_L_12 hW hZ rfl hl.1 (Nat.le_of_ble_eq_true rfl) rfl dL_law_12 ⟨Nat.le_of_ble_eq_true rfl, Nat.le_of_ble_eq_true rfl⟩ ⟨Nat.le_trans (rm_ok hkl m1 m2).1 hRm.1, Nat.le_trans (rm_ok hkl m1 m2).2 hRm.2⟩) hZ (fun _ _ hW km hZ => ?_)
  replace hkl := hkl.tr km
  replace k_x1 := km.at k_x1 (by decide)
  replace k_t0 := km.at k_t0 (by decide)
  exact bL_law_15 C hX hbl hbA hbase hRm ho k_x1 k_t0 hkl hW hZ _ (lv_sub hl [0, 1] rfl) hE
set_option maxRecDepth 20000 in
theorem bL_law_7 {p : Program} {l : Launch} {e : Env} {s : State} {m : MethodId} {below : List Frame} {meth : Method} {c : Code} {X : Ec} {h0 : Hp} {o : Int32 × Hp} {F : Nat} {mn : String} {b L : Nat} {xs : Nat → Int32} (C : Cx X p s m #[Value.ref b] meth c RL code 4 ret mn) (hX : va_X b L xs s s.heap) (hbl : b < s.heap.size) (hbA : ¬ aA (eB X) b) (hbase : eB X = s.heap.size) (hRm : hS o.2 - hS h0 ≤ room_1.cells ∧ hL o.2 - hL h0 ≤ room_1.slots) (ho : o.1 = 1) {h : Hp} {t0 : Nat} {H : Heap} {locs : List Loc} (k_t0 : hK h t0 = 11) (hkl : Kl h0 h) (hW : Wx X h H) (hZ : va_S (aA (eB X)) s.heap H locs) (ls : Array Slot) (hl : lv_has ls 4 [(0, .ref b)]) (hE : sL_law_7 F L xs h  t0 = some o) : W p l e room_1 s m #[Value.ref b] below meth c H locs (hS h - hS h0) (hL h - hL h0) (lw_Z below #[Value.ref b] s) (F0 m 7 ls [.ref t0]) := by
  refine lv_astore_n (lv' := [(1, .ref t0), (0, .ref b)]) C.1 C.2.1 dL_law_7 rfl hl (by decide) rfl (fun ls hl => ?_)
  obtain ⟨a_1, ea_1, hE⟩ := nm_e2 hE
  obtain ⟨h_2, eh_2, hE⟩ := nm_e2 hE
  refine y_newL C hW hZ hkl (moL_law_11 hE) hRm i_X15 tyX15 tyX15_ok (by decide) rfl rfl dv_X15 m_1794 m_1795 m_19 eh_2 dL_law_8 (fun _ hW km k_a_1 hZ => ?_)
  replace hkl := hkl.tr km
  refine x_nmA ea_1 ?_
  rw [← ea_1] at k_a_1
  replace k_t0 := km.at k_t0 (by decide)
  exact bL_law_11 C hX hbl hbA hbase hRm ho k_t0 k_a_1 hkl hW hZ _ (lv_sub hl [1, 0] rfl) hE
set_option maxRecDepth 20000 in
theorem bL_law_3 {p : Program} {l : Launch} {e : Env} {s : State} {m : MethodId} {below : List Frame} {meth : Method} {c : Code} {X : Ec} {h0 : Hp} {o : Int32 × Hp} {F : Nat} {mn : String} {b L : Nat} {xs : Nat → Int32} (C : Cx X p s m #[Value.ref b] meth c RL code 4 ret mn) (hX : va_X b L xs s s.heap) (hbl : b < s.heap.size) (hbA : ¬ aA (eB X) b) (hbase : eB X = s.heap.size) (hRm : hS o.2 - hS h0 ≤ room_1.cells ∧ hL o.2 - hL h0 ≤ room_1.slots) (ho : o.1 = 1) {h : Hp} {t0 : Nat} {H : Heap} {locs : List Loc} (k_t0 : hK h t0 = 11) (hkl : Kl h0 h) (hW : Wx X h H) (hZ : va_S (aA (eB X)) s.heap H locs) (ls : Array Slot) (hl : lv_has ls 4 [(0, .ref b)]) (hE : sL_law_3 F L xs h  t0 = some o) : W p l e room_1 s m #[Value.ref b] below meth c H locs (hS h - hS h0) (hL h - hL h0) (lw_Z below #[Value.ref b] s) (F0 m 3 ls [.ref t0]) := by
  refine lv_dup C.1 C.2.1 dL_law_3 rfl ?_
  obtain ⟨o_1, eo_1, hE⟩ := cl_e hE
  have m1 := moX11_init eo_1
  have m2 := moL_law_7 hE
  refine x_kVA (o := o_1) hkl (z_runI (As := []) (rest := [.ref t0]) C (ct_X11_init l X F k_t0 eo_1) ci_L_9 hW hZ rfl hl.1 (Nat.le_of_ble_eq_true rfl) rfl dL_law_4 ⟨Nat.le_of_ble_eq_true rfl, Nat.le_of_ble_eq_true rfl⟩ ⟨Nat.le_trans (rm_ok hkl m1 m2).1 hRm.1, Nat.le_trans (rm_ok hkl m1 m2).2 hRm.2⟩) hZ (fun _ _ hW km hZ => ?_)
  replace hkl := hkl.tr km
  replace k_t0 := km.at k_t0 (by decide)
  exact bL_law_7 C hX hbl hbA hbase hRm ho k_t0 hkl hW hZ _ (lv_sub hl [0] rfl) hE
set_option maxRecDepth 20000 in
theorem bL_law {p : Program} {l : Launch} {e : Env} {s : State} {m : MethodId} {below : List Frame} {meth : Method} {c : Code} {X : Ec} {h0 : Hp} {o : Int32 × Hp} {F : Nat} {mn : String} {b L : Nat} {xs : Nat → Int32} (C : Cx X p s m #[Value.ref b] meth c RL code 4 ret mn) (hX : va_X b L xs s s.heap) (hbl : b < s.heap.size) (hbA : ¬ aA (eB X) b) (hbase : eB X = s.heap.size) (hRm : hS o.2 - hS h0 ≤ room_1.cells ∧ hL o.2 - hL h0 ≤ room_1.slots) (ho : o.1 = 1) {h : Hp} {H : Heap} {locs : List Loc} (hkl : Kl h0 h) (hW : Wx X h H) (hZ : va_S (aA (eB X)) s.heap H locs) (ls : Array Slot) (hl : lv_has ls 4 [(0, .ref b)]) (hE : sL_law F L xs h = some o) : W p l e room_1 s m #[Value.ref b] below meth c H locs (hS h - hS h0) (hL h - hL h0) (lw_Z below #[Value.ref b] s) (F0 m 0 ls []) := by
  obtain ⟨a_1, ea_1, hE⟩ := nm_e2 hE
  obtain ⟨h_2, eh_2, hE⟩ := nm_e2 hE
  refine y_newL C hW hZ hkl (moL_law_3 hE) hRm i_X11 tyX11 tyX11_ok (by decide) rfl rfl dv_X11 m_26 m_27 m_1 eh_2 dL_law_0 (fun _ hW km k_a_1 hZ => ?_)
  replace hkl := hkl.tr km
  refine x_nmA ea_1 ?_
  rw [← ea_1] at k_a_1
  exact bL_law_3 C hX hbl hbA hbase hRm ho k_a_1 hkl hW hZ _ (lv_sub hl [0] rfl) hE

