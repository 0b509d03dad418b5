set_option maxRecDepth 100000 in
theorem m_1137 : Cond.methodLink RX5 306 yX5_collect ∈ W0 := w0_in (List.mem_append_right _ (List.mem_of_getElem? (i := 1137) rfl)) rfl
set_option maxRecDepth 100000 in
theorem m_1138 : Cond.instanceMethod yX5_collect ∈ W0 := w0_in (List.mem_append_right _ (List.mem_of_getElem? (i := 1138) rfl)) rfl
set_option maxRecDepth 100000 in
theorem m_1139 : Cond.selects RX5 yX5_collect yX5_collect ∈ W0 := w0_in (List.mem_append_right _ (List.mem_of_getElem? (i := 1139) rfl)) rfl
set_option maxRecDepth 100000 in
theorem m_1140 : Cond.code yX5_collect cX5_collect 9 (some .int) ∈ W0 := w0_in (List.mem_append_right _ (List.mem_of_getElem? (i := 1140) rfl)) rfl
section
variable {p : Program} {l : Launch} {e : Env} {R : Room} {s : State} {m : MethodId} {args : Array Value} {below : List Frame} {meth : Method} {c : Code} {H : Heap} {locs : List Loc} {cells slots : Nat} {Q : State → Prop}
variable {cc : ByteArray} {pc : Nat} {ls : Array Slot} {rest : List Value} {X : Ec} {h h1 : Hp} {nL : Nat} {rt : Option FieldType} {mn : String}
theorem gf_X5_9 {a r : Nat} (C : Cx X p s m args meth c RX5 cc nL rt mn) (hW : Wx X h H) (ha : hK h a = 5) (hr : hR h a 2 = some r) (hdg : decode cc pc = .ok (.getfield 9, 3)) (kk : hK h r = 17 → W p l e R s m args below meth c H locs cells slots Q (F0 m (pc + 3) ls (.ref r :: rest))) : W p l e R s m args below meth c H locs cells slots Q (F0 m pc ls (.ref a :: rest)) :=
  y_getr C hW ha i_X5 (by decide) rfl (by decide) m_346 rfl rfl hr hdg kk
end
theorem cw_X5_306 : cwd RX5 306 yX5_collect cX5_collect 9 (some .int) false 3 := ⟨m_1140, m_1137, m_7, ⟨m_1138, m_1139⟩, by decide, by decide, by decide +kernel⟩
theorem dX5_mayCatch_0 : decode cX5_mayCatch 0 = .ok (.aload_n 1, 1) := by decide +kernel
theorem dX5_mayCatch_1 : decode cX5_mayCatch 1 = .ok (.getfield 326, 3) := by decide +kernel
theorem dX5_mayCatch_4 : decode cX5_mayCatch 4 = .ok (.lconst 0, 1) := by decide +kernel
theorem dX5_mayCatch_5 : decode cX5_mayCatch 5 = .ok (.lcmp, 1) := by decide +kernel
theorem dX5_mayCatch_6 : decode cX5_mayCatch 6 = .ok (.ifCond .ne 7, 3) := by decide +kernel
theorem dX5_mayCatch_9 : decode cX5_mayCatch 9 = .ok (.iconst 0, 1) := by decide +kernel
theorem dX5_mayCatch_10 : decode cX5_mayCatch 10 = .ok (.goto 15, 3) := by decide +kernel
theorem dX5_mayCatch_13 : decode cX5_mayCatch 13 = .ok (.aload_n 0, 1) := by decide +kernel
theorem dX5_mayCatch_14 : decode cX5_mayCatch 14 = .ok (.aload_n 1, 1) := by decide +kernel
theorem dX5_mayCatch_15 : decode cX5_mayCatch 15 = .ok (.aload_n 0, 1) := by decide +kernel
theorem dX5_mayCatch_16 : decode cX5_mayCatch 16 = .ok (.getfield 9, 3) := by decide +kernel
theorem dX5_mayCatch_19 : decode cX5_mayCatch 19 = .ok (.sipush 4096, 3) := by decide +kernel
theorem dX5_mayCatch_22 : decode cX5_mayCatch 22 = .ok (.invokevirtual 306, 3) := by decide +kernel
theorem dX5_mayCatch_25 : decode cX5_mayCatch 25 = .ok (.istore_n 2, 1) := by decide +kernel
theorem dX5_mayCatch_26 : decode cX5_mayCatch 26 = .ok (.iconst 0, 1) := by decide +kernel
theorem dX5_mayCatch_27 : decode cX5_mayCatch 27 = .ok (.istore_n 3, 1) := by decide +kernel
theorem dX5_mayCatch_28 : decode cX5_mayCatch 28 = .ok (.iload_n 3, 1) := by decide +kernel
theorem dX5_mayCatch_29 : decode cX5_mayCatch 29 = .ok (.iload_n 2, 1) := by decide +kernel
theorem dX5_mayCatch_30 : decode cX5_mayCatch 30 = .ok (.if_icmp .ge 24, 3) := by decide +kernel
theorem dX5_mayCatch_33 : decode cX5_mayCatch 33 = .ok (.aload_n 0, 1) := by decide +kernel
theorem dX5_mayCatch_34 : decode cX5_mayCatch 34 = .ok (.getfield 9, 3) := by decide +kernel
theorem dX5_mayCatch_37 : decode cX5_mayCatch 37 = .ok (.iload_n 3, 1) := by decide +kernel
theorem dX5_mayCatch_38 : decode cX5_mayCatch 38 = .ok (.iaload, 1) := by decide +kernel
theorem dX5_mayCatch_39 : decode cX5_mayCatch 39 = .ok (.invokestatic 233, 3) := by decide +kernel
theorem dX5_mayCatch_42 : decode cX5_mayCatch 42 = .ok (.iconst 1, 1) := by decide +kernel
theorem dX5_mayCatch_43 : decode cX5_mayCatch 43 = .ok (.if_icmp .ne 5, 3) := by decide +kernel
theorem dX5_mayCatch_46 : decode cX5_mayCatch 46 = .ok (.iconst 1, 1) := by decide +kernel
theorem dX5_mayCatch_47 : decode cX5_mayCatch 47 = .ok (.ireturn, 1) := by decide +kernel
theorem dX5_mayCatch_48 : decode cX5_mayCatch 48 = .ok (.iinc 3 1, 3) := by decide +kernel
theorem dX5_mayCatch_51 : decode cX5_mayCatch 51 = .ok (.goto (-23), 3) := by decide +kernel
theorem dX5_mayCatch_54 : decode cX5_mayCatch 54 = .ok (.iconst 0, 1) := by decide +kernel
theorem dX5_mayCatch_55 : decode cX5_mayCatch 55 = .ok (.ireturn, 1) := by decide +kernel
set_option maxRecDepth 20000 in
theorem moX5_mayCatch_28 {o : Int32 × Hp} {F : Nat} : ∀ (f : Nat) {h : Hp} {x0 : Nat} {x2 : Int32} {x3 : Int32}, sX5_mayCatch_28 F f h x0 x2 x3 = some o → Le h o.2 := by
  intro f
  induction f with
  | zero =>
    intro h x0 x2 x3 hE
    rw [sX5_mayCatch_28] at hE
    cases hE
  | succ f ih =>
    intro h x0 x2 x3 hE
    rw [sX5_mayCatch_28] at hE
    have mk_28 : ∀ (h : Hp) (x0 : Nat) (x2 : Int32) (x3 : Int32), sX5_mayCatch_28 F f h x0 x2 x3 = some o → Le h o.2 := fun h x0 x2 x3 hE => ih hE
    rcases br_e hE with ⟨_, hE⟩ | ⟨_, hE⟩
    · exact le_some2 hE
    · obtain ⟨r_2, er_2, hE⟩ := cl_e hE
      obtain ⟨g_3, hE⟩ := gd_e hE
      obtain ⟨o_4, eo_4, hE⟩ := cl_e hE
      refine (moX5_kindOf eo_4).tr ?_
      rcases br_e hE with ⟨_, hE⟩ | ⟨_, hE⟩
      · exact le_some2 hE
      · obtain ⟨v_6, ev_6, hE⟩ := nm_e2 hE
        exact mk_28 _ _ _ _ hE
set_option maxRecDepth 20000 in
theorem moX5_mayCatch_25 {o : Int32 × Hp} {F : Nat} {h : Hp} {x0 : Nat} {t0 : Int32} (hE : sX5_mayCatch_25 F h x0 t0 = some o) : Le h o.2 := by
  exact moX5_mayCatch_28 _ hE
set_option maxRecDepth 20000 in
theorem moX5_mayCatch {o : Int32 × Hp} {F : Nat} {h : Hp} {x0 : Nat} {x1 : Nat} (hE : sX5_mayCatch F h x0 x1 = some o) : Le h o.2 := by
  rcases br_e hE with ⟨_, hE⟩ | ⟨_, hE⟩
  · exact moX5_mayCatch_25 hE
  · obtain ⟨r_2, er_2, hE⟩ := cl_e hE
    obtain ⟨o_3, eo_3, hE⟩ := cl_e hE
    refine (moX5_collect eo_3).tr ?_
    exact moX5_mayCatch_25 hE
set_option maxRecDepth 20000 in
theorem bX5_mayCatch_28 {p : Program} {l : Launch} {e : Env} {s : State} {m : MethodId} {args : Array Value} {below : List Frame} {meth : Method} {c : Code} {X : Ec} {h0 : Hp} {o : Int32 × Hp} {F : Nat} (C : Cx X p s m args meth c RX5 cX5_mayCatch 4 (some .boolean) "mayCatch") : ∀ (f : Nat) {h : Hp} {x0 : Nat} {x2 : Int32} {x3 : Int32} {H : Heap} {locs : List Loc} (k_x0 : hK h x0 = 5), Km h0 h → Wx X h H → va_S (aA (eB X)) s.heap H locs → ∀ (ls : Array Slot), lv_has ls 4 [(0, .ref x0), (2, .int x2), (3, .int x3)] → sX5_mayCatch_28 F f h x0 x2 x3 = some o → W p l e (rm 4 139) s m args below meth c H locs 0 0 (MQ below (QI X h0 o.1 o.2) args s 0 0 (aA (eB X))) (F0 m 28 ls []) := by
  intro f
  induction f with
  | zero =>
    intro h x0 x2 x3 H locs k_x0 hkm hW hZ ls hl hE
    rw [sX5_mayCatch_28] at hE
    cases hE
  | succ f ih =>
    intro h x0 x2 x3 H locs k_x0 hkm hW hZ ls hl hE
    rw [sX5_mayCatch_28] at hE
    have hk_28 : ∀ (h : Hp) (x0 : Nat) (x2 : Int32) (x3 : Int32) (H : Heap) (locs : List Loc), hK h x0 = 5 → Km h0 h → Wx X h H → va_S (aA (eB X)) s.heap H locs → ∀ (ls : Array Slot), lv_has ls 4 [(0, .ref x0), (2, .int x2), (3, .int x3)] → sX5_mayCatch_28 F f h x0 x2 x3 = some o → W p l e (rm 4 139) s m args below meth c H locs 0 0 (MQ below (QI X h0 o.1 o.2) args s 0 0 (aA (eB X))) (F0 m 28 ls []) := fun h x0 x2 x3 H locs k_x0 a b c ls hl hE => ih k_x0 a b c ls hl hE
    refine lv_iload_n C.1 C.2.1 dX5_mayCatch_28 rfl (lv_at hl 2 rfl) ?_
    refine lv_iload_n C.1 C.2.1 dX5_mayCatch_29 rfl (lv_at hl 1 rfl) ?_
    refine lv_icmp_ge (tgt := 54) C.1 C.2.1 dX5_mayCatch_30 (by decide) (fun c_1 => ?_) (fun c_1 => ?_)
    · have hE := br_p hE c_1
      refine lv_iconst (v := (0 : Int32)) C.1 C.2.1 dX5_mayCatch_54 (by decide) ?_
      exact x_iret C rfl (by decide) hW hZ hkm hE dX5_mayCatch_55
    · have hE := br_n hE c_1
      refine lv_aload_n C.1 C.2.1 dX5_mayCatch_33 rfl (lv_at hl 0 rfl) ?_
      obtain ⟨r_2, er_2, hE⟩ := cl_e hE
      refine gf_X5_9 C hW k_x0 er_2 dX5_mayCatch_34 (fun k_r_2 => ?_)
      refine lv_iload_n C.1 C.2.1 dX5_mayCatch_37 rfl (lv_at hl 2 rfl) ?_
      obtain ⟨g_3, hE⟩ := gd_e hE
      refine y_iald C hW k_r_2 g_3 dX5_mayCatch_38 ?_
      obtain ⟨o_4, eo_4, hE⟩ := cl_e hE
      refine x_kI (o := o_4) (z_runS (As := [.int (hI h r_2 x3.toNatClampNeg)]) (rest := []) C (ct_X5_kindOf l X eo_4) cw_X5_233 hW hZ rfl hl.1 (Nat.le_of_ble_eq_true rfl) rfl dX5_mayCatch_39 ⟨Nat.le_of_ble_eq_true rfl, Nat.le_of_ble_eq_true rfl⟩ ⟨Nat.le_refl _, Nat.le_refl _⟩) hZ (fun _ _ hW km hZ => ?_)
      replace hkm := hkm.tr km
      replace k_x0 := km.at k_x0 (by decide)
      refine lv_iconst (v := (1 : Int32)) C.1 C.2.1 dX5_mayCatch_42 (by decide) ?_
      refine lv_icmp_ne (tgt := 48) C.1 C.2.1 dX5_mayCatch_43 (by decide) (fun c_5 => ?_) (fun c_5 => ?_)
      · have hE := br_n hE c_5
        obtain ⟨v_6, ev_6, hE⟩ := nm_e2 hE
        refine lv_iinc (v := v_6) (lv' := [(3, .int v_6), (0, .ref x0), (2, .int x2)]) C.1 C.2.1 dX5_mayCatch_48 hl (k := 2) rfl (by rw [ev_6]; rfl) (by decide) rfl (fun ls hl => ?_)
        refine lv_goto (tgt := 28) C.1 C.2.1 dX5_mayCatch_51 (by decide) ?_
        exact hk_28 _ _ _ _ _ _ k_x0 hkm hW hZ _ (lv_sub hl [1, 2, 0] rfl) hE
      · have hE := br_p hE c_5
        refine lv_iconst (v := (1 : Int32)) C.1 C.2.1 dX5_mayCatch_46 (by decide) ?_
        exact x_iret C rfl (by decide) hW hZ hkm hE dX5_mayCatch_47
set_option maxRecDepth 20000 in
theorem bX5_mayCatch_25 {p : Program} {l : Launch} {e : Env} {s : State} {m : MethodId} {args : Array Value} {below : List Frame} {meth : Method} {c : Code} {X : Ec} {h0 : Hp} {o : Int32 × Hp} {F : Nat} (C : Cx X p s m args meth c RX5 cX5_mayCatch 4 (some .boolean) "mayCatch") {h : Hp} {x0 : Nat} {t0 : Int32} {H : Heap} {locs : List Loc} (k_x0 : hK h x0 = 5) (hkm : Km h0 h) (hW : Wx X h H) (hZ : va_S (aA (eB X)) s.heap H locs) (ls : Array Slot) (hl : lv_has ls 4 [(0, .ref x0)]) (hE : sX5_mayCatch_25 F h x0 t0 = some o) : W p l e (rm 4 139) s m args below meth c H locs 0 0 (MQ below (QI X h0 o.1 o.2) args s 0 0 (aA (eB X))) (F0 m 25 ls [.int t0]) := by
  refine lv_istore_n (lv' := [(2, .int t0), (0, .ref x0)]) C.1 C.2.1 dX5_mayCatch_25 rfl hl (by decide) rfl (fun ls hl => ?_)
  refine lv_iconst (v := (0 : Int32)) C.1 C.2.1 dX5_mayCatch_26 (by decide) ?_
  refine lv_istore_n (lv' := [(3, .int (0 : Int32)), (2, .int t0), (0, .ref x0)]) C.1 C.2.1 dX5_mayCatch_27 rfl hl (by decide) rfl (fun ls hl => ?_)
  exact bX5_mayCatch_28 C F k_x0 hkm hW hZ _ (lv_sub hl [2, 1, 0] rfl) hE
set_option maxRecDepth 20000 in
theorem ct_X5_mayCatch (l : Launch) (X : Ec) (F : Nat) {h : Hp} {x0 : Nat} {x1 : Nat} {o : Int32 × Hp} (k_x0 : hK h x0 = 5) (k_x1 : hK h x1 = 3) (hE : sX5_mayCatch F h x0 x1 = some o) : MetI l yX5_mayCatch cX5_mayCatch 4 (some .boolean) 4 139 X [.ref x0, .ref x1] h o := by
  refine x_met (by decide) (Nat.le_of_ble_eq_true rfl) ?_
  intro p e s m below meth c ls C hl hW hZ
  have hl : lv_has ls 4 [(0, .ref x0), (1, .ref x1)] := hl
  have hkm : Km h h := Km.rf h
  refine lv_aload_n C.1 C.2.1 dX5_mayCatch_0 rfl (lv_at hl 1 rfl) ?_
  refine gf_X5_326 C hW k_x1 dX5_mayCatch_1 ?_
  refine lv_lconst (v := (0 : Int64)) C.1 C.2.1 dX5_mayCatch_4 (by decide) ?_
  refine W.lcmp C.1 C.2.1 dX5_mayCatch_5 ?_
  refine lv_if_ne (tgt := 13) C.1 C.2.1 dX5_mayCatch_6 (by decide) (fun c_1 => ?_) (fun c_1 => ?_)
  · have hE := br_n hE c_1
    refine lv_aload_n C.1 C.2.1 dX5_mayCatch_13 rfl (lv_at hl 0 rfl) ?_
    refine lv_aload_n C.1 C.2.1 dX5_mayCatch_14 rfl (lv_at hl 1 rfl) ?_
    refine lv_aload_n C.1 C.2.1 dX5_mayCatch_15 rfl (lv_at hl 0 rfl) ?_
    obtain ⟨r_2, er_2, hE⟩ := cl_e hE
    refine gf_X5_9 C hW k_x0 er_2 dX5_mayCatch_16 (fun k_r_2 => ?_)
    refine lv_sipush (v := (4096 : Int32)) C.1 C.2.1 dX5_mayCatch_19 (by decide) ?_
    obtain ⟨o_3, eo_3, hE⟩ := cl_e hE
    refine x_kI (o := o_3) (z_runV (As := [.ref x1, .ref r_2, .int (4096 : Int32)]) (rest := []) C (ct_X5_collect l X F k_x0 k_x1 k_r_2 eo_3) cw_X5_306 hW hZ k_x0 (by decide) rfl rfl rfl hl.1 (Nat.le_of_ble_eq_true rfl) rfl dX5_mayCatch_22 ⟨Nat.le_of_ble_eq_true rfl, Nat.le_of_ble_eq_true rfl⟩ ⟨Nat.le_refl _, Nat.le_refl _⟩) hZ (fun _ _ hW km hZ => ?_)
    replace hkm := hkm.tr km
    replace k_x0 := km.at k_x0 (by decide)
    replace k_x1 := km.at k_x1 (by decide)
    exact bX5_mayCatch_25 C k_x0 hkm hW hZ _ (lv_sub hl [0] rfl) hE
  · have hE := br_p hE c_1
    refine lv_iconst (v := (0 : Int32)) C.1 C.2.1 dX5_mayCatch_9 (by decide) ?_
    refine lv_goto (tgt := 25) C.1 C.2.1 dX5_mayCatch_10 (by decide) ?_
    exact bX5_mayCatch_25 C k_x0 hkm hW hZ _ (lv_sub hl [0] rfl) hE
set_option maxRecDepth 100000 in
theorem ms_48 : Cond.selects RX5 yX5_mayCatch yX5_mayCatch ∈ W0 := w0_in (List.mem_append_left _ (List.mem_of_getElem? (i := 48) rfl)) rfl
set_option maxRecDepth 100000 in
theorem m_1133 : Cond.methodLink RX5 342 yX5_mayCatch ∈ W0 := w0_in (List.mem_append_right _ (List.mem_of_getElem? (i := 1133) rfl)) rfl
set_option maxRecDepth 100000 in
theorem m_1135 : Cond.instanceMethod yX5_mayCatch ∈ W0 := w0_in (List.mem_append_right _ (List.mem_of_getElem? (i := 1135) rfl)) rfl
set_option maxRecDepth 100000 in
theorem m_1136 : Cond.code yX5_mayCatch cX5_mayCatch 4 (some .boolean) ∈ W0 := w0_in (List.mem_append_right _ (List.mem_of_getElem? (i := 1136) rfl)) rfl
theorem cw_X5_342 : cwd RX5 342 yX5_mayCatch cX5_mayCatch 4 (some .boolean) false 1 := ⟨m_1136, m_1133, m_7, ⟨m_1135, ms_48⟩, by decide, by decide, by decide +kernel⟩
theorem dX5_areAlike_0 : decode cX5_areAlike 0 = .ok (.aload_n 1, 1) := by decide +kernel
theorem dX5_areAlike_1 : decode cX5_areAlike 1 = .ok (.getfield 78, 3) := by decide +kernel
theorem dX5_areAlike_4 : decode cX5_areAlike 4 = .ok (.aload_n 2, 1) := by decide +kernel
theorem dX5_areAlike_5 : decode cX5_areAlike 5 = .ok (.getfield 78, 3) := by decide +kernel
theorem dX5_areAlike_8 : decode cX5_areAlike 8 = .ok (.if_icmp .ne 15, 3) := by decide +kernel
theorem dX5_areAlike_11 : decode cX5_areAlike 11 = .ok (.aload_n 1, 1) := by decide +kernel
theorem dX5_areAlike_12 : decode cX5_areAlike 12 = .ok (.getfield 93, 3) := by decide +kernel
theorem dX5_areAlike_15 : decode cX5_areAlike 15 = .ok (.aload_n 2, 1) := by decide +kernel
theorem dX5_areAlike_16 : decode cX5_areAlike 16 = .ok (.getfield 93, 3) := by decide +kernel
theorem dX5_areAlike_19 : decode cX5_areAlike 19 = .ok (.lcmp, 1) := by decide +kernel
theorem dX5_areAlike_20 : decode cX5_areAlike 20 = .ok (.ifCond .eq 5, 3) := by decide +kernel
theorem dX5_areAlike_23 : decode cX5_areAlike 23 = .ok (.iconst 0, 1) := by decide +kernel
theorem dX5_areAlike_24 : decode cX5_areAlike 24 = .ok (.ireturn, 1) := by decide +kernel
theorem dX5_areAlike_25 : decode cX5_areAlike 25 = .ok (.iconst 0, 1) := by decide +kernel
theorem dX5_areAlike_26 : decode cX5_areAlike 26 = .ok (.istore_n 3, 1) := by decide +kernel
theorem dX5_areAlike_27 : decode cX5_areAlike 27 = .ok (.iload_n 3, 1) := by decide +kernel
theorem dX5_areAlike_28 : decode cX5_areAlike 28 = .ok (.iconst 2, 1) := by decide +kernel
theorem dX5_areAlike_29 : decode cX5_areAlike 29 = .ok (.if_icmp .ge 58, 3) := by decide +kernel
theorem dX5_areAlike_32 : decode cX5_areAlike 32 = .ok (.aload_n 1, 1) := by decide +kernel
theorem dX5_areAlike_33 : decode cX5_areAlike 33 = .ok (.getfield 33, 3) := by decide +kernel
theorem dX5_areAlike_36 : decode cX5_areAlike 36 = .ok (.iload_n 3, 1) := by decide +kernel
theorem dX5_areAlike_37 : decode cX5_areAlike 37 = .ok (.laload, 1) := by decide +kernel
theorem dX5_areAlike_38 : decode cX5_areAlike 38 = .ok (.aload_n 2, 1) := by decide +kernel
theorem dX5_areAlike_39 : decode cX5_areAlike 39 = .ok (.getfield 33, 3) := by decide +kernel
theorem dX5_areAlike_42 : decode cX5_areAlike 42 = .ok (.iload_n 3, 1) := by decide +kernel
theorem dX5_areAlike_43 : decode cX5_areAlike 43 = .ok (.laload, 1) := by decide +kernel
theorem dX5_areAlike_44 : decode cX5_areAlike 44 = .ok (.lcmp, 1) := by decide +kernel
theorem dX5_areAlike_45 : decode cX5_areAlike 45 = .ok (.ifCond .ne 34, 3) := by decide +kernel
theorem dX5_areAlike_48 : decode cX5_areAlike 48 = .ok (.aload_n 1, 1) := by decide +kernel
theorem dX5_areAlike_49 : decode cX5_areAlike 49 = .ok (.getfield 303, 3) := by decide +kernel
theorem dX5_areAlike_52 : decode cX5_areAlike 52 = .ok (.iload_n 3, 1) := by decide +kernel
theorem dX5_areAlike_53 : decode cX5_areAlike 53 = .ok (.laload, 1) := by decide +kernel
theorem dX5_areAlike_54 : decode cX5_areAlike 54 = .ok (.aload_n 2, 1) := by decide +kernel
theorem dX5_areAlike_55 : decode cX5_areAlike 55 = .ok (.getfield 303, 3) := by decide +kernel
theorem dX5_areAlike_58 : decode cX5_areAlike 58 = .ok (.iload_n 3, 1) := by decide +kernel
theorem dX5_areAlike_59 : decode cX5_areAlike 59 = .ok (.laload, 1) := by decide +kernel
theorem dX5_areAlike_60 : decode cX5_areAlike 60 = .ok (.lcmp, 1) := by decide +kernel
theorem dX5_areAlike_61 : decode cX5_areAlike 61 = .ok (.ifCond .ne 18, 3) := by decide +kernel
theorem dX5_areAlike_64 : decode cX5_areAlike 64 = .ok (.aload_n 1, 1) := by decide +kernel
theorem dX5_areAlike_65 : decode cX5_areAlike 65 = .ok (.getfield 283, 3) := by decide +kernel
theorem dX5_areAlike_68 : decode cX5_areAlike 68 = .ok (.iload_n 3, 1) := by decide +kernel
theorem dX5_areAlike_69 : decode cX5_areAlike 69 = .ok (.iaload, 1) := by decide +kernel
theorem dX5_areAlike_70 : decode cX5_areAlike 70 = .ok (.aload_n 2, 1) := by decide +kernel
theorem dX5_areAlike_71 : decode cX5_areAlike 71 = .ok (.getfield 283, 3) := by decide +kernel
theorem dX5_areAlike_74 : decode cX5_areAlike 74 = .ok (.iload_n 3, 1) := by decide +kernel
theorem dX5_areAlike_75 : decode cX5_areAlike 75 = .ok (.iaload, 1) := by decide +kernel
theorem dX5_areAlike_76 : decode cX5_areAlike 76 = .ok (.if_icmp .eq 5, 3) := by decide +kernel
theorem dX5_areAlike_79 : decode cX5_areAlike 79 = .ok (.iconst 0, 1) := by decide +kernel
theorem dX5_areAlike_80 : decode cX5_areAlike 80 = .ok (.ireturn, 1) := by decide +kernel
theorem dX5_areAlike_81 : decode cX5_areAlike 81 = .ok (.iinc 3 1, 3) := by decide +kernel
theorem dX5_areAlike_84 : decode cX5_areAlike 84 = .ok (.goto (-57), 3) := by decide +kernel
theorem dX5_areAlike_87 : decode cX5_areAlike 87 = .ok (.iconst 0, 1) := by decide +kernel
theorem dX5_areAlike_88 : decode cX5_areAlike 88 = .ok (.istore_n 3, 1) := by decide +kernel
theorem dX5_areAlike_89 : decode cX5_areAlike 89 = .ok (.iload_n 3, 1) := by decide +kernel
theorem dX5_areAlike_90 : decode cX5_areAlike 90 = .ok (.aload_n 0, 1) := by decide +kernel
theorem dX5_areAlike_91 : decode cX5_areAlike 91 = .ok (.getfield 22, 3) := by decide +kernel
theorem dX5_areAlike_94 : decode cX5_areAlike 94 = .ok (.getfield 110, 3) := by decide +kernel
theorem dX5_areAlike_97 : decode cX5_areAlike 97 = .ok (.if_icmp .ge 26, 3) := by decide +kernel
theorem dX5_areAlike_100 : decode cX5_areAlike 100 = .ok (.aload_n 1, 1) := by decide +kernel
theorem dX5_areAlike_101 : decode cX5_areAlike 101 = .ok (.getfield 42, 3) := by decide +kernel
theorem dX5_areAlike_104 : decode cX5_areAlike 104 = .ok (.iload_n 3, 1) := by decide +kernel
theorem dX5_areAlike_105 : decode cX5_areAlike 105 = .ok (.baload, 1) := by decide +kernel
theorem dX5_areAlike_106 : decode cX5_areAlike 106 = .ok (.aload_n 2, 1) := by decide +kernel
theorem dX5_areAlike_107 : decode cX5_areAlike 107 = .ok (.getfield 42, 3) := by decide +kernel
theorem dX5_areAlike_110 : decode cX5_areAlike 110 = .ok (.iload_n 3, 1) := by decide +kernel
theorem dX5_areAlike_111 : decode cX5_areAlike 111 = .ok (.baload, 1) := by decide +kernel
theorem dX5_areAlike_112 : decode cX5_areAlike 112 = .ok (.if_icmp .eq 5, 3) := by decide +kernel
theorem dX5_areAlike_115 : decode cX5_areAlike 115 = .ok (.iconst 0, 1) := by decide +kernel
theorem dX5_areAlike_116 : decode cX5_areAlike 116 = .ok (.ireturn, 1) := by decide +kernel
theorem dX5_areAlike_117 : decode cX5_areAlike 117 = .ok (.iinc 3 1, 3) := by decide +kernel
theorem dX5_areAlike_120 : decode cX5_areAlike 120 = .ok (.goto (-31), 3) := by decide +kernel
theorem dX5_areAlike_123 : decode cX5_areAlike 123 = .ok (.aload_n 1, 1) := by decide +kernel
theorem dX5_areAlike_124 : decode cX5_areAlike 124 = .ok (.getfield 326, 3) := by decide +kernel
theorem dX5_areAlike_127 : decode cX5_areAlike 127 = .ok (.aload_n 2, 1) := by decide +kernel
theorem dX5_areAlike_128 : decode cX5_areAlike 128 = .ok (.getfield 326, 3) := by decide +kernel
theorem dX5_areAlike_131 : decode cX5_areAlike 131 = .ok (.lcmp, 1) := by decide +kernel
theorem dX5_areAlike_132 : decode cX5_areAlike 132 = .ok (.ifCond .eq 19, 3) := by decide +kernel
theorem dX5_areAlike_135 : decode cX5_areAlike 135 = .ok (.aload_n 0, 1) := by decide +kernel
theorem dX5_areAlike_136 : decode cX5_areAlike 136 = .ok (.aload_n 1, 1) := by decide +kernel
theorem dX5_areAlike_137 : decode cX5_areAlike 137 = .ok (.invokevirtual 342, 3) := by decide +kernel
theorem dX5_areAlike_140 : decode cX5_areAlike 140 = .ok (.ifCond .ne 15, 3) := by decide +kernel
theorem dX5_areAlike_143 : decode cX5_areAlike 143 = .ok (.aload_n 0, 1) := by decide +kernel
theorem dX5_areAlike_144 : decode cX5_areAlike 144 = .ok (.aload_n 2, 1) := by decide +kernel
theorem dX5_areAlike_145 : decode cX5_areAlike 145 = .ok (.invokevirtual 342, 3) := by decide +kernel
theorem dX5_areAlike_148 : decode cX5_areAlike 148 = .ok (.ifCond .ne 7, 3) := by decide +kernel
theorem dX5_areAlike_151 : decode cX5_areAlike 151 = .ok (.iconst 1, 1) := by decide +kernel
theorem dX5_areAlike_152 : decode cX5_areAlike 152 = .ok (.goto 4, 3) := by decide +kernel
theorem dX5_areAlike_155 : decode cX5_areAlike 155 = .ok (.iconst 0, 1) := by decide +kernel
theorem dX5_areAlike_156 : decode cX5_areAlike 156 = .ok (.ireturn, 1) := by decide +kernel
set_option maxRecDepth 20000 in
theorem moX5_areAlike_23 {o : Int32 × Hp} {F : Nat} {h : Hp} (hE : sX5_areAlike_23 F h  = some o) : Le h o.2 := by
  exact le_some2 hE
set_option maxRecDepth 20000 in
theorem moX5_areAlike_156 {o : Int32 × Hp} {F : Nat} {h : Hp} {t0 : Int32} (hE : sX5_areAlike_156 F h  t0 = some o) : Le h o.2 := by
  obtain ⟨g_1, hE⟩ := gd_e hE
  exact le_some2 hE
set_option maxRecDepth 20000 in
theorem moX5_areAlike_151 {o : Int32 × Hp} {F : Nat} {h : Hp} (hE : sX5_areAlike_151 F h  = some o) : Le h o.2 := by
  exact moX5_areAlike_156 hE
set_option maxRecDepth 20000 in
theorem moX5_areAlike_155 {o : Int32 × Hp} {F : Nat} {h : Hp} (hE : sX5_areAlike_155 F h  = some o) : Le h o.2 := by
  exact moX5_areAlike_156 hE
set_option maxRecDepth 20000 in
theorem moX5_areAlike_89 {o : Int32 × Hp} {F : Nat} : ∀ (f : Nat) {h : Hp} {x0 : Nat} {x1 : Nat} {x2 : Nat} {x3 : Int32}, sX5_areAlike_89 F f h x0 x1 x2 x3 = some o → Le h o.2 := by
  intro f
  induction f with
  | zero =>
    intro h x0 x1 x2 x3 hE
    rw [sX5_areAlike_89] at hE
    cases hE
  | succ f ih =>
    intro h x0 x1 x2 x3 hE
    rw [sX5_areAlike_89] at hE
    have mk_89 : ∀ (h : Hp) (x0 : Nat) (x1 : Nat) (x2 : Nat) (x3 : Int32), sX5_areAlike_89 F f h x0 x1 x2 x3 = some o → Le h o.2 := fun h x0 x1 x2 x3 hE => ih hE
    obtain ⟨r_1, er_1, hE⟩ := cl_e hE
    rcases br_e hE with ⟨_, hE⟩ | ⟨_, hE⟩
    · rcases br_e hE with ⟨_, hE⟩ | ⟨_, hE⟩
      · exact moX5_areAlike_151 hE
      · obtain ⟨o_4, eo_4, hE⟩ := cl_e hE
        refine (moX5_mayCatch eo_4).tr ?_
        rcases br_e hE with ⟨_, hE⟩ | ⟨_, hE⟩
        · obtain ⟨o_6, eo_6, hE⟩ := cl_e hE
          refine (moX5_mayCatch eo_6).tr ?_
          rcases br_e hE with ⟨_, hE⟩ | ⟨_, hE⟩
          · exact moX5_areAlike_151 hE
          · exact moX5_areAlike_155 hE
        · exact moX5_areAlike_155 hE
    · obtain ⟨r_8, er_8, hE⟩ := cl_e hE
      obtain ⟨g_9, hE⟩ := gd_e hE
      obtain ⟨r_10, er_10, hE⟩ := cl_e hE
      obtain ⟨g_11, hE⟩ := gd_e hE
      rcases br_e hE with ⟨_, hE⟩ | ⟨_, hE⟩
      · obtain ⟨v_13, ev_13, hE⟩ := nm_e2 hE
        exact mk_89 _ _ _ _ _ hE
      · exact le_some2 hE
set_option maxRecDepth 20000 in
theorem moX5_areAlike_79 {o : Int32 × Hp} {F : Nat} {h : Hp} (hE : sX5_areAlike_79 F h  = some o) : Le h o.2 := by
  exact le_some2 hE
set_option maxRecDepth 20000 in
theorem moX5_areAlike_27 {o : Int32 × Hp} {F : Nat} : ∀ (f : Nat) {h : Hp} {x0 : Nat} {x1 : Nat} {x2 : Nat} {x3 : Int32}, sX5_areAlike_27 F f h x0 x1 x2 x3 = some o → Le h o.2 := by
  intro f
  induction f with
  | zero =>
    intro h x0 x1 x2 x3 hE
    rw [sX5_areAlike_27] at hE
    cases hE
  | succ f ih =>
    intro h x0 x1 x2 x3 hE
    rw [sX5_areAlike_27] at hE
    have mk_27 : ∀ (h : Hp) (x0 : Nat) (x1 : Nat) (x2 : Nat) (x3 : Int32), sX5_areAlike_27 F f h x0 x1 x2 x3 = some o → Le h o.2 := fun h x0 x1 x2 x3 hE => ih hE
    rcases br_e hE with ⟨_, hE⟩ | ⟨_, hE⟩
    · exact moX5_areAlike_89 _ hE
    · obtain ⟨r_2, er_2, hE⟩ := cl_e hE
      obtain ⟨g_3, hE⟩ := gd_e hE
      obtain ⟨r_4, er_4, hE⟩ := cl_e hE
      obtain ⟨g_5, hE⟩ := gd_e hE
      rcases br_e hE with ⟨_, hE⟩ | ⟨_, hE⟩
      · obtain ⟨r_7, er_7, hE⟩ := cl_e hE
        obtain ⟨g_8, hE⟩ := gd_e hE
        obtain ⟨r_9, er_9, hE⟩ := cl_e hE
        obtain ⟨g_10, hE⟩ := gd_e hE
        rcases br_e hE with ⟨_, hE⟩ | ⟨_, hE⟩
        · obtain ⟨r_12, er_12, hE⟩ := cl_e hE
          obtain ⟨g_13, hE⟩ := gd_e hE
          obtain ⟨r_14, er_14, hE⟩ := cl_e hE
          obtain ⟨g_15, hE⟩ := gd_e hE
          rcases br_e hE with ⟨_, hE⟩ | ⟨_, hE⟩
          · obtain ⟨v_17, ev_17, hE⟩ := nm_e2 hE
            exact mk_27 _ _ _ _ _ hE
          · exact moX5_areAlike_79 hE
        · exact moX5_areAlike_79 hE
      · exact moX5_areAlike_79 hE
set_option maxRecDepth 20000 in
theorem moX5_areAlike {o : Int32 × Hp} {F : Nat} {h : Hp} {x0 : Nat} {x1 : Nat} {x2 : Nat} (hE : sX5_areAlike F h x0 x1 x2 = some o) : Le h o.2 := by
  rcases br_e hE with ⟨_, hE⟩ | ⟨_, hE⟩
  · rcases br_e hE with ⟨_, hE⟩ | ⟨_, hE⟩
    · exact moX5_areAlike_27 _ hE
    · exact moX5_areAlike_23 hE
  · exact moX5_areAlike_23 hE
set_option maxRecDepth 20000 in
theorem bX5_areAlike_23 {p : Program} {l : Launch} {e : Env} {s : State} {m : MethodId} {args : Array Value} {below : List Frame} {meth : Method} {c : Code} {X : Ec} {h0 : Hp} {o : Int32 × Hp} {F : Nat} (C : Cx X p s m args meth c RX5 cX5_areAlike 4 (some .boolean) "areAlike") {h : Hp} {H : Heap} {locs : List Loc} (hkm : Km h0 h) (hW : Wx X h H) (hZ : va_S (aA (eB X)) s.heap H locs) (ls : Array Slot) (hl : lv_has ls 4 []) (hE : sX5_areAlike_23 F h  = some o) : W p l e (rm 5 162) s m args below meth c H locs 0 0 (MQ below (QI X h0 o.1 o.2) args s 0 0 (aA (eB X))) (F0 m 23 ls []) := by
  refine lv_iconst (v := (0 : Int32)) C.1 C.2.1 dX5_areAlike_23 (by decide) ?_
  exact x_iret C rfl (by decide) hW hZ hkm hE dX5_areAlike_24
set_option maxRecDepth 20000 in
theorem bX5_areAlike_156 {p : Program} {l : Launch} {e : Env} {s : State} {m : MethodId} {args : Array Value} {below : List Frame} {meth : Method} {c : Code} {X : Ec} {h0 : Hp} {o : Int32 × Hp} {F : Nat} (C : Cx X p s m args meth c RX5 cX5_areAlike 4 (some .boolean) "areAlike") {h : Hp} {t0 : Int32} {H : Heap} {locs : List Loc} (hkm : Km h0 h) (hW : Wx X h H) (hZ : va_S (aA (eB X)) s.heap H locs) (ls : Array Slot) (hl : lv_has ls 4 []) (hE : sX5_areAlike_156 F h  t0 = some o) : W p l e (rm 5 162) s m args below meth c H locs 0 0 (MQ below (QI X h0 o.1 o.2) args s 0 0 (aA (eB X))) (F0 m 156 ls [.int t0]) := by
  obtain ⟨g_1, hE⟩ := gd_e hE
  exact x_iret C rfl (narB g_1) hW hZ hkm hE dX5_areAlike_156
set_option maxRecDepth 20000 in
theorem bX5_areAlike_151 {p : Program} {l : Launch} {e : Env} {s : State} {m : MethodId} {args : Array Value} {below : List Frame} {meth : Method} {c : Code} {X : Ec} {h0 : Hp} {o : Int32 × Hp} {F : Nat} (C : Cx X p s m args meth c RX5 cX5_areAlike 4 (some .boolean) "areAlike") {h : Hp} {H : Heap} {locs : List Loc} (hkm : Km h0 h) (hW : Wx X h H) (hZ : va_S (aA (eB X)) s.heap H locs) (ls : Array Slot) (hl : lv_has ls 4 []) (hE : sX5_areAlike_151 F h  = some o) : W p l e (rm 5 162) s m args below meth c H locs 0 0 (MQ below (QI X h0 o.1 o.2) args s 0 0 (aA (eB X))) (F0 m 151 ls []) := by
  refine lv_iconst (v := (1 : Int32)) C.1 C.2.1 dX5_areAlike_151 (by decide) ?_
  refine lv_goto (tgt := 156) C.1 C.2.1 dX5_areAlike_152 (by decide) ?_
  exact bX5_areAlike_156 C hkm hW hZ _ (lv_sub hl [] rfl) hE
set_option maxRecDepth 20000 in
theorem bX5_areAlike_155 {p : Program} {l : Launch} {e : Env} {s : State} {m : MethodId} {args : Array Value} {below : List Frame} {meth : Method} {c : Code} {X : Ec} {h0 : Hp} {o : Int32 × Hp} {F : Nat} (C : Cx X p s m args meth c RX5 cX5_areAlike 4 (some .boolean) "areAlike") {h : Hp} {H : Heap} {locs : List Loc} (hkm : Km h0 h) (hW : Wx X h H) (hZ : va_S (aA (eB X)) s.heap H locs) (ls : Array Slot) (hl : lv_has ls 4 []) (hE : sX5_areAlike_155 F h  = some o) : W p l e (rm 5 162) s m args below meth c H locs 0 0 (MQ below (QI X h0 o.1 o.2) args s 0 0 (aA (eB X))) (F0 m 155 ls []) := by
  refine lv_iconst (v := (0 : Int32)) C.1 C.2.1 dX5_areAlike_155 (by decide) ?_
  exact bX5_areAlike_156 C hkm hW hZ _ (lv_sub hl [] rfl) hE
set_option maxRecDepth 20000 in
theorem bX5_areAlike_89 {p : Program} {l : Launch} {e : Env} {s : State} {m : MethodId} {args : Array Value} {below : List Frame} {meth : Method} {c : Code} {X : Ec} {h0 : Hp} {o : Int32 × Hp} {F : Nat} (C : Cx X p s m args meth c RX5 cX5_areAlike 4 (some .boolean) "areAlike") : ∀ (f : Nat) {h : Hp} {x0 : Nat} {x1 : Nat} {x2 : Nat} {x3 : Int32} {H : Heap} {locs : List Loc} (k_x0 : hK h x0 = 5) (k_x1 : hK h x1 = 3) (k_x2 : hK h x2 = 3), Km h0 h → Wx X h H → va_S (aA (eB X)) s.heap H locs → ∀ (ls : Array Slot), lv_has ls 4 [(0, .ref x0), (1, .ref x1), (2, .ref x2), (3, .int x3)] → sX5_areAlike_89 F f h x0 x1 x2 x3 = some o → W p l e (rm 5 162) s m args below meth c H locs 0 0 (MQ below (QI X h0 o.1 o.2) args s 0 0 (aA (eB X))) (F0 m 89 ls []) := by
  intro f
  induction f with
  | zero =>
    intro h x0 x1 x2 x3 H locs k_x0 k_x1 k_x2 hkm hW hZ ls hl hE
    rw [sX5_areAlike_89] at hE
    cases hE
  | succ f ih =>
    intro h x0 x1 x2 x3 H locs k_x0 k_x1 k_x2 hkm hW hZ ls hl hE
    rw [sX5_areAlike_89] at hE
    have hk_89 : ∀ (h : Hp) (x0 : Nat) (x1 : Nat) (x2 : Nat) (x3 : Int32) (H : Heap) (locs : List Loc), hK h x0 = 5 → hK h x1 = 3 → hK h x2 = 3 → Km h0 h → Wx X h H → va_S (aA (eB X)) s.heap H locs → ∀ (ls : Array Slot), lv_has ls 4 [(0, .ref x0), (1, .ref x1), (2, .ref x2), (3, .int x3)] → sX5_areAlike_89 F f h x0 x1 x2 x3 = some o → W p l e (rm 5 162) s m args below meth c H locs 0 0 (MQ below (QI X h0 o.1 o.2) args s 0 0 (aA (eB X))) (F0 m 89 ls []) := fun h x0 x1 x2 x3 H locs k_x0 k_x1 k_x2 a b c ls hl hE => ih k_x0 k_x1 k_x2 a b c ls hl hE
    refine lv_iload_n C.1 C.2.1 dX5_areAlike_89 rfl (lv_at hl 3 rfl) ?_
    refine lv_aload_n C.1 C.2.1 dX5_areAlike_90 rfl (lv_at hl 0 rfl) ?_
    obtain ⟨r_1, er_1, hE⟩ := cl_e hE
    refine gf_X5_22 C hW k_x0 er_1 dX5_areAlike_91 (fun k_r_1 => ?_)
    refine gf_X5_110 C hW k_r_1 dX5_areAlike_94 ?_
    refine lv_icmp_ge (tgt := 123) C.1 C.2.1 dX5_areAlike_97 (by decide) (fun c_2 => ?_) (fun c_2 => ?_)
    · have hE := br_p hE c_2
      refine lv_aload_n C.1 C.2.1 dX5_areAlike_123 rfl (lv_at hl 1 rfl) ?_
      refine gf_X5_326 C hW k_x1 dX5_areAlike_124 ?_
      refine lv_aload_n C.1 C.2.1 dX5_areAlike_127 rfl (lv_at hl 2 rfl) ?_
      refine gf_X5_326 C hW k_x2 dX5_areAlike_128 ?_
      refine W.lcmp C.1 C.2.1 dX5_areAlike_131 ?_
      refine lv_if_eq (tgt := 151) C.1 C.2.1 dX5_areAlike_132 (by decide) (fun c_3 => ?_) (fun c_3 => ?_)
      · have hE := br_p hE c_3
        exact bX5_areAlike_151 C hkm hW hZ _ (lv_sub hl [] rfl) hE
      · have hE := br_n hE c_3
        refine lv_aload_n C.1 C.2.1 dX5_areAlike_135 rfl (lv_at hl 0 rfl) ?_
        refine lv_aload_n C.1 C.2.1 dX5_areAlike_136 rfl (lv_at hl 1 rfl) ?_
        obtain ⟨o_4, eo_4, hE⟩ := cl_e hE
        refine x_kI (o := o_4) (z_runV (As := [.ref x1]) (rest := []) C (ct_X5_mayCatch l X F k_x0 k_x1 eo_4) cw_X5_342 hW hZ k_x0 (by decide) rfl rfl rfl hl.1 (Nat.le_of_ble_eq_true rfl) rfl dX5_areAlike_137 ⟨Nat.le_of_ble_eq_true rfl, Nat.le_of_ble_eq_true rfl⟩ ⟨Nat.le_refl _, Nat.le_refl _⟩) hZ (fun _ _ hW km hZ => ?_)
        replace hkm := hkm.tr km
        replace k_x0 := km.at k_x0 (by decide)
        replace k_x1 := km.at k_x1 (by decide)
        replace k_x2 := km.at k_x2 (by decide)
        refine lv_if_ne (tgt := 155) C.1 C.2.1 dX5_areAlike_140 (by decide) (fun c_5 => ?_) (fun c_5 => ?_)
        · have hE := br_n hE c_5
          exact bX5_areAlike_155 C hkm hW hZ _ (lv_sub hl [] rfl) hE
        · have hE := br_p hE c_5
          refine lv_aload_n C.1 C.2.1 dX5_areAlike_143 rfl (lv_at hl 0 rfl) ?_
          refine lv_aload_n C.1 C.2.1 dX5_areAlike_144 rfl (lv_at hl 2 rfl) ?_
          obtain ⟨o_6, eo_6, hE⟩ := cl_e hE
          refine x_kI (o := o_6) (z_runV (As := [.ref x2]) (rest := []) C (ct_X5_mayCatch l X F k_x0 k_x2 eo_6) cw_X5_342 hW hZ k_x0 (by decide) rfl rfl rfl hl.1 (Nat.le_of_ble_eq_true rfl) rfl dX5_areAlike_145 ⟨Nat.le_of_ble_eq_true rfl, Nat.le_of_ble_eq_true rfl⟩ ⟨Nat.le_refl _, Nat.le_refl _⟩) hZ (fun _ _ hW km hZ => ?_)
          replace hkm := hkm.tr km
          replace k_x0 := km.at k_x0 (by decide)
          replace k_x1 := km.at k_x1 (by decide)
          replace k_x2 := km.at k_x2 (by decide)
          refine lv_if_ne (tgt := 155) C.1 C.2.1 dX5_areAlike_148 (by decide) (fun c_7 => ?_) (fun c_7 => ?_)
          · have hE := br_n hE c_7
            exact bX5_areAlike_155 C hkm hW hZ _ (lv_sub hl [] rfl) hE
          · have hE := br_p hE c_7
            exact bX5_areAlike_151 C hkm hW hZ _ (lv_sub hl [] rfl) hE
    · have hE := br_n hE c_2
      refine lv_aload_n C.1 C.2.1 dX5_areAlike_100 rfl (lv_at hl 1 rfl) ?_
      obtain ⟨r_8, er_8, hE⟩ := cl_e hE
      refine gf_X5_42 C hW k_x1 er_8 dX5_areAlike_101 (fun k_r_8 => ?_)
      refine lv_iload_n C.1 C.2.1 dX5_areAlike_104 rfl (lv_at hl 3 rfl) ?_
      obtain ⟨g_9, hE⟩ := gd_e hE
      refine y_bald C hW k_r_8 g_9 dX5_areAlike_105 ?_
      refine lv_aload_n C.1 C.2.1 dX5_areAlike_106 rfl (lv_at hl 2 rfl) ?_
      obtain ⟨r_10, er_10, hE⟩ := cl_e hE
      refine gf_X5_42 C hW k_x2 er_10 dX5_areAlike_107 (fun k_r_10 => ?_)
      refine lv_iload_n C.1 C.2.1 dX5_areAlike_110 rfl (lv_at hl 3 rfl) ?_
      obtain ⟨g_11, hE⟩ := gd_e hE
      refine y_bald C hW k_r_10 g_11 dX5_areAlike_111 ?_
      refine lv_icmp_eq (tgt := 117) C.1 C.2.1 dX5_areAlike_112 (by decide) (fun c_12 => ?_) (fun c_12 => ?_)
      · have hE := br_p hE c_12
        obtain ⟨v_13, ev_13, hE⟩ := nm_e2 hE
        refine lv_iinc (v := v_13) (lv' := [(3, .int v_13), (0, .ref x0), (1, .ref x1), (2, .ref x2)]) C.1 C.2.1 dX5_areAlike_117 hl (k := 3) rfl (by rw [ev_13]; rfl) (by decide) rfl (fun ls hl => ?_)
        refine lv_goto (tgt := 89) C.1 C.2.1 dX5_areAlike_120 (by decide) ?_
        exact hk_89 _ _ _ _ _ _ _ k_x0 k_x1 k_x2 hkm hW hZ _ (lv_sub hl [1, 2, 3, 0] rfl) hE
      · have hE := br_n hE c_12
        refine lv_iconst (v := (0 : Int32)) C.1 C.2.1 dX5_areAlike_115 (by decide) ?_
        exact x_iret C rfl (by decide) hW hZ hkm hE dX5_areAlike_116
set_option maxRecDepth 20000 in
theorem bX5_areAlike_79 {p : Program} {l : Launch} {e : Env} {s : State} {m : MethodId} {args : Array Value} {below : List Frame} {meth : Method} {c : Code} {X : Ec} {h0 : Hp} {o : Int32 × Hp} {F : Nat} (C : Cx X p s m args meth c RX5 cX5_areAlike 4 (some .boolean) "areAlike") {h : Hp} {H : Heap} {locs : List Loc} (hkm : Km h0 h) (hW : Wx X h H) (hZ : va_S (aA (eB X)) s.heap H locs) (ls : Array Slot) (hl : lv_has ls 4 []) (hE : sX5_areAlike_79 F h  = some o) : W p l e (rm 5 162) s m args below meth c H locs 0 0 (MQ below (QI X h0 o.1 o.2) args s 0 0 (aA (eB X))) (F0 m 79 ls []) := by
  refine lv_iconst (v := (0 : Int32)) C.1 C.2.1 dX5_areAlike_79 (by decide) ?_
  exact x_iret C rfl (by decide) hW hZ hkm hE dX5_areAlike_80
set_option maxRecDepth 20000 in
theorem bX5_areAlike_27 {p : Program} {l : Launch} {e : Env} {s : State} {m : MethodId} {args : Array Value} {below : List Frame} {meth : Method} {c : Code} {X : Ec} {h0 : Hp} {o : Int32 × Hp} {F : Nat} (C : Cx X p s m args meth c RX5 cX5_areAlike 4 (some .boolean) "areAlike") : ∀ (f : Nat) {h : Hp} {x0 : Nat} {x1 : Nat} {x2 : Nat} {x3 : Int32} {H : Heap} {locs : List Loc} (k_x0 : hK h x0 = 5) (k_x1 : hK h x1 = 3) (k_x2 : hK h x2 = 3), Km h0 h → Wx X h H → va_S (aA (eB X)) s.heap H locs → ∀ (ls : Array Slot), lv_has ls 4 [(0, .ref x0), (1, .ref x1), (2, .ref x2), (3, .int x3)] → sX5_areAlike_27 F f h x0 x1 x2 x3 = some o → W p l e (rm 5 162) s m args below meth c H locs 0 0 (MQ below (QI X h0 o.1 o.2) args s 0 0 (aA (eB X))) (F0 m 27 ls []) := by
  intro f
  induction f with
  | zero =>
    intro h x0 x1 x2 x3 H locs k_x0 k_x1 k_x2 hkm hW hZ ls hl hE
    rw [sX5_areAlike_27] at hE
    cases hE
  | succ f ih =>
    intro h x0 x1 x2 x3 H locs k_x0 k_x1 k_x2 hkm hW hZ ls hl hE
    rw [sX5_areAlike_27] at hE
    have hk_27 : ∀ (h : Hp) (x0 : Nat) (x1 : Nat) (x2 : Nat) (x3 : Int32) (H : Heap) (locs : List Loc), hK h x0 = 5 → hK h x1 = 3 → hK h x2 = 3 → Km h0 h → Wx X h H → va_S (aA (eB X)) s.heap H locs → ∀ (ls : Array Slot), lv_has ls 4 [(0, .ref x0), (1, .ref x1), (2, .ref x2), (3, .int x3)] → sX5_areAlike_27 F f h x0 x1 x2 x3 = some o → W p l e (rm 5 162) s m args below meth c H locs 0 0 (MQ below (QI X h0 o.1 o.2) args s 0 0 (aA (eB X))) (F0 m 27 ls []) := fun h x0 x1 x2 x3 H locs k_x0 k_x1 k_x2 a b c ls hl hE => ih k_x0 k_x1 k_x2 a b c ls hl hE
    refine lv_iload_n C.1 C.2.1 dX5_areAlike_27 rfl (lv_at hl 3 rfl) ?_
    refine lv_iconst (v := (2 : Int32)) C.1 C.2.1 dX5_areAlike_28 (by decide) ?_
    refine lv_icmp_ge (tgt := 87) C.1 C.2.1 dX5_areAlike_29 (by decide) (fun c_1 => ?_) (fun c_1 => ?_)
    · have hE := br_p hE c_1
      refine lv_iconst (v := (0 : Int32)) C.1 C.2.1 dX5_areAlike_87 (by decide) ?_
      refine lv_istore_n (lv' := [(3, .int (0 : Int32)), (0, .ref x0), (1, .ref x1), (2, .ref x2)]) C.1 C.2.1 dX5_areAlike_88 rfl hl (by decide) rfl (fun ls hl => ?_)
      exact bX5_areAlike_89 C F k_x0 k_x1 k_x2 hkm hW hZ _ (lv_sub hl [1, 2, 3, 0] rfl) hE
    · have hE := br_n hE c_1
      refine lv_aload_n C.1 C.2.1 dX5_areAlike_32 rfl (lv_at hl 1 rfl) ?_
      obtain ⟨r_2, er_2, hE⟩ := cl_e hE
      refine gf_X5_33 C hW k_x1 er_2 dX5_areAlike_33 (fun k_r_2 => ?_)
      refine lv_iload_n C.1 C.2.1 dX5_areAlike_36 rfl (lv_at hl 3 rfl) ?_
      obtain ⟨g_3, hE⟩ := gd_e hE
      refine y_lald C hW k_r_2 g_3 dX5_areAlike_37 ?_
      refine lv_aload_n C.1 C.2.1 dX5_areAlike_38 rfl (lv_at hl 2 rfl) ?_
      obtain ⟨r_4, er_4, hE⟩ := cl_e hE
      refine gf_X5_33 C hW k_x2 er_4 dX5_areAlike_39 (fun k_r_4 => ?_)
      refine lv_iload_n C.1 C.2.1 dX5_areAlike_42 rfl (lv_at hl 3 rfl) ?_
      obtain ⟨g_5, hE⟩ := gd_e hE
      refine y_lald C hW k_r_4 g_5 dX5_areAlike_43 ?_
      refine W.lcmp C.1 C.2.1 dX5_areAlike_44 ?_
      refine lv_if_ne (tgt := 79) C.1 C.2.1 dX5_areAlike_45 (by decide) (fun c_6 => ?_) (fun c_6 => ?_)
      · have hE := br_n hE c_6
        exact bX5_areAlike_79 C hkm hW hZ _ (lv_sub hl [] rfl) hE
      · have hE := br_p hE c_6
        refine lv_aload_n C.1 C.2.1 dX5_areAlike_48 rfl (lv_at hl 1 rfl) ?_
        obtain ⟨r_7, er_7, hE⟩ := cl_e hE
        refine gf_X5_303 C hW k_x1 er_7 dX5_areAlike_49 (fun k_r_7 => ?_)
        refine lv_iload_n C.1 C.2.1 dX5_areAlike_52 rfl (lv_at hl 3 rfl) ?_
        obtain ⟨g_8, hE⟩ := gd_e hE
        refine y_lald C hW k_r_7 g_8 dX5_areAlike_53 ?_
        refine lv_aload_n C.1 C.2.1 dX5_areAlike_54 rfl (lv_at hl 2 rfl) ?_
        obtain ⟨r_9, er_9, hE⟩ := cl_e hE
        refine gf_X5_303 C hW k_x2 er_9 dX5_areAlike_55 (fun k_r_9 => ?_)
        refine lv_iload_n C.1 C.2.1 dX5_areAlike_58 rfl (lv_at hl 3 rfl) ?_
        obtain ⟨g_10, hE⟩ := gd_e hE
        refine y_lald C hW k_r_9 g_10 dX5_areAlike_59 ?_
        refine W.lcmp C.1 C.2.1 dX5_areAlike_60 ?_
        refine lv_if_ne (tgt := 79) C.1 C.2.1 dX5_areAlike_61 (by decide) (fun c_11 => ?_) (fun c_11 => ?_)
        · have hE := br_n hE c_11
          exact bX5_areAlike_79 C hkm hW hZ _ (lv_sub hl [] rfl) hE
        · have hE := br_p hE c_11
          refine lv_aload_n C.1 C.2.1 dX5_areAlike_64 rfl (lv_at hl 1 rfl) ?_
          obtain ⟨r_12, er_12, hE⟩ := cl_e hE
          refine gf_X5_283 C hW k_x1 er_12 dX5_areAlike_65 (fun k_r_12 => ?_)
          refine lv_iload_n C.1 C.2.1 dX5_areAlike_68 rfl (lv_at hl 3 rfl) ?_
          obtain ⟨g_13, hE⟩ := gd_e hE
          refine y_iald C hW k_r_12 g_13 dX5_areAlike_69 ?_
          refine lv_aload_n C.1 C.2.1 dX5_areAlike_70 rfl (lv_at hl 2 rfl) ?_
          obtain ⟨r_14, er_14, hE⟩ := cl_e hE
          refine gf_X5_283 C hW k_x2 er_14 dX5_areAlike_71 (fun k_r_14 => ?_)
          refine lv_iload_n C.1 C.2.1 dX5_areAlike_74 rfl (lv_at hl 3 rfl) ?_
          obtain ⟨g_15, hE⟩ := gd_e hE
          refine y_iald C hW k_r_14 g_15 dX5_areAlike_75 ?_
          refine lv_icmp_eq (tgt := 81) C.1 C.2.1 dX5_areAlike_76 (by decide) (fun c_16 => ?_) (fun c_16 => ?_)
          · have hE := br_p hE c_16
            obtain ⟨v_17, ev_17, hE⟩ := nm_e2 hE
            refine lv_iinc (v := v_17) (lv' := [(3, .int v_17), (0, .ref x0), (1, .ref x1), (2, .ref x2)]) C.1 C.2.1 dX5_areAlike_81 hl (k := 3) rfl (by rw [ev_17]; rfl) (by decide) rfl (fun ls hl => ?_)
            refine lv_goto (tgt := 27) C.1 C.2.1 dX5_areAlike_84 (by decide) ?_
            exact hk_27 _ _ _ _ _ _ _ k_x0 k_x1 k_x2 hkm hW hZ _ (lv_sub hl [1, 2, 3, 0] rfl) hE
          · have hE := br_n hE c_16
            exact bX5_areAlike_79 C hkm hW hZ _ (lv_sub hl [] rfl) hE
set_option maxRecDepth 20000 in
theorem ct_X5_areAlike (l : Launch) (X : Ec) (F : Nat) {h : Hp} {x0 : Nat} {x1 : Nat} {x2 : Nat} {o : Int32 × Hp} (k_x0 : hK h x0 = 5) (k_x1 : hK h x1 = 3) (k_x2 : hK h x2 = 3) (hE : sX5_areAlike F h x0 x1 x2 = some o) : MetI l yX5_areAlike cX5_areAlike 4 (some .boolean) 5 162 X [.ref x0, .ref x1, .ref x2] h o := by
  refine x_met (by decide) (Nat.le_of_ble_eq_true rfl) ?_
  intro p e s m below meth c ls C hl hW hZ
  have hl : lv_has ls 4 [(0, .ref x0), (1, .ref x1), (2, .ref x2)] := hl
  have hkm : Km h h := Km.rf h
  refine lv_aload_n C.1 C.2.1 dX5_areAlike_0 rfl (lv_at hl 1 rfl) ?_
  refine gf_X5_78 C hW k_x1 dX5_areAlike_1 ?_
  refine lv_aload_n C.1 C.2.1 dX5_areAlike_4 rfl (lv_at hl 2 rfl) ?_
  refine gf_X5_78 C hW k_x2 dX5_areAlike_5 ?_
  refine lv_icmp_ne (tgt := 23) C.1 C.2.1 dX5_areAlike_8 (by decide) (fun c_1 => ?_) (fun c_1 => ?_)
  · have hE := br_n hE c_1
    exact bX5_areAlike_23 C hkm hW hZ _ (lv_sub hl [] rfl) hE
  · have hE := br_p hE c_1
    refine lv_aload_n C.1 C.2.1 dX5_areAlike_11 rfl (lv_at hl 1 rfl) ?_
    refine gf_X5_93 C hW k_x1 dX5_areAlike_12 ?_
    refine lv_aload_n C.1 C.2.1 dX5_areAlike_15 rfl (lv_at hl 2 rfl) ?_
    refine gf_X5_93 C hW k_x2 dX5_areAlike_16 ?_
    refine W.lcmp C.1 C.2.1 dX5_areAlike_19 ?_
    refine lv_if_eq (tgt := 25) C.1 C.2.1 dX5_areAlike_20 (by decide) (fun c_2 => ?_) (fun c_2 => ?_)
    · have hE := br_p hE c_2
      refine lv_iconst (v := (0 : Int32)) C.1 C.2.1 dX5_areAlike_25 (by decide) ?_
      refine lv_istore_n (lv' := [(3, .int (0 : Int32)), (0, .ref x0), (1, .ref x1), (2, .ref x2)]) C.1 C.2.1 dX5_areAlike_26 rfl hl (by decide) rfl (fun ls hl => ?_)
      exact bX5_areAlike_27 C F k_x0 k_x1 k_x2 hkm hW hZ _ (lv_sub hl [1, 2, 3, 0] rfl) hE
    · have hE := br_n hE c_2
      exact bX5_areAlike_23 C hkm hW hZ _ (lv_sub hl [] rfl) hE
theorem dX5_passedBy_0 : decode cX5_passedBy 0 = .ok (.iload_n 0, 1) := by decide +kernel
theorem dX5_passedBy_1 : decode cX5_passedBy 1 = .ok (.bipush 26, 2) := by decide +kernel
theorem dX5_passedBy_3 : decode cX5_passedBy 3 = .ok (.ishr, 1) := by decide +kernel
theorem dX5_passedBy_4 : decode cX5_passedBy 4 = .ok (.bipush 7, 2) := by decide +kernel
theorem dX5_passedBy_6 : decode cX5_passedBy 6 = .ok (.iand, 1) := by decide +kernel
theorem dX5_passedBy_7 : decode cX5_passedBy 7 = .ok (.ireturn, 1) := by decide +kernel
set_option maxRecDepth 20000 in
theorem moX5_passedBy {o : Int32 × Hp} {h : Hp} {x0 : Int32} (hE : sX5_passedBy h x0 = some o) : Le h o.2 := by
  exact le_some2 hE
set_option maxRecDepth 20000 in
theorem ct_X5_passedBy (l : Launch) (X : Ec) {h : Hp} {x0 : Int32} {o : Int32 × Hp} (hE : sX5_passedBy h x0 = some o) : MetI l yX5_passedBy cX5_passedBy 1 (some .int) 0 0 X [.int x0] h o := by
  refine x_met (by decide) (Nat.le_of_ble_eq_true rfl) ?_
  intro p e s m below meth c ls C hl hW hZ
  have hl : lv_has ls 1 [(0, .int x0)] := hl
  have hkm : Km h h := Km.rf h
  refine lv_iload_n C.1 C.2.1 dX5_passedBy_0 rfl (lv_at hl 0 rfl) ?_
  refine lv_bipush (v := (26 : Int32)) C.1 C.2.1 dX5_passedBy_1 (by decide) ?_
  refine lv_ishr C.1 C.2.1 dX5_passedBy_3 ?_
  refine lv_bipush (v := (7 : Int32)) C.1 C.2.1 dX5_passedBy_4 (by decide) ?_
  refine lv_iand C.1 C.2.1 dX5_passedBy_6 ?_
  exact x_iret C rfl rfl hW hZ hkm hE dX5_passedBy_7
set_option maxRecDepth 100000 in
theorem m_1331 : Cond.methodLink RX5 285 yX3_clearPass ∈ W0 := w0_in (List.mem_append_right _ (List.mem_of_getElem? (i := 1331) rfl)) rfl
set_option maxRecDepth 100000 in
theorem m_1332 : Cond.instanceMethod yX3_clearPass ∈ W0 := w0_in (List.mem_append_right _ (List.mem_of_getElem? (i := 1332) rfl)) rfl
set_option maxRecDepth 100000 in
theorem m_1333 : Cond.selects RX3 yX3_clearPass yX3_clearPass ∈ W0 := w0_in (List.mem_append_right _ (List.mem_of_getElem? (i := 1333) rfl)) rfl
set_option maxRecDepth 100000 in
theorem m_1334 : Cond.code yX3_clearPass cX3_clearPass 1 none ∈ W0 := w0_in (List.mem_append_right _ (List.mem_of_getElem? (i := 1334) rfl)) rfl
set_option maxRecDepth 100000 in
theorem m_1335 : Cond.methodLink RX5 288 yX5_passedBy ∈ W0 := w0_in (List.mem_append_right _ (List.mem_of_getElem? (i := 1335) rfl)) rfl
set_option maxRecDepth 100000 in
theorem m_1336 : Cond.static yX5_passedBy ∈ W0 := w0_in (List.mem_append_right _ (List.mem_of_getElem? (i := 1336) rfl)) rfl
set_option maxRecDepth 100000 in
theorem m_1337 : Cond.code yX5_passedBy cX5_passedBy 1 (some .int) ∈ W0 := w0_in (List.mem_append_right _ (List.mem_of_getElem? (i := 1337) rfl)) rfl
set_option maxRecDepth 100000 in
theorem m_1338 : Cond.methodLink RX5 291 yX3_addPass ∈ W0 := w0_in (List.mem_append_right _ (List.mem_of_getElem? (i := 1338) rfl)) rfl
theorem cw_X5_291 : cwd RX5 291 yX3_addPass cX3_addPass 3 none false 1 := ⟨m_985, m_1338, m_8, ⟨m_983, m_984⟩, by decide, by decide, by decide +kernel⟩
theorem cw_X5_285 : cwd RX5 285 yX3_clearPass cX3_clearPass 1 none false 0 := ⟨m_1334, m_1331, m_8, ⟨m_1332, m_1333⟩, by decide, by decide, by decide +kernel⟩
theorem cw_X5_288 : cwd RX5 288 yX5_passedBy cX5_passedBy 1 (some .int) true 1 := ⟨m_1337, m_1335, m_7, m_1336, by decide, by decide, by decide +kernel⟩
theorem dX5_notePass_0 : decode cX5_notePass 0 = .ok (.aload_n 1, 1) := by decide +kernel
theorem dX5_notePass_1 : decode cX5_notePass 1 = .ok (.invokevirtual 285, 3) := by decide +kernel
theorem dX5_notePass_4 : decode cX5_notePass 4 = .ok (.iload_n 2, 1) := by decide +kernel
theorem dX5_notePass_5 : decode cX5_notePass 5 = .ok (.invokestatic 288, 3) := by decide +kernel
theorem dX5_notePass_8 : decode cX5_notePass 8 = .ok (.istore_n 3, 1) := by decide +kernel
theorem dX5_notePass_9 : decode cX5_notePass 9 = .ok (.iload_n 2, 1) := by decide +kernel
theorem dX5_notePass_10 : decode cX5_notePass 10 = .ok (.invokestatic 184, 3) := by decide +kernel
theorem dX5_notePass_13 : decode cX5_notePass 13 = .ok (.istore 4, 2) := by decide +kernel
theorem dX5_notePass_15 : decode cX5_notePass 15 = .ok (.iload_n 3, 1) := by decide +kernel
theorem dX5_notePass_16 : decode cX5_notePass 16 = .ok (.iconst 2, 1) := by decide +kernel
theorem dX5_notePass_17 : decode cX5_notePass 17 = .ok (.if_icmp .lt 14, 3) := by decide +kernel
theorem dX5_notePass_20 : decode cX5_notePass 20 = .ok (.aload_n 1, 1) := by decide +kernel
theorem dX5_notePass_21 : decode cX5_notePass 21 = .ok (.getfield 42, 3) := by decide +kernel
theorem dX5_notePass_24 : decode cX5_notePass 24 = .ok (.iload 4, 2) := by decide +kernel
theorem dX5_notePass_26 : decode cX5_notePass 26 = .ok (.baload, 1) := by decide +kernel
theorem dX5_notePass_27 : decode cX5_notePass 27 = .ok (.iconst (-1), 1) := by decide +kernel
theorem dX5_notePass_28 : decode cX5_notePass 28 = .ok (.if_icmp .ne 4, 3) := by decide +kernel
theorem dX5_notePass_31 : decode cX5_notePass 31 = .ok (.return_, 1) := by decide +kernel
theorem dX5_notePass_32 : decode cX5_notePass 32 = .ok (.iload_n 2, 1) := by decide +kernel
theorem dX5_notePass_33 : decode cX5_notePass 33 = .ok (.invokestatic 236, 3) := by decide +kernel
theorem dX5_notePass_36 : decode cX5_notePass 36 = .ok (.istore 5, 2) := by decide +kernel
theorem dX5_notePass_38 : decode cX5_notePass 38 = .ok (.iload 4, 2) := by decide +kernel
theorem dX5_notePass_40 : decode cX5_notePass 40 = .ok (.iload 5, 2) := by decide +kernel
theorem dX5_notePass_42 : decode cX5_notePass 42 = .ok (.isub, 1) := by decide +kernel
theorem dX5_notePass_43 : decode cX5_notePass 43 = .ok (.iload_n 3, 1) := by decide +kernel
theorem dX5_notePass_44 : decode cX5_notePass 44 = .ok (.idiv, 1) := by decide +kernel
theorem dX5_notePass_45 : decode cX5_notePass 45 = .ok (.istore 6, 2) := by decide +kernel
theorem dX5_notePass_47 : decode cX5_notePass 47 = .ok (.aload_n 1, 1) := by decide +kernel
theorem dX5_notePass_48 : decode cX5_notePass 48 = .ok (.iload 4, 2) := by decide +kernel
theorem dX5_notePass_50 : decode cX5_notePass 50 = .ok (.invokevirtual 291, 3) := by decide +kernel
theorem dX5_notePass_53 : decode cX5_notePass 53 = .ok (.iconst 1, 1) := by decide +kernel
theorem dX5_notePass_54 : decode cX5_notePass 54 = .ok (.istore 7, 2) := by decide +kernel
theorem dX5_notePass_56 : decode cX5_notePass 56 = .ok (.iload 7, 2) := by decide +kernel
theorem dX5_notePass_58 : decode cX5_notePass 58 = .ok (.iload_n 3, 1) := by decide +kernel
theorem dX5_notePass_59 : decode cX5_notePass 59 = .ok (.if_icmp .ge 21, 3) := by decide +kernel
theorem dX5_notePass_62 : decode cX5_notePass 62 = .ok (.aload_n 1, 1) := by decide +kernel
theorem dX5_notePass_63 : decode cX5_notePass 63 = .ok (.iload 5, 2) := by decide +kernel
theorem dX5_notePass_65 : decode cX5_notePass 65 = .ok (.iload 7, 2) := by decide +kernel
theorem dX5_notePass_67 : decode cX5_notePass 67 = .ok (.iload 6, 2) := by decide +kernel
theorem dX5_notePass_69 : decode cX5_notePass 69 = .ok (.imul, 1) := by decide +kernel
theorem dX5_notePass_70 : decode cX5_notePass 70 = .ok (.iadd, 1) := by decide +kernel
theorem dX5_notePass_71 : decode cX5_notePass 71 = .ok (.invokevirtual 291, 3) := by decide +kernel
theorem dX5_notePass_74 : decode cX5_notePass 74 = .ok (.iinc 7 1, 3) := by decide +kernel
theorem dX5_notePass_77 : decode cX5_notePass 77 = .ok (.goto (-21), 3) := by decide +kernel
theorem dX5_notePass_80 : decode cX5_notePass 80 = .ok (.return_, 1) := by decide +kernel
set_option maxRecDepth 20000 in
theorem moX5_notePass_31 {o : Hp} {F : Nat} {h : Hp} (hE : sX5_notePass_31 F h  = some o) : Le h o := by
  exact le_some1 hE
set_option maxRecDepth 20000 in
theorem moX5_notePass_56 {o : Hp} {F : Nat} : ∀ (f : Nat) {h : Hp} {x1 : Nat} {x3 : Int32} {x5 : Int32} {x6 : Int32} {x7 : Int32}, sX5_notePass_56 F f h x1 x3 x5 x6 x7 = some o → Le h o := by
  intro f
  induction f with
  | zero =>
    intro h x1 x3 x5 x6 x7 hE
    rw [sX5_notePass_56] at hE
    cases hE
  | succ f ih =>
    intro h x1 x3 x5 x6 x7 hE
    rw [sX5_notePass_56] at hE
    have mk_56 : ∀ (h : Hp) (x1 : Nat) (x3 : Int32) (x5 : Int32) (x6 : Int32) (x7 : Int32), sX5_notePass_56 F f h x1 x3 x5 x6 x7 = some o → Le h o := fun h x1 x3 x5 x6 x7 hE => ih hE
    rcases br_e hE with ⟨_, hE⟩ | ⟨_, hE⟩
    · exact le_some1 hE
    · obtain ⟨o_2, eo_2, hE⟩ := cl_e hE
      refine (moX3_addPass eo_2).tr ?_
      obtain ⟨v_3, ev_3, hE⟩ := nm_e2 hE
      exact mk_56 _ _ _ _ _ _ hE
set_option maxRecDepth 20000 in
theorem moX5_notePass {o : Hp} {F : Nat} {h : Hp} {x0 : Nat} {x1 : Nat} {x2 : Int32} (hE : sX5_notePass F h x0 x1 x2 = some o) : Le h o := by
  obtain ⟨o_1, eo_1, hE⟩ := cl_e hE
  refine (moX3_clearPass eo_1).tr ?_
  obtain ⟨o_2, eo_2, hE⟩ := cl_e hE
  refine (moX5_passedBy eo_2).tr ?_
  obtain ⟨o_3, eo_3, hE⟩ := cl_e hE
  refine (moX5_comeTo eo_3).tr ?_
  rcases br_e hE with ⟨_, hE⟩ | ⟨_, hE⟩
  · exact moX5_notePass_31 hE
  · obtain ⟨r_5, er_5, hE⟩ := cl_e hE
    obtain ⟨g_6, hE⟩ := gd_e hE
    rcases br_e hE with ⟨_, hE⟩ | ⟨_, hE⟩
    · exact moX5_notePass_31 hE
    · obtain ⟨o_8, eo_8, hE⟩ := cl_e hE
      refine (moX5_leftBy eo_8).tr ?_
      obtain ⟨g_9, hE⟩ := gd_e hE
      obtain ⟨v_10, ev_10, hE⟩ := nm_e2 hE
      obtain ⟨o_11, eo_11, hE⟩ := cl_e hE
      refine (moX3_addPass eo_11).tr ?_
      exact moX5_notePass_56 _ hE
set_option maxRecDepth 20000 in
theorem bX5_notePass_31 {p : Program} {l : Launch} {e : Env} {s : State} {m : MethodId} {args : Array Value} {below : List Frame} {meth : Method} {c : Code} {X : Ec} {h0 : Hp} {o : Hp} {F : Nat} (C : Cx X p s m args meth c RX5 cX5_notePass 8 none "notePass") {h : Hp} {H : Heap} {locs : List Loc} (hkm : Km h0 h) (hW : Wx X h H) (hZ : va_S (aA (eB X)) s.heap H locs) (ls : Array Slot) (hl : lv_has ls 8 []) (hE : sX5_notePass_31 F h  = some o) : W p l e (rm 2 42) s m args below meth c H locs 0 0 (MQ below (QV X h0 o) args s 0 0 (aA (eB X))) (F0 m 31 ls []) := by
  exact x_vret C rfl hW hZ hkm hE dX5_notePass_31
set_option maxRecDepth 20000 in
theorem bX5_notePass_56 {p : Program} {l : Launch} {e : Env} {s : State} {m : MethodId} {args : Array Value} {below : List Frame} {meth : Method} {c : Code} {X : Ec} {h0 : Hp} {o : Hp} {F : Nat} (C : Cx X p s m args meth c RX5 cX5_notePass 8 none "notePass") : ∀ (f : Nat) {h : Hp} {x1 : Nat} {x3 : Int32} {x5 : Int32} {x6 : Int32} {x7 : Int32} {H : Heap} {locs : List Loc} (k_x1 : hK h x1 = 3), Km h0 h → Wx X h H → va_S (aA (eB X)) s.heap H locs → ∀ (ls : Array Slot), lv_has ls 8 [(1, .ref x1), (3, .int x3), (5, .int x5), (6, .int x6), (7, .int x7)] → sX5_notePass_56 F f h x1 x3 x5 x6 x7 = some o → W p l e (rm 2 42) s m args below meth c H locs 0 0 (MQ below (QV X h0 o) args s 0 0 (aA (eB X))) (F0 m 56 ls []) := by
  intro f
  induction f with
  | zero =>
    intro h x1 x3 x5 x6 x7 H locs k_x1 hkm hW hZ ls hl hE
    rw [sX5_notePass_56] at hE
    cases hE
  | succ f ih =>
    intro h x1 x3 x5 x6 x7 H locs k_x1 hkm hW hZ ls hl hE
    rw [sX5_notePass_56] at hE
    have hk_56 : ∀ (h : Hp) (x1 : Nat) (x3 : Int32) (x5 : Int32) (x6 : Int32) (x7 : Int32) (H : Heap) (locs : List Loc), hK h x1 = 3 → Km h0 h → Wx X h H → va_S (aA (eB X)) s.heap H locs → ∀ (ls : Array Slot), lv_has ls 8 [(1, .ref x1), (3, .int x3), (5, .int x5), (6, .int x6), (7, .int x7)] → sX5_notePass_56 F f h x1 x3 x5 x6 x7 = some o → W p l e (rm 2 42) s m args below meth c H locs 0 0 (MQ below (QV X h0 o) args s 0 0 (aA (eB X))) (F0 m 56 ls []) := fun h x1 x3 x5 x6 x7 H locs k_x1 a b c ls hl hE => ih k_x1 a b c ls hl hE
    refine lv_iload C.1 C.2.1 dX5_notePass_56 (lv_at hl 4 rfl) ?_
    refine lv_iload_n C.1 C.2.1 dX5_notePass_58 rfl (lv_at hl 1 rfl) ?_
    refine lv_icmp_ge (tgt := 80) C.1 C.2.1 dX5_notePass_59 (by decide) (fun c_1 => ?_) (fun c_1 => ?_)
    · have hE := br_p hE c_1
      exact x_vret C rfl hW hZ hkm hE dX5_notePass_80
    · have hE := br_n hE c_1
      refine lv_aload_n C.1 C.2.1 dX5_notePass_62 rfl (lv_at hl 0 rfl) ?_
      refine lv_iload C.1 C.2.1 dX5_notePass_63 (lv_at hl 2 rfl) ?_
      refine lv_iload C.1 C.2.1 dX5_notePass_65 (lv_at hl 4 rfl) ?_
      refine lv_iload C.1 C.2.1 dX5_notePass_67 (lv_at hl 3 rfl) ?_
      refine lv_imul C.1 C.2.1 dX5_notePass_69 ?_
      refine lv_iadd C.1 C.2.1 dX5_notePass_70 ?_
      obtain ⟨o_2, eo_2, hE⟩ := cl_e hE
      refine x_kV (o := o_2) (z_runV (As := [.int (x5 + (x7 * x6))]) (rest := []) C (ct_X3_addPass l X k_x1 eo_2) cw_X5_291 hW hZ k_x1 (by decide) rfl rfl rfl hl.1 (Nat.le_of_ble_eq_true rfl) rfl dX5_notePass_71 ⟨Nat.le_of_ble_eq_true rfl, Nat.le_of_ble_eq_true rfl⟩ ⟨Nat.le_refl _, Nat.le_refl _⟩) hZ (fun _ _ hW km hZ => ?_)
      replace hkm := hkm.tr km
      replace k_x1 := km.at k_x1 (by decide)
      obtain ⟨v_3, ev_3, hE⟩ := nm_e2 hE
      refine lv_iinc (v := v_3) (lv' := [(7, .int v_3), (1, .ref x1), (3, .int x3), (5, .int x5), (6, .int x6)]) C.1 C.2.1 dX5_notePass_74 hl (k := 4) rfl (by rw [ev_3]; rfl) (by decide) rfl (fun ls hl => ?_)
      refine lv_goto (tgt := 56) C.1 C.2.1 dX5_notePass_77 (by decide) ?_
      exact hk_56 _ _ _ _ _ _ _ _ k_x1 hkm hW hZ _ (lv_sub hl [1, 2, 3, 4, 0] rfl) hE
set_option maxRecDepth 20000 in
theorem ct_X5_notePass (l : Launch) (X : Ec) (F : Nat) {h : Hp} {x0 : Nat} {x1 : Nat} {x2 : Int32} {o : Hp} (k_x0 : hK h x0 = 5) (k_x1 : hK h x1 = 3) (hE : sX5_notePass F h x0 x1 x2 = some o) : MetV l yX5_notePass cX5_notePass 8 none 2 42 X [.ref x0, .ref x1, .int x2] h o := by
  refine x_met (by decide) (Nat.le_of_ble_eq_true rfl) ?_
  intro p e s m below meth c ls C hl hW hZ
  have hl : lv_has ls 8 [(0, .ref x0), (1, .ref x1), (2, .int x2)] := hl
  have hkm : Km h h := Km.rf h
  refine lv_aload_n C.1 C.2.1 dX5_notePass_0 rfl (lv_at hl 1 rfl) ?_
  obtain ⟨o_1, eo_1, hE⟩ := cl_e hE
  refine x_kV (o := o_1) (z_runV (As := []) (rest := []) C (ct_X3_clearPass l X k_x1 eo_1) cw_X5_285 hW hZ k_x1 (by decide) rfl rfl rfl hl.1 (Nat.le_of_ble_eq_true rfl) rfl dX5_notePass_1 ⟨Nat.le_of_ble_eq_true rfl, Nat.le_of_ble_eq_true rfl⟩ ⟨Nat.le_refl _, Nat.le_refl _⟩) hZ (fun _ _ hW km hZ => ?_)
  replace hkm := hkm.tr km
  replace k_x0 := km.at k_x0 (by decide)
  replace k_x1 := km.at k_x1 (by decide)
  refine lv_iload_n C.1 C.2.1 dX5_notePass_4 rfl (lv_at hl 2 rfl) ?_
  obtain ⟨o_2, eo_2, hE⟩ := cl_e hE
  refine x_kI (o := o_2) (z_runS (As := [.int x2]) (rest := []) C (ct_X5_passedBy l X eo_2) cw_X5_288 hW hZ rfl hl.1 (Nat.le_of_ble_eq_true rfl) rfl dX5_notePass_5 ⟨Nat.le_of_ble_eq_true rfl, Nat.le_of_ble_eq_true rfl⟩ ⟨Nat.le_refl _, Nat.le_refl _⟩) hZ (fun _ _ hW km hZ => ?_)
  replace hkm := hkm.tr km
  replace k_x0 := km.at k_x0 (by decide)
  replace k_x1 := km.at k_x1 (by decide)
  refine lv_istore_n (lv' := [(3, .int o_2.1), (0, .ref x0), (1, .ref x1), (2, .int x2)]) C.1 C.2.1 dX5_notePass_8 rfl hl (by decide) rfl (fun ls hl => ?_)
  refine lv_iload_n C.1 C.2.1 dX5_notePass_9 rfl (lv_at hl 3 rfl) ?_
  obtain ⟨o_3, eo_3, hE⟩ := cl_e hE
  refine x_kI (o := o_3) (z_runS (As := [.int x2]) (rest := []) C (ct_X5_comeTo l X eo_3) cw_X5_184 hW hZ rfl hl.1 (Nat.le_of_ble_eq_true rfl) rfl dX5_notePass_10 ⟨Nat.le_of_ble_eq_true rfl, Nat.le_of_ble_eq_true rfl⟩ ⟨Nat.le_refl _, Nat.le_refl _⟩) hZ (fun _ _ hW km hZ => ?_)
  replace hkm := hkm.tr km
  replace k_x0 := km.at k_x0 (by decide)
  replace k_x1 := km.at k_x1 (by decide)
  refine lv_istore (lv' := [(4, .int o_3.1), (3, .int o_2.1), (0, .ref x0), (1, .ref x1), (2, .int x2)]) C.1 C.2.1 dX5_notePass_13 hl (by decide) rfl (fun ls hl => ?_)
  refine lv_iload_n C.1 C.2.1 dX5_notePass_15 rfl (lv_at hl 1 rfl) ?_
  refine lv_iconst (v := (2 : Int32)) C.1 C.2.1 dX5_notePass_16 (by decide) ?_
  refine lv_icmp_lt (tgt := 31) C.1 C.2.1 dX5_notePass_17 (by decide) (fun c_4 => ?_) (fun c_4 => ?_)
  · have hE := br_p hE c_4
    exact bX5_notePass_31 C hkm hW hZ _ (lv_sub hl [] rfl) hE
  · have hE := br_n hE c_4
    refine lv_aload_n C.1 C.2.1 dX5_notePass_20 rfl (lv_at hl 3 rfl) ?_
    obtain ⟨r_5, er_5, hE⟩ := cl_e hE
    refine gf_X5_42 C hW k_x1 er_5 dX5_notePass_21 (fun k_r_5 => ?_)
    refine lv_iload C.1 C.2.1 dX5_notePass_24 (lv_at hl 0 rfl) ?_
    obtain ⟨g_6, hE⟩ := gd_e hE
    refine y_bald C hW k_r_5 g_6 dX5_notePass_26 ?_
    refine lv_iconst (v := (-1 : Int32)) C.1 C.2.1 dX5_notePass_27 (by decide) ?_
    refine lv_icmp_ne (tgt := 32) C.1 C.2.1 dX5_notePass_28 (by decide) (fun c_7 => ?_) (fun c_7 => ?_)
    · have hE := br_n hE c_7
      refine lv_iload_n C.1 C.2.1 dX5_notePass_32 rfl (lv_at hl 4 rfl) ?_
      obtain ⟨o_8, eo_8, hE⟩ := cl_e hE
      refine x_kI (o := o_8) (z_runS (As := [.int x2]) (rest := []) C (ct_X5_leftBy l X eo_8) cw_X5_236 hW hZ rfl hl.1 (Nat.le_of_ble_eq_true rfl) rfl dX5_notePass_33 ⟨Nat.le_of_ble_eq_true rfl, Nat.le_of_ble_eq_true rfl⟩ ⟨Nat.le_refl _, Nat.le_refl _⟩) hZ (fun _ _ hW km hZ => ?_)
      replace hkm := hkm.tr km
      replace k_x0 := km.at k_x0 (by decide)
      replace k_x1 := km.at k_x1 (by decide)
      refine lv_istore (lv' := [(5, .int o_8.1), (4, .int o_3.1), (3, .int o_2.1), (0, .ref x0), (1, .ref x1), (2, .int x2)]) C.1 C.2.1 dX5_notePass_36 hl (by decide) rfl (fun ls hl => ?_)
      refine lv_iload C.1 C.2.1 dX5_notePass_38 (lv_at hl 1 rfl) ?_
      refine lv_iload C.1 C.2.1 dX5_notePass_40 (lv_at hl 0 rfl) ?_
      refine lv_isub C.1 C.2.1 dX5_notePass_42 ?_
      refine lv_iload_n C.1 C.2.1 dX5_notePass_43 rfl (lv_at hl 2 rfl) ?_
      obtain ⟨g_9, hE⟩ := gd_e hE
      refine lv_idiv C.1 C.2.1 dX5_notePass_44 g_9 ?_
      obtain ⟨v_10, ev_10, hE⟩ := nm_e2 hE
      refine x_nmI ev_10 ?_
      refine lv_istore (lv' := [(6, .int v_10), (5, .int o_8.1), (4, .int o_3.1), (3, .int o_2.1), (0, .ref x0), (1, .ref x1), (2, .int x2)]) C.1 C.2.1 dX5_notePass_45 hl (by decide) rfl (fun ls hl => ?_)
      refine lv_aload_n C.1 C.2.1 dX5_notePass_47 rfl (lv_at hl 5 rfl) ?_
      refine lv_iload C.1 C.2.1 dX5_notePass_48 (lv_at hl 2 rfl) ?_
      obtain ⟨o_11, eo_11, hE⟩ := cl_e hE
      refine x_kV (o := o_11) (z_runV (As := [.int o_3.1]) (rest := []) C (ct_X3_addPass l X k_x1 eo_11) cw_X5_291 hW hZ k_x1 (by decide) rfl rfl rfl hl.1 (Nat.le_of_ble_eq_true rfl) rfl dX5_notePass_50 ⟨Nat.le_of_ble_eq_true rfl, Nat.le_of_ble_eq_true rfl⟩ ⟨Nat.le_refl _, Nat.le_refl _⟩) hZ (fun _ _ hW km hZ => ?_)
      replace hkm := hkm.tr km
      replace k_x0 := km.at k_x0 (by decide)
      replace k_x1 := km.at k_x1 (by decide)
      refine lv_iconst (v := (1 : Int32)) C.1 C.2.1 dX5_notePass_53 (by decide) ?_
      refine lv_istore (lv' := [(7, .int (1 : Int32)), (6, .int v_10), (5, .int o_8.1), (4, .int o_3.1), (3, .int o_2.1), (0, .ref x0), (1, .ref x1), (2, .int x2)]) C.1 C.2.1 dX5_notePass_54 hl (by decide) rfl (fun ls hl => ?_)
      exact bX5_notePass_56 C F k_x1 hkm hW hZ _ (lv_sub hl [6, 4, 2, 1, 0] rfl) hE
    · have hE := br_p hE c_7
      exact bX5_notePass_31 C hkm hW hZ _ (lv_sub hl [] rfl) hE
set_option maxRecDepth 100000 in
theorem ms_70 : Cond.selects RX5 yX5_notePass yX5_notePass ∈ W0 := w0_in (List.mem_append_left _ (List.mem_of_getElem? (i := 70) rfl)) rfl
set_option maxRecDepth 100000 in
theorem m_307 : Cond.fieldLink RX5 270 (TX3 6).1 (TX3 6).2.1 (TX3 6).2.2.1 ∈ W0 := w0_in (List.mem_append_right _ (List.mem_of_getElem? (i := 307) rfl)) rfl
set_option maxRecDepth 100000 in
theorem m_309 : Cond.fieldLink RX5 261 (TX3 7).1 (TX3 7).2.1 (TX3 7).2.2.1 ∈ W0 := w0_in (List.mem_append_right _ (List.mem_of_getElem? (i := 309) rfl)) rfl
set_option maxRecDepth 100000 in
theorem m_1325 : Cond.constantLong RX5 259 (-1 : Int64) ∈ W0 := w0_in (List.mem_append_right _ (List.mem_of_getElem? (i := 1325) rfl)) rfl
set_option maxRecDepth 100000 in
theorem m_1326 : Cond.methodLink RX5 264 yX3_addToHand ∈ W0 := w0_in (List.mem_append_right _ (List.mem_of_getElem? (i := 1326) rfl)) rfl
set_option maxRecDepth 100000 in
theorem m_1327 : Cond.methodLink RX5 267 yX5_notePass ∈ W0 := w0_in (List.mem_append_right _ (List.mem_of_getElem? (i := 1327) rfl)) rfl
set_option maxRecDepth 100000 in
theorem m_1329 : Cond.instanceMethod yX5_notePass ∈ W0 := w0_in (List.mem_append_right _ (List.mem_of_getElem? (i := 1329) rfl)) rfl
set_option maxRecDepth 100000 in
theorem m_1330 : Cond.code yX5_notePass cX5_notePass 8 none ∈ W0 := w0_in (List.mem_append_right _ (List.mem_of_getElem? (i := 1330) rfl)) rfl
set_option maxRecDepth 100000 in
theorem m_1339 : Cond.methodLink RX5 273 Lib.Math.min.name ∈ W0 := w0_in (List.mem_append_right _ (List.mem_of_getElem? (i := 1339) rfl)) rfl
section
variable {p : Program} {l : Launch} {e : Env} {R : Room} {s : State} {m : MethodId} {args : Array Value} {below : List Frame} {meth : Method} {c : Code} {H : Heap} {locs : List Loc} {cells slots : Nat} {Q : State → Prop}
variable {cc : ByteArray} {pc : Nat} {ls : Array Slot} {rest : List Value} {X : Ec} {h h1 : Hp} {nL : Nat} {rt : Option FieldType} {mn : String}
theorem pf_X5_270 {a : Nat} {v : Int32} (C : Cx X p s m args meth c RX5 cc nL rt mn) (hW : Wx X h H) (hZ : va_S (aA (eB X)) s.heap H locs) (ha : hK h a = 3) (eh : h1 = wI h a 6 v) (hdg : decode cc pc = .ok (.putfield 270, 3)) (kk : ∀ (H1 : Heap) (locs1 : List Loc), Wx X h1 H1 → Km h h1 → va_S (aA (eB X)) s.heap H1 locs1 → W p l e R s m args below meth c H1 locs1 cells slots Q (F0 m (pc + 3) ls rest)) : W p l e R s m args below meth c H locs cells slots Q (F0 m pc ls (.int v :: .ref a :: rest)) :=
  y_puti (ty := .int) C hW hZ ha i_X3 tyX3 tyX3_ok nmX3 (by decide) rfl rfl (by decide) m_307 rfl (by decide +kernel) rfl rfl rfl eh hdg kk
theorem pf_X5_78 {a : Nat} {v : Int32} (C : Cx X p s m args meth c RX5 cc nL rt mn) (hW : Wx X h H) (hZ : va_S (aA (eB X)) s.heap H locs) (ha : hK h a = 3) (eh : h1 = wI h a 5 v) (hdg : decode cc pc = .ok (.putfield 78, 3)) (kk : ∀ (H1 : Heap) (locs1 : List Loc), Wx X h1 H1 → Km h h1 → va_S (aA (eB X)) s.heap H1 locs1 → W p l e R s m args below meth c H1 locs1 cells slots Q (F0 m (pc + 3) ls rest)) : W p l e R s m args below meth c H locs cells slots Q (F0 m pc ls (.int v :: .ref a :: rest)) :=
  y_puti (ty := .int) C hW hZ ha i_X3 tyX3 tyX3_ok nmX3 (by decide) rfl rfl (by decide) m_302 rfl (by decide +kernel) rfl rfl rfl eh hdg kk
theorem gf_X5_270 {a : Nat} (C : Cx X p s m args meth c RX5 cc nL rt mn) (hW : Wx X h H) (ha : hK h a = 3) (hdg : decode cc pc = .ok (.getfield 270, 3)) (kk : W p l e R s m args below meth c H locs cells slots Q (F0 m (pc + 3) ls (.int (hI h a 6) :: rest))) : W p l e R s m args below meth c H locs cells slots Q (F0 m pc ls (.ref a :: rest)) :=
  y_geti C hW ha i_X3 (by decide) rfl (by decide) m_307 rfl hdg kk
theorem pf_X5_261 {a : Nat} {v : Int64} (C : Cx X p s m args meth c RX5 cc nL rt mn) (hW : Wx X h H) (hZ : va_S (aA (eB X)) s.heap H locs) (ha : hK h a = 3) (eh : h1 = wJ h a 7 v) (hdg : decode cc pc = .ok (.putfield 261, 3)) (kk : ∀ (H1 : Heap) (locs1 : List Loc), Wx X h1 H1 → Km h h1 → va_S (aA (eB X)) s.heap H1 locs1 → W p l e R s m args below meth c H1 locs1 cells slots Q (F0 m (pc + 3) ls rest)) : W p l e R s m args below meth c H locs cells slots Q (F0 m pc ls (.long v :: .ref a :: rest)) :=
  y_putj C hW hZ ha i_X3 tyX3 tyX3_ok nmX3 (by decide) rfl rfl (by decide) m_309 rfl (by decide +kernel) rfl eh hdg kk
theorem gf_X5_261 {a : Nat} (C : Cx X p s m args meth c RX5 cc nL rt mn) (hW : Wx X h H) (ha : hK h a = 3) (hdg : decode cc pc = .ok (.getfield 261, 3)) (kk : W p l e R s m args below meth c H locs cells slots Q (F0 m (pc + 3) ls (.long (hJ h a 7) :: rest))) : W p l e R s m args below meth c H locs cells slots Q (F0 m pc ls (.ref a :: rest)) :=
  y_getj C hW ha i_X3 (by decide) rfl (by decide) m_309 rfl hdg kk
theorem pf_X5_93 {a : Nat} {v : Int64} (C : Cx X p s m args meth c RX5 cc nL rt mn) (hW : Wx X h H) (hZ : va_S (aA (eB X)) s.heap H locs) (ha : hK h a = 3) (eh : h1 = wJ h a 8 v) (hdg : decode cc pc = .ok (.putfield 93, 3)) (kk : ∀ (H1 : Heap) (locs1 : List Loc), Wx X h1 H1 → Km h h1 → va_S (aA (eB X)) s.heap H1 locs1 → W p l e R s m args below meth c H1 locs1 cells slots Q (F0 m (pc + 3) ls rest)) : W p l e R s m args below meth c H locs cells slots Q (F0 m pc ls (.long v :: .ref a :: rest)) :=
  y_putj C hW hZ ha i_X3 tyX3 tyX3_ok nmX3 (by decide) rfl rfl (by decide) m_313 rfl (by decide +kernel) rfl eh hdg kk
end
theorem cw_X5_267 : cwd RX5 267 yX5_notePass cX5_notePass 8 none false 2 := ⟨m_1330, m_1327, m_7, ⟨m_1329, ms_70⟩, by decide, by decide, by decide +kernel⟩
theorem cw_X5_264 : cwd RX5 264 yX3_addToHand cX3_addToHand 4 none false 3 := ⟨m_1002, m_1326, m_8, ⟨m_1000, m_1001⟩, by decide, by decide, by decide +kernel⟩
theorem dX5_make_0 : decode cX5_make 0 = .ok (.aload_n 1, 1) := by decide +kernel
theorem dX5_make_1 : decode cX5_make 1 = .ok (.getfield 78, 3) := by decide +kernel
theorem dX5_make_4 : decode cX5_make 4 = .ok (.istore_n 3, 1) := by decide +kernel
theorem dX5_make_5 : decode cX5_make 5 = .ok (.iload_n 2, 1) := by decide +kernel
theorem dX5_make_6 : decode cX5_make 6 = .ok (.invokestatic 194, 3) := by decide +kernel
theorem dX5_make_9 : decode cX5_make 9 = .ok (.istore 4, 2) := by decide +kernel
theorem dX5_make_11 : decode cX5_make 11 = .ok (.iload_n 2, 1) := by decide +kernel
theorem dX5_make_12 : decode cX5_make 12 = .ok (.invokestatic 233, 3) := by decide +kernel
theorem dX5_make_15 : decode cX5_make 15 = .ok (.istore 5, 2) := by decide +kernel
theorem dX5_make_17 : decode cX5_make 17 = .ok (.iload_n 2, 1) := by decide +kernel
theorem dX5_make_18 : decode cX5_make 18 = .ok (.invokestatic 181, 3) := by decide +kernel
theorem dX5_make_21 : decode cX5_make 21 = .ok (.istore 6, 2) := by decide +kernel
theorem dX5_make_23 : decode cX5_make 23 = .ok (.iload 4, 2) := by decide +kernel
theorem dX5_make_25 : decode cX5_make 25 = .ok (.aload_n 0, 1) := by decide +kernel
theorem dX5_make_26 : decode cX5_make 26 = .ok (.getfield 22, 3) := by decide +kernel
theorem dX5_make_29 : decode cX5_make 29 = .ok (.getfield 129, 3) := by decide +kernel
theorem dX5_make_32 : decode cX5_make 32 = .ok (.if_icmp .ne 22, 3) := by decide +kernel
theorem dX5_make_35 : decode cX5_make 35 = .ok (.aload_n 1, 1) := by decide +kernel
theorem dX5_make_36 : decode cX5_make 36 = .ok (.dup, 1) := by decide +kernel
theorem dX5_make_37 : decode cX5_make 37 = .ok (.getfield 93, 3) := by decide +kernel
theorem dX5_make_40 : decode cX5_make 40 = .ok (.aload_n 1, 1) := by decide +kernel
theorem dX5_make_41 : decode cX5_make 41 = .ok (.getfield 33, 3) := by decide +kernel
theorem dX5_make_44 : decode cX5_make 44 = .ok (.iload_n 3, 1) := by decide +kernel
theorem dX5_make_45 : decode cX5_make 45 = .ok (.laload, 1) := by decide +kernel
theorem dX5_make_46 : decode cX5_make 46 = .ok (.ldc2_w 259, 3) := by decide +kernel
theorem dX5_make_49 : decode cX5_make 49 = .ok (.lxor, 1) := by decide +kernel
theorem dX5_make_50 : decode cX5_make 50 = .ok (.land, 1) := by decide +kernel
theorem dX5_make_51 : decode cX5_make 51 = .ok (.putfield 93, 3) := by decide +kernel
theorem dX5_make_54 : decode cX5_make 54 = .ok (.aload_n 1, 1) := by decide +kernel
theorem dX5_make_55 : decode cX5_make 55 = .ok (.lconst 0, 1) := by decide +kernel
theorem dX5_make_56 : decode cX5_make 56 = .ok (.putfield 261, 3) := by decide +kernel
theorem dX5_make_59 : decode cX5_make 59 = .ok (.aload_n 0, 1) := by decide +kernel
theorem dX5_make_60 : decode cX5_make 60 = .ok (.aload_n 1, 1) := by decide +kernel
theorem dX5_make_61 : decode cX5_make 61 = .ok (.iload_n 2, 1) := by decide +kernel
theorem dX5_make_62 : decode cX5_make 62 = .ok (.invokevirtual 222, 3) := by decide +kernel
theorem dX5_make_65 : decode cX5_make 65 = .ok (.aload_n 0, 1) := by decide +kernel
theorem dX5_make_66 : decode cX5_make 66 = .ok (.aload_n 1, 1) := by decide +kernel
theorem dX5_make_67 : decode cX5_make 67 = .ok (.iload_n 2, 1) := by decide +kernel
theorem dX5_make_68 : decode cX5_make 68 = .ok (.invokevirtual 226, 3) := by decide +kernel
theorem dX5_make_71 : decode cX5_make 71 = .ok (.aload_n 1, 1) := by decide +kernel
theorem dX5_make_72 : decode cX5_make 72 = .ok (.dup, 1) := by decide +kernel
theorem dX5_make_73 : decode cX5_make 73 = .ok (.getfield 93, 3) := by decide +kernel
theorem dX5_make_76 : decode cX5_make 76 = .ok (.aload_n 1, 1) := by decide +kernel
theorem dX5_make_77 : decode cX5_make 77 = .ok (.getfield 261, 3) := by decide +kernel
theorem dX5_make_80 : decode cX5_make 80 = .ok (.ldc2_w 259, 3) := by decide +kernel
theorem dX5_make_83 : decode cX5_make 83 = .ok (.lxor, 1) := by decide +kernel
theorem dX5_make_84 : decode cX5_make 84 = .ok (.land, 1) := by decide +kernel
theorem dX5_make_85 : decode cX5_make 85 = .ok (.putfield 93, 3) := by decide +kernel
theorem dX5_make_88 : decode cX5_make 88 = .ok (.iload 5, 2) := by decide +kernel
theorem dX5_make_90 : decode cX5_make 90 = .ok (.iconst 3, 1) := by decide +kernel
theorem dX5_make_91 : decode cX5_make 91 = .ok (.if_icmp .ne 11, 3) := by decide +kernel
theorem dX5_make_94 : decode cX5_make 94 = .ok (.aload_n 1, 1) := by decide +kernel
theorem dX5_make_95 : decode cX5_make 95 = .ok (.iload_n 3, 1) := by decide +kernel
theorem dX5_make_96 : decode cX5_make 96 = .ok (.iload 4, 2) := by decide +kernel
theorem dX5_make_98 : decode cX5_make 98 = .ok (.iconst (-1), 1) := by decide +kernel
theorem dX5_make_99 : decode cX5_make 99 = .ok (.invokevirtual 264, 3) := by decide +kernel
theorem dX5_make_102 : decode cX5_make 102 = .ok (.aload_n 0, 1) := by decide +kernel
theorem dX5_make_103 : decode cX5_make 103 = .ok (.getfield 22, 3) := by decide +kernel
theorem dX5_make_106 : decode cX5_make 106 = .ok (.iconst 1, 1) := by decide +kernel
theorem dX5_make_107 : decode cX5_make 107 = .ok (.invokevirtual 104, 3) := by decide +kernel
theorem dX5_make_110 : decode cX5_make 110 = .ok (.ifCond .eq 41, 3) := by decide +kernel
theorem dX5_make_113 : decode cX5_make 113 = .ok (.iload 6, 2) := by decide +kernel
theorem dX5_make_115 : decode cX5_make 115 = .ok (.iconst (-1), 1) := by decide +kernel
theorem dX5_make_116 : decode cX5_make 116 = .ok (.if_icmp .eq 35, 3) := by decide +kernel
theorem dX5_make_119 : decode cX5_make 119 = .ok (.iload 6, 2) := by decide +kernel
theorem dX5_make_121 : decode cX5_make 121 = .ok (.aload_n 0, 1) := by decide +kernel
theorem dX5_make_122 : decode cX5_make 122 = .ok (.getfield 22, 3) := by decide +kernel
theorem dX5_make_125 : decode cX5_make 125 = .ok (.getfield 129, 3) := by decide +kernel
theorem dX5_make_128 : decode cX5_make 128 = .ok (.if_icmp .eq 23, 3) := by decide +kernel
theorem dX5_make_131 : decode cX5_make 131 = .ok (.aload_n 1, 1) := by decide +kernel
theorem dX5_make_132 : decode cX5_make 132 = .ok (.iload_n 3, 1) := by decide +kernel
theorem dX5_make_133 : decode cX5_make 133 = .ok (.iload 6, 2) := by decide +kernel
theorem dX5_make_135 : decode cX5_make 135 = .ok (.invokevirtual 209, 3) := by decide +kernel
theorem dX5_make_138 : decode cX5_make 138 = .ok (.bipush 16, 2) := by decide +kernel
theorem dX5_make_140 : decode cX5_make 140 = .ok (.if_icmp .ge 11, 3) := by decide +kernel
theorem dX5_make_143 : decode cX5_make 143 = .ok (.aload_n 1, 1) := by decide +kernel
theorem dX5_make_144 : decode cX5_make 144 = .ok (.iload_n 3, 1) := by decide +kernel
theorem dX5_make_145 : decode cX5_make 145 = .ok (.iload 6, 2) := by decide +kernel
theorem dX5_make_147 : decode cX5_make 147 = .ok (.iconst 1, 1) := by decide +kernel
theorem dX5_make_148 : decode cX5_make 148 = .ok (.invokevirtual 264, 3) := by decide +kernel
theorem dX5_make_151 : decode cX5_make 151 = .ok (.aload_n 0, 1) := by decide +kernel
theorem dX5_make_152 : decode cX5_make 152 = .ok (.aload_n 1, 1) := by decide +kernel
theorem dX5_make_153 : decode cX5_make 153 = .ok (.iload_n 2, 1) := by decide +kernel
theorem dX5_make_154 : decode cX5_make 154 = .ok (.invokevirtual 267, 3) := by decide +kernel
theorem dX5_make_157 : decode cX5_make 157 = .ok (.iload 6, 2) := by decide +kernel
theorem dX5_make_159 : decode cX5_make 159 = .ok (.iconst (-1), 1) := by decide +kernel
theorem dX5_make_160 : decode cX5_make 160 = .ok (.if_icmp .ne 27, 3) := by decide +kernel
theorem dX5_make_163 : decode cX5_make 163 = .ok (.iload 5, 2) := by decide +kernel
theorem dX5_make_165 : decode cX5_make 165 = .ok (.iconst 3, 1) := by decide +kernel
theorem dX5_make_166 : decode cX5_make 166 = .ok (.if_icmp .eq 21, 3) := by decide +kernel
theorem dX5_make_169 : decode cX5_make 169 = .ok (.iload 5, 2) := by decide +kernel
theorem dX5_make_171 : decode cX5_make 171 = .ok (.iconst 2, 1) := by decide +kernel
theorem dX5_make_172 : decode cX5_make 172 = .ok (.if_icmp .eq 19, 3) := by decide +kernel
theorem dX5_make_175 : decode cX5_make 175 = .ok (.aload_n 0, 1) := by decide +kernel
theorem dX5_make_176 : decode cX5_make 176 = .ok (.getfield 22, 3) := by decide +kernel
theorem dX5_make_179 : decode cX5_make 179 = .ok (.iload 4, 2) := by decide +kernel
theorem dX5_make_181 : decode cX5_make 181 = .ok (.invokevirtual 212, 3) := by decide +kernel
theorem dX5_make_184 : decode cX5_make 184 = .ok (.ifCond .eq 7, 3) := by decide +kernel
theorem dX5_make_187 : decode cX5_make 187 = .ok (.iconst 1, 1) := by decide +kernel
theorem dX5_make_188 : decode cX5_make 188 = .ok (.goto 4, 3) := by decide +kernel
theorem dX5_make_191 : decode cX5_make 191 = .ok (.iconst 0, 1) := by decide +kernel
theorem dX5_make_192 : decode cX5_make 192 = .ok (.istore 7, 2) := by decide +kernel
theorem dX5_make_194 : decode cX5_make 194 = .ok (.aload_n 1, 1) := by decide +kernel
theorem dX5_make_195 : decode cX5_make 195 = .ok (.iload 7, 2) := by decide +kernel
theorem dX5_make_197 : decode cX5_make 197 = .ok (.ifCond .eq 7, 3) := by decide +kernel
theorem dX5_make_200 : decode cX5_make 200 = .ok (.iconst 0, 1) := by decide +kernel
theorem dX5_make_201 : decode cX5_make 201 = .ok (.goto 15, 3) := by decide +kernel
theorem dX5_make_204 : decode cX5_make 204 = .ok (.aload_n 1, 1) := by decide +kernel
theorem dX5_make_205 : decode cX5_make 205 = .ok (.getfield 270, 3) := by decide +kernel
theorem dX5_make_208 : decode cX5_make 208 = .ok (.iconst 1, 1) := by decide +kernel
theorem dX5_make_209 : decode cX5_make 209 = .ok (.iadd, 1) := by decide +kernel
theorem dX5_make_210 : decode cX5_make 210 = .ok (.sipush 200, 3) := by decide +kernel
theorem dX5_make_213 : decode cX5_make 213 = .ok (.invokestatic 273, 3) := by decide +kernel
theorem dX5_make_216 : decode cX5_make 216 = .ok (.putfield 270, 3) := by decide +kernel
theorem dX5_make_219 : decode cX5_make 219 = .ok (.aload_n 1, 1) := by decide +kernel
theorem dX5_make_220 : decode cX5_make 220 = .ok (.iconst 1, 1) := by decide +kernel
theorem dX5_make_221 : decode cX5_make 221 = .ok (.iload_n 3, 1) := by decide +kernel
theorem dX5_make_222 : decode cX5_make 222 = .ok (.isub, 1) := by decide +kernel
theorem dX5_make_223 : decode cX5_make 223 = .ok (.putfield 78, 3) := by decide +kernel
theorem dX5_make_226 : decode cX5_make 226 = .ok (.aload_n 0, 1) := by decide +kernel
theorem dX5_make_227 : decode cX5_make 227 = .ok (.getfield 22, 3) := by decide +kernel
theorem dX5_make_230 : decode cX5_make 230 = .ok (.getfield 276, 3) := by decide +kernel
theorem dX5_make_233 : decode cX5_make 233 = .ok (.ifCond .le 34, 3) := by decide +kernel
theorem dX5_make_236 : decode cX5_make 236 = .ok (.aload_n 0, 1) := by decide +kernel
theorem dX5_make_237 : decode cX5_make 237 = .ok (.aload_n 1, 1) := by decide +kernel
theorem dX5_make_238 : decode cX5_make 238 = .ok (.aload_n 1, 1) := by decide +kernel
theorem dX5_make_239 : decode cX5_make 239 = .ok (.getfield 78, 3) := by decide +kernel
theorem dX5_make_242 : decode cX5_make 242 = .ok (.invokevirtual 279, 3) := by decide +kernel
theorem dX5_make_245 : decode cX5_make 245 = .ok (.ifCond .eq 22, 3) := by decide +kernel
theorem dX5_make_248 : decode cX5_make 248 = .ok (.aload_n 1, 1) := by decide +kernel
theorem dX5_make_249 : decode cX5_make 249 = .ok (.getfield 283, 3) := by decide +kernel
theorem dX5_make_252 : decode cX5_make 252 = .ok (.iload_n 3, 1) := by decide +kernel
theorem dX5_make_253 : decode cX5_make 253 = .ok (.aload_n 1, 1) := by decide +kernel
theorem dX5_make_254 : decode cX5_make 254 = .ok (.getfield 283, 3) := by decide +kernel
theorem dX5_make_257 : decode cX5_make 257 = .ok (.iload_n 3, 1) := by decide +kernel
theorem dX5_make_258 : decode cX5_make 258 = .ok (.iaload, 1) := by decide +kernel
theorem dX5_make_259 : decode cX5_make 259 = .ok (.iconst 1, 1) := by decide +kernel
theorem dX5_make_260 : decode cX5_make 260 = .ok (.iadd, 1) := by decide +kernel
theorem dX5_make_261 : decode cX5_make 261 = .ok (.bipush 9, 2) := by decide +kernel
theorem dX5_make_263 : decode cX5_make 263 = .ok (.invokestatic 273, 3) := by decide +kernel
theorem dX5_make_266 : decode cX5_make 266 = .ok (.iastore, 1) := by decide +kernel
theorem dX5_make_267 : decode cX5_make 267 = .ok (.return_, 1) := by decide +kernel
set_option maxRecDepth 20000 in
theorem moX5_make_267 {o : Hp} {F : Nat} {h : Hp} (hE : sX5_make_267 F h  = some o) : Le h o := by
  exact le_some1 hE
set_option maxRecDepth 20000 in
theorem moX5_make_216 {o : Hp} {F : Nat} {h : Hp} {x0 : Nat} {x1 : Nat} {x3 : Int32} {t0 : Int32} {t1 : Nat} (hE : sX5_make_216 F h x0 x1 x3 t0 t1 = some o) : Le h o := by
  obtain ⟨h_1, eh_1, hE⟩ := nm_e2 hE
  refine (le_I eh_1).tr ?_
  obtain ⟨h_2, eh_2, hE⟩ := nm_e2 hE
  refine (le_I eh_2).tr ?_
  obtain ⟨r_3, er_3, hE⟩ := cl_e hE
  rcases br_e hE with ⟨_, hE⟩ | ⟨_, hE⟩
  · exact moX5_make_267 hE
  · obtain ⟨o_5, eo_5, hE⟩ := cl_e hE
    refine (moX5_isRoyalHit eo_5).tr ?_
    rcases br_e hE with ⟨_, hE⟩ | ⟨_, hE⟩
    · exact moX5_make_267 hE
    · obtain ⟨r_7, er_7, hE⟩ := cl_e hE
      obtain ⟨r_8, er_8, hE⟩ := cl_e hE
      obtain ⟨g_9, hE⟩ := gd_e hE
      obtain ⟨g_10, hE⟩ := gd_e hE
      obtain ⟨h_11, eh_11, hE⟩ := nm_e2 hE
      refine (le_I eh_11).tr ?_
      exact moX5_make_267 hE
set_option maxRecDepth 20000 in
theorem moX5_make_192 {o : Hp} {F : Nat} {h : Hp} {x0 : Nat} {x1 : Nat} {x3 : Int32} {t0 : Int32} (hE : sX5_make_192 F h x0 x1 x3 t0 = some o) : Le h o := by
  rcases br_e hE with ⟨_, hE⟩ | ⟨_, hE⟩
  · exact moX5_make_216 hE
  · exact moX5_make_216 hE
set_option maxRecDepth 20000 in
theorem moX5_make_187 {o : Hp} {F : Nat} {h : Hp} {x0 : Nat} {x1 : Nat} {x3 : Int32} (hE : sX5_make_187 F h x0 x1 x3 = some o) : Le h o := by
  exact moX5_make_192 hE
set_option maxRecDepth 20000 in
theorem moX5_make_191 {o : Hp} {F : Nat} {h : Hp} {x0 : Nat} {x1 : Nat} {x3 : Int32} (hE : sX5_make_191 F h x0 x1 x3 = some o) : Le h o := by
  exact moX5_make_192 hE
set_option maxRecDepth 20000 in
theorem moX5_make_151 {o : Hp} {F : Nat} {h : Hp} {x0 : Nat} {x1 : Nat} {x2 : Int32} {x3 : Int32} {x4 : Int32} {x5 : Int32} {x6 : Int32} (hE : sX5_make_151 F h x0 x1 x2 x3 x4 x5 x6 = some o) : Le h o := by
  obtain ⟨o_1, eo_1, hE⟩ := cl_e hE
  refine (moX5_notePass eo_1).tr ?_
  rcases br_e hE with ⟨_, hE⟩ | ⟨_, hE⟩
  · rcases br_e hE with ⟨_, hE⟩ | ⟨_, hE⟩
    · exact moX5_make_187 hE
    · rcases br_e hE with ⟨_, hE⟩ | ⟨_, hE⟩
      · exact moX5_make_191 hE
      · obtain ⟨r_5, er_5, hE⟩ := cl_e hE
        obtain ⟨o_6, eo_6, hE⟩ := cl_e hE
        refine (moX1_becomesOthers eo_6).tr ?_
        rcases br_e hE with ⟨_, hE⟩ | ⟨_, hE⟩
        · exact moX5_make_191 hE
        · exact moX5_make_187 hE
  · exact moX5_make_187 hE
set_option maxRecDepth 20000 in
theorem moX5_make_102 {o : Hp} {F : Nat} {h : Hp} {x0 : Nat} {x1 : Nat} {x2 : Int32} {x3 : Int32} {x4 : Int32} {x5 : Int32} {x6 : Int32} (hE : sX5_make_102 F h x0 x1 x2 x3 x4 x5 x6 = some o) : Le h o := by
  obtain ⟨r_1, er_1, hE⟩ := cl_e hE
  obtain ⟨o_2, eo_2, hE⟩ := cl_e hE
  refine (moX1_has eo_2).tr ?_
  rcases br_e hE with ⟨_, hE⟩ | ⟨_, hE⟩
  · exact moX5_make_151 hE
  · rcases br_e hE with ⟨_, hE⟩ | ⟨_, hE⟩
    · exact moX5_make_151 hE
    · obtain ⟨r_5, er_5, hE⟩ := cl_e hE
      rcases br_e hE with ⟨_, hE⟩ | ⟨_, hE⟩
      · exact moX5_make_151 hE
      · obtain ⟨o_7, eo_7, hE⟩ := cl_e hE
        refine (moX3_inHand eo_7).tr ?_
        rcases br_e hE with ⟨_, hE⟩ | ⟨_, hE⟩
        · exact moX5_make_151 hE
        · obtain ⟨o_9, eo_9, hE⟩ := cl_e hE
          refine (moX3_addToHand eo_9).tr ?_
          exact moX5_make_151 hE
set_option maxRecDepth 20000 in
theorem moX5_make_54 {o : Hp} {F : Nat} {h : Hp} {x0 : Nat} {x1 : Nat} {x2 : Int32} {x3 : Int32} {x4 : Int32} {x5 : Int32} {x6 : Int32} (hE : sX5_make_54 F h x0 x1 x2 x3 x4 x5 x6 = some o) : Le h o := by
  obtain ⟨h_1, eh_1, hE⟩ := nm_e2 hE
  refine (le_J eh_1).tr ?_
  obtain ⟨o_2, eo_2, hE⟩ := cl_e hE
  refine (moX5_shift eo_2).tr ?_
  obtain ⟨o_3, eo_3, hE⟩ := cl_e hE
  refine (moX5_blast eo_3).tr ?_
  obtain ⟨h_4, eh_4, hE⟩ := nm_e2 hE
  refine (le_J eh_4).tr ?_
  rcases br_e hE with ⟨_, hE⟩ | ⟨_, hE⟩
  · obtain ⟨o_6, eo_6, hE⟩ := cl_e hE
    refine (moX3_addToHand eo_6).tr ?_
    exact moX5_make_102 hE
  · exact moX5_make_102 hE
set_option maxRecDepth 20000 in
theorem moX5_make {o : Hp} {F : Nat} {h : Hp} {x0 : Nat} {x1 : Nat} {x2 : Int32} (hE : sX5_make F h x0 x1 x2 = some o) : Le h o := by
  obtain ⟨v_1, ev_1, hE⟩ := nm_e2 hE
  obtain ⟨o_2, eo_2, hE⟩ := cl_e hE
  refine (moX5_manOf eo_2).tr ?_
  obtain ⟨o_3, eo_3, hE⟩ := cl_e hE
  refine (moX5_kindOf eo_3).tr ?_
  obtain ⟨o_4, eo_4, hE⟩ := cl_e hE
  refine (moX5_takenBy eo_4).tr ?_
  obtain ⟨r_5, er_5, hE⟩ := cl_e hE
  rcases br_e hE with ⟨_, hE⟩ | ⟨_, hE⟩
  · obtain ⟨r_7, er_7, hE⟩ := cl_e hE
    obtain ⟨g_8, hE⟩ := gd_e hE
    obtain ⟨h_9, eh_9, hE⟩ := nm_e2 hE
    refine (le_J eh_9).tr ?_
    exact moX5_make_54 hE
  · exact moX5_make_54 hE
set_option maxRecDepth 20000 in
theorem bX5_make_267 {p : Program} {l : Launch} {e : Env} {s : State} {m : MethodId} {args : Array Value} {below : List Frame} {meth : Method} {c : Code} {X : Ec} {h0 : Hp} {o : Hp} {F : Nat} (C : Cx X p s m args meth c RX5 cX5_make 8 none "make") {h : Hp} {H : Heap} {locs : List Loc} (hkm : Km h0 h) (hW : Wx X h H) (hZ : va_S (aA (eB X)) s.heap H locs) (ls : Array Slot) (hl : lv_has ls 8 []) (hE : sX5_make_267 F h  = some o) : W p l e (rm 3 69) s m args below meth c H locs 0 0 (MQ below (QV X h0 o) args s 0 0 (aA (eB X))) (F0 m 267 ls []) := by
  exact x_vret C rfl hW hZ hkm hE dX5_make_267
set_option maxRecDepth 20000 in
theorem bX5_make_216 {p : Program} {l : Launch} {e : Env} {s : State} {m : MethodId} {args : Array Value} {below : List Frame} {meth : Method} {c : Code} {X : Ec} {h0 : Hp} {o : Hp} {F : Nat} (C : Cx X p s m args meth c RX5 cX5_make 8 none "make") {h : Hp} {x0 : Nat} {x1 : Nat} {x3 : Int32} {t0 : Int32} {t1 : Nat} {H : Heap} {locs : List Loc} (k_x0 : hK h x0 = 5) (k_x1 : hK h x1 = 3) (k_t1 : hK h t1 = 3) (hkm : Km h0 h) (hW : Wx X h H) (hZ : va_S (aA (eB X)) s.heap H locs) (ls : Array Slot) (hl : lv_has ls 8 [(0, .ref x0), (1, .ref x1), (3, .int x3)]) (hE : sX5_make_216 F h x0 x1 x3 t0 t1 = some o) : W p l e (rm 3 69) s m args below meth c H locs 0 0 (MQ below (QV X h0 o) args s 0 0 (aA (eB X))) (F0 m 216 ls [.int t0, .ref t1]) := by
  obtain ⟨h_1, eh_1, hE⟩ := nm_e2 hE
  refine pf_X5_270 C hW hZ k_t1 eh_1 dX5_make_216 (fun _ _ hW km hZ => ?_)
  replace hkm := hkm.tr km
  replace k_x0 := km.at k_x0 (by decide)
  replace k_x1 := km.at k_x1 (by decide)
  refine lv_aload_n C.1 C.2.1 dX5_make_219 rfl (lv_at hl 1 rfl) ?_
  refine lv_iconst (v := (1 : Int32)) C.1 C.2.1 dX5_make_220 (by decide) ?_
  refine lv_iload_n C.1 C.2.1 dX5_make_221 rfl (lv_at hl 2 rfl) ?_
  refine lv_isub C.1 C.2.1 dX5_make_222 ?_
  obtain ⟨h_2, eh_2, hE⟩ := nm_e2 hE
  refine pf_X5_78 C hW hZ k_x1 eh_2 dX5_make_223 (fun _ _ hW km hZ => ?_)
  replace hkm := hkm.tr km
  replace k_x0 := km.at k_x0 (by decide)
  replace k_x1 := km.at k_x1 (by decide)
  refine lv_aload_n C.1 C.2.1 dX5_make_226 rfl (lv_at hl 0 rfl) ?_
  obtain ⟨r_3, er_3, hE⟩ := cl_e hE
  refine gf_X5_22 C hW k_x0 er_3 dX5_make_227 (fun k_r_3 => ?_)
  refine gf_X5_276 C hW k_r_3 dX5_make_230 ?_
  refine lv_if_le (tgt := 267) C.1 C.2.1 dX5_make_233 (by decide) (fun c_4 => ?_) (fun c_4 => ?_)
  · have hE := br_p hE c_4
    exact bX5_make_267 C hkm hW hZ _ (lv_sub hl [] rfl) hE
  · have hE := br_n hE c_4
    refine lv_aload_n C.1 C.2.1 dX5_make_236 rfl (lv_at hl 0 rfl) ?_
    refine lv_aload_n C.1 C.2.1 dX5_make_237 rfl (lv_at hl 1 rfl) ?_
    refine lv_aload_n C.1 C.2.1 dX5_make_238 rfl (lv_at hl 1 rfl) ?_
    refine gf_X5_78 C hW k_x1 dX5_make_239 ?_
    obtain ⟨o_5, eo_5, hE⟩ := cl_e hE
    refine x_kI (o := o_5) (z_runV (As := [.ref x1, .int (hI h_2 x1 5)]) (rest := []) C (ct_X5_isRoyalHit l X F k_x0 k_x1 eo_5) cw_X5_279 hW hZ k_x0 (by decide) rfl rfl rfl hl.1 (Nat.le_of_ble_eq_true rfl) rfl dX5_make_242 ⟨Nat.le_of_ble_eq_true rfl, Nat.le_of_ble_eq_true rfl⟩ ⟨Nat.le_refl _, Nat.le_refl _⟩) hZ (fun _ _ hW km hZ => ?_)
    replace hkm := hkm.tr km
    replace k_x0 := km.at k_x0 (by decide)
    replace k_x1 := km.at k_x1 (by decide)
    refine lv_if_eq (tgt := 267) C.1 C.2.1 dX5_make_245 (by decide) (fun c_6 => ?_) (fun c_6 => ?_)
    · have hE := br_p hE c_6
      exact bX5_make_267 C hkm hW hZ _ (lv_sub hl [] rfl) hE
    · have hE := br_n hE c_6
      refine lv_aload_n C.1 C.2.1 dX5_make_248 rfl (lv_at hl 1 rfl) ?_
      obtain ⟨r_7, er_7, hE⟩ := cl_e hE
      refine gf_X5_283 C hW k_x1 er_7 dX5_make_249 (fun k_r_7 => ?_)
      refine lv_iload_n C.1 C.2.1 dX5_make_252 rfl (lv_at hl 2 rfl) ?_
      refine lv_aload_n C.1 C.2.1 dX5_make_253 rfl (lv_at hl 1 rfl) ?_
      obtain ⟨r_8, er_8, hE⟩ := cl_e hE
      refine gf_X5_283 C hW k_x1 er_8 dX5_make_254 (fun k_r_8 => ?_)
      refine lv_iload_n C.1 C.2.1 dX5_make_257 rfl (lv_at hl 2 rfl) ?_
      obtain ⟨g_9, hE⟩ := gd_e hE
      refine y_iald C hW k_r_8 g_9 dX5_make_258 ?_
      refine lv_iconst (v := (1 : Int32)) C.1 C.2.1 dX5_make_259 (by decide) ?_
      refine lv_iadd C.1 C.2.1 dX5_make_260 ?_
      refine lv_bipush (v := (9 : Int32)) C.1 C.2.1 dX5_make_261 (by decide) ?_
      refine va_mmin C.1 C.2.1 (C.2.2.1.trans hl.1.symm) C.2.2.2.1 (C.2.2.2.2.1 _ m_1339) (C.2.2.2.2.1 _ m_1340) (C.2.2.2.2.1 _ m_3) (C.2.2.2.2.1 _ m_1341) (Nat.le_of_ble_eq_true rfl) (Nat.le_of_ble_eq_true rfl) (Nat.le_refl _) (Nat.le_refl _) dX5_make_263 ?_
      obtain ⟨g_10, hE⟩ := gd_e hE
      obtain ⟨h_11, eh_11, hE⟩ := nm_e2 hE
      refine y_iast C hW hZ k_r_7 g_10 eh_11 dX5_make_266 (fun _ _ hW km hZ => ?_)
      replace hkm := hkm.tr km
      replace k_x0 := km.at k_x0 (by decide)
      replace k_x1 := km.at k_x1 (by decide)
      exact bX5_make_267 C hkm hW hZ _ (lv_sub hl [] rfl) hE
set_option maxRecDepth 20000 in
theorem bX5_make_192 {p : Program} {l : Launch} {e : Env} {s : State} {m : MethodId} {args : Array Value} {below : List Frame} {meth : Method} {c : Code} {X : Ec} {h0 : Hp} {o : Hp} {F : Nat} (C : Cx X p s m args meth c RX5 cX5_make 8 none "make") {h : Hp} {x0 : Nat} {x1 : Nat} {x3 : Int32} {t0 : Int32} {H : Heap} {locs : List Loc} (k_x0 : hK h x0 = 5) (k_x1 : hK h x1 = 3) (hkm : Km h0 h) (hW : Wx X h H) (hZ : va_S (aA (eB X)) s.heap H locs) (ls : Array Slot) (hl : lv_has ls 8 [(0, .ref x0), (1, .ref x1), (3, .int x3)]) (hE : sX5_make_192 F h x0 x1 x3 t0 = some o) : W p l e (rm 3 69) s m args below meth c H locs 0 0 (MQ below (QV X h0 o) args s 0 0 (aA (eB X))) (F0 m 192 ls [.int t0]) := by
  refine lv_istore (lv' := [(7, .int t0), (0, .ref x0), (1, .ref x1), (3, .int x3)]) C.1 C.2.1 dX5_make_192 hl (by decide) rfl (fun ls hl => ?_)
  refine lv_aload_n C.1 C.2.1 dX5_make_194 rfl (lv_at hl 2 rfl) ?_
  refine lv_iload C.1 C.2.1 dX5_make_195 (lv_at hl 0 rfl) ?_
  refine lv_if_eq (tgt := 204) C.1 C.2.1 dX5_make_197 (by decide) (fun c_1 => ?_) (fun c_1 => ?_)
  · have hE := br_p hE c_1
    refine lv_aload_n C.1 C.2.1 dX5_make_204 rfl (lv_at hl 2 rfl) ?_
    refine gf_X5_270 C hW k_x1 dX5_make_205 ?_
    refine lv_iconst (v := (1 : Int32)) C.1 C.2.1 dX5_make_208 (by decide) ?_
    refine lv_iadd C.1 C.2.1 dX5_make_209 ?_
    refine lv_sipush (v := (200 : Int32)) C.1 C.2.1 dX5_make_210 (by decide) ?_
    refine va_mmin C.1 C.2.1 (C.2.2.1.trans hl.1.symm) C.2.2.2.1 (C.2.2.2.2.1 _ m_1339) (C.2.2.2.2.1 _ m_1340) (C.2.2.2.2.1 _ m_3) (C.2.2.2.2.1 _ m_1341) (Nat.le_of_ble_eq_true rfl) (Nat.le_of_ble_eq_true rfl) (Nat.le_refl _) (Nat.le_refl _) dX5_make_213 ?_
    exact bX5_make_216 C k_x0 k_x1 k_x1 hkm hW hZ _ (lv_sub hl [1, 2, 3] rfl) hE
  · have hE := br_n hE c_1
    refine lv_iconst (v := (0 : Int32)) C.1 C.2.1 dX5_make_200 (by decide) ?_
    refine lv_goto (tgt := 216) C.1 C.2.1 dX5_make_201 (by decide) ?_
    exact bX5_make_216 C k_x0 k_x1 k_x1 hkm hW hZ _ (lv_sub hl [1, 2, 3] rfl) hE
set_option maxRecDepth 20000 in
theorem bX5_make_187 {p : Program} {l : Launch} {e : Env} {s : State} {m : MethodId} {args : Array Value} {below : List Frame} {meth : Method} {c : Code} {X : Ec} {h0 : Hp} {o : Hp} {F : Nat} (C : Cx X p s m args meth c RX5 cX5_make 8 none "make") {h : Hp} {x0 : Nat} {x1 : Nat} {x3 : Int32} {H : Heap} {locs : List Loc} (k_x0 : hK h x0 = 5) (k_x1 : hK h x1 = 3) (hkm : Km h0 h) (hW : Wx X h H) (hZ : va_S (aA (eB X)) s.heap H locs) (ls : Array Slot) (hl : lv_has ls 8 [(0, .ref x0), (1, .ref x1), (3, .int x3)]) (hE : sX5_make_187 F h x0 x1 x3 = some o) : W p l e (rm 3 69) s m args below meth c H locs 0 0 (MQ below (QV X h0 o) args s 0 0 (aA (eB X))) (F0 m 187 ls []) := by
  refine lv_iconst (v := (1 : Int32)) C.1 C.2.1 dX5_make_187 (by decide) ?_
  refine lv_goto (tgt := 192) C.1 C.2.1 dX5_make_188 (by decide) ?_
  exact bX5_make_192 C k_x0 k_x1 hkm hW hZ _ (lv_sub hl [0, 1, 2] rfl) hE
set_option maxRecDepth 20000 in
theorem bX5_make_191 {p : Program} {l : Launch} {e : Env} {s : State} {m : MethodId} {args : Array Value} {below : List Frame} {meth : Method} {c : Code} {X : Ec} {h0 : Hp} {o : Hp} {F : Nat} (C : Cx X p s m args meth c RX5 cX5_make 8 none "make") {h : Hp} {x0 : Nat} {x1 : Nat} {x3 : Int32} {H : Heap} {locs : List Loc} (k_x0 : hK h x0 = 5) (k_x1 : hK h x1 = 3) (hkm : Km h0 h) (hW : Wx X h H) (hZ : va_S (aA (eB X)) s.heap H locs) (ls : Array Slot) (hl : lv_has ls 8 [(0, .ref x0), (1, .ref x1), (3, .int x3)]) (hE : sX5_make_191 F h x0 x1 x3 = some o) : W p l e (rm 3 69) s m args below meth c H locs 0 0 (MQ below (QV X h0 o) args s 0 0 (aA (eB X))) (F0 m 191 ls []) := by
  refine lv_iconst (v := (0 : Int32)) C.1 C.2.1 dX5_make_191 (by decide) ?_
  exact bX5_make_192 C k_x0 k_x1 hkm hW hZ _ (lv_sub hl [0, 1, 2] rfl) hE
set_option maxRecDepth 20000 in
theorem bX5_make_151 {p : Program} {l : Launch} {e : Env} {s : State} {m : MethodId} {args : Array Value} {below : List Frame} {meth : Method} {c : Code} {X : Ec} {h0 : Hp} {o : Hp} {F : Nat} (C : Cx X p s m args meth c RX5 cX5_make 8 none "make") {h : Hp} {x0 : Nat} {x1 : Nat} {x2 : Int32} {x3 : Int32} {x4 : Int32} {x5 : Int32} {x6 : Int32} {H : Heap} {locs : List Loc} (k_x0 : hK h x0 = 5) (k_x1 : hK h x1 = 3) (hkm : Km h0 h) (hW : Wx X h H) (hZ : va_S (aA (eB X)) s.heap H locs) (ls : Array Slot) (hl : lv_has ls 8 [(0, .ref x0), (1, .ref x1), (2, .int x2), (3, .int x3), (4, .int x4), (5, .int x5), (6, .int x6)]) (hE : sX5_make_151 F h x0 x1 x2 x3 x4 x5 x6 = some o) : W p l e (rm 3 69) s m args below meth c H locs 0 0 (MQ below (QV X h0 o) args s 0 0 (aA (eB X))) (F0 m 151 ls []) := by
  refine lv_aload_n C.1 C.2.1 dX5_make_151 rfl (lv_at hl 0 rfl) ?_
  refine lv_aload_n C.1 C.2.1 dX5_make_152 rfl (lv_at hl 1 rfl) ?_
  refine lv_iload_n C.1 C.2.1 dX5_make_153 rfl (lv_at hl 2 rfl) ?_
  obtain ⟨o_1, eo_1, hE⟩ := cl_e hE
  refine x_kV (o := o_1) (z_runV (As := [.ref x1, .int x2]) (rest := []) C (ct_X5_notePass l X F k_x0 k_x1 eo_1) cw_X5_267 hW hZ k_x0 (by decide) rfl rfl rfl hl.1 (Nat.le_of_ble_eq_true rfl) rfl dX5_make_154 ⟨Nat.le_of_ble_eq_true rfl, Nat.le_of_ble_eq_true rfl⟩ ⟨Nat.le_refl _, Nat.le_refl _⟩) hZ (fun _ _ hW km hZ => ?_)
  replace hkm := hkm.tr km
  replace k_x0 := km.at k_x0 (by decide)
  replace k_x1 := km.at k_x1 (by decide)
  refine lv_iload C.1 C.2.1 dX5_make_157 (lv_at hl 6 rfl) ?_
  refine lv_iconst (v := (-1 : Int32)) C.1 C.2.1 dX5_make_159 (by decide) ?_
  refine lv_icmp_ne (tgt := 187) C.1 C.2.1 dX5_make_160 (by decide) (fun c_2 => ?_) (fun c_2 => ?_)
  · have hE := br_n hE c_2
    exact bX5_make_187 C k_x0 k_x1 hkm hW hZ _ (lv_sub hl [0, 1, 3] rfl) hE
  · have hE := br_p hE c_2
    refine lv_iload C.1 C.2.1 dX5_make_163 (lv_at hl 5 rfl) ?_
    refine lv_iconst (v := (3 : Int32)) C.1 C.2.1 dX5_make_165 (by decide) ?_
    refine lv_icmp_eq (tgt := 187) C.1 C.2.1 dX5_make_166 (by decide) (fun c_3 => ?_) (fun c_3 => ?_)
    · have hE := br_p hE c_3
      exact bX5_make_187 C k_x0 k_x1 hkm hW hZ _ (lv_sub hl [0, 1, 3] rfl) hE
    · have hE := br_n hE c_3
      refine lv_iload C.1 C.2.1 dX5_make_169 (lv_at hl 5 rfl) ?_
      refine lv_iconst (v := (2 : Int32)) C.1 C.2.1 dX5_make_171 (by decide) ?_
      refine lv_icmp_eq (tgt := 191) C.1 C.2.1 dX5_make_172 (by decide) (fun c_4 => ?_) (fun c_4 => ?_)
      · have hE := br_p hE c_4
        exact bX5_make_191 C k_x0 k_x1 hkm hW hZ _ (lv_sub hl [0, 1, 3] rfl) hE
      · have hE := br_n hE c_4
        refine lv_aload_n C.1 C.2.1 dX5_make_175 rfl (lv_at hl 0 rfl) ?_
        obtain ⟨r_5, er_5, hE⟩ := cl_e hE
        refine gf_X5_22 C hW k_x0 er_5 dX5_make_176 (fun k_r_5 => ?_)
        refine lv_iload C.1 C.2.1 dX5_make_179 (lv_at hl 4 rfl) ?_
        obtain ⟨o_6, eo_6, hE⟩ := cl_e hE
        refine x_kI (o := o_6) (z_runV (As := [.int x4]) (rest := []) C (ct_X1_becomesOthers l X k_r_5 eo_6) cw_X5_212 hW hZ k_r_5 (by decide) rfl rfl rfl hl.1 (Nat.le_of_ble_eq_true rfl) rfl dX5_make_181 ⟨Nat.le_of_ble_eq_true rfl, Nat.le_of_ble_eq_true rfl⟩ ⟨Nat.le_refl _, Nat.le_refl _⟩) hZ (fun _ _ hW km hZ => ?_)
        replace hkm := hkm.tr km
        replace k_x0 := km.at k_x0 (by decide)
        replace k_x1 := km.at k_x1 (by decide)
        refine lv_if_eq (tgt := 191) C.1 C.2.1 dX5_make_184 (by decide) (fun c_7 => ?_) (fun c_7 => ?_)
        · have hE := br_p hE c_7
          exact bX5_make_191 C k_x0 k_x1 hkm hW hZ _ (lv_sub hl [0, 1, 3] rfl) hE
        · have hE := br_n hE c_7
          exact bX5_make_187 C k_x0 k_x1 hkm hW hZ _ (lv_sub hl [0, 1, 3] rfl) hE
set_option maxRecDepth 20000 in
theorem bX5_make_102 {p : Program} {l : Launch} {e : Env} {s : State} {m : MethodId} {args : Array Value} {below : List Frame} {meth : Method} {c : Code} {X : Ec} {h0 : Hp} {o : Hp} {F : Nat} (C : Cx X p s m args meth c RX5 cX5_make 8 none "make") {h : Hp} {x0 : Nat} {x1 : Nat} {x2 : Int32} {x3 : Int32} {x4 : Int32} {x5 : Int32} {x6 : Int32} {H : Heap} {locs : List Loc} (k_x0 : hK h x0 = 5) (k_x1 : hK h x1 = 3) (hkm : Km h0 h) (hW : Wx X h H) (hZ : va_S (aA (eB X)) s.heap H locs) (ls : Array Slot) (hl : lv_has ls 8 [(0, .ref x0), (1, .ref x1), (2, .int x2), (3, .int x3), (4, .int x4), (5, .int x5), (6, .int x6)]) (hE : sX5_make_102 F h x0 x1 x2 x3 x4 x5 x6 = some o) : W p l e (rm 3 69) s m args below meth c H locs 0 0 (MQ below (QV X h0 o) args s 0 0 (aA (eB X))) (F0 m 102 ls []) := by
  refine lv_aload_n C.1 C.2.1 dX5_make_102 rfl (lv_at hl 0 rfl) ?_
  obtain ⟨r_1, er_1, hE⟩ := cl_e hE
  refine gf_X5_22 C hW k_x0 er_1 dX5_make_103 (fun k_r_1 => ?_)
  refine lv_iconst (v := (1 : Int32)) C.1 C.2.1 dX5_make_106 (by decide) ?_
  obtain ⟨o_2, eo_2, hE⟩ := cl_e hE
  refine x_kI (o := o_2) (z_runV (As := [.int (1 : Int32)]) (rest := []) C (ct_X1_has l X k_r_1 eo_2) cw_X5_104 hW hZ k_r_1 (by decide) rfl rfl rfl hl.1 (Nat.le_of_ble_eq_true rfl) rfl dX5_make_107 ⟨Nat.le_of_ble_eq_true rfl, Nat.le_of_ble_eq_true rfl⟩ ⟨Nat.le_refl _, Nat.le_refl _⟩) hZ (fun _ _ hW km hZ => ?_)
  replace hkm := hkm.tr km
  replace k_x0 := km.at k_x0 (by decide)
  replace k_x1 := km.at k_x1 (by decide)
  refine lv_if_eq (tgt := 151) C.1 C.2.1 dX5_make_110 (by decide) (fun c_3 => ?_) (fun c_3 => ?_)
  · have hE := br_p hE c_3
    exact bX5_make_151 C k_x0 k_x1 hkm hW hZ _ (lv_sub hl [0, 1, 2, 3, 4, 5, 6] rfl) hE
  · have hE := br_n hE c_3
    refine lv_iload C.1 C.2.1 dX5_make_113 (lv_at hl 6 rfl) ?_
    refine lv_iconst (v := (-1 : Int32)) C.1 C.2.1 dX5_make_115 (by decide) ?_
    refine lv_icmp_eq (tgt := 151) C.1 C.2.1 dX5_make_116 (by decide) (fun c_4 => ?_) (fun c_4 => ?_)
    · have hE := br_p hE c_4
      exact bX5_make_151 C k_x0 k_x1 hkm hW hZ _ (lv_sub hl [0, 1, 2, 3, 4, 5, 6] rfl) hE
    · have hE := br_n hE c_4
      refine lv_iload C.1 C.2.1 dX5_make_119 (lv_at hl 6 rfl) ?_
      refine lv_aload_n C.1 C.2.1 dX5_make_121 rfl (lv_at hl 0 rfl) ?_
      obtain ⟨r_5, er_5, hE⟩ := cl_e hE
      refine gf_X5_22 C hW k_x0 er_5 dX5_make_122 (fun k_r_5 => ?_)
      refine gf_X5_129 C hW k_r_5 dX5_make_125 ?_
      refine lv_icmp_eq (tgt := 151) C.1 C.2.1 dX5_make_128 (by decide) (fun c_6 => ?_) (fun c_6 => ?_)
      · have hE := br_p hE c_6
        exact bX5_make_151 C k_x0 k_x1 hkm hW hZ _ (lv_sub hl [0, 1, 2, 3, 4, 5, 6] rfl) hE
      · have hE := br_n hE c_6
        refine lv_aload_n C.1 C.2.1 dX5_make_131 rfl (lv_at hl 1 rfl) ?_
        refine lv_iload_n C.1 C.2.1 dX5_make_132 rfl (lv_at hl 3 rfl) ?_
        refine lv_iload C.1 C.2.1 dX5_make_133 (lv_at hl 6 rfl) ?_
        obtain ⟨o_7, eo_7, hE⟩ := cl_e hE
        refine x_kI (o := o_7) (z_runV (As := [.int x3, .int x6]) (rest := []) C (ct_X3_inHand l X k_x1 eo_7) cw_X5_209 hW hZ k_x1 (by decide) rfl rfl rfl hl.1 (Nat.le_of_ble_eq_true rfl) rfl dX5_make_135 ⟨Nat.le_of_ble_eq_true rfl, Nat.le_of_ble_eq_true rfl⟩ ⟨Nat.le_refl _, Nat.le_refl _⟩) hZ (fun _ _ hW km hZ => ?_)
        replace hkm := hkm.tr km
        replace k_x0 := km.at k_x0 (by decide)
        replace k_x1 := km.at k_x1 (by decide)
        refine lv_bipush (v := (16 : Int32)) C.1 C.2.1 dX5_make_138 (by decide) ?_
        refine lv_icmp_ge (tgt := 151) C.1 C.2.1 dX5_make_140 (by decide) (fun c_8 => ?_) (fun c_8 => ?_)
        · have hE := br_p hE c_8
          exact bX5_make_151 C k_x0 k_x1 hkm hW hZ _ (lv_sub hl [0, 1, 2, 3, 4, 5, 6] rfl) hE
        · have hE := br_n hE c_8
          refine lv_aload_n C.1 C.2.1 dX5_make_143 rfl (lv_at hl 1 rfl) ?_
          refine lv_iload_n C.1 C.2.1 dX5_make_144 rfl (lv_at hl 3 rfl) ?_
          refine lv_iload C.1 C.2.1 dX5_make_145 (lv_at hl 6 rfl) ?_
          refine lv_iconst (v := (1 : Int32)) C.1 C.2.1 dX5_make_147 (by decide) ?_
          obtain ⟨o_9, eo_9, hE⟩ := cl_e hE
          refine x_kV (o := o_9) (z_runV (As := [.int x3, .int x6, .int (1 : Int32)]) (rest := []) C (ct_X3_addToHand l X k_x1 eo_9) cw_X5_264 hW hZ k_x1 (by decide) rfl rfl rfl hl.1 (Nat.le_of_ble_eq_true rfl) rfl dX5_make_148 ⟨Nat.le_of_ble_eq_true rfl, Nat.le_of_ble_eq_true rfl⟩ ⟨Nat.le_refl _, Nat.le_refl _⟩) hZ (fun _ _ hW km hZ => ?_)
          replace hkm := hkm.tr km
          replace k_x0 := km.at k_x0 (by decide)
          replace k_x1 := km.at k_x1 (by decide)
          exact bX5_make_151 C k_x0 k_x1 hkm hW hZ _ (lv_sub hl [0, 1, 2, 3, 4, 5, 6] rfl) hE
set_option maxRecDepth 20000 in
theorem bX5_make_54 {p : Program} {l : Launch} {e : Env} {s : State} {m : MethodId} {args : Array Value} {below : List Frame} {meth : Method} {c : Code} {X : Ec} {h0 : Hp} {o : Hp} {F : Nat} (C : Cx X p s m args meth c RX5 cX5_make 8 none "make") {h : Hp} {x0 : Nat} {x1 : Nat} {x2 : Int32} {x3 : Int32} {x4 : Int32} {x5 : Int32} {x6 : Int32} {H : Heap} {locs : List Loc} (k_x0 : hK h x0 = 5) (k_x1 : hK h x1 = 3) (hkm : Km h0 h) (hW : Wx X h H) (hZ : va_S (aA (eB X)) s.heap H locs) (ls : Array Slot) (hl : lv_has ls 8 [(0, .ref x0), (1, .ref x1), (2, .int x2), (3, .int x3), (4, .int x4), (5, .int x5), (6, .int x6)]) (hE : sX5_make_54 F h x0 x1 x2 x3 x4 x5 x6 = some o) : W p l e (rm 3 69) s m args below meth c H locs 0 0 (MQ below (QV X h0 o) args s 0 0 (aA (eB X))) (F0 m 54 ls []) := by
  refine lv_aload_n C.1 C.2.1 dX5_make_54 rfl (lv_at hl 1 rfl) ?_
  refine lv_lconst (v := (0 : Int64)) C.1 C.2.1 dX5_make_55 (by decide) ?_
  obtain ⟨h_1, eh_1, hE⟩ := nm_e2 hE
  refine pf_X5_261 C hW hZ k_x1 eh_1 dX5_make_56 (fun _ _ hW km hZ => ?_)
  replace hkm := hkm.tr km
  replace k_x0 := km.at k_x0 (by decide)
  replace k_x1 := km.at k_x1 (by decide)
  refine lv_aload_n C.1 C.2.1 dX5_make_59 rfl (lv_at hl 0 rfl) ?_
  refine lv_aload_n C.1 C.2.1 dX5_make_60 rfl (lv_at hl 1 rfl) ?_
  refine lv_iload_n C.1 C.2.1 dX5_make_61 rfl (lv_at hl 2 rfl) ?_
  obtain ⟨o_2, eo_2, hE⟩ := cl_e hE
  refine x_kV (o := o_2) (z_runV (As := [.ref x1, .int x2]) (rest := []) C (ct_X5_shift l X F k_x0 k_x1 eo_2) cw_X5_222 hW hZ k_x0 (by decide) rfl rfl rfl hl.1 (Nat.le_of_ble_eq_true rfl) rfl dX5_make_62 ⟨Nat.le_of_ble_eq_true rfl, Nat.le_of_ble_eq_true rfl⟩ ⟨Nat.le_refl _, Nat.le_refl _⟩) hZ (fun _ _ hW km hZ => ?_)
  replace hkm := hkm.tr km
  replace k_x0 := km.at k_x0 (by decide)
  replace k_x1 := km.at k_x1 (by decide)
  refine lv_aload_n C.1 C.2.1 dX5_make_65 rfl (lv_at hl 0 rfl) ?_
  refine lv_aload_n C.1 C.2.1 dX5_make_66 rfl (lv_at hl 1 rfl) ?_
  refine lv_iload_n C.1 C.2.1 dX5_make_67 rfl (lv_at hl 2 rfl) ?_
  obtain ⟨o_3, eo_3, hE⟩ := cl_e hE
  refine x_kV (o := o_3) (z_runV (As := [.ref x1, .int x2]) (rest := []) C (ct_X5_blast l X F k_x0 k_x1 eo_3) cw_X5_226 hW hZ k_x0 (by decide) rfl rfl rfl hl.1 (Nat.le_of_ble_eq_true rfl) rfl dX5_make_68 ⟨Nat.le_of_ble_eq_true rfl, Nat.le_of_ble_eq_true rfl⟩ ⟨Nat.le_refl _, Nat.le_refl _⟩) hZ (fun _ _ hW km hZ => ?_)
  replace hkm := hkm.tr km
  replace k_x0 := km.at k_x0 (by decide)
  replace k_x1 := km.at k_x1 (by decide)
  refine lv_aload_n C.1 C.2.1 dX5_make_71 rfl (lv_at hl 1 rfl) ?_
  refine lv_dup C.1 C.2.1 dX5_make_72 rfl ?_
  refine gf_X5_93 C hW k_x1 dX5_make_73 ?_
  refine lv_aload_n C.1 C.2.1 dX5_make_76 rfl (lv_at hl 1 rfl) ?_
  refine gf_X5_261 C hW k_x1 dX5_make_77 ?_
  refine lv_ldc2 (v := (-1 : Int64)) C.1 C.2.1 C.2.2.2.1 (C.2.2.2.2.1 _ m_1325) dX5_make_80 ?_
  refine lv_lxor C.1 C.2.1 dX5_make_83 ?_
  refine lv_land C.1 C.2.1 dX5_make_84 ?_
  obtain ⟨h_4, eh_4, hE⟩ := nm_e2 hE
  refine pf_X5_93 C hW hZ k_x1 eh_4 dX5_make_85 (fun _ _ hW km hZ => ?_)
  replace hkm := hkm.tr km
  replace k_x0 := km.at k_x0 (by decide)
  replace k_x1 := km.at k_x1 (by decide)
  refine lv_iload C.1 C.2.1 dX5_make_88 (lv_at hl 5 rfl) ?_
  refine lv_iconst (v := (3 : Int32)) C.1 C.2.1 dX5_make_90 (by decide) ?_
  refine lv_icmp_ne (tgt := 102) C.1 C.2.1 dX5_make_91 (by decide) (fun c_5 => ?_) (fun c_5 => ?_)
  · have hE := br_n hE c_5
    exact bX5_make_102 C k_x0 k_x1 hkm hW hZ _ (lv_sub hl [0, 1, 2, 3, 4, 5, 6] rfl) hE
  · have hE := br_p hE c_5
    refine lv_aload_n C.1 C.2.1 dX5_make_94 rfl (lv_at hl 1 rfl) ?_
    refine lv_iload_n C.1 C.2.1 dX5_make_95 rfl (lv_at hl 3 rfl) ?_
    refine lv_iload C.1 C.2.1 dX5_make_96 (lv_at hl 4 rfl) ?_
    refine lv_iconst (v := (-1 : Int32)) C.1 C.2.1 dX5_make_98 (by decide) ?_
    obtain ⟨o_6, eo_6, hE⟩ := cl_e hE
    refine x_kV (o := o_6) (z_runV (As := [.int x3, .int x4, .int (-1 : Int32)]) (rest := []) C (ct_X3_addToHand l X k_x1 eo_6) cw_X5_264 hW hZ k_x1 (by decide) rfl rfl rfl hl.1 (Nat.le_of_ble_eq_true rfl) rfl dX5_make_99 ⟨Nat.le_of_ble_eq_true rfl, Nat.le_of_ble_eq_true rfl⟩ ⟨Nat.le_refl _, Nat.le_refl _⟩) hZ (fun _ _ hW km hZ => ?_)
    replace hkm := hkm.tr km
    replace k_x0 := km.at k_x0 (by decide)
    replace k_x1 := km.at k_x1 (by decide)
    exact bX5_make_102 C k_x0 k_x1 hkm hW hZ _ (lv_sub hl [0, 1, 2, 3, 4, 5, 6] rfl) hE
set_option maxRecDepth 20000 in
theorem ct_X5_make (l : Launch) (X : Ec) (F : Nat) {h : Hp} {x0 : Nat} {x1 : Nat} {x2 : Int32} {o : Hp} (k_x0 : hK h x0 = 5) (k_x1 : hK h x1 = 3) (hE : sX5_make F h x0 x1 x2 = some o) : MetV l yX5_make cX5_make 8 none 3 69 X [.ref x0, .ref x1, .int x2] h o := by
  refine x_met (by decide) (Nat.le_of_ble_eq_true rfl) ?_
  intro p e s m below meth c ls C hl hW hZ
  have hl : lv_has ls 8 [(0, .ref x0), (1, .ref x1), (2, .int x2)] := hl
  have hkm : Km h h := Km.rf h
  refine lv_aload_n C.1 C.2.1 dX5_make_0 rfl (lv_at hl 1 rfl) ?_
  refine gf_X5_78 C hW k_x1 dX5_make_1 ?_
  obtain ⟨v_1, ev_1, hE⟩ := nm_e2 hE
  refine x_nmI ev_1 ?_
  refine lv_istore_n (lv' := [(3, .int v_1), (0, .ref x0), (1, .ref x1), (2, .int x2)]) C.1 C.2.1 dX5_make_4 rfl hl (by decide) rfl (fun ls hl => ?_)
  refine lv_iload_n C.1 C.2.1 dX5_make_5 rfl (lv_at hl 3 rfl) ?_
  obtain ⟨o_2, eo_2, hE⟩ := cl_e hE
  refine x_kI (o := o_2) (z_runS (As := [.int x2]) (rest := []) C (ct_X5_manOf l X eo_2) cw_X5_194 hW hZ rfl hl.1 (Nat.le_of_ble_eq_true rfl) rfl dX5_make_6 ⟨Nat.le_of_ble_eq_true rfl, Nat.le_of_ble_eq_true rfl⟩ ⟨Nat.le_refl _, Nat.le_refl _⟩) hZ (fun _ _ hW km hZ => ?_)
  replace hkm := hkm.tr km
  replace k_x0 := km.at k_x0 (by decide)
  replace k_x1 := km.at k_x1 (by decide)
  refine lv_istore (lv' := [(4, .int o_2.1), (3, .int v_1), (0, .ref x0), (1, .ref x1), (2, .int x2)]) C.1 C.2.1 dX5_make_9 hl (by decide) rfl (fun ls hl => ?_)
  refine lv_iload_n C.1 C.2.1 dX5_make_11 rfl (lv_at hl 4 rfl) ?_
  obtain ⟨o_3, eo_3, hE⟩ := cl_e hE
  refine x_kI (o := o_3) (z_runS (As := [.int x2]) (rest := []) C (ct_X5_kindOf l X eo_3) cw_X5_233 hW hZ rfl hl.1 (Nat.le_of_ble_eq_true rfl) rfl dX5_make_12 ⟨Nat.le_of_ble_eq_true rfl, Nat.le_of_ble_eq_true rfl⟩ ⟨Nat.le_refl _, Nat.le_refl _⟩) hZ (fun _ _ hW km hZ => ?_)
  replace hkm := hkm.tr km
  replace k_x0 := km.at k_x0 (by decide)
  replace k_x1 := km.at k_x1 (by decide)
  refine lv_istore (lv' := [(5, .int o_3.1), (4, .int o_2.1), (3, .int v_1), (0, .ref x0), (1, .ref x1), (2, .int x2)]) C.1 C.2.1 dX5_make_15 hl (by decide) rfl (fun ls hl => ?_)
  refine lv_iload_n C.1 C.2.1 dX5_make_17 rfl (lv_at hl 5 rfl) ?_
  obtain ⟨o_4, eo_4, hE⟩ := cl_e hE
  refine x_kI (o := o_4) (z_runS (As := [.int x2]) (rest := []) C (ct_X5_takenBy l X eo_4) cw_X5_181 hW hZ rfl hl.1 (Nat.le_of_ble_eq_true rfl) rfl dX5_make_18 ⟨Nat.le_of_ble_eq_true rfl, Nat.le_of_ble_eq_true rfl⟩ ⟨Nat.le_refl _, Nat.le_refl _⟩) hZ (fun _ _ hW km hZ => ?_)
  replace hkm := hkm.tr km
  replace k_x0 := km.at k_x0 (by decide)
  replace k_x1 := km.at k_x1 (by decide)
  refine lv_istore (lv' := [(6, .int o_4.1), (5, .int o_3.1), (4, .int o_2.1), (3, .int v_1), (0, .ref x0), (1, .ref x1), (2, .int x2)]) C.1 C.2.1 dX5_make_21 hl (by decide) rfl (fun ls hl => ?_)
  refine lv_iload C.1 C.2.1 dX5_make_23 (lv_at hl 2 rfl) ?_
  refine lv_aload_n C.1 C.2.1 dX5_make_25 rfl (lv_at hl 4 rfl) ?_
  obtain ⟨r_5, er_5, hE⟩ := cl_e hE
  refine gf_X5_22 C hW k_x0 er_5 dX5_make_26 (fun k_r_5 => ?_)
  refine gf_X5_129 C hW k_r_5 dX5_make_29 ?_
  refine lv_icmp_ne (tgt := 54) C.1 C.2.1 dX5_make_32 (by decide) (fun c_6 => ?_) (fun c_6 => ?_)
  · have hE := br_n hE c_6
    exact bX5_make_54 C k_x0 k_x1 hkm hW hZ _ (lv_sub hl [4, 5, 6, 3, 2, 1, 0] rfl) hE
  · have hE := br_p hE c_6
    refine lv_aload_n C.1 C.2.1 dX5_make_35 rfl (lv_at hl 5 rfl) ?_
    refine lv_dup C.1 C.2.1 dX5_make_36 rfl ?_
    refine gf_X5_93 C hW k_x1 dX5_make_37 ?_
    refine lv_aload_n C.1 C.2.1 dX5_make_40 rfl (lv_at hl 5 rfl) ?_
    obtain ⟨r_7, er_7, hE⟩ := cl_e hE
    refine gf_X5_33 C hW k_x1 er_7 dX5_make_41 (fun k_r_7 => ?_)
    refine lv_iload_n C.1 C.2.1 dX5_make_44 rfl (lv_at hl 3 rfl) ?_
    obtain ⟨g_8, hE⟩ := gd_e hE
    refine y_lald C hW k_r_7 g_8 dX5_make_45 ?_
    refine lv_ldc2 (v := (-1 : Int64)) C.1 C.2.1 C.2.2.2.1 (C.2.2.2.2.1 _ m_1325) dX5_make_46 ?_
    refine lv_lxor C.1 C.2.1 dX5_make_49 ?_
    refine lv_land C.1 C.2.1 dX5_make_50 ?_
    obtain ⟨h_9, eh_9, hE⟩ := nm_e2 hE
    refine pf_X5_93 C hW hZ k_x1 eh_9 dX5_make_51 (fun _ _ hW km hZ => ?_)
    replace hkm := hkm.tr km
    replace k_x0 := km.at k_x0 (by decide)
    replace k_x1 := km.at k_x1 (by decide)
    exact bX5_make_54 C k_x0 k_x1 hkm hW hZ _ (lv_sub hl [4, 5, 6, 3, 2, 1, 0] rfl) hE
