set_option maxRecDepth 100000 in
theorem m_996 : Cond.instanceMethod yX3_inHand ∈ W0 := w0_in (List.mem_append_right _ (List.mem_of_getElem? (i := 996) rfl)) rfl
set_option maxRecDepth 100000 in
theorem m_997 : Cond.selects RX3 yX3_inHand yX3_inHand ∈ W0 := w0_in (List.mem_append_right _ (List.mem_of_getElem? (i := 997) rfl)) rfl
set_option maxRecDepth 100000 in
theorem m_998 : Cond.code yX3_inHand cX3_inHand 3 (some .int) ∈ W0 := w0_in (List.mem_append_right _ (List.mem_of_getElem? (i := 998) rfl)) rfl
set_option maxRecDepth 100000 in
theorem m_1283 : Cond.methodLink RX3 72 yX3_inHand ∈ W0 := w0_in (List.mem_append_right _ (List.mem_of_getElem? (i := 1283) rfl)) rfl
theorem cw_X3_72 : cwd RX3 72 yX3_inHand cX3_inHand 3 (some .int) false 2 := ⟨m_998, m_1283, m_8, ⟨m_996, m_997⟩, by decide, by decide, by decide +kernel⟩
theorem dX3_handSize_0 : decode cX3_handSize 0 = .ok (.iconst 0, 1) := by decide +kernel
theorem dX3_handSize_1 : decode cX3_handSize 1 = .ok (.istore_n 2, 1) := by decide +kernel
theorem dX3_handSize_2 : decode cX3_handSize 2 = .ok (.iconst 0, 1) := by decide +kernel
theorem dX3_handSize_3 : decode cX3_handSize 3 = .ok (.istore_n 3, 1) := by decide +kernel
theorem dX3_handSize_4 : decode cX3_handSize 4 = .ok (.iload_n 3, 1) := by decide +kernel
theorem dX3_handSize_5 : decode cX3_handSize 5 = .ok (.bipush 12, 2) := by decide +kernel
theorem dX3_handSize_7 : decode cX3_handSize 7 = .ok (.if_icmp .ge 18, 3) := by decide +kernel
theorem dX3_handSize_10 : decode cX3_handSize 10 = .ok (.iload_n 2, 1) := by decide +kernel
theorem dX3_handSize_11 : decode cX3_handSize 11 = .ok (.aload_n 0, 1) := by decide +kernel
theorem dX3_handSize_12 : decode cX3_handSize 12 = .ok (.iload_n 1, 1) := by decide +kernel
theorem dX3_handSize_13 : decode cX3_handSize 13 = .ok (.iload_n 3, 1) := by decide +kernel
theorem dX3_handSize_14 : decode cX3_handSize 14 = .ok (.invokevirtual 72, 3) := by decide +kernel
theorem dX3_handSize_17 : decode cX3_handSize 17 = .ok (.iadd, 1) := by decide +kernel
theorem dX3_handSize_18 : decode cX3_handSize 18 = .ok (.istore_n 2, 1) := by decide +kernel
theorem dX3_handSize_19 : decode cX3_handSize 19 = .ok (.iinc 3 1, 3) := by decide +kernel
theorem dX3_handSize_22 : decode cX3_handSize 22 = .ok (.goto (-18), 3) := by decide +kernel
theorem dX3_handSize_25 : decode cX3_handSize 25 = .ok (.iload_n 2, 1) := by decide +kernel
theorem dX3_handSize_26 : decode cX3_handSize 26 = .ok (.ireturn, 1) := by decide +kernel
set_option maxRecDepth 20000 in
theorem moX3_handSize_4 {o : Int32 × Hp} {F : Nat} : ∀ (f : Nat) {h : Hp} {x0 : Nat} {x1 : Int32} {x2 : Int32} {x3 : Int32}, sX3_handSize_4 F f h x0 x1 x2 x3 = some o → Le h o.2 := by
  intro f
  induction f with
  | zero =>
    intro h x0 x1 x2 x3 hE
    rw [sX3_handSize_4] at hE
    cases hE
  | succ f ih =>
    intro h x0 x1 x2 x3 hE
    rw [sX3_handSize_4] at hE
    have mk_4 : ∀ (h : Hp) (x0 : Nat) (x1 : Int32) (x2 : Int32) (x3 : Int32), sX3_handSize_4 F f h x0 x1 x2 x3 = some o → Le h o.2 := fun h x0 x1 x2 x3 hE => ih hE
    rcases br_e hE with ⟨_, hE⟩ | ⟨_, hE⟩
    · exact le_some2 hE
    · obtain ⟨o_2, eo_2, hE⟩ := cl_e hE
      refine (moX3_inHand eo_2).tr ?_
      obtain ⟨v_3, ev_3, hE⟩ := nm_e2 hE
      obtain ⟨v_4, ev_4, hE⟩ := nm_e2 hE
      exact mk_4 _ _ _ _ _ hE
set_option maxRecDepth 20000 in
theorem moX3_handSize {o : Int32 × Hp} {F : Nat} {h : Hp} {x0 : Nat} {x1 : Int32} (hE : sX3_handSize F h x0 x1 = some o) : Le h o.2 := by
  exact moX3_handSize_4 _ hE
set_option maxRecDepth 20000 in
theorem bX3_handSize_4 {p : Program} {l : Launch} {e : Env} {s : State} {m : MethodId} {args : Array Value} {below : List Frame} {meth : Method} {c : Code} {X : Ec} {h0 : Hp} {o : Int32 × Hp} {F : Nat} (C : Cx X p s m args meth c RX3 cX3_handSize 4 (some .int) "handSize") : ∀ (f : Nat) {h : Hp} {x0 : Nat} {x1 : Int32} {x2 : Int32} {x3 : Int32} {H : Heap} {locs : List Loc} (k_x0 : hK h x0 = 3), Km h0 h → Wx X h H → va_S (aA (eB X)) s.heap H locs → ∀ (ls : Array Slot), lv_has ls 4 [(0, .ref x0), (1, .int x1), (2, .int x2), (3, .int x3)] → sX3_handSize_4 F f h x0 x1 x2 x3 = some o → W p l e (rm 1 22) s m args below meth c H locs 0 0 (MQ below (QI X h0 o.1 o.2) args s 0 0 (aA (eB X))) (F0 m 4 ls []) := by
  intro f
  induction f with
  | zero =>
    intro h x0 x1 x2 x3 H locs k_x0 hkm hW hZ ls hl hE
    rw [sX3_handSize_4] at hE
    cases hE
  | succ f ih =>
    intro h x0 x1 x2 x3 H locs k_x0 hkm hW hZ ls hl hE
    rw [sX3_handSize_4] at hE
    have hk_4 : ∀ (h : Hp) (x0 : Nat) (x1 : Int32) (x2 : Int32) (x3 : Int32) (H : Heap) (locs : List Loc), hK h x0 = 3 → Km h0 h → Wx X h H → va_S (aA (eB X)) s.heap H locs → ∀ (ls : Array Slot), lv_has ls 4 [(0, .ref x0), (1, .int x1), (2, .int x2), (3, .int x3)] → sX3_handSize_4 F f h x0 x1 x2 x3 = some o → W p l e (rm 1 22) s m args below meth c H locs 0 0 (MQ below (QI X h0 o.1 o.2) args s 0 0 (aA (eB X))) (F0 m 4 ls []) := fun h x0 x1 x2 x3 H locs k_x0 a b c ls hl hE => ih k_x0 a b c ls hl hE
    refine lv_iload_n C.1 C.2.1 dX3_handSize_4 rfl (lv_at hl 3 rfl) ?_
    refine lv_bipush (v := (12 : Int32)) C.1 C.2.1 dX3_handSize_5 (by decide) ?_
    refine lv_icmp_ge (tgt := 25) C.1 C.2.1 dX3_handSize_7 (by decide) (fun c_1 => ?_) (fun c_1 => ?_)
    · have hE := br_p hE c_1
      refine lv_iload_n C.1 C.2.1 dX3_handSize_25 rfl (lv_at hl 2 rfl) ?_
      exact x_iret C rfl rfl hW hZ hkm hE dX3_handSize_26
    · have hE := br_n hE c_1
      refine lv_iload_n C.1 C.2.1 dX3_handSize_10 rfl (lv_at hl 2 rfl) ?_
      refine lv_aload_n C.1 C.2.1 dX3_handSize_11 rfl (lv_at hl 0 rfl) ?_
      refine lv_iload_n C.1 C.2.1 dX3_handSize_12 rfl (lv_at hl 1 rfl) ?_
      refine lv_iload_n C.1 C.2.1 dX3_handSize_13 rfl (lv_at hl 3 rfl) ?_
      obtain ⟨o_2, eo_2, hE⟩ := cl_e hE
      refine x_kI (o := o_2) (z_runV (As := [.int x1, .int x3]) (rest := [.int x2]) C (ct_X3_inHand l X k_x0 eo_2) cw_X3_72 hW hZ k_x0 (by decide) rfl rfl rfl hl.1 (Nat.le_of_ble_eq_true rfl) rfl dX3_handSize_14 ⟨Nat.le_of_ble_eq_true rfl, Nat.le_of_ble_eq_true rfl⟩ ⟨Nat.le_refl _, Nat.le_refl _⟩) hZ (fun _ _ hW km hZ => ?_)
      replace hkm := hkm.tr km
      replace k_x0 := km.at k_x0 (by decide)
      refine lv_iadd C.1 C.2.1 dX3_handSize_17 ?_
      obtain ⟨v_3, ev_3, hE⟩ := nm_e2 hE
      refine x_nmI ev_3 ?_
      refine lv_istore_n (lv' := [(2, .int v_3), (0, .ref x0), (1, .int x1), (3, .int x3)]) C.1 C.2.1 dX3_handSize_18 rfl hl (by decide) rfl (fun ls hl => ?_)
      obtain ⟨v_4, ev_4, hE⟩ := nm_e2 hE
      refine lv_iinc (v := v_4) (lv' := [(3, .int v_4), (2, .int v_3), (0, .ref x0), (1, .int x1)]) C.1 C.2.1 dX3_handSize_19 hl (k := 3) rfl (by rw [ev_4]; rfl) (by decide) rfl (fun ls hl => ?_)
      refine lv_goto (tgt := 4) C.1 C.2.1 dX3_handSize_22 (by decide) ?_
      exact hk_4 _ _ _ _ _ _ _ k_x0 hkm hW hZ _ (lv_sub hl [2, 3, 1, 0] rfl) hE
set_option maxRecDepth 20000 in
theorem ct_X3_handSize (l : Launch) (X : Ec) (F : Nat) {h : Hp} {x0 : Nat} {x1 : Int32} {o : Int32 × Hp} (k_x0 : hK h x0 = 3) (hE : sX3_handSize F h x0 x1 = some o) : MetI l yX3_handSize cX3_handSize 4 (some .int) 1 22 X [.ref x0, .int x1] h o := by
  refine x_met (by decide) (Nat.le_of_ble_eq_true rfl) ?_
  intro p e s m below meth c ls C hl hW hZ
  have hl : lv_has ls 4 [(0, .ref x0), (1, .int x1)] := hl
  have hkm : Km h h := Km.rf h
  refine lv_iconst (v := (0 : Int32)) C.1 C.2.1 dX3_handSize_0 (by decide) ?_
  refine lv_istore_n (lv' := [(2, .int (0 : Int32)), (0, .ref x0), (1, .int x1)]) C.1 C.2.1 dX3_handSize_1 rfl hl (by decide) rfl (fun ls hl => ?_)
  refine lv_iconst (v := (0 : Int32)) C.1 C.2.1 dX3_handSize_2 (by decide) ?_
  refine lv_istore_n (lv' := [(3, .int (0 : Int32)), (2, .int (0 : Int32)), (0, .ref x0), (1, .int x1)]) C.1 C.2.1 dX3_handSize_3 rfl hl (by decide) rfl (fun ls hl => ?_)
  exact bX3_handSize_4 C F k_x0 hkm hW hZ _ (lv_sub hl [2, 3, 1, 0] rfl) hE
theorem dX3_clearPass_0 : decode cX3_clearPass 0 = .ok (.aload_n 0, 1) := by decide +kernel
theorem dX3_clearPass_1 : decode cX3_clearPass 1 = .ok (.lconst 0, 1) := by decide +kernel
theorem dX3_clearPass_2 : decode cX3_clearPass 2 = .ok (.putfield 52, 3) := by decide +kernel
theorem dX3_clearPass_5 : decode cX3_clearPass 5 = .ok (.aload_n 0, 1) := by decide +kernel
theorem dX3_clearPass_6 : decode cX3_clearPass 6 = .ok (.lconst 0, 1) := by decide +kernel
theorem dX3_clearPass_7 : decode cX3_clearPass 7 = .ok (.putfield 48, 3) := by decide +kernel
theorem dX3_clearPass_10 : decode cX3_clearPass 10 = .ok (.return_, 1) := by decide +kernel
set_option maxRecDepth 20000 in
theorem moX3_clearPass {o : Hp} {h : Hp} {x0 : Nat} (hE : sX3_clearPass h x0 = some o) : Le h o := by
  obtain ⟨h_1, eh_1, hE⟩ := nm_e2 hE
  refine (le_J eh_1).tr ?_
  obtain ⟨h_2, eh_2, hE⟩ := nm_e2 hE
  refine (le_J eh_2).tr ?_
  exact le_some1 hE
set_option maxRecDepth 20000 in
theorem ct_X3_clearPass (l : Launch) (X : Ec) {h : Hp} {x0 : Nat} {o : Hp} (k_x0 : hK h x0 = 3) (hE : sX3_clearPass h x0 = some o) : MetV l yX3_clearPass cX3_clearPass 1 none 0 0 X [.ref x0] h o := by
  refine x_met (by decide) (Nat.le_of_ble_eq_true rfl) ?_
  intro p e s m below meth c ls C hl hW hZ
  have hl : lv_has ls 1 [(0, .ref x0)] := hl
  have hkm : Km h h := Km.rf h
  refine lv_aload_n C.1 C.2.1 dX3_clearPass_0 rfl (lv_at hl 0 rfl) ?_
  refine lv_lconst (v := (0 : Int64)) C.1 C.2.1 dX3_clearPass_1 (by decide) ?_
  obtain ⟨h_1, eh_1, hE⟩ := nm_e2 hE
  refine pf_X3_52 C hW hZ k_x0 eh_1 dX3_clearPass_2 (fun _ _ hW km hZ => ?_)
  replace hkm := hkm.tr km
  replace k_x0 := km.at k_x0 (by decide)
  refine lv_aload_n C.1 C.2.1 dX3_clearPass_5 rfl (lv_at hl 0 rfl) ?_
  refine lv_lconst (v := (0 : Int64)) C.1 C.2.1 dX3_clearPass_6 (by decide) ?_
  obtain ⟨h_2, eh_2, hE⟩ := nm_e2 hE
  refine pf_X3_48 C hW hZ k_x0 eh_2 dX3_clearPass_7 (fun _ _ hW km hZ => ?_)
  replace hkm := hkm.tr km
  replace k_x0 := km.at k_x0 (by decide)
  exact x_vret C rfl hW hZ hkm hE dX3_clearPass_10
