theorem dX0_setOf_0 : decode cX0_setOf 0 = .ok (.iconst 0, 1) := by decide +kernel
theorem dX0_setOf_1 : decode cX0_setOf 1 = .ok (.istore_n 2, 1) := by decide +kernel
theorem dX0_setOf_2 : decode cX0_setOf 2 = .ok (.aload_n 0, 1) := by decide +kernel
theorem dX0_setOf_3 : decode cX0_setOf 3 = .ok (.getfield 129, 3) := by decide +kernel
theorem dX0_setOf_6 : decode cX0_setOf 6 = .ok (.iconst 1, 1) := by decide +kernel
theorem dX0_setOf_7 : decode cX0_setOf 7 = .ok (.isub, 1) := by decide +kernel
theorem dX0_setOf_8 : decode cX0_setOf 8 = .ok (.istore_n 3, 1) := by decide +kernel
theorem dX0_setOf_9 : decode cX0_setOf 9 = .ok (.iload_n 2, 1) := by decide +kernel
theorem dX0_setOf_10 : decode cX0_setOf 10 = .ok (.iload_n 3, 1) := by decide +kernel
theorem dX0_setOf_11 : decode cX0_setOf 11 = .ok (.if_icmp .ge 37, 3) := by decide +kernel
theorem dX0_setOf_14 : decode cX0_setOf 14 = .ok (.iload_n 2, 1) := by decide +kernel
theorem dX0_setOf_15 : decode cX0_setOf 15 = .ok (.iload_n 3, 1) := by decide +kernel
theorem dX0_setOf_16 : decode cX0_setOf 16 = .ok (.iadd, 1) := by decide +kernel
theorem dX0_setOf_17 : decode cX0_setOf 17 = .ok (.iconst 1, 1) := by decide +kernel
theorem dX0_setOf_18 : decode cX0_setOf 18 = .ok (.iadd, 1) := by decide +kernel
theorem dX0_setOf_19 : decode cX0_setOf 19 = .ok (.iconst 1, 1) := by decide +kernel
theorem dX0_setOf_20 : decode cX0_setOf 20 = .ok (.ishr, 1) := by decide +kernel
theorem dX0_setOf_21 : decode cX0_setOf 21 = .ok (.istore 4, 2) := by decide +kernel
theorem dX0_setOf_23 : decode cX0_setOf 23 = .ok (.aload_n 0, 1) := by decide +kernel
theorem dX0_setOf_24 : decode cX0_setOf 24 = .ok (.getfield 22, 3) := by decide +kernel
theorem dX0_setOf_27 : decode cX0_setOf 27 = .ok (.iload 4, 2) := by decide +kernel
theorem dX0_setOf_29 : decode cX0_setOf 29 = .ok (.iaload, 1) := by decide +kernel
theorem dX0_setOf_30 : decode cX0_setOf 30 = .ok (.iload_n 1, 1) := by decide +kernel
theorem dX0_setOf_31 : decode cX0_setOf 31 = .ok (.if_icmp .gt 9, 3) := by decide +kernel
theorem dX0_setOf_34 : decode cX0_setOf 34 = .ok (.iload 4, 2) := by decide +kernel
theorem dX0_setOf_36 : decode cX0_setOf 36 = .ok (.istore_n 2, 1) := by decide +kernel
theorem dX0_setOf_37 : decode cX0_setOf 37 = .ok (.goto 8, 3) := by decide +kernel
theorem dX0_setOf_40 : decode cX0_setOf 40 = .ok (.iload 4, 2) := by decide +kernel
theorem dX0_setOf_42 : decode cX0_setOf 42 = .ok (.iconst 1, 1) := by decide +kernel
theorem dX0_setOf_43 : decode cX0_setOf 43 = .ok (.isub, 1) := by decide +kernel
theorem dX0_setOf_44 : decode cX0_setOf 44 = .ok (.istore_n 3, 1) := by decide +kernel
theorem dX0_setOf_45 : decode cX0_setOf 45 = .ok (.goto (-36), 3) := by decide +kernel
theorem dX0_setOf_48 : decode cX0_setOf 48 = .ok (.iload_n 2, 1) := by decide +kernel
theorem dX0_setOf_49 : decode cX0_setOf 49 = .ok (.ireturn, 1) := by decide +kernel
def sX0_setOf_45 (F : Nat) (k_9 : Hp → Nat → Int32 → Int32 → Int32 → Option (Int32 × Hp)) (h : Hp) (x0 : Nat) (x1 : Int32) (x2 : Int32) (x3 : Int32) : Option (Int32 × Hp) := k_9 h x0 x1 x2 x3
def sX0_setOf_9 (F : Nat) : Nat → Hp → Nat → Int32 → Int32 → Int32 → Option (Int32 × Hp)
  | 0, _, _, _, _, _ => none
  | f + 1, h, x0, x1, x2, x3 => br (x3 ≤ x2) (some (x2, h)) (nm (((x2 + x3) + (1 : Int32)) >>> ((1 : Int32) &&& 31)) fun v_2 => cl (hR h x0 5) fun r_3 => gd (inB v_2 (hN h r_3)) <| br (x1 < (hI h r_3 v_2.toNatClampNeg)) (nm (v_2 - (1 : Int32)) fun v_6 => sX0_setOf_45 F (sX0_setOf_9 F f) h x0 x1 x2 v_6) (sX0_setOf_45 F (sX0_setOf_9 F f) h x0 x1 v_2 x3))
def sX0_setOf (F : Nat) (h : Hp) (x0 : Nat) (x1 : Int32) : Option (Int32 × Hp) := nm ((hI h x0 9) - (1 : Int32)) fun v_1 => sX0_setOf_9 F F h x0 x1 (0 : Int32) v_1
set_option maxRecDepth 20000 in
theorem moX0_setOf_45 {o : Int32 × Hp} {k_9 : Hp → Nat → Int32 → Int32 → Int32 → Option (Int32 × Hp)} {F : Nat} (mk_9 : ∀ (h : Hp) (x0 : Nat) (x1 : Int32) (x2 : Int32) (x3 : Int32), k_9 h x0 x1 x2 x3 = some o → Le h o.2) {h : Hp} {x0 : Nat} {x1 : Int32} {x2 : Int32} {x3 : Int32} (hE : sX0_setOf_45 F k_9 h x0 x1 x2 x3 = some o) : Le h o.2 := by
  exact mk_9 _ _ _ _ _ hE
set_option maxRecDepth 20000 in
theorem moX0_setOf_9 {o : Int32 × Hp} {F : Nat} : ∀ (f : Nat) {h : Hp} {x0 : Nat} {x1 : Int32} {x2 : Int32} {x3 : Int32}, sX0_setOf_9 F f h x0 x1 x2 x3 = some o → Le h o.2 := by
  intro f
  induction f with
  | zero =>
    intro h x0 x1 x2 x3 hE
    rw [sX0_setOf_9] at hE
    cases hE
  | succ f ih =>
    intro h x0 x1 x2 x3 hE
    rw [sX0_setOf_9] at hE
    have mk_9 : ∀ (h : Hp) (x0 : Nat) (x1 : Int32) (x2 : Int32) (x3 : Int32), sX0_setOf_9 F f h x0 x1 x2 x3 = some o → Le h o.2 := fun h x0 x1 x2 x3 hE => ih hE
    rcases br_e hE with ⟨_, hE⟩ | ⟨_, hE⟩
    · exact le_some2 hE
    · obtain ⟨v_2, ev_2, hE⟩ := nm_e2 hE
      obtain ⟨r_3, er_3, hE⟩ := cl_e hE
      obtain ⟨g_4, hE⟩ := gd_e hE
      rcases br_e hE with ⟨_, hE⟩ | ⟨_, hE⟩
      · obtain ⟨v_6, ev_6, hE⟩ := nm_e2 hE
        exact moX0_setOf_45 mk_9 hE
      · exact moX0_setOf_45 mk_9 hE
set_option maxRecDepth 20000 in
theorem moX0_setOf {o : Int32 × Hp} {F : Nat} {h : Hp} {x0 : Nat} {x1 : Int32} (hE : sX0_setOf F h x0 x1 = some o) : Le h o.2 := by
  obtain ⟨v_1, ev_1, hE⟩ := nm_e2 hE
  exact moX0_setOf_9 _ hE
set_option maxRecDepth 20000 in
theorem bX0_setOf_45 {p : Program} {l : Launch} {e : Env} {s : State} {m : MethodId} {args : Array Value} {below : List Frame} {meth : Method} {c : Code} {X : Ec} {h0 : Hp} {o : Int32 × Hp} {k_9 : Hp → Nat → Int32 → Int32 → Int32 → Option (Int32 × Hp)} {F : Nat} (C : Cx X p s m args meth c RX0 cX0_setOf 5 (some .int) "setOf") (hk_9 : ∀ (h : Hp) (x0 : Nat) (x1 : Int32) (x2 : Int32) (x3 : Int32) (H : Heap) (locs : List Loc), hK h x0 = 0 → Km h0 h → Wx X h H → va_S (aA (eB X)) s.heap H locs → ∀ (ls : Array Slot), lv_has ls 5 [(0, .ref x0), (1, .int x1), (2, .int x2), (3, .int x3)] → k_9 h x0 x1 x2 x3 = some o → W p l e (rm 0 0) s m args below meth c H locs 0 0 (MQ below (QI X h0 o.1 o.2) args s 0 0 (aA (eB X))) (F0 m 9 ls [])) {h : Hp} {x0 : Nat} {x1 : Int32} {x2 : Int32} {x3 : Int32} {H : Heap} {locs : List Loc} (k_x0 : hK h x0 = 0) (hkm : Km h0 h) (hW : Wx X h H) (hZ : va_S (aA (eB X)) s.heap H locs) (ls : Array Slot) (hl : lv_has ls 5 [(0, .ref x0), (1, .int x1), (2, .int x2), (3, .int x3)]) (hE : sX0_setOf_45 F k_9 h x0 x1 x2 x3 = some o) : W p l e (rm 0 0) s m args below meth c H locs 0 0 (MQ below (QI X h0 o.1 o.2) args s 0 0 (aA (eB X))) (F0 m 45 ls []) := by
  refine lv_goto (tgt := 9) C.1 C.2.1 dX0_setOf_45 (by decide) ?_
  exact hk_9 _ _ _ _ _ _ _ k_x0 hkm hW hZ _ (lv_sub hl [0, 1, 2, 3] rfl) hE
set_option maxRecDepth 20000 in
theorem bX0_setOf_9 {p : Program} {l : Launch} {e : Env} {s : State} {m : MethodId} {args : Array Value} {below : List Frame} {meth : Method} {c : Code} {X : Ec} {h0 : Hp} {o : Int32 × Hp} {F : Nat} (C : Cx X p s m args meth c RX0 cX0_setOf 5 (some .int) "setOf") : ∀ (f : Nat) {h : Hp} {x0 : Nat} {x1 : Int32} {x2 : Int32} {x3 : Int32} {H : Heap} {locs : List Loc} (k_x0 : hK h x0 = 0), Km h0 h → Wx X h H → va_S (aA (eB X)) s.heap H locs → ∀ (ls : Array Slot), lv_has ls 5 [(0, .ref x0), (1, .int x1), (2, .int x2), (3, .int x3)] → sX0_setOf_9 F f h x0 x1 x2 x3 = some o → W p l e (rm 0 0) s m args below meth c H locs 0 0 (MQ below (QI X h0 o.1 o.2) args s 0 0 (aA (eB X))) (F0 m 9 ls []) := by
  intro f
  induction f with
  | zero =>
    intro h x0 x1 x2 x3 H locs k_x0 hkm hW hZ ls hl hE
    rw [sX0_setOf_9] at hE
    cases hE
  | succ f ih =>
    intro h x0 x1 x2 x3 H locs k_x0 hkm hW hZ ls hl hE
    rw [sX0_setOf_9] at hE
    have hk_9 : ∀ (h : Hp) (x0 : Nat) (x1 : Int32) (x2 : Int32) (x3 : Int32) (H : Heap) (locs : List Loc), hK h x0 = 0 → Km h0 h → Wx X h H → va_S (aA (eB X)) s.heap H locs → ∀ (ls : Array Slot), lv_has ls 5 [(0, .ref x0), (1, .int x1), (2, .int x2), (3, .int x3)] → sX0_setOf_9 F f h x0 x1 x2 x3 = some o → W p l e (rm 0 0) s m args below meth c H locs 0 0 (MQ below (QI X h0 o.1 o.2) args s 0 0 (aA (eB X))) (F0 m 9 ls []) := fun h x0 x1 x2 x3 H locs k_x0 a b c ls hl hE => ih k_x0 a b c ls hl hE
    refine lv_iload_n C.1 C.2.1 dX0_setOf_9 rfl (lv_at hl 2 rfl) ?_
    refine lv_iload_n C.1 C.2.1 dX0_setOf_10 rfl (lv_at hl 3 rfl) ?_
    refine lv_icmp_ge (tgt := 48) C.1 C.2.1 dX0_setOf_11 (by decide) (fun c_1 => ?_) (fun c_1 => ?_)
    · have hE := br_p hE c_1
      refine lv_iload_n C.1 C.2.1 dX0_setOf_48 rfl (lv_at hl 2 rfl) ?_
      exact x_iret C rfl rfl hW hZ hkm hE dX0_setOf_49
    · have hE := br_n hE c_1
      refine lv_iload_n C.1 C.2.1 dX0_setOf_14 rfl (lv_at hl 2 rfl) ?_
      refine lv_iload_n C.1 C.2.1 dX0_setOf_15 rfl (lv_at hl 3 rfl) ?_
      refine lv_iadd C.1 C.2.1 dX0_setOf_16 ?_
      refine lv_iconst (v := (1 : Int32)) C.1 C.2.1 dX0_setOf_17 (by decide) ?_
      refine lv_iadd C.1 C.2.1 dX0_setOf_18 ?_
      refine lv_iconst (v := (1 : Int32)) C.1 C.2.1 dX0_setOf_19 (by decide) ?_
      refine lv_ishr C.1 C.2.1 dX0_setOf_20 ?_
      obtain ⟨v_2, ev_2, hE⟩ := nm_e2 hE
      refine x_nmI ev_2 ?_
      refine lv_istore (lv' := [(4, .int v_2), (0, .ref x0), (1, .int x1), (2, .int x2), (3, .int x3)]) C.1 C.2.1 dX0_setOf_21 hl (by decide) rfl (fun ls hl => ?_)
      refine lv_aload_n C.1 C.2.1 dX0_setOf_23 rfl (lv_at hl 1 rfl) ?_
      obtain ⟨r_3, er_3, hE⟩ := cl_e hE
      refine gf_X0_22 C hW k_x0 er_3 dX0_setOf_24 (fun k_r_3 => ?_)
      refine lv_iload C.1 C.2.1 dX0_setOf_27 (lv_at hl 0 rfl) ?_
      obtain ⟨g_4, hE⟩ := gd_e hE
      refine y_iald C hW k_r_3 g_4 dX0_setOf_29 ?_
      refine lv_iload_n C.1 C.2.1 dX0_setOf_30 rfl (lv_at hl 2 rfl) ?_
      refine lv_icmp_gt (tgt := 40) C.1 C.2.1 dX0_setOf_31 (by decide) (fun c_5 => ?_) (fun c_5 => ?_)
      · have hE := br_p hE c_5
        refine lv_iload C.1 C.2.1 dX0_setOf_40 (lv_at hl 0 rfl) ?_
        refine lv_iconst (v := (1 : Int32)) C.1 C.2.1 dX0_setOf_42 (by decide) ?_
        refine lv_isub C.1 C.2.1 dX0_setOf_43 ?_
        obtain ⟨v_6, ev_6, hE⟩ := nm_e2 hE
        refine x_nmI ev_6 ?_
        refine lv_istore_n (lv' := [(3, .int v_6), (4, .int v_2), (0, .ref x0), (1, .int x1), (2, .int x2)]) C.1 C.2.1 dX0_setOf_44 rfl hl (by decide) rfl (fun ls hl => ?_)
        exact bX0_setOf_45 C hk_9 k_x0 hkm hW hZ _ (lv_sub hl [2, 3, 4, 0] rfl) hE
      · have hE := br_n hE c_5
        refine lv_iload C.1 C.2.1 dX0_setOf_34 (lv_at hl 0 rfl) ?_
        refine lv_istore_n (lv' := [(2, .int v_2), (4, .int v_2), (0, .ref x0), (1, .int x1), (3, .int x3)]) C.1 C.2.1 dX0_setOf_36 rfl hl (by decide) rfl (fun ls hl => ?_)
        refine lv_goto (tgt := 45) C.1 C.2.1 dX0_setOf_37 (by decide) ?_
        exact bX0_setOf_45 C hk_9 k_x0 hkm hW hZ _ (lv_sub hl [2, 3, 0, 4] rfl) hE
set_option maxRecDepth 20000 in
theorem ct_X0_setOf (l : Launch) (X : Ec) (F : Nat) {h : Hp} {x0 : Nat} {x1 : Int32} {o : Int32 × Hp} (k_x0 : hK h x0 = 0) (hE : sX0_setOf F h x0 x1 = some o) : MetI l yX0_setOf cX0_setOf 5 (some .int) 0 0 X [.ref x0, .int x1] h o := by
  refine x_met (by decide) (Nat.le_of_ble_eq_true rfl) ?_
  intro p e s m below meth c ls C hl hW hZ
  have hl : lv_has ls 5 [(0, .ref x0), (1, .int x1)] := hl
  have hkm : Km h h := Km.rf h
  refine lv_iconst (v := (0 : Int32)) C.1 C.2.1 dX0_setOf_0 (by decide) ?_
  refine lv_istore_n (lv' := [(2, .int (0 : Int32)), (0, .ref x0), (1, .int x1)]) C.1 C.2.1 dX0_setOf_1 rfl hl (by decide) rfl (fun ls hl => ?_)
  refine lv_aload_n C.1 C.2.1 dX0_setOf_2 rfl (lv_at hl 1 rfl) ?_
  refine gf_X0_129 C hW k_x0 dX0_setOf_3 ?_
  refine lv_iconst (v := (1 : Int32)) C.1 C.2.1 dX0_setOf_6 (by decide) ?_
  refine lv_isub C.1 C.2.1 dX0_setOf_7 ?_
  obtain ⟨v_1, ev_1, hE⟩ := nm_e2 hE
  refine x_nmI ev_1 ?_
  refine lv_istore_n (lv' := [(3, .int v_1), (2, .int (0 : Int32)), (0, .ref x0), (1, .int x1)]) C.1 C.2.1 dX0_setOf_8 rfl hl (by decide) rfl (fun ls hl => ?_)
  exact bX0_setOf_9 C F k_x0 hkm hW hZ _ (lv_sub hl [2, 3, 1, 0] rfl) hE
set_option maxRecDepth 100000 in
theorem ms_112 : Cond.selects RX0 yX0_setOf yX0_setOf ∈ W0 := w0_in (List.mem_append_left _ (List.mem_of_getElem? (i := 112) rfl)) rfl
set_option maxRecDepth 100000 in
theorem ms_110 : Cond.selects RX0 yX0_queueEnds yX0_queueEnds ∈ W0 := w0_in (List.mem_append_left _ (List.mem_of_getElem? (i := 110) rfl)) rfl
set_option maxRecDepth 100000 in
theorem ms_98 : Cond.selects RX0 yX0_countAll yX0_countAll ∈ W0 := w0_in (List.mem_append_left _ (List.mem_of_getElem? (i := 98) rfl)) rfl
set_option maxRecDepth 100000 in
theorem ms_94 : Cond.selects RX0 yX0_markAll yX0_markAll ∈ W0 := w0_in (List.mem_append_left _ (List.mem_of_getElem? (i := 94) rfl)) rfl
set_option maxRecDepth 100000 in
theorem ms_93 : Cond.selects RX0 yX0_makeRoom yX0_makeRoom ∈ W0 := w0_in (List.mem_append_left _ (List.mem_of_getElem? (i := 93) rfl)) rfl
set_option maxRecDepth 100000 in
theorem ms_89 : Cond.selects RX0 yX0_gatherSets yX0_gatherSets ∈ W0 := w0_in (List.mem_append_left _ (List.mem_of_getElem? (i := 89) rfl)) rfl
set_option maxRecDepth 100000 in
theorem m_468 : Cond.fieldLink RX0 77 (TX0 10).1 (TX0 10).2.1 (TX0 10).2.2.1 ∈ W0 := w0_in (List.mem_append_right _ (List.mem_of_getElem? (i := 468) rfl)) rfl
set_option maxRecDepth 100000 in
theorem m_1612 : Cond.methodLink RX0 81 yX0_gatherSets ∈ W0 := w0_in (List.mem_append_right _ (List.mem_of_getElem? (i := 1612) rfl)) rfl
set_option maxRecDepth 100000 in
theorem m_1614 : Cond.instanceMethod yX0_gatherSets ∈ W0 := w0_in (List.mem_append_right _ (List.mem_of_getElem? (i := 1614) rfl)) rfl
set_option maxRecDepth 100000 in
theorem m_1615 : Cond.code yX0_gatherSets cX0_gatherSets 2 (some .boolean) ∈ W0 := w0_in (List.mem_append_right _ (List.mem_of_getElem? (i := 1615) rfl)) rfl
set_option maxRecDepth 100000 in
theorem m_1639 : Cond.methodLink RX0 85 yX0_makeRoom ∈ W0 := w0_in (List.mem_append_right _ (List.mem_of_getElem? (i := 1639) rfl)) rfl
set_option maxRecDepth 100000 in
theorem m_1641 : Cond.instanceMethod yX0_makeRoom ∈ W0 := w0_in (List.mem_append_right _ (List.mem_of_getElem? (i := 1641) rfl)) rfl
set_option maxRecDepth 100000 in
theorem m_1642 : Cond.code yX0_makeRoom cX0_makeRoom 1 none ∈ W0 := w0_in (List.mem_append_right _ (List.mem_of_getElem? (i := 1642) rfl)) rfl
set_option maxRecDepth 100000 in
theorem m_1644 : Cond.methodLink RX0 94 yX0_markAll ∈ W0 := w0_in (List.mem_append_right _ (List.mem_of_getElem? (i := 1644) rfl)) rfl
set_option maxRecDepth 100000 in
theorem m_1646 : Cond.instanceMethod yX0_markAll ∈ W0 := w0_in (List.mem_append_right _ (List.mem_of_getElem? (i := 1646) rfl)) rfl
set_option maxRecDepth 100000 in
theorem m_1647 : Cond.code yX0_markAll cX0_markAll 7 none ∈ W0 := w0_in (List.mem_append_right _ (List.mem_of_getElem? (i := 1647) rfl)) rfl
set_option maxRecDepth 100000 in
theorem m_1672 : Cond.methodLink RX0 101 yX0_countAll ∈ W0 := w0_in (List.mem_append_right _ (List.mem_of_getElem? (i := 1672) rfl)) rfl
set_option maxRecDepth 100000 in
theorem m_1674 : Cond.instanceMethod yX0_countAll ∈ W0 := w0_in (List.mem_append_right _ (List.mem_of_getElem? (i := 1674) rfl)) rfl
set_option maxRecDepth 100000 in
theorem m_1675 : Cond.code yX0_countAll cX0_countAll 7 none ∈ W0 := w0_in (List.mem_append_right _ (List.mem_of_getElem? (i := 1675) rfl)) rfl
set_option maxRecDepth 100000 in
theorem m_1725 : Cond.methodLink RX0 104 yX0_queueEnds ∈ W0 := w0_in (List.mem_append_right _ (List.mem_of_getElem? (i := 1725) rfl)) rfl
set_option maxRecDepth 100000 in
theorem m_1727 : Cond.instanceMethod yX0_queueEnds ∈ W0 := w0_in (List.mem_append_right _ (List.mem_of_getElem? (i := 1727) rfl)) rfl
set_option maxRecDepth 100000 in
theorem m_1728 : Cond.code yX0_queueEnds cX0_queueEnds 4 none ∈ W0 := w0_in (List.mem_append_right _ (List.mem_of_getElem? (i := 1728) rfl)) rfl
set_option maxRecDepth 100000 in
theorem m_1733 : Cond.methodLink RX0 108 yX0_setOf ∈ W0 := w0_in (List.mem_append_right _ (List.mem_of_getElem? (i := 1733) rfl)) rfl
set_option maxRecDepth 100000 in
theorem m_1735 : Cond.instanceMethod yX0_setOf ∈ W0 := w0_in (List.mem_append_right _ (List.mem_of_getElem? (i := 1735) rfl)) rfl
set_option maxRecDepth 100000 in
theorem m_1736 : Cond.code yX0_setOf cX0_setOf 5 (some .int) ∈ W0 := w0_in (List.mem_append_right _ (List.mem_of_getElem? (i := 1736) rfl)) rfl
section
variable {p : Program} {l : Launch} {e : Env} {R : Room} {s : State} {m : MethodId} {args : Array Value} {below : List Frame} {meth : Method} {c : Code} {H : Heap} {locs : List Loc} {cells slots : Nat} {Q : State → Prop}
variable {cc : ByteArray} {pc : Nat} {ls : Array Slot} {rest : List Value} {X : Ec} {h h1 : Hp} {nL : Nat} {rt : Option FieldType} {mn : String}
theorem pf_X0_77 {a : Nat} {v : Int32} (C : Cx X p s m args meth c RX0 cc nL rt mn) (hW : Wx X h H) (hZ : va_S (aA (eB X)) s.heap H locs) (ha : hK h a = 0) (hn : narrow .boolean (.int v) = .int v) (eh : h1 = wI h a 10 v) (hdg : decode cc pc = .ok (.putfield 77, 3)) (kk : ∀ (H1 : Heap) (locs1 : List Loc), Wx X h1 H1 → Km h h1 → va_S (aA (eB X)) s.heap H1 locs1 → W p l e R s m args below meth c H1 locs1 cells slots Q (F0 m (pc + 3) ls rest)) : W p l e R s m args below meth c H locs cells slots Q (F0 m pc ls (.int v :: .ref a :: rest)) :=
  y_puti (ty := .boolean) C hW hZ ha i_X0 tyX0 tyX0_ok nmX0 (by decide) rfl rfl (by decide) m_468 rfl (by decide +kernel) rfl hn (fitZ hn) eh hdg kk
theorem pf_X0_98 {a : Nat} {v : Int32} (C : Cx X p s m args meth c RX0 cc nL rt mn) (hW : Wx X h H) (hZ : va_S (aA (eB X)) s.heap H locs) (ha : hK h a = 0) (eh : h1 = wI h a 17 v) (hdg : decode cc pc = .ok (.putfield 98, 3)) (kk : ∀ (H1 : Heap) (locs1 : List Loc), Wx X h1 H1 → Km h h1 → va_S (aA (eB X)) s.heap H1 locs1 → W p l e R s m args below meth c H1 locs1 cells slots Q (F0 m (pc + 3) ls rest)) : W p l e R s m args below meth c H locs cells slots Q (F0 m pc ls (.int v :: .ref a :: rest)) :=
  y_puti (ty := .int) C hW hZ ha i_X0 tyX0 tyX0_ok nmX0 (by decide) rfl rfl (by decide) m_477 rfl (by decide +kernel) rfl rfl rfl eh hdg kk
theorem pf_X0_88 {a : Nat} {v : Int32} (C : Cx X p s m args meth c RX0 cc nL rt mn) (hW : Wx X h H) (hZ : va_S (aA (eB X)) s.heap H locs) (ha : hK h a = 0) (eh : h1 = wI h a 15 v) (hdg : decode cc pc = .ok (.putfield 88, 3)) (kk : ∀ (H1 : Heap) (locs1 : List Loc), Wx X h1 H1 → Km h h1 → va_S (aA (eB X)) s.heap H1 locs1 → W p l e R s m args below meth c H1 locs1 cells slots Q (F0 m (pc + 3) ls rest)) : W p l e R s m args below meth c H locs cells slots Q (F0 m pc ls (.int v :: .ref a :: rest)) :=
  y_puti (ty := .int) C hW hZ ha i_X0 tyX0 tyX0_ok nmX0 (by decide) rfl rfl (by decide) m_475 rfl (by decide +kernel) rfl rfl rfl eh hdg kk
end
theorem cw_X0_108 : cwd RX0 108 yX0_setOf cX0_setOf 5 (some .int) false 1 := ⟨m_1736, m_1733, m_13, ⟨m_1735, ms_112⟩, by decide, by decide, by decide +kernel⟩
theorem cw_X0_104 : cwd RX0 104 yX0_queueEnds cX0_queueEnds 4 none false 0 := ⟨m_1728, m_1725, m_13, ⟨m_1727, ms_110⟩, by decide, by decide, by decide +kernel⟩
theorem cw_X0_101 : cwd RX0 101 yX0_countAll cX0_countAll 7 none false 0 := ⟨m_1675, m_1672, m_13, ⟨m_1674, ms_98⟩, by decide, by decide, by decide +kernel⟩
theorem cw_X0_94 : cwd RX0 94 yX0_markAll cX0_markAll 7 none false 0 := ⟨m_1647, m_1644, m_13, ⟨m_1646, ms_94⟩, by decide, by decide, by decide +kernel⟩
theorem cw_X0_85 : cwd RX0 85 yX0_makeRoom cX0_makeRoom 1 none false 0 := ⟨m_1642, m_1639, m_13, ⟨m_1641, ms_93⟩, by decide, by decide, by decide +kernel⟩
theorem cw_X0_81 : cwd RX0 81 yX0_gatherSets cX0_gatherSets 2 (some .boolean) false 0 := ⟨m_1615, m_1612, m_13, ⟨m_1614, ms_89⟩, by decide, by decide, by decide +kernel⟩
theorem dX0_run_0 : decode cX0_run 0 = .ok (.aload_n 0, 1) := by decide +kernel
theorem dX0_run_1 : decode cX0_run 1 = .ok (.iconst 0, 1) := by decide +kernel
theorem dX0_run_2 : decode cX0_run 2 = .ok (.putfield 77, 3) := by decide +kernel
theorem dX0_run_5 : decode cX0_run 5 = .ok (.aload_n 0, 1) := by decide +kernel
theorem dX0_run_6 : decode cX0_run 6 = .ok (.invokevirtual 81, 3) := by decide +kernel
theorem dX0_run_9 : decode cX0_run 9 = .ok (.ifCond .ne 5, 3) := by decide +kernel
theorem dX0_run_12 : decode cX0_run 12 = .ok (.iconst 0, 1) := by decide +kernel
theorem dX0_run_13 : decode cX0_run 13 = .ok (.ireturn, 1) := by decide +kernel
theorem dX0_run_14 : decode cX0_run 14 = .ok (.aload_n 0, 1) := by decide +kernel
theorem dX0_run_15 : decode cX0_run 15 = .ok (.invokevirtual 85, 3) := by decide +kernel
theorem dX0_run_18 : decode cX0_run 18 = .ok (.aload_n 0, 1) := by decide +kernel
theorem dX0_run_19 : decode cX0_run 19 = .ok (.aload_n 0, 1) := by decide +kernel
theorem dX0_run_20 : decode cX0_run 20 = .ok (.getfield 74, 3) := by decide +kernel
theorem dX0_run_23 : decode cX0_run 23 = .ok (.putfield 88, 3) := by decide +kernel
theorem dX0_run_26 : decode cX0_run 26 = .ok (.aload_n 0, 1) := by decide +kernel
theorem dX0_run_27 : decode cX0_run 27 = .ok (.iconst 0, 1) := by decide +kernel
theorem dX0_run_28 : decode cX0_run 28 = .ok (.putfield 91, 3) := by decide +kernel
theorem dX0_run_31 : decode cX0_run 31 = .ok (.aload_n 0, 1) := by decide +kernel
theorem dX0_run_32 : decode cX0_run 32 = .ok (.invokevirtual 94, 3) := by decide +kernel
theorem dX0_run_35 : decode cX0_run 35 = .ok (.aload_n 0, 1) := by decide +kernel
theorem dX0_run_36 : decode cX0_run 36 = .ok (.ldc 97, 2) := by decide +kernel
theorem dX0_run_38 : decode cX0_run 38 = .ok (.putfield 98, 3) := by decide +kernel
theorem dX0_run_41 : decode cX0_run 41 = .ok (.aload_n 0, 1) := by decide +kernel
theorem dX0_run_42 : decode cX0_run 42 = .ok (.invokevirtual 101, 3) := by decide +kernel
theorem dX0_run_45 : decode cX0_run 45 = .ok (.aload_n 0, 1) := by decide +kernel
theorem dX0_run_46 : decode cX0_run 46 = .ok (.invokevirtual 104, 3) := by decide +kernel
theorem dX0_run_49 : decode cX0_run 49 = .ok (.iconst 0, 1) := by decide +kernel
theorem dX0_run_50 : decode cX0_run 50 = .ok (.istore_n 1, 1) := by decide +kernel
theorem dX0_run_51 : decode cX0_run 51 = .ok (.iload_n 1, 1) := by decide +kernel
theorem dX0_run_52 : decode cX0_run 52 = .ok (.aload_n 0, 1) := by decide +kernel
theorem dX0_run_53 : decode cX0_run 53 = .ok (.getfield 91, 3) := by decide +kernel
theorem dX0_run_56 : decode cX0_run 56 = .ok (.if_icmp .ge 75, 3) := by decide +kernel
theorem dX0_run_59 : decode cX0_run 59 = .ok (.iload_n 1, 1) := by decide +kernel
theorem dX0_run_60 : decode cX0_run 60 = .ok (.ldc 107, 2) := by decide +kernel
theorem dX0_run_62 : decode cX0_run 62 = .ok (.if_icmp .ge 69, 3) := by decide +kernel
theorem dX0_run_65 : decode cX0_run 65 = .ok (.aload_n 0, 1) := by decide +kernel
theorem dX0_run_66 : decode cX0_run 66 = .ok (.getfield 37, 3) := by decide +kernel
theorem dX0_run_69 : decode cX0_run 69 = .ok (.iload_n 1, 1) := by decide +kernel
theorem dX0_run_70 : decode cX0_run 70 = .ok (.iaload, 1) := by decide +kernel
theorem dX0_run_71 : decode cX0_run 71 = .ok (.istore_n 2, 1) := by decide +kernel
theorem dX0_run_72 : decode cX0_run 72 = .ok (.aload_n 0, 1) := by decide +kernel
theorem dX0_run_73 : decode cX0_run 73 = .ok (.iload_n 2, 1) := by decide +kernel
theorem dX0_run_74 : decode cX0_run 74 = .ok (.invokevirtual 108, 3) := by decide +kernel
theorem dX0_run_77 : decode cX0_run 77 = .ok (.istore_n 3, 1) := by decide +kernel
theorem dX0_run_78 : decode cX0_run 78 = .ok (.aload_n 0, 1) := by decide +kernel
theorem dX0_run_79 : decode cX0_run 79 = .ok (.aload_n 0, 1) := by decide +kernel
theorem dX0_run_80 : decode cX0_run 80 = .ok (.getfield 31, 3) := by decide +kernel
theorem dX0_run_83 : decode cX0_run 83 = .ok (.iload_n 2, 1) := by decide +kernel
theorem dX0_run_84 : decode cX0_run 84 = .ok (.iaload, 1) := by decide +kernel
theorem dX0_run_85 : decode cX0_run 85 = .ok (.putfield 98, 3) := by decide +kernel
theorem dX0_run_88 : decode cX0_run 88 = .ok (.aload_n 0, 1) := by decide +kernel
theorem dX0_run_89 : decode cX0_run 89 = .ok (.aload_n 0, 1) := by decide +kernel
theorem dX0_run_90 : decode cX0_run 90 = .ok (.getfield 18, 3) := by decide +kernel
theorem dX0_run_93 : decode cX0_run 93 = .ok (.iload_n 3, 1) := by decide +kernel
theorem dX0_run_94 : decode cX0_run 94 = .ok (.iaload, 1) := by decide +kernel
theorem dX0_run_95 : decode cX0_run 95 = .ok (.iload_n 2, 1) := by decide +kernel
theorem dX0_run_96 : decode cX0_run 96 = .ok (.aload_n 0, 1) := by decide +kernel
theorem dX0_run_97 : decode cX0_run 97 = .ok (.getfield 22, 3) := by decide +kernel
theorem dX0_run_100 : decode cX0_run 100 = .ok (.iload_n 3, 1) := by decide +kernel
theorem dX0_run_101 : decode cX0_run 101 = .ok (.iaload, 1) := by decide +kernel
theorem dX0_run_102 : decode cX0_run 102 = .ok (.isub, 1) := by decide +kernel
theorem dX0_run_103 : decode cX0_run 103 = .ok (.iconst 1, 1) := by decide +kernel
theorem dX0_run_104 : decode cX0_run 104 = .ok (.ishr, 1) := by decide +kernel
theorem dX0_run_105 : decode cX0_run 105 = .ok (.invokevirtual 111, 3) := by decide +kernel
theorem dX0_run_108 : decode cX0_run 108 = .ok (.ifCond .eq 17, 3) := by decide +kernel
theorem dX0_run_111 : decode cX0_run 111 = .ok (.aload_n 0, 1) := by decide +kernel
theorem dX0_run_112 : decode cX0_run 112 = .ok (.iload_n 2, 1) := by decide +kernel
theorem dX0_run_113 : decode cX0_run 113 = .ok (.aload_n 0, 1) := by decide +kernel
theorem dX0_run_114 : decode cX0_run 114 = .ok (.getfield 22, 3) := by decide +kernel
theorem dX0_run_117 : decode cX0_run 117 = .ok (.iload_n 3, 1) := by decide +kernel
theorem dX0_run_118 : decode cX0_run 118 = .ok (.iaload, 1) := by decide +kernel
theorem dX0_run_119 : decode cX0_run 119 = .ok (.isub, 1) := by decide +kernel
theorem dX0_run_120 : decode cX0_run 120 = .ok (.iconst 1, 1) := by decide +kernel
theorem dX0_run_121 : decode cX0_run 121 = .ok (.iand, 1) := by decide +kernel
theorem dX0_run_122 : decode cX0_run 122 = .ok (.invokevirtual 115, 3) := by decide +kernel
theorem dX0_run_125 : decode cX0_run 125 = .ok (.iinc 1 1, 3) := by decide +kernel
theorem dX0_run_128 : decode cX0_run 128 = .ok (.goto (-77), 3) := by decide +kernel
theorem dX0_run_131 : decode cX0_run 131 = .ok (.iconst 0, 1) := by decide +kernel
theorem dX0_run_132 : decode cX0_run 132 = .ok (.istore_n 1, 1) := by decide +kernel
theorem dX0_run_133 : decode cX0_run 133 = .ok (.iload_n 1, 1) := by decide +kernel
theorem dX0_run_134 : decode cX0_run 134 = .ok (.aload_n 0, 1) := by decide +kernel
theorem dX0_run_135 : decode cX0_run 135 = .ok (.getfield 119, 3) := by decide +kernel
theorem dX0_run_138 : decode cX0_run 138 = .ok (.l2i, 1) := by decide +kernel
theorem dX0_run_139 : decode cX0_run 139 = .ok (.if_icmp .ge 36, 3) := by decide +kernel
theorem dX0_run_142 : decode cX0_run 142 = .ok (.aload_n 0, 1) := by decide +kernel
theorem dX0_run_143 : decode cX0_run 143 = .ok (.getfield 31, 3) := by decide +kernel
theorem dX0_run_146 : decode cX0_run 146 = .ok (.iload_n 1, 1) := by decide +kernel
theorem dX0_run_147 : decode cX0_run 147 = .ok (.aload_n 0, 1) := by decide +kernel
theorem dX0_run_148 : decode cX0_run 148 = .ok (.getfield 31, 3) := by decide +kernel
theorem dX0_run_151 : decode cX0_run 151 = .ok (.iload_n 1, 1) := by decide +kernel
theorem dX0_run_152 : decode cX0_run 152 = .ok (.iaload, 1) := by decide +kernel
theorem dX0_run_153 : decode cX0_run 153 = .ok (.ldc 97, 2) := by decide +kernel
theorem dX0_run_155 : decode cX0_run 155 = .ok (.if_icmp .ne 7, 3) := by decide +kernel
theorem dX0_run_158 : decode cX0_run 158 = .ok (.iconst 0, 1) := by decide +kernel
theorem dX0_run_159 : decode cX0_run 159 = .ok (.goto 9, 3) := by decide +kernel
theorem dX0_run_162 : decode cX0_run 162 = .ok (.aload_n 0, 1) := by decide +kernel
theorem dX0_run_163 : decode cX0_run 163 = .ok (.getfield 31, 3) := by decide +kernel
theorem dX0_run_166 : decode cX0_run 166 = .ok (.iload_n 1, 1) := by decide +kernel
theorem dX0_run_167 : decode cX0_run 167 = .ok (.iaload, 1) := by decide +kernel
theorem dX0_run_168 : decode cX0_run 168 = .ok (.iastore, 1) := by decide +kernel
theorem dX0_run_169 : decode cX0_run 169 = .ok (.iinc 1 1, 3) := by decide +kernel
theorem dX0_run_172 : decode cX0_run 172 = .ok (.goto (-39), 3) := by decide +kernel
theorem dX0_run_175 : decode cX0_run 175 = .ok (.aload_n 0, 1) := by decide +kernel
theorem dX0_run_176 : decode cX0_run 176 = .ok (.iconst 1, 1) := by decide +kernel
theorem dX0_run_177 : decode cX0_run 177 = .ok (.putfield 77, 3) := by decide +kernel
theorem dX0_run_180 : decode cX0_run 180 = .ok (.iconst 1, 1) := by decide +kernel
theorem dX0_run_181 : decode cX0_run 181 = .ok (.ireturn, 1) := by decide +kernel
def sX0_run_168 (F : Nat) (k_133 : Hp → Nat → Int32 → Option (Int32 × Hp)) (h : Hp) (x0 : Nat) (x1 : Int32) (t0 : Int32) (t1 : Int32) (t2 : Nat) : Option (Int32 × Hp) := gd (inB t1 (hN h t2)) <| nm (wI h t2 t1.toNatClampNeg t0) fun h_2 => nm (x1 + (1 : Int32)) fun v_3 => k_133 h_2 x0 v_3
def sX0_run_133 (F : Nat) : Nat → Hp → Nat → Int32 → Option (Int32 × Hp)
  | 0, _, _, _ => none
  | f + 1, h, x0, x1 => br (((hJ h x0 18).toInt32) ≤ x1) (nm (wI h x0 10 (1 : Int32)) fun h_2 => some ((1 : Int32), h_2)) (cl (hR h x0 11) fun r_3 => cl (hR h x0 11) fun r_4 => gd (inB x1 (hN h r_4)) <| br ((hI h r_4 x1.toNatClampNeg) = (3000000 : Int32)) (sX0_run_168 F (sX0_run_133 F f) h x0 x1 (0 : Int32) x1 r_3) (cl (hR h x0 11) fun r_7 => gd (inB x1 (hN h r_7)) <| sX0_run_168 F (sX0_run_133 F f) h x0 x1 (hI h r_7 x1.toNatClampNeg) x1 r_3))
def sX0_run_131 (F : Nat) (h : Hp) (x0 : Nat) : Option (Int32 × Hp) := sX0_run_133 F F h x0 (0 : Int32)
def sX0_run_125 (F : Nat) (k_51 : Hp → Nat → Int32 → Option (Int32 × Hp)) (h : Hp) (x0 : Nat) (x1 : Int32) : Option (Int32 × Hp) := nm (x1 + (1 : Int32)) fun v_1 => k_51 h x0 v_1
def sX0_run_108 (F : Nat) (k_51 : Hp → Nat → Int32 → Option (Int32 × Hp)) (h : Hp) (x0 : Nat) (x1 : Int32) (x2 : Int32) (x3 : Int32) (t0 : Int32) : Option (Int32 × Hp) := br (t0 = 0) (sX0_run_125 F k_51 h x0 x1) (cl (hR h x0 5) fun r_2 => gd (inB x3 (hN h r_2)) <| cl (sX0_goBack F h x0 ((x2 - (hI h r_2 x3.toNatClampNeg)) &&& (1 : Int32))) fun o_4 => sX0_run_125 F k_51 o_4 x0 x1)
def sX0_run_77 (F : Nat) (k_51 : Hp → Nat → Int32 → Option (Int32 × Hp)) (h : Hp) (x0 : Nat) (x1 : Int32) (x2 : Int32) (t0 : Int32) : Option (Int32 × Hp) := cl (hR h x0 11) fun r_1 => gd (inB x2 (hN h r_1)) <| nm (wI h x0 17 (hI h r_1 x2.toNatClampNeg)) fun h_3 => cl (hR h_3 x0 4) fun r_4 => gd (inB t0 (hN h_3 r_4)) <| cl (hR h_3 x0 5) fun r_6 => gd (inB t0 (hN h_3 r_6)) <| cl (sX0_layOut F h_3 x0 (hI h_3 r_4 t0.toNatClampNeg) ((x2 - (hI h_3 r_6 t0.toNatClampNeg)) >>> ((1 : Int32) &&& 31))) fun o_8 => sX0_run_108 F k_51 o_8.2 x0 x1 x2 t0 o_8.1
def sX0_run_51 (F : Nat) : Nat → Hp → Nat → Int32 → Option (Int32 × Hp)
  | 0, _, _, _ => none
  | f + 1, h, x0, x1 => br ((hI h x0 16) ≤ x1) (sX0_run_131 F h x0) (br ((600000 : Int32) ≤ x1) (sX0_run_131 F h x0) (cl (hR h x0 13) fun r_3 => gd (inB x1 (hN h r_3)) <| nm (hI h r_3 x1.toNatClampNeg) fun v_5 => cl (sX0_setOf F h x0 v_5) fun o_6 => sX0_run_77 F (sX0_run_51 F f) o_6.2 x0 x1 v_5 o_6.1))
def sX0_run_49 (F : Nat) (h : Hp) (x0 : Nat) : Option (Int32 × Hp) := sX0_run_51 F F h x0 (0 : Int32)
def sX0_run_45 (F : Nat) (h : Hp) (x0 : Nat) : Option (Int32 × Hp) := cl (sX0_queueEnds F h x0) fun o_1 => sX0_run_49 F o_1 x0
def sX0_run_35 (F : Nat) (h : Hp) (x0 : Nat) : Option (Int32 × Hp) := nm (wI h x0 17 (3000000 : Int32)) fun h_1 => cl (sX0_countAll F h_1 x0) fun o_2 => sX0_run_45 F o_2 x0
def sX0_run_18 (F : Nat) (h : Hp) (x0 : Nat) : Option (Int32 × Hp) := nm (wI h x0 15 (hI h x0 14)) fun h_1 => nm (wI h_1 x0 16 (0 : Int32)) fun h_2 => cl (sX0_markAll F h_2 x0) fun o_3 => sX0_run_35 F o_3 x0
def sX0_run_9 (F : Nat) (h : Hp) (x0 : Nat) (t0 : Int32) : Option (Int32 × Hp) := br (t0 = 0) (some ((0 : Int32), h)) (cl (sX0_makeRoom h x0) fun o_2 => sX0_run_18 F o_2 x0)
def sX0_run (F : Nat) (h : Hp) (x0 : Nat) : Option (Int32 × Hp) := nm (wI h x0 10 (0 : Int32)) fun h_1 => cl (sX0_gatherSets F h_1 x0) fun o_2 => sX0_run_9 F o_2.2 x0 o_2.1
set_option maxRecDepth 20000 in
theorem moX0_run_168 {o : Int32 × Hp} {k_133 : Hp → Nat → Int32 → Option (Int32 × Hp)} {F : Nat} (mk_133 : ∀ (h : Hp) (x0 : Nat) (x1 : Int32), k_133 h x0 x1 = some o → Le h o.2) {h : Hp} {x0 : Nat} {x1 : Int32} {t0 : Int32} {t1 : Int32} {t2 : Nat} (hE : sX0_run_168 F k_133 h x0 x1 t0 t1 t2 = some o) : Le h o.2 := by
  obtain ⟨g_1, hE⟩ := gd_e hE
  obtain ⟨h_2, eh_2, hE⟩ := nm_e2 hE
  refine (le_I eh_2).tr ?_
  obtain ⟨v_3, ev_3, hE⟩ := nm_e2 hE
  exact mk_133 _ _ _ hE
set_option maxRecDepth 20000 in
theorem moX0_run_133 {o : Int32 × Hp} {F : Nat} : ∀ (f : Nat) {h : Hp} {x0 : Nat} {x1 : Int32}, sX0_run_133 F f h x0 x1 = some o → Le h o.2 := by
  intro f
  induction f with
  | zero =>
    intro h x0 x1 hE
    rw [sX0_run_133] at hE
    cases hE
  | succ f ih =>
    intro h x0 x1 hE
    rw [sX0_run_133] at hE
    have mk_133 : ∀ (h : Hp) (x0 : Nat) (x1 : Int32), sX0_run_133 F f h x0 x1 = some o → Le h o.2 := fun h x0 x1 hE => ih hE
    rcases br_e hE with ⟨_, hE⟩ | ⟨_, hE⟩
    · obtain ⟨h_2, eh_2, hE⟩ := nm_e2 hE
      refine (le_I eh_2).tr ?_
      exact le_some2 hE
    · obtain ⟨r_3, er_3, hE⟩ := cl_e hE
      obtain ⟨r_4, er_4, hE⟩ := cl_e hE
      obtain ⟨g_5, hE⟩ := gd_e hE
      rcases br_e hE with ⟨_, hE⟩ | ⟨_, hE⟩
      · exact moX0_run_168 mk_133 hE
      · obtain ⟨r_7, er_7, hE⟩ := cl_e hE
        obtain ⟨g_8, hE⟩ := gd_e hE
        exact moX0_run_168 mk_133 hE
set_option maxRecDepth 20000 in
theorem moX0_run_131 {o : Int32 × Hp} {F : Nat} {h : Hp} {x0 : Nat} (hE : sX0_run_131 F h x0 = some o) : Le h o.2 := by
  exact moX0_run_133 _ hE
set_option maxRecDepth 20000 in
theorem moX0_run_125 {o : Int32 × Hp} {k_51 : Hp → Nat → Int32 → Option (Int32 × Hp)} {F : Nat} (mk_51 : ∀ (h : Hp) (x0 : Nat) (x1 : Int32), k_51 h x0 x1 = some o → Le h o.2) {h : Hp} {x0 : Nat} {x1 : Int32} (hE : sX0_run_125 F k_51 h x0 x1 = some o) : Le h o.2 := by
  obtain ⟨v_1, ev_1, hE⟩ := nm_e2 hE
  exact mk_51 _ _ _ hE
set_option maxRecDepth 20000 in
theorem moX0_run_108 {o : Int32 × Hp} {k_51 : Hp → Nat → Int32 → Option (Int32 × Hp)} {F : Nat} (mk_51 : ∀ (h : Hp) (x0 : Nat) (x1 : Int32), k_51 h x0 x1 = some o → Le h o.2) {h : Hp} {x0 : Nat} {x1 : Int32} {x2 : Int32} {x3 : Int32} {t0 : Int32} (hE : sX0_run_108 F k_51 h x0 x1 x2 x3 t0 = some o) : Le h o.2 := by
  rcases br_e hE with ⟨_, hE⟩ | ⟨_, hE⟩
  · exact moX0_run_125 mk_51 hE
  · obtain ⟨r_2, er_2, hE⟩ := cl_e hE
    obtain ⟨g_3, hE⟩ := gd_e hE
    obtain ⟨o_4, eo_4, hE⟩ := cl_e hE
    refine (moX0_goBack eo_4).tr ?_
    exact moX0_run_125 mk_51 hE
set_option maxRecDepth 20000 in
theorem moX0_run_77 {o : Int32 × Hp} {k_51 : Hp → Nat → Int32 → Option (Int32 × Hp)} {F : Nat} (mk_51 : ∀ (h : Hp) (x0 : Nat) (x1 : Int32), k_51 h x0 x1 = some o → Le h o.2) {h : Hp} {x0 : Nat} {x1 : Int32} {x2 : Int32} {t0 : Int32} (hE : sX0_run_77 F k_51 h x0 x1 x2 t0 = some o) : Le h o.2 := by
  obtain ⟨r_1, er_1, hE⟩ := cl_e hE
  obtain ⟨g_2, hE⟩ := gd_e hE
  obtain ⟨h_3, eh_3, hE⟩ := nm_e2 hE
  refine (le_I eh_3).tr ?_
  obtain ⟨r_4, er_4, hE⟩ := cl_e hE
  obtain ⟨g_5, hE⟩ := gd_e hE
  obtain ⟨r_6, er_6, hE⟩ := cl_e hE
  obtain ⟨g_7, hE⟩ := gd_e hE
  obtain ⟨o_8, eo_8, hE⟩ := cl_e hE
  refine (moX0_layOut eo_8).tr ?_
  exact moX0_run_108 mk_51 hE
set_option maxRecDepth 20000 in
theorem moX0_run_51 {o : Int32 × Hp} {F : Nat} : ∀ (f : Nat) {h : Hp} {x0 : Nat} {x1 : Int32}, sX0_run_51 F f h x0 x1 = some o → Le h o.2 := by
  intro f
  induction f with
  | zero =>
    intro h x0 x1 hE
    rw [sX0_run_51] at hE
    cases hE
  | succ f ih =>
    intro h x0 x1 hE
    rw [sX0_run_51] at hE
    have mk_51 : ∀ (h : Hp) (x0 : Nat) (x1 : Int32), sX0_run_51 F f h x0 x1 = some o → Le h o.2 := fun h x0 x1 hE => ih hE
    rcases br_e hE with ⟨_, hE⟩ | ⟨_, hE⟩
    · exact moX0_run_131 hE
    · rcases br_e hE with ⟨_, hE⟩ | ⟨_, hE⟩
      · exact moX0_run_131 hE
      · obtain ⟨r_3, er_3, hE⟩ := cl_e hE
        obtain ⟨g_4, hE⟩ := gd_e hE
        obtain ⟨v_5, ev_5, hE⟩ := nm_e2 hE
        obtain ⟨o_6, eo_6, hE⟩ := cl_e hE
        refine (moX0_setOf eo_6).tr ?_
        exact moX0_run_77 mk_51 hE
set_option maxRecDepth 20000 in
theorem moX0_run_49 {o : Int32 × Hp} {F : Nat} {h : Hp} {x0 : Nat} (hE : sX0_run_49 F h x0 = some o) : Le h o.2 := by
  exact moX0_run_51 _ hE
set_option maxRecDepth 20000 in
theorem moX0_run_45 {o : Int32 × Hp} {F : Nat} {h : Hp} {x0 : Nat} (hE : sX0_run_45 F h x0 = some o) : Le h o.2 := by
  obtain ⟨o_1, eo_1, hE⟩ := cl_e hE
  refine (moX0_queueEnds eo_1).tr ?_
  exact moX0_run_49 hE
set_option maxRecDepth 20000 in
theorem moX0_run_35 {o : Int32 × Hp} {F : Nat} {h : Hp} {x0 : Nat} (hE : sX0_run_35 F h x0 = some o) : Le h o.2 := by
  obtain ⟨h_1, eh_1, hE⟩ := nm_e2 hE
  refine (le_I eh_1).tr ?_
  obtain ⟨o_2, eo_2, hE⟩ := cl_e hE
  refine (moX0_countAll eo_2).tr ?_
  exact moX0_run_45 hE
set_option maxRecDepth 20000 in
theorem moX0_run_18 {o : Int32 × Hp} {F : Nat} {h : Hp} {x0 : Nat} (hE : sX0_run_18 F h x0 = some o) : Le h o.2 := by
  obtain ⟨h_1, eh_1, hE⟩ := nm_e2 hE
  refine (le_I eh_1).tr ?_
  obtain ⟨h_2, eh_2, hE⟩ := nm_e2 hE
  refine (le_I eh_2).tr ?_
  obtain ⟨o_3, eo_3, hE⟩ := cl_e hE
  refine (moX0_markAll eo_3).tr ?_
  exact moX0_run_35 hE
set_option maxRecDepth 20000 in
theorem moX0_run_9 {o : Int32 × Hp} {F : Nat} {h : Hp} {x0 : Nat} {t0 : Int32} (hE : sX0_run_9 F h x0 t0 = some o) : Le h o.2 := by
  rcases br_e hE with ⟨_, hE⟩ | ⟨_, hE⟩
  · exact le_some2 hE
  · obtain ⟨o_2, eo_2, hE⟩ := cl_e hE
    refine (moX0_makeRoom eo_2).tr ?_
    exact moX0_run_18 hE
set_option maxRecDepth 20000 in
theorem moX0_run {o : Int32 × Hp} {F : Nat} {h : Hp} {x0 : Nat} (hE : sX0_run F h x0 = some o) : Le h o.2 := by
  obtain ⟨h_1, eh_1, hE⟩ := nm_e2 hE
  refine (le_I eh_1).tr ?_
  obtain ⟨o_2, eo_2, hE⟩ := cl_e hE
  refine (moX0_gatherSets eo_2).tr ?_
  exact moX0_run_9 hE
set_option maxRecDepth 20000 in
theorem bX0_run_168 {p : Program} {l : Launch} {e : Env} {s : State} {m : MethodId} {args : Array Value} {below : List Frame} {meth : Method} {c : Code} {X : Ec} {h0 : Hp} {o : Int32 × Hp} {k_133 : Hp → Nat → Int32 → Option (Int32 × Hp)} {F : Nat} (C : Cx X p s m args meth c RX0 cX0_run 4 (some .boolean) "run") (hk_133 : ∀ (h : Hp) (x0 : Nat) (x1 : Int32) (H : Heap) (locs : List Loc), hK h x0 = 0 → Kl h0 h → Wx X h H → va_S (aA (eB X)) s.heap H locs → ∀ (ls : Array Slot), lv_has ls 4 [(0, .ref x0), (1, .int x1)] → k_133 h x0 x1 = some o → W p l e (rmA 6 171 h0 o.2) s m args below meth c H locs (hS h - hS h0) (hL h - hL h0) (MQ below (QIA X h0 o.1 o.2) args s (hS o.2 - hS h0) (hL o.2 - hL h0) (aA (eB X))) (F0 m 133 ls [])) (mk_133 : ∀ (h : Hp) (x0 : Nat) (x1 : Int32), k_133 h x0 x1 = some o → Le h o.2) {h : Hp} {x0 : Nat} {x1 : Int32} {t0 : Int32} {t1 : Int32} {t2 : Nat} {H : Heap} {locs : List Loc} (k_x0 : hK h x0 = 0) (k_t2 : hK h t2 = 17) (hkl : Kl h0 h) (hW : Wx X h H) (hZ : va_S (aA (eB X)) s.heap H locs) (ls : Array Slot) (hl : lv_has ls 4 [(0, .ref x0), (1, .int x1)]) (hE : sX0_run_168 F k_133 h x0 x1 t0 t1 t2 = some o) : W p l e (rmA 6 171 h0 o.2) s m args below meth c H locs (hS h - hS h0) (hL h - hL h0) (MQ below (QIA X h0 o.1 o.2) args s (hS o.2 - hS h0) (hL o.2 - hL h0) (aA (eB X))) (F0 m 168 ls [.int t0, .int t1, .ref t2]) := by
  obtain ⟨g_1, hE⟩ := gd_e hE
  obtain ⟨h_2, eh_2, hE⟩ := nm_e2 hE
  refine y_iast C hW hZ k_t2 g_1 eh_2 dX0_run_168 (fun _ _ hW km hZ => ?_)
  replace hkl := hkl.tr km.l
  refine x_wc km ?_
  replace k_x0 := km.at k_x0 (by decide)
  obtain ⟨v_3, ev_3, hE⟩ := nm_e2 hE
  refine lv_iinc (v := v_3) (lv' := [(1, .int v_3), (0, .ref x0)]) C.1 C.2.1 dX0_run_169 hl (k := 1) rfl (by rw [ev_3]; rfl) (by decide) rfl (fun ls hl => ?_)
  refine lv_goto (tgt := 133) C.1 C.2.1 dX0_run_172 (by decide) ?_
  exact hk_133 _ _ _ _ _ k_x0 hkl hW hZ _ (lv_sub hl [1, 0] rfl) hE
set_option maxRecDepth 20000 in
theorem bX0_run_133 {p : Program} {l : Launch} {e : Env} {s : State} {m : MethodId} {args : Array Value} {below : List Frame} {meth : Method} {c : Code} {X : Ec} {h0 : Hp} {o : Int32 × Hp} {F : Nat} (C : Cx X p s m args meth c RX0 cX0_run 4 (some .boolean) "run") : ∀ (f : Nat) {h : Hp} {x0 : Nat} {x1 : Int32} {H : Heap} {locs : List Loc} (k_x0 : hK h x0 = 0), Kl h0 h → Wx X h H → va_S (aA (eB X)) s.heap H locs → ∀ (ls : Array Slot), lv_has ls 4 [(0, .ref x0), (1, .int x1)] → sX0_run_133 F f h x0 x1 = some o → W p l e (rmA 6 171 h0 o.2) s m args below meth c H locs (hS h - hS h0) (hL h - hL h0) (MQ below (QIA X h0 o.1 o.2) args s (hS o.2 - hS h0) (hL o.2 - hL h0) (aA (eB X))) (F0 m 133 ls []) := by
  intro f
  induction f with
  | zero =>
    intro h x0 x1 H locs k_x0 hkl hW hZ ls hl hE
    rw [sX0_run_133] at hE
    cases hE
  | succ f ih =>
    intro h x0 x1 H locs k_x0 hkl hW hZ ls hl hE
    rw [sX0_run_133] at hE
    have mk_133 : ∀ (h : Hp) (x0 : Nat) (x1 : Int32), sX0_run_133 F f h x0 x1 = some o → Le h o.2 := fun h x0 x1 hE => moX0_run_133 _ hE
    have hk_133 : ∀ (h : Hp) (x0 : Nat) (x1 : Int32) (H : Heap) (locs : List Loc), hK h x0 = 0 → Kl h0 h → Wx X h H → va_S (aA (eB X)) s.heap H locs → ∀ (ls : Array Slot), lv_has ls 4 [(0, .ref x0), (1, .int x1)] → sX0_run_133 F f h x0 x1 = some o → W p l e (rmA 6 171 h0 o.2) s m args below meth c H locs (hS h - hS h0) (hL h - hL h0) (MQ below (QIA X h0 o.1 o.2) args s (hS o.2 - hS h0) (hL o.2 - hL h0) (aA (eB X))) (F0 m 133 ls []) := fun h x0 x1 H locs k_x0 a b c ls hl hE => ih k_x0 a b c ls hl hE
    refine lv_iload_n C.1 C.2.1 dX0_run_133 rfl (lv_at hl 1 rfl) ?_
    refine lv_aload_n C.1 C.2.1 dX0_run_134 rfl (lv_at hl 0 rfl) ?_
    refine gf_X0_119 C hW k_x0 dX0_run_135 ?_
    refine lv_l2i C.1 C.2.1 dX0_run_138 rfl ?_
    refine lv_icmp_ge (tgt := 175) C.1 C.2.1 dX0_run_139 (by decide) (fun c_1 => ?_) (fun c_1 => ?_)
    · have hE := br_p hE c_1
      refine lv_aload_n C.1 C.2.1 dX0_run_175 rfl (lv_at hl 0 rfl) ?_
      refine lv_iconst (v := (1 : Int32)) C.1 C.2.1 dX0_run_176 (by decide) ?_
      obtain ⟨h_2, eh_2, hE⟩ := nm_e2 hE
      refine pf_X0_77 C hW hZ k_x0 (by decide) eh_2 dX0_run_177 (fun _ _ hW km hZ => ?_)
      replace hkl := hkl.tr km.l
      refine x_wc km ?_
      replace k_x0 := km.at k_x0 (by decide)
      refine lv_iconst (v := (1 : Int32)) C.1 C.2.1 dX0_run_180 (by decide) ?_
      exact x_iretA C rfl (by decide) hW hZ hkl hE dX0_run_181
    · have hE := br_n hE c_1
      refine lv_aload_n C.1 C.2.1 dX0_run_142 rfl (lv_at hl 0 rfl) ?_
      obtain ⟨r_3, er_3, hE⟩ := cl_e hE
      refine gf_X0_31 C hW k_x0 er_3 dX0_run_143 (fun k_r_3 => ?_)
      refine lv_iload_n C.1 C.2.1 dX0_run_146 rfl (lv_at hl 1 rfl) ?_
      refine lv_aload_n C.1 C.2.1 dX0_run_147 rfl (lv_at hl 0 rfl) ?_
      obtain ⟨r_4, er_4, hE⟩ := cl_e hE
      refine gf_X0_31 C hW k_x0 er_4 dX0_run_148 (fun k_r_4 => ?_)
      refine lv_iload_n C.1 C.2.1 dX0_run_151 rfl (lv_at hl 1 rfl) ?_
      obtain ⟨g_5, hE⟩ := gd_e hE
      refine y_iald C hW k_r_4 g_5 dX0_run_152 ?_
      refine lv_ldc (v := (3000000 : Int32)) C.1 C.2.1 C.2.2.2.1 (C.2.2.2.2.1 _ m_1664) dX0_run_153 ?_
      refine lv_icmp_ne (tgt := 162) C.1 C.2.1 dX0_run_155 (by decide) (fun c_6 => ?_) (fun c_6 => ?_)
      · have hE := br_n hE c_6
        refine lv_aload_n C.1 C.2.1 dX0_run_162 rfl (lv_at hl 0 rfl) ?_
        obtain ⟨r_7, er_7, hE⟩ := cl_e hE
        refine gf_X0_31 C hW k_x0 er_7 dX0_run_163 (fun k_r_7 => ?_)
        refine lv_iload_n C.1 C.2.1 dX0_run_166 rfl (lv_at hl 1 rfl) ?_
        obtain ⟨g_8, hE⟩ := gd_e hE
        refine y_iald C hW k_r_7 g_8 dX0_run_167 ?_
        exact bX0_run_168 C hk_133 mk_133 k_x0 k_r_3 hkl hW hZ _ (lv_sub hl [0, 1] rfl) hE
      · have hE := br_p hE c_6
        refine lv_iconst (v := (0 : Int32)) C.1 C.2.1 dX0_run_158 (by decide) ?_
        refine lv_goto (tgt := 168) C.1 C.2.1 dX0_run_159 (by decide) ?_
        exact bX0_run_168 C hk_133 mk_133 k_x0 k_r_3 hkl hW hZ _ (lv_sub hl [0, 1] rfl) hE
set_option maxRecDepth 20000 in
theorem bX0_run_131 {p : Program} {l : Launch} {e : Env} {s : State} {m : MethodId} {args : Array Value} {below : List Frame} {meth : Method} {c : Code} {X : Ec} {h0 : Hp} {o : Int32 × Hp} {F : Nat} (C : Cx X p s m args meth c RX0 cX0_run 4 (some .boolean) "run") {h : Hp} {x0 : Nat} {H : Heap} {locs : List Loc} (k_x0 : hK h x0 = 0) (hkl : Kl h0 h) (hW : Wx X h H) (hZ : va_S (aA (eB X)) s.heap H locs) (ls : Array Slot) (hl : lv_has ls 4 [(0, .ref x0)]) (hE : sX0_run_131 F h x0 = some o) : W p l e (rmA 6 171 h0 o.2) s m args below meth c H locs (hS h - hS h0) (hL h - hL h0) (MQ below (QIA X h0 o.1 o.2) args s (hS o.2 - hS h0) (hL o.2 - hL h0) (aA (eB X))) (F0 m 131 ls []) := by
  refine lv_iconst (v := (0 : Int32)) C.1 C.2.1 dX0_run_131 (by decide) ?_
  refine lv_istore_n (lv' := [(1, .int (0 : Int32)), (0, .ref x0)]) C.1 C.2.1 dX0_run_132 rfl hl (by decide) rfl (fun ls hl => ?_)
  exact bX0_run_133 C F k_x0 hkl hW hZ _ (lv_sub hl [1, 0] rfl) hE
set_option maxRecDepth 20000 in
theorem bX0_run_125 {p : Program} {l : Launch} {e : Env} {s : State} {m : MethodId} {args : Array Value} {below : List Frame} {meth : Method} {c : Code} {X : Ec} {h0 : Hp} {o : Int32 × Hp} {k_51 : Hp → Nat → Int32 → Option (Int32 × Hp)} {F : Nat} (C : Cx X p s m args meth c RX0 cX0_run 4 (some .boolean) "run") (hk_51 : ∀ (h : Hp) (x0 : Nat) (x1 : Int32) (H : Heap) (locs : List Loc), hK h x0 = 0 → Kl h0 h → Wx X h H → va_S (aA (eB X)) s.heap H locs → ∀ (ls : Array Slot), lv_has ls 4 [(0, .ref x0), (1, .int x1)] → k_51 h x0 x1 = some o → W p l e (rmA 6 171 h0 o.2) s m args below meth c H locs (hS h - hS h0) (hL h - hL h0) (MQ below (QIA X h0 o.1 o.2) args s (hS o.2 - hS h0) (hL o.2 - hL h0) (aA (eB X))) (F0 m 51 ls [])) (mk_51 : ∀ (h : Hp) (x0 : Nat) (x1 : Int32), k_51 h x0 x1 = some o → Le h o.2) {h : Hp} {x0 : Nat} {x1 : Int32} {H : Heap} {locs : List Loc} (k_x0 : hK h x0 = 0) (hkl : Kl h0 h) (hW : Wx X h H) (hZ : va_S (aA (eB X)) s.heap H locs) (ls : Array Slot) (hl : lv_has ls 4 [(0, .ref x0), (1, .int x1)]) (hE : sX0_run_125 F k_51 h x0 x1 = some o) : W p l e (rmA 6 171 h0 o.2) s m args below meth c H locs (hS h - hS h0) (hL h - hL h0) (MQ below (QIA X h0 o.1 o.2) args s (hS o.2 - hS h0) (hL o.2 - hL h0) (aA (eB X))) (F0 m 125 ls []) := by
  obtain ⟨v_1, ev_1, hE⟩ := nm_e2 hE
  refine lv_iinc (v := v_1) (lv' := [(1, .int v_1), (0, .ref x0)]) C.1 C.2.1 dX0_run_125 hl (k := 1) rfl (by rw [ev_1]; rfl) (by decide) rfl (fun ls hl => ?_)
  refine lv_goto (tgt := 51) C.1 C.2.1 dX0_run_128 (by decide) ?_
  exact hk_51 _ _ _ _ _ k_x0 hkl hW hZ _ (lv_sub hl [1, 0] rfl) hE
set_option maxRecDepth 20000 in
theorem bX0_run_108 {p : Program} {l : Launch} {e : Env} {s : State} {m : MethodId} {args : Array Value} {below : List Frame} {meth : Method} {c : Code} {X : Ec} {h0 : Hp} {o : Int32 × Hp} {k_51 : Hp → Nat → Int32 → Option (Int32 × Hp)} {F : Nat} (C : Cx X p s m args meth c RX0 cX0_run 4 (some .boolean) "run") (hk_51 : ∀ (h : Hp) (x0 : Nat) (x1 : Int32) (H : Heap) (locs : List Loc), hK h x0 = 0 → Kl h0 h → Wx X h H → va_S (aA (eB X)) s.heap H locs → ∀ (ls : Array Slot), lv_has ls 4 [(0, .ref x0), (1, .int x1)] → k_51 h x0 x1 = some o → W p l e (rmA 6 171 h0 o.2) s m args below meth c H locs (hS h - hS h0) (hL h - hL h0) (MQ below (QIA X h0 o.1 o.2) args s (hS o.2 - hS h0) (hL o.2 - hL h0) (aA (eB X))) (F0 m 51 ls [])) (mk_51 : ∀ (h : Hp) (x0 : Nat) (x1 : Int32), k_51 h x0 x1 = some o → Le h o.2) {h : Hp} {x0 : Nat} {x1 : Int32} {x2 : Int32} {x3 : Int32} {t0 : Int32} {H : Heap} {locs : List Loc} (k_x0 : hK h x0 = 0) (hkl : Kl h0 h) (hW : Wx X h H) (hZ : va_S (aA (eB X)) s.heap H locs) (ls : Array Slot) (hl : lv_has ls 4 [(0, .ref x0), (1, .int x1), (2, .int x2), (3, .int x3)]) (hE : sX0_run_108 F k_51 h x0 x1 x2 x3 t0 = some o) : W p l e (rmA 6 171 h0 o.2) s m args below meth c H locs (hS h - hS h0) (hL h - hL h0) (MQ below (QIA X h0 o.1 o.2) args s (hS o.2 - hS h0) (hL o.2 - hL h0) (aA (eB X))) (F0 m 108 ls [.int t0]) := by
  refine lv_if_eq (tgt := 125) C.1 C.2.1 dX0_run_108 (by decide) (fun c_1 => ?_) (fun c_1 => ?_)
  · have hE := br_p hE c_1
    exact bX0_run_125 C hk_51 mk_51 k_x0 hkl hW hZ _ (lv_sub hl [0, 1] rfl) hE
  · have hE := br_n hE c_1
    refine lv_aload_n C.1 C.2.1 dX0_run_111 rfl (lv_at hl 0 rfl) ?_
    refine lv_iload_n C.1 C.2.1 dX0_run_112 rfl (lv_at hl 2 rfl) ?_
    refine lv_aload_n C.1 C.2.1 dX0_run_113 rfl (lv_at hl 0 rfl) ?_
    obtain ⟨r_2, er_2, hE⟩ := cl_e hE
    refine gf_X0_22 C hW k_x0 er_2 dX0_run_114 (fun k_r_2 => ?_)
    refine lv_iload_n C.1 C.2.1 dX0_run_117 rfl (lv_at hl 3 rfl) ?_
    obtain ⟨g_3, hE⟩ := gd_e hE
    refine y_iald C hW k_r_2 g_3 dX0_run_118 ?_
    refine lv_isub C.1 C.2.1 dX0_run_119 ?_
    refine lv_iconst (v := (1 : Int32)) C.1 C.2.1 dX0_run_120 (by decide) ?_
    refine lv_iand C.1 C.2.1 dX0_run_121 ?_
    obtain ⟨o_4, eo_4, hE⟩ := cl_e hE
    have m1 := moX0_goBack eo_4
    have m2 := moX0_run_125 mk_51 hE
    refine x_kV (o := o_4) (z_runV (As := [.int ((x2 - (hI h r_2 x3.toNatClampNeg)) &&& (1 : Int32))]) (rest := []) C (ct_X0_goBack l X F k_x0 eo_4) cw_X0_115 hW hZ k_x0 (by decide) rfl rfl rfl hl.1 (Nat.le_of_ble_eq_true rfl) rfl dX0_run_122 ⟨Nat.le_of_ble_eq_true rfl, Nat.le_of_ble_eq_true rfl⟩ (rm_ok0 hkl m1 m2)) hZ (fun _ _ hW km hZ => ?_)
    replace hkl := hkl.tr km.l
    refine x_wc km ?_
    replace k_x0 := km.at k_x0 (by decide)
    exact bX0_run_125 C hk_51 mk_51 k_x0 hkl hW hZ _ (lv_sub hl [0, 1] rfl) hE
set_option maxRecDepth 20000 in
theorem bX0_run_77 {p : Program} {l : Launch} {e : Env} {s : State} {m : MethodId} {args : Array Value} {below : List Frame} {meth : Method} {c : Code} {X : Ec} {h0 : Hp} {o : Int32 × Hp} {k_51 : Hp → Nat → Int32 → Option (Int32 × Hp)} {F : Nat} (C : Cx X p s m args meth c RX0 cX0_run 4 (some .boolean) "run") (hk_51 : ∀ (h : Hp) (x0 : Nat) (x1 : Int32) (H : Heap) (locs : List Loc), hK h x0 = 0 → Kl h0 h → Wx X h H → va_S (aA (eB X)) s.heap H locs → ∀ (ls : Array Slot), lv_has ls 4 [(0, .ref x0), (1, .int x1)] → k_51 h x0 x1 = some o → W p l e (rmA 6 171 h0 o.2) s m args below meth c H locs (hS h - hS h0) (hL h - hL h0) (MQ below (QIA X h0 o.1 o.2) args s (hS o.2 - hS h0) (hL o.2 - hL h0) (aA (eB X))) (F0 m 51 ls [])) (mk_51 : ∀ (h : Hp) (x0 : Nat) (x1 : Int32), k_51 h x0 x1 = some o → Le h o.2) {h : Hp} {x0 : Nat} {x1 : Int32} {x2 : Int32} {t0 : Int32} {H : Heap} {locs : List Loc} (k_x0 : hK h x0 = 0) (hkl : Kl h0 h) (hW : Wx X h H) (hZ : va_S (aA (eB X)) s.heap H locs) (ls : Array Slot) (hl : lv_has ls 4 [(0, .ref x0), (1, .int x1), (2, .int x2)]) (hE : sX0_run_77 F k_51 h x0 x1 x2 t0 = some o) : W p l e (rmA 6 171 h0 o.2) s m args below meth c H locs (hS h - hS h0) (hL h - hL h0) (MQ below (QIA X h0 o.1 o.2) args s (hS o.2 - hS h0) (hL o.2 - hL h0) (aA (eB X))) (F0 m 77 ls [.int t0]) := by
  refine lv_istore_n (lv' := [(3, .int t0), (0, .ref x0), (1, .int x1), (2, .int x2)]) C.1 C.2.1 dX0_run_77 rfl hl (by decide) rfl (fun ls hl => ?_)
  refine lv_aload_n C.1 C.2.1 dX0_run_78 rfl (lv_at hl 1 rfl) ?_
  refine lv_aload_n C.1 C.2.1 dX0_run_79 rfl (lv_at hl 1 rfl) ?_
  obtain ⟨r_1, er_1, hE⟩ := cl_e hE
  refine gf_X0_31 C hW k_x0 er_1 dX0_run_80 (fun k_r_1 => ?_)
  refine lv_iload_n C.1 C.2.1 dX0_run_83 rfl (lv_at hl 3 rfl) ?_
  obtain ⟨g_2, hE⟩ := gd_e hE
  refine y_iald C hW k_r_1 g_2 dX0_run_84 ?_
  obtain ⟨h_3, eh_3, hE⟩ := nm_e2 hE
  refine pf_X0_98 C hW hZ k_x0 eh_3 dX0_run_85 (fun _ _ hW km hZ => ?_)
  replace hkl := hkl.tr km.l
  refine x_wc km ?_
  replace k_x0 := km.at k_x0 (by decide)
  refine lv_aload_n C.1 C.2.1 dX0_run_88 rfl (lv_at hl 1 rfl) ?_
  refine lv_aload_n C.1 C.2.1 dX0_run_89 rfl (lv_at hl 1 rfl) ?_
  obtain ⟨r_4, er_4, hE⟩ := cl_e hE
  refine gf_X0_18 C hW k_x0 er_4 dX0_run_90 (fun k_r_4 => ?_)
  refine lv_iload_n C.1 C.2.1 dX0_run_93 rfl (lv_at hl 0 rfl) ?_
  obtain ⟨g_5, hE⟩ := gd_e hE
  refine y_iald C hW k_r_4 g_5 dX0_run_94 ?_
  refine lv_iload_n C.1 C.2.1 dX0_run_95 rfl (lv_at hl 3 rfl) ?_
  refine lv_aload_n C.1 C.2.1 dX0_run_96 rfl (lv_at hl 1 rfl) ?_
  obtain ⟨r_6, er_6, hE⟩ := cl_e hE
  refine gf_X0_22 C hW k_x0 er_6 dX0_run_97 (fun k_r_6 => ?_)
  refine lv_iload_n C.1 C.2.1 dX0_run_100 rfl (lv_at hl 0 rfl) ?_
  obtain ⟨g_7, hE⟩ := gd_e hE
  refine y_iald C hW k_r_6 g_7 dX0_run_101 ?_
  refine lv_isub C.1 C.2.1 dX0_run_102 ?_
  refine lv_iconst (v := (1 : Int32)) C.1 C.2.1 dX0_run_103 (by decide) ?_
  refine lv_ishr C.1 C.2.1 dX0_run_104 ?_
  obtain ⟨o_8, eo_8, hE⟩ := cl_e hE
  have m1 := moX0_layOut eo_8
  have m2 := moX0_run_108 mk_51 hE
  refine x_kI (o := o_8) (z_runV (As := [.int (hI h_3 r_4 t0.toNatClampNeg), .int ((x2 - (hI h_3 r_6 t0.toNatClampNeg)) >>> ((1 : Int32) &&& 31))]) (rest := []) C (ct_X0_layOut l X F k_x0 eo_8) cw_X0_111 hW hZ k_x0 (by decide) rfl rfl rfl hl.1 (Nat.le_of_ble_eq_true rfl) rfl dX0_run_105 ⟨Nat.le_of_ble_eq_true rfl, Nat.le_of_ble_eq_true rfl⟩ (rm_ok0 hkl m1 m2)) hZ (fun _ _ hW km hZ => ?_)
  replace hkl := hkl.tr km.l
  refine x_wc km ?_
  replace k_x0 := km.at k_x0 (by decide)
  exact bX0_run_108 C hk_51 mk_51 k_x0 hkl hW hZ _ (lv_sub hl [1, 2, 3, 0] rfl) hE
set_option maxRecDepth 20000 in
theorem bX0_run_51 {p : Program} {l : Launch} {e : Env} {s : State} {m : MethodId} {args : Array Value} {below : List Frame} {meth : Method} {c : Code} {X : Ec} {h0 : Hp} {o : Int32 × Hp} {F : Nat} (C : Cx X p s m args meth c RX0 cX0_run 4 (some .boolean) "run") : ∀ (f : Nat) {h : Hp} {x0 : Nat} {x1 : Int32} {H : Heap} {locs : List Loc} (k_x0 : hK h x0 = 0), Kl h0 h → Wx X h H → va_S (aA (eB X)) s.heap H locs → ∀ (ls : Array Slot), lv_has ls 4 [(0, .ref x0), (1, .int x1)] → sX0_run_51 F f h x0 x1 = some o → W p l e (rmA 6 171 h0 o.2) s m args below meth c H locs (hS h - hS h0) (hL h - hL h0) (MQ below (QIA X h0 o.1 o.2) args s (hS o.2 - hS h0) (hL o.2 - hL h0) (aA (eB X))) (F0 m 51 ls []) := by
  intro f
  induction f with
  | zero =>
    intro h x0 x1 H locs k_x0 hkl hW hZ ls hl hE
    rw [sX0_run_51] at hE
    cases hE
  | succ f ih =>
    intro h x0 x1 H locs k_x0 hkl hW hZ ls hl hE
    rw [sX0_run_51] at hE
    have mk_51 : ∀ (h : Hp) (x0 : Nat) (x1 : Int32), sX0_run_51 F f h x0 x1 = some o → Le h o.2 := fun h x0 x1 hE => moX0_run_51 _ hE
    have hk_51 : ∀ (h : Hp) (x0 : Nat) (x1 : Int32) (H : Heap) (locs : List Loc), hK h x0 = 0 → Kl h0 h → Wx X h H → va_S (aA (eB X)) s.heap H locs → ∀ (ls : Array Slot), lv_has ls 4 [(0, .ref x0), (1, .int x1)] → sX0_run_51 F f h x0 x1 = some o → W p l e (rmA 6 171 h0 o.2) s m args below meth c H locs (hS h - hS h0) (hL h - hL h0) (MQ below (QIA X h0 o.1 o.2) args s (hS o.2 - hS h0) (hL o.2 - hL h0) (aA (eB X))) (F0 m 51 ls []) := fun h x0 x1 H locs k_x0 a b c ls hl hE => ih k_x0 a b c ls hl hE
    refine lv_iload_n C.1 C.2.1 dX0_run_51 rfl (lv_at hl 1 rfl) ?_
    refine lv_aload_n C.1 C.2.1 dX0_run_52 rfl (lv_at hl 0 rfl) ?_
    refine gf_X0_91 C hW k_x0 dX0_run_53 ?_
    refine lv_icmp_ge (tgt := 131) C.1 C.2.1 dX0_run_56 (by decide) (fun c_1 => ?_) (fun c_1 => ?_)
    · have hE := br_p hE c_1
      exact bX0_run_131 C k_x0 hkl hW hZ _ (lv_sub hl [0] rfl) hE
    · have hE := br_n hE c_1
      refine lv_iload_n C.1 C.2.1 dX0_run_59 rfl (lv_at hl 1 rfl) ?_
      refine lv_ldc (v := (600000 : Int32)) C.1 C.2.1 C.2.2.2.1 (C.2.2.2.2.1 _ m_1643) dX0_run_60 ?_
      refine lv_icmp_ge (tgt := 131) C.1 C.2.1 dX0_run_62 (by decide) (fun c_2 => ?_) (fun c_2 => ?_)
      · have hE := br_p hE c_2
        exact bX0_run_131 C k_x0 hkl hW hZ _ (lv_sub hl [0] rfl) hE
      · have hE := br_n hE c_2
        refine lv_aload_n C.1 C.2.1 dX0_run_65 rfl (lv_at hl 0 rfl) ?_
        obtain ⟨r_3, er_3, hE⟩ := cl_e hE
        refine gf_X0_37 C hW k_x0 er_3 dX0_run_66 (fun k_r_3 => ?_)
        refine lv_iload_n C.1 C.2.1 dX0_run_69 rfl (lv_at hl 1 rfl) ?_
        obtain ⟨g_4, hE⟩ := gd_e hE
        refine y_iald C hW k_r_3 g_4 dX0_run_70 ?_
        obtain ⟨v_5, ev_5, hE⟩ := nm_e2 hE
        refine x_nmI ev_5 ?_
        refine lv_istore_n (lv' := [(2, .int v_5), (0, .ref x0), (1, .int x1)]) C.1 C.2.1 dX0_run_71 rfl hl (by decide) rfl (fun ls hl => ?_)
        refine lv_aload_n C.1 C.2.1 dX0_run_72 rfl (lv_at hl 1 rfl) ?_
        refine lv_iload_n C.1 C.2.1 dX0_run_73 rfl (lv_at hl 0 rfl) ?_
        obtain ⟨o_6, eo_6, hE⟩ := cl_e hE
        have m1 := moX0_setOf eo_6
        have m2 := moX0_run_77 mk_51 hE
        refine x_kI (o := o_6) (z_runV (As := [.int v_5]) (rest := []) C (ct_X0_setOf l X F k_x0 eo_6) cw_X0_108 hW hZ k_x0 (by decide) rfl rfl rfl hl.1 (Nat.le_of_ble_eq_true rfl) rfl dX0_run_74 ⟨Nat.le_of_ble_eq_true rfl, Nat.le_of_ble_eq_true rfl⟩ (rm_ok0 hkl m1 m2)) hZ (fun _ _ hW km hZ => ?_)
        replace hkl := hkl.tr km.l
        refine x_wc km ?_
        replace k_x0 := km.at k_x0 (by decide)
        exact bX0_run_77 C hk_51 mk_51 k_x0 hkl hW hZ _ (lv_sub hl [1, 2, 0] rfl) hE
set_option maxRecDepth 20000 in
theorem bX0_run_49 {p : Program} {l : Launch} {e : Env} {s : State} {m : MethodId} {args : Array Value} {below : List Frame} {meth : Method} {c : Code} {X : Ec} {h0 : Hp} {o : Int32 × Hp} {F : Nat} (C : Cx X p s m args meth c RX0 cX0_run 4 (some .boolean) "run") {h : Hp} {x0 : Nat} {H : Heap} {locs : List Loc} (k_x0 : hK h x0 = 0) (hkl : Kl h0 h) (hW : Wx X h H) (hZ : va_S (aA (eB X)) s.heap H locs) (ls : Array Slot) (hl : lv_has ls 4 [(0, .ref x0)]) (hE : sX0_run_49 F h x0 = some o) : W p l e (rmA 6 171 h0 o.2) s m args below meth c H locs (hS h - hS h0) (hL h - hL h0) (MQ below (QIA X h0 o.1 o.2) args s (hS o.2 - hS h0) (hL o.2 - hL h0) (aA (eB X))) (F0 m 49 ls []) := by
  refine lv_iconst (v := (0 : Int32)) C.1 C.2.1 dX0_run_49 (by decide) ?_
  refine lv_istore_n (lv' := [(1, .int (0 : Int32)), (0, .ref x0)]) C.1 C.2.1 dX0_run_50 rfl hl (by decide) rfl (fun ls hl => ?_)
  exact bX0_run_51 C F k_x0 hkl hW hZ _ (lv_sub hl [1, 0] rfl) hE
set_option maxRecDepth 20000 in
theorem bX0_run_45 {p : Program} {l : Launch} {e : Env} {s : State} {m : MethodId} {args : Array Value} {below : List Frame} {meth : Method} {c : Code} {X : Ec} {h0 : Hp} {o : Int32 × Hp} {F : Nat} (C : Cx X p s m args meth c RX0 cX0_run 4 (some .boolean) "run") {h : Hp} {x0 : Nat} {H : Heap} {locs : List Loc} (k_x0 : hK h x0 = 0) (hkl : Kl h0 h) (hW : Wx X h H) (hZ : va_S (aA (eB X)) s.heap H locs) (ls : Array Slot) (hl : lv_has ls 4 [(0, .ref x0)]) (hE : sX0_run_45 F h x0 = some o) : W p l e (rmA 6 171 h0 o.2) s m args below meth c H locs (hS h - hS h0) (hL h - hL h0) (MQ below (QIA X h0 o.1 o.2) args s (hS o.2 - hS h0) (hL o.2 - hL h0) (aA (eB X))) (F0 m 45 ls []) := by
  refine lv_aload_n C.1 C.2.1 dX0_run_45 rfl (lv_at hl 0 rfl) ?_
  obtain ⟨o_1, eo_1, hE⟩ := cl_e hE
  have m1 := moX0_queueEnds eo_1
  have m2 := moX0_run_49 hE
  refine x_kV (o := o_1) (z_runV (As := []) (rest := []) C (ct_X0_queueEnds l X F k_x0 eo_1) cw_X0_104 hW hZ k_x0 (by decide) rfl rfl rfl hl.1 (Nat.le_of_ble_eq_true rfl) rfl dX0_run_46 ⟨Nat.le_of_ble_eq_true rfl, Nat.le_of_ble_eq_true rfl⟩ (rm_ok0 hkl m1 m2)) hZ (fun _ _ hW km hZ => ?_)
  replace hkl := hkl.tr km.l
  refine x_wc km ?_
  replace k_x0 := km.at k_x0 (by decide)
  exact bX0_run_49 C k_x0 hkl hW hZ _ (lv_sub hl [0] rfl) hE
set_option maxRecDepth 20000 in
theorem bX0_run_35 {p : Program} {l : Launch} {e : Env} {s : State} {m : MethodId} {args : Array Value} {below : List Frame} {meth : Method} {c : Code} {X : Ec} {h0 : Hp} {o : Int32 × Hp} {F : Nat} (C : Cx X p s m args meth c RX0 cX0_run 4 (some .boolean) "run") {h : Hp} {x0 : Nat} {H : Heap} {locs : List Loc} (k_x0 : hK h x0 = 0) (hkl : Kl h0 h) (hW : Wx X h H) (hZ : va_S (aA (eB X)) s.heap H locs) (ls : Array Slot) (hl : lv_has ls 4 [(0, .ref x0)]) (hE : sX0_run_35 F h x0 = some o) : W p l e (rmA 6 171 h0 o.2) s m args below meth c H locs (hS h - hS h0) (hL h - hL h0) (MQ below (QIA X h0 o.1 o.2) args s (hS o.2 - hS h0) (hL o.2 - hL h0) (aA (eB X))) (F0 m 35 ls []) := by
  refine lv_aload_n C.1 C.2.1 dX0_run_35 rfl (lv_at hl 0 rfl) ?_
  refine lv_ldc (v := (3000000 : Int32)) C.1 C.2.1 C.2.2.2.1 (C.2.2.2.2.1 _ m_1664) dX0_run_36 ?_
  obtain ⟨h_1, eh_1, hE⟩ := nm_e2 hE
  refine pf_X0_98 C hW hZ k_x0 eh_1 dX0_run_38 (fun _ _ hW km hZ => ?_)
  replace hkl := hkl.tr km.l
  refine x_wc km ?_
  replace k_x0 := km.at k_x0 (by decide)
  refine lv_aload_n C.1 C.2.1 dX0_run_41 rfl (lv_at hl 0 rfl) ?_
  obtain ⟨o_2, eo_2, hE⟩ := cl_e hE
  have m1 := moX0_countAll eo_2
  have m2 := moX0_run_45 hE
  refine x_kV (o := o_2) (z_runV (As := []) (rest := []) C (ct_X0_countAll l X F k_x0 eo_2) cw_X0_101 hW hZ k_x0 (by decide) rfl rfl rfl hl.1 (Nat.le_of_ble_eq_true rfl) rfl dX0_run_42 ⟨Nat.le_of_ble_eq_true rfl, Nat.le_of_ble_eq_true rfl⟩ (rm_ok0 hkl m1 m2)) hZ (fun _ _ hW km hZ => ?_)
  replace hkl := hkl.tr km.l
  refine x_wc km ?_
  replace k_x0 := km.at k_x0 (by decide)
  exact bX0_run_45 C k_x0 hkl hW hZ _ (lv_sub hl [0] rfl) hE
set_option maxRecDepth 20000 in
theorem bX0_run_18 {p : Program} {l : Launch} {e : Env} {s : State} {m : MethodId} {args : Array Value} {below : List Frame} {meth : Method} {c : Code} {X : Ec} {h0 : Hp} {o : Int32 × Hp} {F : Nat} (C : Cx X p s m args meth c RX0 cX0_run 4 (some .boolean) "run") {h : Hp} {x0 : Nat} {H : Heap} {locs : List Loc} (k_x0 : hK h x0 = 0) (hkl : Kl h0 h) (hW : Wx X h H) (hZ : va_S (aA (eB X)) s.heap H locs) (ls : Array Slot) (hl : lv_has ls 4 [(0, .ref x0)]) (hE : sX0_run_18 F h x0 = some o) : W p l e (rmA 6 171 h0 o.2) s m args below meth c H locs (hS h - hS h0) (hL h - hL h0) (MQ below (QIA X h0 o.1 o.2) args s (hS o.2 - hS h0) (hL o.2 - hL h0) (aA (eB X))) (F0 m 18 ls []) := by
  refine lv_aload_n C.1 C.2.1 dX0_run_18 rfl (lv_at hl 0 rfl) ?_
  refine lv_aload_n C.1 C.2.1 dX0_run_19 rfl (lv_at hl 0 rfl) ?_
  refine gf_X0_74 C hW k_x0 dX0_run_20 ?_
  obtain ⟨h_1, eh_1, hE⟩ := nm_e2 hE
  refine pf_X0_88 C hW hZ k_x0 eh_1 dX0_run_23 (fun _ _ hW km hZ => ?_)
  replace hkl := hkl.tr km.l
  refine x_wc km ?_
  replace k_x0 := km.at k_x0 (by decide)
  refine lv_aload_n C.1 C.2.1 dX0_run_26 rfl (lv_at hl 0 rfl) ?_
  refine lv_iconst (v := (0 : Int32)) C.1 C.2.1 dX0_run_27 (by decide) ?_
  obtain ⟨h_2, eh_2, hE⟩ := nm_e2 hE
  refine pf_X0_91 C hW hZ k_x0 eh_2 dX0_run_28 (fun _ _ hW km hZ => ?_)
  replace hkl := hkl.tr km.l
  refine x_wc km ?_
  replace k_x0 := km.at k_x0 (by decide)
  refine lv_aload_n C.1 C.2.1 dX0_run_31 rfl (lv_at hl 0 rfl) ?_
  obtain ⟨o_3, eo_3, hE⟩ := cl_e hE
  have m1 := moX0_markAll eo_3
  have m2 := moX0_run_35 hE
  refine x_kV (o := o_3) (z_runV (As := []) (rest := []) C (ct_X0_markAll l X F k_x0 eo_3) cw_X0_94 hW hZ k_x0 (by decide) rfl rfl rfl hl.1 (Nat.le_of_ble_eq_true rfl) rfl dX0_run_32 ⟨Nat.le_of_ble_eq_true rfl, Nat.le_of_ble_eq_true rfl⟩ (rm_ok0 hkl m1 m2)) hZ (fun _ _ hW km hZ => ?_)
  replace hkl := hkl.tr km.l
  refine x_wc km ?_
  replace k_x0 := km.at k_x0 (by decide)
  exact bX0_run_35 C k_x0 hkl hW hZ _ (lv_sub hl [0] rfl) hE
set_option maxRecDepth 20000 in
theorem bX0_run_9 {p : Program} {l : Launch} {e : Env} {s : State} {m : MethodId} {args : Array Value} {below : List Frame} {meth : Method} {c : Code} {X : Ec} {h0 : Hp} {o : Int32 × Hp} {F : Nat} (C : Cx X p s m args meth c RX0 cX0_run 4 (some .boolean) "run") {h : Hp} {x0 : Nat} {t0 : Int32} {H : Heap} {locs : List Loc} (k_x0 : hK h x0 = 0) (hkl : Kl h0 h) (hW : Wx X h H) (hZ : va_S (aA (eB X)) s.heap H locs) (ls : Array Slot) (hl : lv_has ls 4 [(0, .ref x0)]) (hE : sX0_run_9 F h x0 t0 = some o) : W p l e (rmA 6 171 h0 o.2) s m args below meth c H locs (hS h - hS h0) (hL h - hL h0) (MQ below (QIA X h0 o.1 o.2) args s (hS o.2 - hS h0) (hL o.2 - hL h0) (aA (eB X))) (F0 m 9 ls [.int t0]) := by
  refine lv_if_ne (tgt := 14) C.1 C.2.1 dX0_run_9 (by decide) (fun c_1 => ?_) (fun c_1 => ?_)
  · have hE := br_n hE c_1
    refine lv_aload_n C.1 C.2.1 dX0_run_14 rfl (lv_at hl 0 rfl) ?_
    obtain ⟨o_2, eo_2, hE⟩ := cl_e hE
    have m1 := moX0_makeRoom eo_2
    have m2 := moX0_run_18 hE
    refine x_kVA (o := o_2) hkl (z_runV (As := []) (rest := []) C (ct_X0_makeRoom l X k_x0 eo_2) cw_X0_85 hW hZ k_x0 (by decide) rfl rfl rfl hl.1 (Nat.le_of_ble_eq_true rfl) rfl dX0_run_15 ⟨Nat.le_of_ble_eq_true rfl, Nat.le_of_ble_eq_true rfl⟩ (rm_ok hkl m1 m2)) hZ (fun _ _ hW km hZ => ?_)
    replace hkl := hkl.tr km
    replace k_x0 := km.at k_x0 (by decide)
    exact bX0_run_18 C k_x0 hkl hW hZ _ (lv_sub hl [0] rfl) hE
  · have hE := br_p hE c_1
    refine lv_iconst (v := (0 : Int32)) C.1 C.2.1 dX0_run_12 (by decide) ?_
    exact x_iretA C rfl (by decide) hW hZ hkl hE dX0_run_13
set_option maxRecDepth 20000 in
theorem ct_X0_run (l : Launch) (X : Ec) (F : Nat) {h : Hp} {x0 : Nat} {o : Int32 × Hp} (k_x0 : hK h x0 = 0) (hE : sX0_run F h x0 = some o) : MetIA l yX0_run cX0_run 4 (some .boolean) 6 171 X [.ref x0] h o := by
  refine x_metA (oh := o.2) (by decide) (Nat.le_of_ble_eq_true rfl) ?_
  intro p e s m below meth c ls C hl hW hZ
  have hl : lv_has ls 4 [(0, .ref x0)] := hl
  have hkl : Kl h h := Kl.rf h
  refine lv_aload_n C.1 C.2.1 dX0_run_0 rfl (lv_at hl 0 rfl) ?_
  refine lv_iconst (v := (0 : Int32)) C.1 C.2.1 dX0_run_1 (by decide) ?_
  obtain ⟨h_1, eh_1, hE⟩ := nm_e2 hE
  refine pf_X0_77 C hW hZ k_x0 (by decide) eh_1 dX0_run_2 (fun _ _ hW km hZ => ?_)
  replace hkl := hkl.tr km.l
  refine x_wc km ?_
  replace k_x0 := km.at k_x0 (by decide)
  refine lv_aload_n C.1 C.2.1 dX0_run_5 rfl (lv_at hl 0 rfl) ?_
  obtain ⟨o_2, eo_2, hE⟩ := cl_e hE
  have m1 := moX0_gatherSets eo_2
  have m2 := moX0_run_9 hE
  refine x_kI (o := o_2) (z_runV (As := []) (rest := []) C (ct_X0_gatherSets l X F k_x0 eo_2) cw_X0_81 hW hZ k_x0 (by decide) rfl rfl rfl hl.1 (Nat.le_of_ble_eq_true rfl) rfl dX0_run_6 ⟨Nat.le_of_ble_eq_true rfl, Nat.le_of_ble_eq_true rfl⟩ (rm_ok0 hkl m1 m2)) hZ (fun _ _ hW km hZ => ?_)
  replace hkl := hkl.tr km.l
  refine x_wc km ?_
  replace k_x0 := km.at k_x0 (by decide)
  exact bX0_run_9 C k_x0 hkl hW hZ _ (lv_sub hl [0] rfl) hE
section
variable {p : Program} {l : Launch} {e : Env} {R : Room} {s : State} {m : MethodId} {args : Array Value} {below : List Frame} {meth : Method} {c : Code} {H : Heap} {locs : List Loc} {cells slots : Nat} {Q : State → Prop}
variable {cc : ByteArray} {pc : Nat} {ls : Array Slot} {rest : List Value} {X : Ec} {h h1 : Hp} {nL : Nat} {rt : Option FieldType} {mn : String}
theorem gf_X0_77 {a : Nat} (C : Cx X p s m args meth c RX0 cc nL rt mn) (hW : Wx X h H) (ha : hK h a = 0) (hdg : decode cc pc = .ok (.getfield 77, 3)) (kk : W p l e R s m args below meth c H locs cells slots Q (F0 m (pc + 3) ls (.int (hI h a 10) :: rest))) : W p l e R s m args below meth c H locs cells slots Q (F0 m pc ls (.ref a :: rest)) :=
  y_geti C hW ha i_X0 (by decide) rfl (by decide) m_468 rfl hdg kk
end
theorem dX0_nodeOfAll_0 : decode cX0_nodeOfAll 0 = .ok (.aload_n 0, 1) := by decide +kernel
theorem dX0_nodeOfAll_1 : decode cX0_nodeOfAll 1 = .ok (.getfield 77, 3) := by decide +kernel
theorem dX0_nodeOfAll_4 : decode cX0_nodeOfAll 4 = .ok (.ifCond .eq 14, 3) := by decide +kernel
theorem dX0_nodeOfAll_7 : decode cX0_nodeOfAll 7 = .ok (.aload_n 1, 1) := by decide +kernel
theorem dX0_nodeOfAll_8 : decode cX0_nodeOfAll 8 = .ok (.invokevirtual 157, 3) := by decide +kernel
theorem dX0_nodeOfAll_11 : decode cX0_nodeOfAll 11 = .ok (.invokestatic 233, 3) := by decide +kernel
theorem dX0_nodeOfAll_14 : decode cX0_nodeOfAll 14 = .ok (.iconst 5, 1) := by decide +kernel
theorem dX0_nodeOfAll_15 : decode cX0_nodeOfAll 15 = .ok (.if_icmp .le 5, 3) := by decide +kernel
theorem dX0_nodeOfAll_18 : decode cX0_nodeOfAll 18 = .ok (.iconst (-1), 1) := by decide +kernel
theorem dX0_nodeOfAll_19 : decode cX0_nodeOfAll 19 = .ok (.ireturn, 1) := by decide +kernel
theorem dX0_nodeOfAll_20 : decode cX0_nodeOfAll 20 = .ok (.aload_n 0, 1) := by decide +kernel
theorem dX0_nodeOfAll_21 : decode cX0_nodeOfAll 21 = .ok (.aload_n 1, 1) := by decide +kernel
theorem dX0_nodeOfAll_22 : decode cX0_nodeOfAll 22 = .ok (.iconst (-1), 1) := by decide +kernel
theorem dX0_nodeOfAll_23 : decode cX0_nodeOfAll 23 = .ok (.iconst (-1), 1) := by decide +kernel
theorem dX0_nodeOfAll_24 : decode cX0_nodeOfAll 24 = .ok (.invokevirtual 238, 3) := by decide +kernel
theorem dX0_nodeOfAll_27 : decode cX0_nodeOfAll 27 = .ok (.aload_n 0, 1) := by decide +kernel
theorem dX0_nodeOfAll_28 : decode cX0_nodeOfAll 28 = .ok (.aload_n 0, 1) := by decide +kernel
theorem dX0_nodeOfAll_29 : decode cX0_nodeOfAll 29 = .ok (.invokevirtual 242, 3) := by decide +kernel
theorem dX0_nodeOfAll_32 : decode cX0_nodeOfAll 32 = .ok (.invokevirtual 246, 3) := by decide +kernel
theorem dX0_nodeOfAll_35 : decode cX0_nodeOfAll 35 = .ok (.istore_n 2, 1) := by decide +kernel
theorem dX0_nodeOfAll_36 : decode cX0_nodeOfAll 36 = .ok (.iload_n 2, 1) := by decide +kernel
theorem dX0_nodeOfAll_37 : decode cX0_nodeOfAll 37 = .ok (.iconst (-1), 1) := by decide +kernel
theorem dX0_nodeOfAll_38 : decode cX0_nodeOfAll 38 = .ok (.if_icmp .ne 7, 3) := by decide +kernel
theorem dX0_nodeOfAll_41 : decode cX0_nodeOfAll 41 = .ok (.iconst (-1), 1) := by decide +kernel
theorem dX0_nodeOfAll_42 : decode cX0_nodeOfAll 42 = .ok (.goto 22, 3) := by decide +kernel
theorem dX0_nodeOfAll_45 : decode cX0_nodeOfAll 45 = .ok (.aload_n 0, 1) := by decide +kernel
theorem dX0_nodeOfAll_46 : decode cX0_nodeOfAll 46 = .ok (.getfield 22, 3) := by decide +kernel
theorem dX0_nodeOfAll_49 : decode cX0_nodeOfAll 49 = .ok (.iload_n 2, 1) := by decide +kernel
theorem dX0_nodeOfAll_50 : decode cX0_nodeOfAll 50 = .ok (.iaload, 1) := by decide +kernel
theorem dX0_nodeOfAll_51 : decode cX0_nodeOfAll 51 = .ok (.iconst 2, 1) := by decide +kernel
theorem dX0_nodeOfAll_52 : decode cX0_nodeOfAll 52 = .ok (.aload_n 0, 1) := by decide +kernel
theorem dX0_nodeOfAll_53 : decode cX0_nodeOfAll 53 = .ok (.iconst (-1), 1) := by decide +kernel
theorem dX0_nodeOfAll_54 : decode cX0_nodeOfAll 54 = .ok (.invokevirtual 249, 3) := by decide +kernel
theorem dX0_nodeOfAll_57 : decode cX0_nodeOfAll 57 = .ok (.imul, 1) := by decide +kernel
theorem dX0_nodeOfAll_58 : decode cX0_nodeOfAll 58 = .ok (.iadd, 1) := by decide +kernel
theorem dX0_nodeOfAll_59 : decode cX0_nodeOfAll 59 = .ok (.aload_n 1, 1) := by decide +kernel
theorem dX0_nodeOfAll_60 : decode cX0_nodeOfAll 60 = .ok (.getfield 184, 3) := by decide +kernel
theorem dX0_nodeOfAll_63 : decode cX0_nodeOfAll 63 = .ok (.iadd, 1) := by decide +kernel
theorem dX0_nodeOfAll_64 : decode cX0_nodeOfAll 64 = .ok (.ireturn, 1) := by decide +kernel
def sX0_nodeOfAll_18 (F : Nat) (h : Hp) : Option (Int32 × Hp) := some ((-1 : Int32), h)
def sX0_nodeOfAll_64 (F : Nat) (h : Hp) (t0 : Int32) : Option (Int32 × Hp) := some (t0, h)
def sX0_nodeOfAll (F : Nat) (h : Hp) (x0 : Nat) (x1 : Nat) : Option (Int32 × Hp) := br ((hI h x0 10) = 0) (sX0_nodeOfAll_18 F h ) (cl (sX3_occupied h x1) fun o_2 => cl (sJ13_bitCount_95d88 o_2.2 o_2.1) fun o_3 => br (o_3.1 ≤ (5 : Int32)) (cl (sX0_gatherRow F o_3.2 x0 x1 (-1 : Int32) (-1 : Int32)) fun o_5 => cl (sX0_keyOfRow F o_5 x0) fun o_6 => cl (sX0_findSet F o_6.2 x0 o_6.1) fun o_7 => br (o_7.1 = (-1 : Int32)) (sX0_nodeOfAll_64 F o_7.2 (-1 : Int32)) (cl (hR o_7.2 x0 5) fun r_9 => gd (inB o_7.1 (hN o_7.2 r_9)) <| cl (sX0_numberOf F o_7.2 x0 (-1 : Int32)) fun o_11 => sX0_nodeOfAll_64 F o_11.2 (((hI o_7.2 r_9 o_7.1.toNatClampNeg) + ((2 : Int32) * o_11.1)) + (hI o_11.2 x1 5)))) (sX0_nodeOfAll_18 F o_3.2 ))
set_option maxRecDepth 20000 in
theorem moX0_nodeOfAll_18 {o : Int32 × Hp} {F : Nat} {h : Hp} (hE : sX0_nodeOfAll_18 F h  = some o) : Le h o.2 := by
  exact le_some2 hE
set_option maxRecDepth 20000 in
theorem moX0_nodeOfAll_64 {o : Int32 × Hp} {F : Nat} {h : Hp} {t0 : Int32} (hE : sX0_nodeOfAll_64 F h  t0 = some o) : Le h o.2 := by
  exact le_some2 hE
set_option maxRecDepth 20000 in
theorem moX0_nodeOfAll {o : Int32 × Hp} {F : Nat} {h : Hp} {x0 : Nat} {x1 : Nat} (hE : sX0_nodeOfAll F h x0 x1 = some o) : Le h o.2 := by
  rcases br_e hE with ⟨_, hE⟩ | ⟨_, hE⟩
  · exact moX0_nodeOfAll_18 hE
  · obtain ⟨o_2, eo_2, hE⟩ := cl_e hE
    refine (moX3_occupied eo_2).tr ?_
    obtain ⟨o_3, eo_3, hE⟩ := cl_e hE
    refine (moJ13_bitCount_95d88 eo_3).tr ?_
    rcases br_e hE with ⟨_, hE⟩ | ⟨_, hE⟩
    · obtain ⟨o_5, eo_5, hE⟩ := cl_e hE
      refine (moX0_gatherRow eo_5).tr ?_
      obtain ⟨o_6, eo_6, hE⟩ := cl_e hE
      refine (moX0_keyOfRow eo_6).tr ?_
      obtain ⟨o_7, eo_7, hE⟩ := cl_e hE
      refine (moX0_findSet eo_7).tr ?_
      rcases br_e hE with ⟨_, hE⟩ | ⟨_, hE⟩
      · exact moX0_nodeOfAll_64 hE
      · obtain ⟨r_9, er_9, hE⟩ := cl_e hE
        obtain ⟨g_10, hE⟩ := gd_e hE
        obtain ⟨o_11, eo_11, hE⟩ := cl_e hE
        refine (moX0_numberOf eo_11).tr ?_
        exact moX0_nodeOfAll_64 hE
    · exact moX0_nodeOfAll_18 hE
set_option maxRecDepth 20000 in
theorem bX0_nodeOfAll_18 {p : Program} {l : Launch} {e : Env} {s : State} {m : MethodId} {args : Array Value} {below : List Frame} {meth : Method} {c : Code} {X : Ec} {h0 : Hp} {o : Int32 × Hp} {F : Nat} (C : Cx X p s m args meth c RX0 cX0_nodeOfAll 3 (some .int) "nodeOfAll") {h : Hp} {H : Heap} {locs : List Loc} (hkm : Km h0 h) (hW : Wx X h H) (hZ : va_S (aA (eB X)) s.heap H locs) (ls : Array Slot) (hl : lv_has ls 3 []) (hE : sX0_nodeOfAll_18 F h  = some o) : W p l e (rm 2 50) s m args below meth c H locs 0 0 (MQ below (QI X h0 o.1 o.2) args s 0 0 (aA (eB X))) (F0 m 18 ls []) := by
  refine lv_iconst (v := (-1 : Int32)) C.1 C.2.1 dX0_nodeOfAll_18 (by decide) ?_
  exact x_iret C rfl rfl hW hZ hkm hE dX0_nodeOfAll_19
set_option maxRecDepth 20000 in
theorem bX0_nodeOfAll_64 {p : Program} {l : Launch} {e : Env} {s : State} {m : MethodId} {args : Array Value} {below : List Frame} {meth : Method} {c : Code} {X : Ec} {h0 : Hp} {o : Int32 × Hp} {F : Nat} (C : Cx X p s m args meth c RX0 cX0_nodeOfAll 3 (some .int) "nodeOfAll") {h : Hp} {t0 : Int32} {H : Heap} {locs : List Loc} (hkm : Km h0 h) (hW : Wx X h H) (hZ : va_S (aA (eB X)) s.heap H locs) (ls : Array Slot) (hl : lv_has ls 3 []) (hE : sX0_nodeOfAll_64 F h  t0 = some o) : W p l e (rm 2 50) s m args below meth c H locs 0 0 (MQ below (QI X h0 o.1 o.2) args s 0 0 (aA (eB X))) (F0 m 64 ls [.int t0]) := by
  exact x_iret C rfl rfl hW hZ hkm hE dX0_nodeOfAll_64
set_option maxRecDepth 20000 in
theorem ct_X0_nodeOfAll (l : Launch) (X : Ec) (F : Nat) {h : Hp} {x0 : Nat} {x1 : Nat} {o : Int32 × Hp} (k_x0 : hK h x0 = 0) (k_x1 : hK h x1 = 3) (hE : sX0_nodeOfAll F h x0 x1 = some o) : MetI l yX0_nodeOfAll cX0_nodeOfAll 3 (some .int) 2 50 X [.ref x0, .ref x1] h o := by
  refine x_met (by decide) (Nat.le_of_ble_eq_true rfl) ?_
  intro p e s m below meth c ls C hl hW hZ
  have hl : lv_has ls 3 [(0, .ref x0), (1, .ref x1)] := hl
  have hkm : Km h h := Km.rf h
  refine lv_aload_n C.1 C.2.1 dX0_nodeOfAll_0 rfl (lv_at hl 0 rfl) ?_
  refine gf_X0_77 C hW k_x0 dX0_nodeOfAll_1 ?_
  refine lv_if_eq (tgt := 18) C.1 C.2.1 dX0_nodeOfAll_4 (by decide) (fun c_1 => ?_) (fun c_1 => ?_)
  · have hE := br_p hE c_1
    exact bX0_nodeOfAll_18 C hkm hW hZ _ (lv_sub hl [] rfl) hE
  · have hE := br_n hE c_1
    refine lv_aload_n C.1 C.2.1 dX0_nodeOfAll_7 rfl (lv_at hl 1 rfl) ?_
    obtain ⟨o_2, eo_2, hE⟩ := cl_e hE
    refine x_kJ (o := o_2) (z_runV (As := []) (rest := []) C (ct_X3_occupied l X k_x1 eo_2) cw_X0_157 hW hZ k_x1 (by decide) rfl rfl rfl hl.1 (Nat.le_of_ble_eq_true rfl) rfl dX0_nodeOfAll_8 ⟨Nat.le_of_ble_eq_true rfl, Nat.le_of_ble_eq_true rfl⟩ ⟨Nat.le_refl _, Nat.le_refl _⟩) hZ (fun _ _ hW km hZ => ?_)
    replace hkm := hkm.tr km
    replace k_x0 := km.at k_x0 (by decide)
    replace k_x1 := km.at k_x1 (by decide)
    obtain ⟨o_3, eo_3, hE⟩ := cl_e hE
    refine x_kI (o := o_3) (z_runS (As := [.long o_2.1]) (rest := []) C (ct_J13_bitCount_95d88 l X eo_3) cw_X0_233 hW hZ rfl hl.1 (Nat.le_of_ble_eq_true rfl) rfl dX0_nodeOfAll_11 ⟨Nat.le_of_ble_eq_true rfl, Nat.le_of_ble_eq_true rfl⟩ ⟨Nat.le_refl _, Nat.le_refl _⟩) hZ (fun _ _ hW km hZ => ?_)
    replace hkm := hkm.tr km
    replace k_x0 := km.at k_x0 (by decide)
    replace k_x1 := km.at k_x1 (by decide)
    refine lv_iconst (v := (5 : Int32)) C.1 C.2.1 dX0_nodeOfAll_14 (by decide) ?_
    refine lv_icmp_le (tgt := 20) C.1 C.2.1 dX0_nodeOfAll_15 (by decide) (fun c_4 => ?_) (fun c_4 => ?_)
    · have hE := br_p hE c_4
      refine lv_aload_n C.1 C.2.1 dX0_nodeOfAll_20 rfl (lv_at hl 0 rfl) ?_
      refine lv_aload_n C.1 C.2.1 dX0_nodeOfAll_21 rfl (lv_at hl 1 rfl) ?_
      refine lv_iconst (v := (-1 : Int32)) C.1 C.2.1 dX0_nodeOfAll_22 (by decide) ?_
      refine lv_iconst (v := (-1 : Int32)) C.1 C.2.1 dX0_nodeOfAll_23 (by decide) ?_
      obtain ⟨o_5, eo_5, hE⟩ := cl_e hE
      refine x_kV (o := o_5) (z_runV (As := [.ref x1, .int (-1 : Int32), .int (-1 : Int32)]) (rest := []) C (ct_X0_gatherRow l X F k_x0 k_x1 eo_5) cw_X0_238 hW hZ k_x0 (by decide) rfl rfl rfl hl.1 (Nat.le_of_ble_eq_true rfl) rfl dX0_nodeOfAll_24 ⟨Nat.le_of_ble_eq_true rfl, Nat.le_of_ble_eq_true rfl⟩ ⟨Nat.le_refl _, Nat.le_refl _⟩) hZ (fun _ _ hW km hZ => ?_)
      replace hkm := hkm.tr km
      replace k_x0 := km.at k_x0 (by decide)
      replace k_x1 := km.at k_x1 (by decide)
      refine lv_aload_n C.1 C.2.1 dX0_nodeOfAll_27 rfl (lv_at hl 0 rfl) ?_
      refine lv_aload_n C.1 C.2.1 dX0_nodeOfAll_28 rfl (lv_at hl 0 rfl) ?_
      obtain ⟨o_6, eo_6, hE⟩ := cl_e hE
      refine x_kI (o := o_6) (z_runV (As := []) (rest := [.ref x0]) C (ct_X0_keyOfRow l X F k_x0 eo_6) cw_X0_242 hW hZ k_x0 (by decide) rfl rfl rfl hl.1 (Nat.le_of_ble_eq_true rfl) rfl dX0_nodeOfAll_29 ⟨Nat.le_of_ble_eq_true rfl, Nat.le_of_ble_eq_true rfl⟩ ⟨Nat.le_refl _, Nat.le_refl _⟩) hZ (fun _ _ hW km hZ => ?_)
      replace hkm := hkm.tr km
      replace k_x0 := km.at k_x0 (by decide)
      replace k_x1 := km.at k_x1 (by decide)
      obtain ⟨o_7, eo_7, hE⟩ := cl_e hE
      refine x_kI (o := o_7) (z_runV (As := [.int o_6.1]) (rest := []) C (ct_X0_findSet l X F k_x0 eo_7) cw_X0_246 hW hZ k_x0 (by decide) rfl rfl rfl hl.1 (Nat.le_of_ble_eq_true rfl) rfl dX0_nodeOfAll_32 ⟨Nat.le_of_ble_eq_true rfl, Nat.le_of_ble_eq_true rfl⟩ ⟨Nat.le_refl _, Nat.le_refl _⟩) hZ (fun _ _ hW km hZ => ?_)
      replace hkm := hkm.tr km
      replace k_x0 := km.at k_x0 (by decide)
      replace k_x1 := km.at k_x1 (by decide)
      refine lv_istore_n (lv' := [(2, .int o_7.1), (0, .ref x0), (1, .ref x1)]) C.1 C.2.1 dX0_nodeOfAll_35 rfl hl (by decide) rfl (fun ls hl => ?_)
      refine lv_iload_n C.1 C.2.1 dX0_nodeOfAll_36 rfl (lv_at hl 0 rfl) ?_
      refine lv_iconst (v := (-1 : Int32)) C.1 C.2.1 dX0_nodeOfAll_37 (by decide) ?_
      refine lv_icmp_ne (tgt := 45) C.1 C.2.1 dX0_nodeOfAll_38 (by decide) (fun c_8 => ?_) (fun c_8 => ?_)
      · have hE := br_n hE c_8
        refine lv_aload_n C.1 C.2.1 dX0_nodeOfAll_45 rfl (lv_at hl 1 rfl) ?_
        obtain ⟨r_9, er_9, hE⟩ := cl_e hE
        refine gf_X0_22 C hW k_x0 er_9 dX0_nodeOfAll_46 (fun k_r_9 => ?_)
        refine lv_iload_n C.1 C.2.1 dX0_nodeOfAll_49 rfl (lv_at hl 0 rfl) ?_
        obtain ⟨g_10, hE⟩ := gd_e hE
        refine y_iald C hW k_r_9 g_10 dX0_nodeOfAll_50 ?_
        refine lv_iconst (v := (2 : Int32)) C.1 C.2.1 dX0_nodeOfAll_51 (by decide) ?_
        refine lv_aload_n C.1 C.2.1 dX0_nodeOfAll_52 rfl (lv_at hl 1 rfl) ?_
        refine lv_iconst (v := (-1 : Int32)) C.1 C.2.1 dX0_nodeOfAll_53 (by decide) ?_
        obtain ⟨o_11, eo_11, hE⟩ := cl_e hE
        refine x_kI (o := o_11) (z_runV (As := [.int (-1 : Int32)]) (rest := [.int (2 : Int32), .int (hI o_7.2 r_9 o_7.1.toNatClampNeg)]) C (ct_X0_numberOf l X F k_x0 eo_11) cw_X0_249 hW hZ k_x0 (by decide) rfl rfl rfl hl.1 (Nat.le_of_ble_eq_true rfl) rfl dX0_nodeOfAll_54 ⟨Nat.le_of_ble_eq_true rfl, Nat.le_of_ble_eq_true rfl⟩ ⟨Nat.le_refl _, Nat.le_refl _⟩) hZ (fun _ _ hW km hZ => ?_)
        replace hkm := hkm.tr km
        replace k_x0 := km.at k_x0 (by decide)
        replace k_x1 := km.at k_x1 (by decide)
        refine lv_imul C.1 C.2.1 dX0_nodeOfAll_57 ?_
        refine lv_iadd C.1 C.2.1 dX0_nodeOfAll_58 ?_
        refine lv_aload_n C.1 C.2.1 dX0_nodeOfAll_59 rfl (lv_at hl 2 rfl) ?_
        refine gf_X0_184 C hW k_x1 dX0_nodeOfAll_60 ?_
        refine lv_iadd C.1 C.2.1 dX0_nodeOfAll_63 ?_
        exact bX0_nodeOfAll_64 C hkm hW hZ _ (lv_sub hl [] rfl) hE
      · have hE := br_p hE c_8
        refine lv_iconst (v := (-1 : Int32)) C.1 C.2.1 dX0_nodeOfAll_41 (by decide) ?_
        refine lv_goto (tgt := 64) C.1 C.2.1 dX0_nodeOfAll_42 (by decide) ?_
        exact bX0_nodeOfAll_64 C hkm hW hZ _ (lv_sub hl [] rfl) hE
    · have hE := br_n hE c_4
      exact bX0_nodeOfAll_18 C hkm hW hZ _ (lv_sub hl [] rfl) hE
theorem dX0_countWorth_0 : decode cX0_countWorth 0 = .ok (.aload_n 0, 1) := by decide +kernel
theorem dX0_countWorth_1 : decode cX0_countWorth 1 = .ok (.aload_n 0, 1) := by decide +kernel
theorem dX0_countWorth_2 : decode cX0_countWorth 2 = .ok (.getfield 88, 3) := by decide +kernel
theorem dX0_countWorth_5 : decode cX0_countWorth 5 = .ok (.invokevirtual 246, 3) := by decide +kernel
theorem dX0_countWorth_8 : decode cX0_countWorth 8 = .ok (.istore_n 3, 1) := by decide +kernel
theorem dX0_countWorth_9 : decode cX0_countWorth 9 = .ok (.iconst 0, 1) := by decide +kernel
theorem dX0_countWorth_10 : decode cX0_countWorth 10 = .ok (.istore 4, 2) := by decide +kernel
theorem dX0_countWorth_12 : decode cX0_countWorth 12 = .ok (.iload_n 3, 1) := by decide +kernel
theorem dX0_countWorth_13 : decode cX0_countWorth 13 = .ok (.iconst (-1), 1) := by decide +kernel
theorem dX0_countWorth_14 : decode cX0_countWorth 14 = .ok (.if_icmp .ne 7, 3) := by decide +kernel
theorem dX0_countWorth_17 : decode cX0_countWorth 17 = .ok (.iconst 0, 1) := by decide +kernel
theorem dX0_countWorth_18 : decode cX0_countWorth 18 = .ok (.goto 9, 3) := by decide +kernel
theorem dX0_countWorth_21 : decode cX0_countWorth 21 = .ok (.aload_n 0, 1) := by decide +kernel
theorem dX0_countWorth_22 : decode cX0_countWorth 22 = .ok (.getfield 22, 3) := by decide +kernel
theorem dX0_countWorth_25 : decode cX0_countWorth 25 = .ok (.iload_n 3, 1) := by decide +kernel
theorem dX0_countWorth_26 : decode cX0_countWorth 26 = .ok (.iaload, 1) := by decide +kernel
theorem dX0_countWorth_27 : decode cX0_countWorth 27 = .ok (.istore 5, 2) := by decide +kernel
theorem dX0_countWorth_29 : decode cX0_countWorth 29 = .ok (.iload_n 3, 1) := by decide +kernel
theorem dX0_countWorth_30 : decode cX0_countWorth 30 = .ok (.iconst (-1), 1) := by decide +kernel
theorem dX0_countWorth_31 : decode cX0_countWorth 31 = .ok (.if_icmp .eq 45, 3) := by decide +kernel
theorem dX0_countWorth_34 : decode cX0_countWorth 34 = .ok (.iload 5, 2) := by decide +kernel
theorem dX0_countWorth_36 : decode cX0_countWorth 36 = .ok (.aload_n 0, 1) := by decide +kernel
theorem dX0_countWorth_37 : decode cX0_countWorth 37 = .ok (.getfield 22, 3) := by decide +kernel
theorem dX0_countWorth_40 : decode cX0_countWorth 40 = .ok (.iload_n 3, 1) := by decide +kernel
theorem dX0_countWorth_41 : decode cX0_countWorth 41 = .ok (.iconst 1, 1) := by decide +kernel
theorem dX0_countWorth_42 : decode cX0_countWorth 42 = .ok (.iadd, 1) := by decide +kernel
theorem dX0_countWorth_43 : decode cX0_countWorth 43 = .ok (.iaload, 1) := by decide +kernel
theorem dX0_countWorth_44 : decode cX0_countWorth 44 = .ok (.if_icmp .ge 32, 3) := by decide +kernel
theorem dX0_countWorth_47 : decode cX0_countWorth 47 = .ok (.iload 4, 2) := by decide +kernel
theorem dX0_countWorth_49 : decode cX0_countWorth 49 = .ok (.aload_n 0, 1) := by decide +kernel
theorem dX0_countWorth_50 : decode cX0_countWorth 50 = .ok (.getfield 31, 3) := by decide +kernel
theorem dX0_countWorth_53 : decode cX0_countWorth 53 = .ok (.iload 5, 2) := by decide +kernel
theorem dX0_countWorth_55 : decode cX0_countWorth 55 = .ok (.iload_n 1, 1) := by decide +kernel
theorem dX0_countWorth_56 : decode cX0_countWorth 56 = .ok (.iadd, 1) := by decide +kernel
theorem dX0_countWorth_57 : decode cX0_countWorth 57 = .ok (.iaload, 1) := by decide +kernel
theorem dX0_countWorth_58 : decode cX0_countWorth 58 = .ok (.iload_n 2, 1) := by decide +kernel
theorem dX0_countWorth_59 : decode cX0_countWorth 59 = .ok (.if_icmp .ne 7, 3) := by decide +kernel
theorem dX0_countWorth_62 : decode cX0_countWorth 62 = .ok (.iconst 1, 1) := by decide +kernel
theorem dX0_countWorth_63 : decode cX0_countWorth 63 = .ok (.goto 4, 3) := by decide +kernel
theorem dX0_countWorth_66 : decode cX0_countWorth 66 = .ok (.iconst 0, 1) := by decide +kernel
theorem dX0_countWorth_67 : decode cX0_countWorth 67 = .ok (.iadd, 1) := by decide +kernel
theorem dX0_countWorth_68 : decode cX0_countWorth 68 = .ok (.istore 4, 2) := by decide +kernel
theorem dX0_countWorth_70 : decode cX0_countWorth 70 = .ok (.iinc 5 2, 3) := by decide +kernel
theorem dX0_countWorth_73 : decode cX0_countWorth 73 = .ok (.goto (-44), 3) := by decide +kernel
theorem dX0_countWorth_76 : decode cX0_countWorth 76 = .ok (.iload 4, 2) := by decide +kernel
theorem dX0_countWorth_78 : decode cX0_countWorth 78 = .ok (.ireturn, 1) := by decide +kernel
def sX0_countWorth_76 (F : Nat) (h : Hp) (x4 : Int32) : Option (Int32 × Hp) := some (x4, h)
def sX0_countWorth_67 (F : Nat) (k_29 : Hp → Nat → Int32 → Int32 → Int32 → Int32 → Int32 → Option (Int32 × Hp)) (h : Hp) (x0 : Nat) (x1 : Int32) (x2 : Int32) (x3 : Int32) (x5 : Int32) (t0 : Int32) (t1 : Int32) : Option (Int32 × Hp) := nm (t1 + t0) fun v_1 => nm (x5 + (2 : Int32)) fun v_2 => k_29 h x0 x1 x2 x3 v_1 v_2
def sX0_countWorth_29 (F : Nat) : Nat → Hp → Nat → Int32 → Int32 → Int32 → Int32 → Int32 → Option (Int32 × Hp)
  | 0, _, _, _, _, _, _, _ => none
  | f + 1, h, x0, x1, x2, x3, x4, x5 => br (x3 = (-1 : Int32)) (sX0_countWorth_76 F h x4) (cl (hR h x0 5) fun r_2 => gd (inB (x3 + (1 : Int32)) (hN h r_2)) <| br ((hI h r_2 (x3 + (1 : Int32)).toNatClampNeg) ≤ x5) (sX0_countWorth_76 F h x4) (cl (hR h x0 11) fun r_5 => gd (inB (x5 + x1) (hN h r_5)) <| br ((hI h r_5 (x5 + x1).toNatClampNeg) = x2) (sX0_countWorth_67 F (sX0_countWorth_29 F f) h x0 x1 x2 x3 x5 (1 : Int32) x4) (sX0_countWorth_67 F (sX0_countWorth_29 F f) h x0 x1 x2 x3 x5 (0 : Int32) x4)))
def sX0_countWorth_27 (F : Nat) (h : Hp) (x0 : Nat) (x1 : Int32) (x2 : Int32) (x3 : Int32) (x4 : Int32) (t0 : Int32) : Option (Int32 × Hp) := sX0_countWorth_29 F F h x0 x1 x2 x3 x4 t0
def sX0_countWorth (F : Nat) (h : Hp) (x0 : Nat) (x1 : Int32) (x2 : Int32) : Option (Int32 × Hp) := cl (sX0_findSet F h x0 (hI h x0 15)) fun o_1 => br (o_1.1 = (-1 : Int32)) (sX0_countWorth_27 F o_1.2 x0 x1 x2 o_1.1 (0 : Int32) (0 : Int32)) (cl (hR o_1.2 x0 5) fun r_3 => gd (inB o_1.1 (hN o_1.2 r_3)) <| sX0_countWorth_27 F o_1.2 x0 x1 x2 o_1.1 (0 : Int32) (hI o_1.2 r_3 o_1.1.toNatClampNeg))
set_option maxRecDepth 20000 in
theorem moX0_countWorth_76 {o : Int32 × Hp} {F : Nat} {h : Hp} {x4 : Int32} (hE : sX0_countWorth_76 F h x4 = some o) : Le h o.2 := by
  exact le_some2 hE
set_option maxRecDepth 20000 in
theorem moX0_countWorth_67 {o : Int32 × Hp} {k_29 : Hp → Nat → Int32 → Int32 → Int32 → Int32 → Int32 → Option (Int32 × Hp)} {F : Nat} (mk_29 : ∀ (h : Hp) (x0 : Nat) (x1 : Int32) (x2 : Int32) (x3 : Int32) (x4 : Int32) (x5 : Int32), k_29 h x0 x1 x2 x3 x4 x5 = some o → Le h o.2) {h : Hp} {x0 : Nat} {x1 : Int32} {x2 : Int32} {x3 : Int32} {x5 : Int32} {t0 : Int32} {t1 : Int32} (hE : sX0_countWorth_67 F k_29 h x0 x1 x2 x3 x5 t0 t1 = some o) : Le h o.2 := by
  obtain ⟨v_1, ev_1, hE⟩ := nm_e2 hE
  obtain ⟨v_2, ev_2, hE⟩ := nm_e2 hE
  exact mk_29 _ _ _ _ _ _ _ hE
set_option maxRecDepth 20000 in
theorem moX0_countWorth_29 {o : Int32 × Hp} {F : Nat} : ∀ (f : Nat) {h : Hp} {x0 : Nat} {x1 : Int32} {x2 : Int32} {x3 : Int32} {x4 : Int32} {x5 : Int32}, sX0_countWorth_29 F f h x0 x1 x2 x3 x4 x5 = some o → Le h o.2 := by
  intro f
  induction f with
  | zero =>
    intro h x0 x1 x2 x3 x4 x5 hE
    rw [sX0_countWorth_29] at hE
    cases hE
  | succ f ih =>
    intro h x0 x1 x2 x3 x4 x5 hE
    rw [sX0_countWorth_29] at hE
    have mk_29 : ∀ (h : Hp) (x0 : Nat) (x1 : Int32) (x2 : Int32) (x3 : Int32) (x4 : Int32) (x5 : Int32), sX0_countWorth_29 F f h x0 x1 x2 x3 x4 x5 = some o → Le h o.2 := fun h x0 x1 x2 x3 x4 x5 hE => ih hE
    rcases br_e hE with ⟨_, hE⟩ | ⟨_, hE⟩
    · exact moX0_countWorth_76 hE
    · obtain ⟨r_2, er_2, hE⟩ := cl_e hE
      obtain ⟨g_3, hE⟩ := gd_e hE
      rcases br_e hE with ⟨_, hE⟩ | ⟨_, hE⟩
      · exact moX0_countWorth_76 hE
      · obtain ⟨r_5, er_5, hE⟩ := cl_e hE
        obtain ⟨g_6, hE⟩ := gd_e hE
        rcases br_e hE with ⟨_, hE⟩ | ⟨_, hE⟩
        · exact moX0_countWorth_67 mk_29 hE
        · exact moX0_countWorth_67 mk_29 hE
set_option maxRecDepth 20000 in
theorem moX0_countWorth_27 {o : Int32 × Hp} {F : Nat} {h : Hp} {x0 : Nat} {x1 : Int32} {x2 : Int32} {x3 : Int32} {x4 : Int32} {t0 : Int32} (hE : sX0_countWorth_27 F h x0 x1 x2 x3 x4 t0 = some o) : Le h o.2 := by
  exact moX0_countWorth_29 _ hE
set_option maxRecDepth 20000 in
theorem moX0_countWorth {o : Int32 × Hp} {F : Nat} {h : Hp} {x0 : Nat} {x1 : Int32} {x2 : Int32} (hE : sX0_countWorth F h x0 x1 x2 = some o) : Le h o.2 := by
  obtain ⟨o_1, eo_1, hE⟩ := cl_e hE
  refine (moX0_findSet eo_1).tr ?_
  rcases br_e hE with ⟨_, hE⟩ | ⟨_, hE⟩
  · exact moX0_countWorth_27 hE
  · obtain ⟨r_3, er_3, hE⟩ := cl_e hE
    obtain ⟨g_4, hE⟩ := gd_e hE
    exact moX0_countWorth_27 hE
set_option maxRecDepth 20000 in
theorem bX0_countWorth_76 {p : Program} {l : Launch} {e : Env} {s : State} {m : MethodId} {args : Array Value} {below : List Frame} {meth : Method} {c : Code} {X : Ec} {h0 : Hp} {o : Int32 × Hp} {F : Nat} (C : Cx X p s m args meth c RX0 cX0_countWorth 6 (some .int) "countWorth") {h : Hp} {x4 : Int32} {H : Heap} {locs : List Loc} (hkm : Km h0 h) (hW : Wx X h H) (hZ : va_S (aA (eB X)) s.heap H locs) (ls : Array Slot) (hl : lv_has ls 6 [(4, .int x4)]) (hE : sX0_countWorth_76 F h x4 = some o) : W p l e (rm 1 24) s m args below meth c H locs 0 0 (MQ below (QI X h0 o.1 o.2) args s 0 0 (aA (eB X))) (F0 m 76 ls []) := by
  refine lv_iload C.1 C.2.1 dX0_countWorth_76 (lv_at hl 0 rfl) ?_
  exact x_iret C rfl rfl hW hZ hkm hE dX0_countWorth_78
set_option maxRecDepth 20000 in
theorem bX0_countWorth_67 {p : Program} {l : Launch} {e : Env} {s : State} {m : MethodId} {args : Array Value} {below : List Frame} {meth : Method} {c : Code} {X : Ec} {h0 : Hp} {o : Int32 × Hp} {k_29 : Hp → Nat → Int32 → Int32 → Int32 → Int32 → Int32 → Option (Int32 × Hp)} {F : Nat} (C : Cx X p s m args meth c RX0 cX0_countWorth 6 (some .int) "countWorth") (hk_29 : ∀ (h : Hp) (x0 : Nat) (x1 : Int32) (x2 : Int32) (x3 : Int32) (x4 : Int32) (x5 : Int32) (H : Heap) (locs : List Loc), hK h x0 = 0 → Km h0 h → Wx X h H → va_S (aA (eB X)) s.heap H locs → ∀ (ls : Array Slot), lv_has ls 6 [(0, .ref x0), (1, .int x1), (2, .int x2), (3, .int x3), (4, .int x4), (5, .int x5)] → k_29 h x0 x1 x2 x3 x4 x5 = some o → W p l e (rm 1 24) s m args below meth c H locs 0 0 (MQ below (QI X h0 o.1 o.2) args s 0 0 (aA (eB X))) (F0 m 29 ls [])) {h : Hp} {x0 : Nat} {x1 : Int32} {x2 : Int32} {x3 : Int32} {x5 : Int32} {t0 : Int32} {t1 : Int32} {H : Heap} {locs : List Loc} (k_x0 : hK h x0 = 0) (hkm : Km h0 h) (hW : Wx X h H) (hZ : va_S (aA (eB X)) s.heap H locs) (ls : Array Slot) (hl : lv_has ls 6 [(0, .ref x0), (1, .int x1), (2, .int x2), (3, .int x3), (5, .int x5)]) (hE : sX0_countWorth_67 F k_29 h x0 x1 x2 x3 x5 t0 t1 = some o) : W p l e (rm 1 24) s m args below meth c H locs 0 0 (MQ below (QI X h0 o.1 o.2) args s 0 0 (aA (eB X))) (F0 m 67 ls [.int t0, .int t1]) := by
  refine lv_iadd C.1 C.2.1 dX0_countWorth_67 ?_
  obtain ⟨v_1, ev_1, hE⟩ := nm_e2 hE
  refine x_nmI ev_1 ?_
  refine lv_istore (lv' := [(4, .int v_1), (0, .ref x0), (1, .int x1), (2, .int x2), (3, .int x3), (5, .int x5)]) C.1 C.2.1 dX0_countWorth_68 hl (by decide) rfl (fun ls hl => ?_)
  obtain ⟨v_2, ev_2, hE⟩ := nm_e2 hE
  refine lv_iinc (v := v_2) (lv' := [(5, .int v_2), (4, .int v_1), (0, .ref x0), (1, .int x1), (2, .int x2), (3, .int x3)]) C.1 C.2.1 dX0_countWorth_70 hl (k := 5) rfl (by rw [ev_2]; rfl) (by decide) rfl (fun ls hl => ?_)
  refine lv_goto (tgt := 29) C.1 C.2.1 dX0_countWorth_73 (by decide) ?_
  exact hk_29 _ _ _ _ _ _ _ _ _ k_x0 hkm hW hZ _ (lv_sub hl [2, 3, 4, 5, 1, 0] rfl) hE
set_option maxRecDepth 20000 in
theorem bX0_countWorth_29 {p : Program} {l : Launch} {e : Env} {s : State} {m : MethodId} {args : Array Value} {below : List Frame} {meth : Method} {c : Code} {X : Ec} {h0 : Hp} {o : Int32 × Hp} {F : Nat} (C : Cx X p s m args meth c RX0 cX0_countWorth 6 (some .int) "countWorth") : ∀ (f : Nat) {h : Hp} {x0 : Nat} {x1 : Int32} {x2 : Int32} {x3 : Int32} {x4 : Int32} {x5 : Int32} {H : Heap} {locs : List Loc} (k_x0 : hK h x0 = 0), Km h0 h → Wx X h H → va_S (aA (eB X)) s.heap H locs → ∀ (ls : Array Slot), lv_has ls 6 [(0, .ref x0), (1, .int x1), (2, .int x2), (3, .int x3), (4, .int x4), (5, .int x5)] → sX0_countWorth_29 F f h x0 x1 x2 x3 x4 x5 = some o → W p l e (rm 1 24) s m args below meth c H locs 0 0 (MQ below (QI X h0 o.1 o.2) args s 0 0 (aA (eB X))) (F0 m 29 ls []) := by
  intro f
  induction f with
  | zero =>
    intro h x0 x1 x2 x3 x4 x5 H locs k_x0 hkm hW hZ ls hl hE
    rw [sX0_countWorth_29] at hE
    cases hE
  | succ f ih =>
    intro h x0 x1 x2 x3 x4 x5 H locs k_x0 hkm hW hZ ls hl hE
    rw [sX0_countWorth_29] at hE
    have hk_29 : ∀ (h : Hp) (x0 : Nat) (x1 : Int32) (x2 : Int32) (x3 : Int32) (x4 : Int32) (x5 : Int32) (H : Heap) (locs : List Loc), hK h x0 = 0 → Km h0 h → Wx X h H → va_S (aA (eB X)) s.heap H locs → ∀ (ls : Array Slot), lv_has ls 6 [(0, .ref x0), (1, .int x1), (2, .int x2), (3, .int x3), (4, .int x4), (5, .int x5)] → sX0_countWorth_29 F f h x0 x1 x2 x3 x4 x5 = some o → W p l e (rm 1 24) s m args below meth c H locs 0 0 (MQ below (QI X h0 o.1 o.2) args s 0 0 (aA (eB X))) (F0 m 29 ls []) := fun h x0 x1 x2 x3 x4 x5 H locs k_x0 a b c ls hl hE => ih k_x0 a b c ls hl hE
    refine lv_iload_n C.1 C.2.1 dX0_countWorth_29 rfl (lv_at hl 3 rfl) ?_
    refine lv_iconst (v := (-1 : Int32)) C.1 C.2.1 dX0_countWorth_30 (by decide) ?_
    refine lv_icmp_eq (tgt := 76) C.1 C.2.1 dX0_countWorth_31 (by decide) (fun c_1 => ?_) (fun c_1 => ?_)
    · have hE := br_p hE c_1
      exact bX0_countWorth_76 C hkm hW hZ _ (lv_sub hl [4] rfl) hE
    · have hE := br_n hE c_1
      refine lv_iload C.1 C.2.1 dX0_countWorth_34 (lv_at hl 5 rfl) ?_
      refine lv_aload_n C.1 C.2.1 dX0_countWorth_36 rfl (lv_at hl 0 rfl) ?_
      obtain ⟨r_2, er_2, hE⟩ := cl_e hE
      refine gf_X0_22 C hW k_x0 er_2 dX0_countWorth_37 (fun k_r_2 => ?_)
      refine lv_iload_n C.1 C.2.1 dX0_countWorth_40 rfl (lv_at hl 3 rfl) ?_
      refine lv_iconst (v := (1 : Int32)) C.1 C.2.1 dX0_countWorth_41 (by decide) ?_
      refine lv_iadd C.1 C.2.1 dX0_countWorth_42 ?_
      obtain ⟨g_3, hE⟩ := gd_e hE
      refine y_iald C hW k_r_2 g_3 dX0_countWorth_43 ?_
      refine lv_icmp_ge (tgt := 76) C.1 C.2.1 dX0_countWorth_44 (by decide) (fun c_4 => ?_) (fun c_4 => ?_)
      · have hE := br_p hE c_4
        exact bX0_countWorth_76 C hkm hW hZ _ (lv_sub hl [4] rfl) hE
      · have hE := br_n hE c_4
        refine lv_iload C.1 C.2.1 dX0_countWorth_47 (lv_at hl 4 rfl) ?_
        refine lv_aload_n C.1 C.2.1 dX0_countWorth_49 rfl (lv_at hl 0 rfl) ?_
        obtain ⟨r_5, er_5, hE⟩ := cl_e hE
        refine gf_X0_31 C hW k_x0 er_5 dX0_countWorth_50 (fun k_r_5 => ?_)
        refine lv_iload C.1 C.2.1 dX0_countWorth_53 (lv_at hl 5 rfl) ?_
        refine lv_iload_n C.1 C.2.1 dX0_countWorth_55 rfl (lv_at hl 1 rfl) ?_
        refine lv_iadd C.1 C.2.1 dX0_countWorth_56 ?_
        obtain ⟨g_6, hE⟩ := gd_e hE
        refine y_iald C hW k_r_5 g_6 dX0_countWorth_57 ?_
        refine lv_iload_n C.1 C.2.1 dX0_countWorth_58 rfl (lv_at hl 2 rfl) ?_
        refine lv_icmp_ne (tgt := 66) C.1 C.2.1 dX0_countWorth_59 (by decide) (fun c_7 => ?_) (fun c_7 => ?_)
        · have hE := br_n hE c_7
          refine lv_iconst (v := (0 : Int32)) C.1 C.2.1 dX0_countWorth_66 (by decide) ?_
          exact bX0_countWorth_67 C hk_29 k_x0 hkm hW hZ _ (lv_sub hl [0, 1, 2, 3, 5] rfl) hE
        · have hE := br_p hE c_7
          refine lv_iconst (v := (1 : Int32)) C.1 C.2.1 dX0_countWorth_62 (by decide) ?_
          refine lv_goto (tgt := 67) C.1 C.2.1 dX0_countWorth_63 (by decide) ?_
          exact bX0_countWorth_67 C hk_29 k_x0 hkm hW hZ _ (lv_sub hl [0, 1, 2, 3, 5] rfl) hE
set_option maxRecDepth 20000 in
theorem bX0_countWorth_27 {p : Program} {l : Launch} {e : Env} {s : State} {m : MethodId} {args : Array Value} {below : List Frame} {meth : Method} {c : Code} {X : Ec} {h0 : Hp} {o : Int32 × Hp} {F : Nat} (C : Cx X p s m args meth c RX0 cX0_countWorth 6 (some .int) "countWorth") {h : Hp} {x0 : Nat} {x1 : Int32} {x2 : Int32} {x3 : Int32} {x4 : Int32} {t0 : Int32} {H : Heap} {locs : List Loc} (k_x0 : hK h x0 = 0) (hkm : Km h0 h) (hW : Wx X h H) (hZ : va_S (aA (eB X)) s.heap H locs) (ls : Array Slot) (hl : lv_has ls 6 [(0, .ref x0), (1, .int x1), (2, .int x2), (3, .int x3), (4, .int x4)]) (hE : sX0_countWorth_27 F h x0 x1 x2 x3 x4 t0 = some o) : W p l e (rm 1 24) s m args below meth c H locs 0 0 (MQ below (QI X h0 o.1 o.2) args s 0 0 (aA (eB X))) (F0 m 27 ls [.int t0]) := by
  refine lv_istore (lv' := [(5, .int t0), (0, .ref x0), (1, .int x1), (2, .int x2), (3, .int x3), (4, .int x4)]) C.1 C.2.1 dX0_countWorth_27 hl (by decide) rfl (fun ls hl => ?_)
  exact bX0_countWorth_29 C F k_x0 hkm hW hZ _ (lv_sub hl [1, 2, 3, 4, 5, 0] rfl) hE
set_option maxRecDepth 20000 in
theorem ct_X0_countWorth (l : Launch) (X : Ec) (F : Nat) {h : Hp} {x0 : Nat} {x1 : Int32} {x2 : Int32} {o : Int32 × Hp} (k_x0 : hK h x0 = 0) (hE : sX0_countWorth F h x0 x1 x2 = some o) : MetI l yX0_countWorth cX0_countWorth 6 (some .int) 1 24 X [.ref x0, .int x1, .int x2] h o := by
  refine x_met (by decide) (Nat.le_of_ble_eq_true rfl) ?_
  intro p e s m below meth c ls C hl hW hZ
  have hl : lv_has ls 6 [(0, .ref x0), (1, .int x1), (2, .int x2)] := hl
  have hkm : Km h h := Km.rf h
  refine lv_aload_n C.1 C.2.1 dX0_countWorth_0 rfl (lv_at hl 0 rfl) ?_
  refine lv_aload_n C.1 C.2.1 dX0_countWorth_1 rfl (lv_at hl 0 rfl) ?_
  refine gf_X0_88 C hW k_x0 dX0_countWorth_2 ?_
  obtain ⟨o_1, eo_1, hE⟩ := cl_e hE
  refine x_kI (o := o_1) (z_runV (As := [.int (hI h x0 15)]) (rest := []) C (ct_X0_findSet l X F k_x0 eo_1) cw_X0_246 hW hZ k_x0 (by decide) rfl rfl rfl hl.1 (Nat.le_of_ble_eq_true rfl) rfl dX0_countWorth_5 ⟨Nat.le_of_ble_eq_true rfl, Nat.le_of_ble_eq_true rfl⟩ ⟨Nat.le_refl _, Nat.le_refl _⟩) hZ (fun _ _ hW km hZ => ?_)
  replace hkm := hkm.tr km
  replace k_x0 := km.at k_x0 (by decide)
  refine lv_istore_n (lv' := [(3, .int o_1.1), (0, .ref x0), (1, .int x1), (2, .int x2)]) C.1 C.2.1 dX0_countWorth_8 rfl hl (by decide) rfl (fun ls hl => ?_)
  refine lv_iconst (v := (0 : Int32)) C.1 C.2.1 dX0_countWorth_9 (by decide) ?_
  refine lv_istore (lv' := [(4, .int (0 : Int32)), (3, .int o_1.1), (0, .ref x0), (1, .int x1), (2, .int x2)]) C.1 C.2.1 dX0_countWorth_10 hl (by decide) rfl (fun ls hl => ?_)
  refine lv_iload_n C.1 C.2.1 dX0_countWorth_12 rfl (lv_at hl 1 rfl) ?_
  refine lv_iconst (v := (-1 : Int32)) C.1 C.2.1 dX0_countWorth_13 (by decide) ?_
  refine lv_icmp_ne (tgt := 21) C.1 C.2.1 dX0_countWorth_14 (by decide) (fun c_2 => ?_) (fun c_2 => ?_)
  · have hE := br_n hE c_2
    refine lv_aload_n C.1 C.2.1 dX0_countWorth_21 rfl (lv_at hl 2 rfl) ?_
    obtain ⟨r_3, er_3, hE⟩ := cl_e hE
    refine gf_X0_22 C hW k_x0 er_3 dX0_countWorth_22 (fun k_r_3 => ?_)
    refine lv_iload_n C.1 C.2.1 dX0_countWorth_25 rfl (lv_at hl 1 rfl) ?_
    obtain ⟨g_4, hE⟩ := gd_e hE
    refine y_iald C hW k_r_3 g_4 dX0_countWorth_26 ?_
    exact bX0_countWorth_27 C k_x0 hkm hW hZ _ (lv_sub hl [2, 3, 4, 1, 0] rfl) hE
  · have hE := br_p hE c_2
    refine lv_iconst (v := (0 : Int32)) C.1 C.2.1 dX0_countWorth_17 (by decide) ?_
    refine lv_goto (tgt := 27) C.1 C.2.1 dX0_countWorth_18 (by decide) ?_
    exact bX0_countWorth_27 C k_x0 hkm hW hZ _ (lv_sub hl [2, 3, 4, 1, 0] rfl) hE
