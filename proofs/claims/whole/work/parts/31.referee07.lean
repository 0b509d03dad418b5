theorem dX5_passedBy_0 : decode cX5_passedBy 0 = .ok (.iload_n 0, 1) := by decide +kernel
theorem dX5_passedBy_1 : decode cX5_passedBy 1 = .ok (.bipush 26, 2) := by decide +kernel
theorem dX5_passedBy_3 : decode cX5_passedBy 3 = .ok (.ishr, 1) := by decide +kernel
theorem dX5_passedBy_4 : decode cX5_passedBy 4 = .ok (.bipush 7, 2) := by decide +kernel
theorem dX5_passedBy_6 : decode cX5_passedBy 6 = .ok (.iand, 1) := by decide +kernel
theorem dX5_passedBy_7 : decode cX5_passedBy 7 = .ok (.ireturn, 1) := by decide +kernel
def sX5_passedBy (h : Hp) (x0 : Int32) : Option (Int32 × Hp) := some ((x0 >>> ((26 : Int32) &&& 31)) &&& (7 : Int32), h)
set_option maxRecDepth 20000 in
theorem moX5_passedBy {o : Int32 × Hp} {h : Hp} {x0 : Int32} (hE : sX5_passedBy h x0 = some o) : Le h o.2 := by
  exact le_some2 hE
set_option maxRecDepth 20000 in
theorem ct_X5_passedBy (l : Launch) (X : Ec) {h : Hp} {x0 : Int32} {o : Int32 × Hp} (hE : sX5_passedBy h x0 = some o) : MetI l yX5_passedBy cX5_passedBy 1 (some .int) 0 0 X [.int x0] h o := by
  refine x_met (by decide) (Nat.le_of_ble_eq_true rfl) ?_
  intro p e s m below meth c ls C hl hW hZ
  have hl : lv_has ls 1 [(0, .int x0)] := hl
  have hkm : Km h h := Km.rf h
  refine lv_iload_n C.1 C.2.1 dX5_passedBy_0 rfl (lv_at hl 0 rfl) ?_
  refine lv_bipush (v := (26 : Int32)) C.1 C.2.1 dX5_passedBy_1 (by decide) ?_
  refine lv_ishr C.1 C.2.1 dX5_passedBy_3 ?_
  refine lv_bipush (v := (7 : Int32)) C.1 C.2.1 dX5_passedBy_4 (by decide) ?_
  refine lv_iand C.1 C.2.1 dX5_passedBy_6 ?_
  exact x_iret C rfl rfl hW hZ hkm hE dX5_passedBy_7
set_option maxRecDepth 100000 in
theorem m_1331 : Cond.methodLink RX5 285 yX3_clearPass ∈ W0 := w0_in (List.mem_append_right _ (List.mem_of_getElem? (i := 1331) rfl)) rfl
set_option maxRecDepth 100000 in
theorem m_1332 : Cond.instanceMethod yX3_clearPass ∈ W0 := w0_in (List.mem_append_right _ (List.mem_of_getElem? (i := 1332) rfl)) rfl
set_option maxRecDepth 100000 in
theorem m_1333 : Cond.selects RX3 yX3_clearPass yX3_clearPass ∈ W0 := w0_in (List.mem_append_right _ (List.mem_of_getElem? (i := 1333) rfl)) rfl
set_option maxRecDepth 100000 in
theorem m_1334 : Cond.code yX3_clearPass cX3_clearPass 1 none ∈ W0 := w0_in (List.mem_append_right _ (List.mem_of_getElem? (i := 1334) rfl)) rfl
set_option maxRecDepth 100000 in
theorem m_1335 : Cond.methodLink RX5 288 yX5_passedBy ∈ W0 := w0_in (List.mem_append_right _ (List.mem_of_getElem? (i := 1335) rfl)) rfl
set_option maxRecDepth 100000 in
theorem m_1336 : Cond.static yX5_passedBy ∈ W0 := w0_in (List.mem_append_right _ (List.mem_of_getElem? (i := 1336) rfl)) rfl
set_option maxRecDepth 100000 in
theorem m_1337 : Cond.code yX5_passedBy cX5_passedBy 1 (some .int) ∈ W0 := w0_in (List.mem_append_right _ (List.mem_of_getElem? (i := 1337) rfl)) rfl
set_option maxRecDepth 100000 in
theorem m_1338 : Cond.methodLink RX5 291 yX3_addPass ∈ W0 := w0_in (List.mem_append_right _ (List.mem_of_getElem? (i := 1338) rfl)) rfl
theorem cw_X5_291 : cwd RX5 291 yX3_addPass cX3_addPass 3 none false 1 := ⟨m_985, m_1338, m_8, ⟨m_983, m_984⟩, by decide, by decide, by decide +kernel⟩
theorem cw_X5_285 : cwd RX5 285 yX3_clearPass cX3_clearPass 1 none false 0 := ⟨m_1334, m_1331, m_8, ⟨m_1332, m_1333⟩, by decide, by decide, by decide +kernel⟩
theorem cw_X5_288 : cwd RX5 288 yX5_passedBy cX5_passedBy 1 (some .int) true 1 := ⟨m_1337, m_1335, m_7, m_1336, by decide, by decide, by decide +kernel⟩
theorem dX5_notePass_0 : decode cX5_notePass 0 = .ok (.aload_n 1, 1) := by decide +kernel
theorem dX5_notePass_1 : decode cX5_notePass 1 = .ok (.invokevirtual 285, 3) := by decide +kernel
theorem dX5_notePass_4 : decode cX5_notePass 4 = .ok (.iload_n 2, 1) := by decide +kernel
theorem dX5_notePass_5 : decode cX5_notePass 5 = .ok (.invokestatic 288, 3) := by decide +kernel
theorem dX5_notePass_8 : decode cX5_notePass 8 = .ok (.istore_n 3, 1) := by decide +kernel
theorem dX5_notePass_9 : decode cX5_notePass 9 = .ok (.iload_n 2, 1) := by decide +kernel
theorem dX5_notePass_10 : decode cX5_notePass 10 = .ok (.invokestatic 184, 3) := by decide +kernel
theorem dX5_notePass_13 : decode cX5_notePass 13 = .ok (.istore 4, 2) := by decide +kernel
theorem dX5_notePass_15 : decode cX5_notePass 15 = .ok (.iload_n 3, 1) := by decide +kernel
theorem dX5_notePass_16 : decode cX5_notePass 16 = .ok (.iconst 2, 1) := by decide +kernel
theorem dX5_notePass_17 : decode cX5_notePass 17 = .ok (.if_icmp .lt 14, 3) := by decide +kernel
theorem dX5_notePass_20 : decode cX5_notePass 20 = .ok (.aload_n 1, 1) := by decide +kernel
theorem dX5_notePass_21 : decode cX5_notePass 21 = .ok (.getfield 42, 3) := by decide +kernel
theorem dX5_notePass_24 : decode cX5_notePass 24 = .ok (.iload 4, 2) := by decide +kernel
theorem dX5_notePass_26 : decode cX5_notePass 26 = .ok (.baload, 1) := by decide +kernel
theorem dX5_notePass_27 : decode cX5_notePass 27 = .ok (.iconst (-1), 1) := by decide +kernel
theorem dX5_notePass_28 : decode cX5_notePass 28 = .ok (.if_icmp .ne 4, 3) := by decide +kernel
theorem dX5_notePass_31 : decode cX5_notePass 31 = .ok (.return_, 1) := by decide +kernel
theorem dX5_notePass_32 : decode cX5_notePass 32 = .ok (.iload_n 2, 1) := by decide +kernel
theorem dX5_notePass_33 : decode cX5_notePass 33 = .ok (.invokestatic 236, 3) := by decide +kernel
theorem dX5_notePass_36 : decode cX5_notePass 36 = .ok (.istore 5, 2) := by decide +kernel
theorem dX5_notePass_38 : decode cX5_notePass 38 = .ok (.iload 4, 2) := by decide +kernel
theorem dX5_notePass_40 : decode cX5_notePass 40 = .ok (.iload 5, 2) := by decide +kernel
theorem dX5_notePass_42 : decode cX5_notePass 42 = .ok (.isub, 1) := by decide +kernel
theorem dX5_notePass_43 : decode cX5_notePass 43 = .ok (.iload_n 3, 1) := by decide +kernel
theorem dX5_notePass_44 : decode cX5_notePass 44 = .ok (.idiv, 1) := by decide +kernel
theorem dX5_notePass_45 : decode cX5_notePass 45 = .ok (.istore 6, 2) := by decide +kernel
theorem dX5_notePass_47 : decode cX5_notePass 47 = .ok (.aload_n 1, 1) := by decide +kernel
theorem dX5_notePass_48 : decode cX5_notePass 48 = .ok (.iload 4, 2) := by decide +kernel
theorem dX5_notePass_50 : decode cX5_notePass 50 = .ok (.invokevirtual 291, 3) := by decide +kernel
theorem dX5_notePass_53 : decode cX5_notePass 53 = .ok (.iconst 1, 1) := by decide +kernel
theorem dX5_notePass_54 : decode cX5_notePass 54 = .ok (.istore 7, 2) := by decide +kernel
theorem dX5_notePass_56 : decode cX5_notePass 56 = .ok (.iload 7, 2) := by decide +kernel
theorem dX5_notePass_58 : decode cX5_notePass 58 = .ok (.iload_n 3, 1) := by decide +kernel
theorem dX5_notePass_59 : decode cX5_notePass 59 = .ok (.if_icmp .ge 21, 3) := by decide +kernel
theorem dX5_notePass_62 : decode cX5_notePass 62 = .ok (.aload_n 1, 1) := by decide +kernel
theorem dX5_notePass_63 : decode cX5_notePass 63 = .ok (.iload 5, 2) := by decide +kernel
theorem dX5_notePass_65 : decode cX5_notePass 65 = .ok (.iload 7, 2) := by decide +kernel
theorem dX5_notePass_67 : decode cX5_notePass 67 = .ok (.iload 6, 2) := by decide +kernel
theorem dX5_notePass_69 : decode cX5_notePass 69 = .ok (.imul, 1) := by decide +kernel
theorem dX5_notePass_70 : decode cX5_notePass 70 = .ok (.iadd, 1) := by decide +kernel
theorem dX5_notePass_71 : decode cX5_notePass 71 = .ok (.invokevirtual 291, 3) := by decide +kernel
theorem dX5_notePass_74 : decode cX5_notePass 74 = .ok (.iinc 7 1, 3) := by decide +kernel
theorem dX5_notePass_77 : decode cX5_notePass 77 = .ok (.goto (-21), 3) := by decide +kernel
theorem dX5_notePass_80 : decode cX5_notePass 80 = .ok (.return_, 1) := by decide +kernel
def sX5_notePass_31 (F : Nat) (h : Hp) : Option (Hp) := some h
def sX5_notePass_56 (F : Nat) : Nat → Hp → Nat → Int32 → Int32 → Int32 → Int32 → Option (Hp)
  | 0, _, _, _, _, _, _ => none
  | f + 1, h, x1, x3, x5, x6, x7 => br (x3 ≤ x7) (some h) (cl (sX3_addPass h x1 (x5 + (x7 * x6))) fun o_2 => nm (x7 + (1 : Int32)) fun v_3 => sX5_notePass_56 F f o_2 x1 x3 x5 x6 v_3)
def sX5_notePass (F : Nat) (h : Hp) (x0 : Nat) (x1 : Nat) (x2 : Int32) : Option (Hp) := cl (sX3_clearPass h x1) fun o_1 => cl (sX5_passedBy o_1 x2) fun o_2 => cl (sX5_comeTo o_2.2 x2) fun o_3 => br (o_2.1 < (2 : Int32)) (sX5_notePass_31 F o_3.2 ) (cl (hR o_3.2 x1 0) fun r_5 => gd (inB o_3.1 (hN o_3.2 r_5)) <| br ((hI o_3.2 r_5 o_3.1.toNatClampNeg) = (-1 : Int32)) (sX5_notePass_31 F o_3.2 ) (cl (sX5_leftBy o_3.2 x2) fun o_8 => gd (¬ o_2.1 = 0) <| nm ((o_3.1 - o_8.1) / o_2.1) fun v_10 => cl (sX3_addPass o_8.2 x1 o_3.1) fun o_11 => sX5_notePass_56 F F o_11 x1 o_2.1 o_8.1 v_10 (1 : Int32)))
set_option maxRecDepth 20000 in
theorem moX5_notePass_31 {o : Hp} {F : Nat} {h : Hp} (hE : sX5_notePass_31 F h  = some o) : Le h o := by
  exact le_some1 hE
set_option maxRecDepth 20000 in
theorem moX5_notePass_56 {o : Hp} {F : Nat} : ∀ (f : Nat) {h : Hp} {x1 : Nat} {x3 : Int32} {x5 : Int32} {x6 : Int32} {x7 : Int32}, sX5_notePass_56 F f h x1 x3 x5 x6 x7 = some o → Le h o := by
  intro f
  induction f with
  | zero =>
    intro h x1 x3 x5 x6 x7 hE
    rw [sX5_notePass_56] at hE
    cases hE
  | succ f ih =>
    intro h x1 x3 x5 x6 x7 hE
    rw [sX5_notePass_56] at hE
    have mk_56 : ∀ (h : Hp) (x1 : Nat) (x3 : Int32) (x5 : Int32) (x6 : Int32) (x7 : Int32), sX5_notePass_56 F f h x1 x3 x5 x6 x7 = some o → Le h o := fun h x1 x3 x5 x6 x7 hE => ih hE
    rcases br_e hE with ⟨_, hE⟩ | ⟨_, hE⟩
    · exact le_some1 hE
    · obtain ⟨o_2, eo_2, hE⟩ := cl_e hE
      refine (moX3_addPass eo_2).tr ?_
      obtain ⟨v_3, ev_3, hE⟩ := nm_e2 hE
      exact mk_56 _ _ _ _ _ _ hE
set_option maxRecDepth 20000 in
theorem moX5_notePass {o : Hp} {F : Nat} {h : Hp} {x0 : Nat} {x1 : Nat} {x2 : Int32} (hE : sX5_notePass F h x0 x1 x2 = some o) : Le h o := by
  obtain ⟨o_1, eo_1, hE⟩ := cl_e hE
  refine (moX3_clearPass eo_1).tr ?_
  obtain ⟨o_2, eo_2, hE⟩ := cl_e hE
  refine (moX5_passedBy eo_2).tr ?_
  obtain ⟨o_3, eo_3, hE⟩ := cl_e hE
  refine (moX5_comeTo eo_3).tr ?_
  rcases br_e hE with ⟨_, hE⟩ | ⟨_, hE⟩
  · exact moX5_notePass_31 hE
  · obtain ⟨r_5, er_5, hE⟩ := cl_e hE
    obtain ⟨g_6, hE⟩ := gd_e hE
    rcases br_e hE with ⟨_, hE⟩ | ⟨_, hE⟩
    · exact moX5_notePass_31 hE
    · obtain ⟨o_8, eo_8, hE⟩ := cl_e hE
      refine (moX5_leftBy eo_8).tr ?_
      obtain ⟨g_9, hE⟩ := gd_e hE
      obtain ⟨v_10, ev_10, hE⟩ := nm_e2 hE
      obtain ⟨o_11, eo_11, hE⟩ := cl_e hE
      refine (moX3_addPass eo_11).tr ?_
      exact moX5_notePass_56 _ hE
set_option maxRecDepth 20000 in
theorem bX5_notePass_31 {p : Program} {l : Launch} {e : Env} {s : State} {m : MethodId} {args : Array Value} {below : List Frame} {meth : Method} {c : Code} {X : Ec} {h0 : Hp} {o : Hp} {F : Nat} (C : Cx X p s m args meth c RX5 cX5_notePass 8 none "notePass") {h : Hp} {H : Heap} {locs : List Loc} (hkm : Km h0 h) (hW : Wx X h H) (hZ : va_S (aA (eB X)) s.heap H locs) (ls : Array Slot) (hl : lv_has ls 8 []) (hE : sX5_notePass_31 F h  = some o) : W p l e (rm 2 42) s m args below meth c H locs 0 0 (MQ below (QV X h0 o) args s 0 0 (aA (eB X))) (F0 m 31 ls []) := by
  exact x_vret C rfl hW hZ hkm hE dX5_notePass_31
set_option maxRecDepth 20000 in
theorem bX5_notePass_56 {p : Program} {l : Launch} {e : Env} {s : State} {m : MethodId} {args : Array Value} {below : List Frame} {meth : Method} {c : Code} {X : Ec} {h0 : Hp} {o : Hp} {F : Nat} (C : Cx X p s m args meth c RX5 cX5_notePass 8 none "notePass") : ∀ (f : Nat) {h : Hp} {x1 : Nat} {x3 : Int32} {x5 : Int32} {x6 : Int32} {x7 : Int32} {H : Heap} {locs : List Loc} (k_x1 : hK h x1 = 3), Km h0 h → Wx X h H → va_S (aA (eB X)) s.heap H locs → ∀ (ls : Array Slot), lv_has ls 8 [(1, .ref x1), (3, .int x3), (5, .int x5), (6, .int x6), (7, .int x7)] → sX5_notePass_56 F f h x1 x3 x5 x6 x7 = some o → W p l e (rm 2 42) s m args below meth c H locs 0 0 (MQ below (QV X h0 o) args s 0 0 (aA (eB X))) (F0 m 56 ls []) := by
  intro f
  induction f with
  | zero =>
    intro h x1 x3 x5 x6 x7 H locs k_x1 hkm hW hZ ls hl hE
    rw [sX5_notePass_56] at hE
    cases hE
  | succ f ih =>
    intro h x1 x3 x5 x6 x7 H locs k_x1 hkm hW hZ ls hl hE
    rw [sX5_notePass_56] at hE
    have hk_56 : ∀ (h : Hp) (x1 : Nat) (x3 : Int32) (x5 : Int32) (x6 : Int32) (x7 : Int32) (H : Heap) (locs : List Loc), hK h x1 = 3 → Km h0 h → Wx X h H → va_S (aA (eB X)) s.heap H locs → ∀ (ls : Array Slot), lv_has ls 8 [(1, .ref x1), (3, .int x3), (5, .int x5), (6, .int x6), (7, .int x7)] → sX5_notePass_56 F f h x1 x3 x5 x6 x7 = some o → W p l e (rm 2 42) s m args below meth c H locs 0 0 (MQ below (QV X h0 o) args s 0 0 (aA (eB X))) (F0 m 56 ls []) := fun h x1 x3 x5 x6 x7 H locs k_x1 a b c ls hl hE => ih k_x1 a b c ls hl hE
    refine lv_iload C.1 C.2.1 dX5_notePass_56 (lv_at hl 4 rfl) ?_
    refine lv_iload_n C.1 C.2.1 dX5_notePass_58 rfl (lv_at hl 1 rfl) ?_
    refine lv_icmp_ge (tgt := 80) C.1 C.2.1 dX5_notePass_59 (by decide) (fun c_1 => ?_) (fun c_1 => ?_)
    · have hE := br_p hE c_1
      exact x_vret C rfl hW hZ hkm hE dX5_notePass_80
    · have hE := br_n hE c_1
      refine lv_aload_n C.1 C.2.1 dX5_notePass_62 rfl (lv_at hl 0 rfl) ?_
      refine lv_iload C.1 C.2.1 dX5_notePass_63 (lv_at hl 2 rfl) ?_
      refine lv_iload C.1 C.2.1 dX5_notePass_65 (lv_at hl 4 rfl) ?_
      refine lv_iload C.1 C.2.1 dX5_notePass_67 (lv_at hl 3 rfl) ?_
      refine lv_imul C.1 C.2.1 dX5_notePass_69 ?_
      refine lv_iadd C.1 C.2.1 dX5_notePass_70 ?_
      obtain ⟨o_2, eo_2, hE⟩ := cl_e hE
      refine x_kV (o := o_2) (z_runV (As := [.int (x5 + (x7 * x6))]) (rest := []) C (ct_X3_addPass l X k_x1 eo_2) cw_X5_291 hW hZ k_x1 (by decide) rfl rfl rfl hl.1 (Nat.le_of_ble_eq_true rfl) rfl dX5_notePass_71 ⟨Nat.le_of_ble_eq_true rfl, Nat.le_of_ble_eq_true rfl⟩ ⟨Nat.le_refl _, Nat.le_refl _⟩) hZ (fun _ _ hW km hZ => ?_)
      replace hkm := hkm.tr km
      replace k_x1 := km.at k_x1 (by decide)
      obtain ⟨v_3, ev_3, hE⟩ := nm_e2 hE
      refine lv_iinc (v := v_3) (lv' := [(7, .int v_3), (1, .ref x1), (3, .int x3), (5, .int x5), (6, .int x6)]) C.1 C.2.1 dX5_notePass_74 hl (k := 4) rfl (by rw [ev_3]; rfl) (by decide) rfl (fun ls hl => ?_)
      refine lv_goto (tgt := 56) C.1 C.2.1 dX5_notePass_77 (by decide) ?_
      exact hk_56 _ _ _ _ _ _ _ _ k_x1 hkm hW hZ _ (lv_sub hl [1, 2, 3, 4, 0] rfl) hE
set_option maxRecDepth 20000 in
theorem ct_X5_notePass (l : Launch) (X : Ec) (F : Nat) {h : Hp} {x0 : Nat} {x1 : Nat} {x2 : Int32} {o : Hp} (k_x0 : hK h x0 = 5) (k_x1 : hK h x1 = 3) (hE : sX5_notePass F h x0 x1 x2 = some o) : MetV l yX5_notePass cX5_notePass 8 none 2 42 X [.ref x0, .ref x1, .int x2] h o := by
  refine x_met (by decide) (Nat.le_of_ble_eq_true rfl) ?_
  intro p e s m below meth c ls C hl hW hZ
  have hl : lv_has ls 8 [(0, .ref x0), (1, .ref x1), (2, .int x2)] := hl
  have hkm : Km h h := Km.rf h
  refine lv_aload_n C.1 C.2.1 dX5_notePass_0 rfl (lv_at hl 1 rfl) ?_
  obtain ⟨o_1, eo_1, hE⟩ := cl_e hE
  refine x_kV (o := o_1) (z_runV (As := []) (rest := []) C (ct_X3_clearPass l X k_x1 eo_1) cw_X5_285 hW hZ k_x1 (by decide) rfl rfl rfl hl.1 (Nat.le_of_ble_eq_true rfl) rfl dX5_notePass_1 ⟨Nat.le_of_ble_eq_true rfl, Nat.le_of_ble_eq_true rfl⟩ ⟨Nat.le_refl _, Nat.le_refl _⟩) hZ (fun _ _ hW km hZ => ?_)
  replace hkm := hkm.tr km
  replace k_x0 := km.at k_x0 (by decide)
  replace k_x1 := km.at k_x1 (by decide)
  refine lv_iload_n C.1 C.2.1 dX5_notePass_4 rfl (lv_at hl 2 rfl) ?_
  obtain ⟨o_2, eo_2, hE⟩ := cl_e hE
  refine x_kI (o := o_2) (z_runS (As := [.int x2]) (rest := []) C (ct_X5_passedBy l X eo_2) cw_X5_288 hW hZ rfl hl.1 (Nat.le_of_ble_eq_true rfl) rfl dX5_notePass_5 ⟨Nat.le_of_ble_eq_true rfl, Nat.le_of_ble_eq_true rfl⟩ ⟨Nat.le_refl _, Nat.le_refl _⟩) hZ (fun _ _ hW km hZ => ?_)
  replace hkm := hkm.tr km
  replace k_x0 := km.at k_x0 (by decide)
  replace k_x1 := km.at k_x1 (by decide)
  refine lv_istore_n (lv' := [(3, .int o_2.1), (0, .ref x0), (1, .ref x1), (2, .int x2)]) C.1 C.2.1 dX5_notePass_8 rfl hl (by decide) rfl (fun ls hl => ?_)
  refine lv_iload_n C.1 C.2.1 dX5_notePass_9 rfl (lv_at hl 3 rfl) ?_
  obtain ⟨o_3, eo_3, hE⟩ := cl_e hE
  refine x_kI (o := o_3) (z_runS (As := [.int x2]) (rest := []) C (ct_X5_comeTo l X eo_3) cw_X5_184 hW hZ rfl hl.1 (Nat.le_of_ble_eq_true rfl) rfl dX5_notePass_10 ⟨Nat.le_of_ble_eq_true rfl, Nat.le_of_ble_eq_true rfl⟩ ⟨Nat.le_refl _, Nat.le_refl _⟩) hZ (fun _ _ hW km hZ => ?_)
  replace hkm := hkm.tr km
  replace k_x0 := km.at k_x0 (by decide)
  replace k_x1 := km.at k_x1 (by decide)
  refine lv_istore (lv' := [(4, .int o_3.1), (3, .int o_2.1), (0, .ref x0), (1, .ref x1), (2, .int x2)]) C.1 C.2.1 dX5_notePass_13 hl (by decide) rfl (fun ls hl => ?_)
  refine lv_iload_n C.1 C.2.1 dX5_notePass_15 rfl (lv_at hl 1 rfl) ?_
  refine lv_iconst (v := (2 : Int32)) C.1 C.2.1 dX5_notePass_16 (by decide) ?_
  refine lv_icmp_lt (tgt := 31) C.1 C.2.1 dX5_notePass_17 (by decide) (fun c_4 => ?_) (fun c_4 => ?_)
  · have hE := br_p hE c_4
    exact bX5_notePass_31 C hkm hW hZ _ (lv_sub hl [] rfl) hE
  · have hE := br_n hE c_4
    refine lv_aload_n C.1 C.2.1 dX5_notePass_20 rfl (lv_at hl 3 rfl) ?_
    obtain ⟨r_5, er_5, hE⟩ := cl_e hE
    refine gf_X5_42 C hW k_x1 er_5 dX5_notePass_21 (fun k_r_5 => ?_)
    refine lv_iload C.1 C.2.1 dX5_notePass_24 (lv_at hl 0 rfl) ?_
    obtain ⟨g_6, hE⟩ := gd_e hE
    refine y_bald C hW k_r_5 g_6 dX5_notePass_26 ?_
    refine lv_iconst (v := (-1 : Int32)) C.1 C.2.1 dX5_notePass_27 (by decide) ?_
    refine lv_icmp_ne (tgt := 32) C.1 C.2.1 dX5_notePass_28 (by decide) (fun c_7 => ?_) (fun c_7 => ?_)
    · have hE := br_n hE c_7
      refine lv_iload_n C.1 C.2.1 dX5_notePass_32 rfl (lv_at hl 4 rfl) ?_
      obtain ⟨o_8, eo_8, hE⟩ := cl_e hE
      refine x_kI (o := o_8) (z_runS (As := [.int x2]) (rest := []) C (ct_X5_leftBy l X eo_8) cw_X5_236 hW hZ rfl hl.1 (Nat.le_of_ble_eq_true rfl) rfl dX5_notePass_33 ⟨Nat.le_of_ble_eq_true rfl, Nat.le_of_ble_eq_true rfl⟩ ⟨Nat.le_refl _, Nat.le_refl _⟩) hZ (fun _ _ hW km hZ => ?_)
      replace hkm := hkm.tr km
      replace k_x0 := km.at k_x0 (by decide)
      replace k_x1 := km.at k_x1 (by decide)
      refine lv_istore (lv' := [(5, .int o_8.1), (4, .int o_3.1), (3, .int o_2.1), (0, .ref x0), (1, .ref x1), (2, .int x2)]) C.1 C.2.1 dX5_notePass_36 hl (by decide) rfl (fun ls hl => ?_)
      refine lv_iload C.1 C.2.1 dX5_notePass_38 (lv_at hl 1 rfl) ?_
      refine lv_iload C.1 C.2.1 dX5_notePass_40 (lv_at hl 0 rfl) ?_
      refine lv_isub C.1 C.2.1 dX5_notePass_42 ?_
      refine lv_iload_n C.1 C.2.1 dX5_notePass_43 rfl (lv_at hl 2 rfl) ?_
      obtain ⟨g_9, hE⟩ := gd_e hE
      refine lv_idiv C.1 C.2.1 dX5_notePass_44 g_9 ?_
      obtain ⟨v_10, ev_10, hE⟩ := nm_e2 hE
      refine x_nmI ev_10 ?_
      refine lv_istore (lv' := [(6, .int v_10), (5, .int o_8.1), (4, .int o_3.1), (3, .int o_2.1), (0, .ref x0), (1, .ref x1), (2, .int x2)]) C.1 C.2.1 dX5_notePass_45 hl (by decide) rfl (fun ls hl => ?_)
      refine lv_aload_n C.1 C.2.1 dX5_notePass_47 rfl (lv_at hl 5 rfl) ?_
      refine lv_iload C.1 C.2.1 dX5_notePass_48 (lv_at hl 2 rfl) ?_
      obtain ⟨o_11, eo_11, hE⟩ := cl_e hE
      refine x_kV (o := o_11) (z_runV (As := [.int o_3.1]) (rest := []) C (ct_X3_addPass l X k_x1 eo_11) cw_X5_291 hW hZ k_x1 (by decide) rfl rfl rfl hl.1 (Nat.le_of_ble_eq_true rfl) rfl dX5_notePass_50 ⟨Nat.le_of_ble_eq_true rfl, Nat.le_of_ble_eq_true rfl⟩ ⟨Nat.le_refl _, Nat.le_refl _⟩) hZ (fun _ _ hW km hZ => ?_)
      replace hkm := hkm.tr km
      replace k_x0 := km.at k_x0 (by decide)
      replace k_x1 := km.at k_x1 (by decide)
      refine lv_iconst (v := (1 : Int32)) C.1 C.2.1 dX5_notePass_53 (by decide) ?_
      refine lv_istore (lv' := [(7, .int (1 : Int32)), (6, .int v_10), (5, .int o_8.1), (4, .int o_3.1), (3, .int o_2.1), (0, .ref x0), (1, .ref x1), (2, .int x2)]) C.1 C.2.1 dX5_notePass_54 hl (by decide) rfl (fun ls hl => ?_)
      exact bX5_notePass_56 C F k_x1 hkm hW hZ _ (lv_sub hl [6, 4, 2, 1, 0] rfl) hE
    · have hE := br_p hE c_7
      exact bX5_notePass_31 C hkm hW hZ _ (lv_sub hl [] rfl) hE
set_option maxRecDepth 100000 in
theorem ms_70 : Cond.selects RX5 yX5_notePass yX5_notePass ∈ W0 := w0_in (List.mem_append_left _ (List.mem_of_getElem? (i := 70) rfl)) rfl
set_option maxRecDepth 100000 in
theorem m_307 : Cond.fieldLink RX5 270 (TX3 6).1 (TX3 6).2.1 (TX3 6).2.2.1 ∈ W0 := w0_in (List.mem_append_right _ (List.mem_of_getElem? (i := 307) rfl)) rfl
set_option maxRecDepth 100000 in
theorem m_309 : Cond.fieldLink RX5 261 (TX3 7).1 (TX3 7).2.1 (TX3 7).2.2.1 ∈ W0 := w0_in (List.mem_append_right _ (List.mem_of_getElem? (i := 309) rfl)) rfl
set_option maxRecDepth 100000 in
theorem m_1325 : Cond.constantLong RX5 259 (-1 : Int64) ∈ W0 := w0_in (List.mem_append_right _ (List.mem_of_getElem? (i := 1325) rfl)) rfl
set_option maxRecDepth 100000 in
theorem m_1326 : Cond.methodLink RX5 264 yX3_addToHand ∈ W0 := w0_in (List.mem_append_right _ (List.mem_of_getElem? (i := 1326) rfl)) rfl
set_option maxRecDepth 100000 in
theorem m_1327 : Cond.methodLink RX5 267 yX5_notePass ∈ W0 := w0_in (List.mem_append_right _ (List.mem_of_getElem? (i := 1327) rfl)) rfl
set_option maxRecDepth 100000 in
theorem m_1329 : Cond.instanceMethod yX5_notePass ∈ W0 := w0_in (List.mem_append_right _ (List.mem_of_getElem? (i := 1329) rfl)) rfl
set_option maxRecDepth 100000 in
theorem m_1330 : Cond.code yX5_notePass cX5_notePass 8 none ∈ W0 := w0_in (List.mem_append_right _ (List.mem_of_getElem? (i := 1330) rfl)) rfl
set_option maxRecDepth 100000 in
theorem m_1339 : Cond.methodLink RX5 273 Lib.Math.min.name ∈ W0 := w0_in (List.mem_append_right _ (List.mem_of_getElem? (i := 1339) rfl)) rfl
section
variable {p : Program} {l : Launch} {e : Env} {R : Room} {s : State} {m : MethodId} {args : Array Value} {below : List Frame} {meth : Method} {c : Code} {H : Heap} {locs : List Loc} {cells slots : Nat} {Q : State → Prop}
variable {cc : ByteArray} {pc : Nat} {ls : Array Slot} {rest : List Value} {X : Ec} {h h1 : Hp} {nL : Nat} {rt : Option FieldType} {mn : String}
theorem pf_X5_270 {a : Nat} {v : Int32} (C : Cx X p s m args meth c RX5 cc nL rt mn) (hW : Wx X h H) (hZ : va_S (aA (eB X)) s.heap H locs) (ha : hK h a = 3) (eh : h1 = wI h a 6 v) (hdg : decode cc pc = .ok (.putfield 270, 3)) (kk : ∀ (H1 : Heap) (locs1 : List Loc), Wx X h1 H1 → Km h h1 → va_S (aA (eB X)) s.heap H1 locs1 → W p l e R s m args below meth c H1 locs1 cells slots Q (F0 m (pc + 3) ls rest)) : W p l e R s m args below meth c H locs cells slots Q (F0 m pc ls (.int v :: .ref a :: rest)) :=
  y_puti (ty := .int) C hW hZ ha i_X3 tyX3 tyX3_ok nmX3 (by decide) rfl rfl (by decide) m_307 rfl (by decide +kernel) rfl rfl rfl eh hdg kk
theorem pf_X5_78 {a : Nat} {v : Int32} (C : Cx X p s m args meth c RX5 cc nL rt mn) (hW : Wx X h H) (hZ : va_S (aA (eB X)) s.heap H locs) (ha : hK h a = 3) (eh : h1 = wI h a 5 v) (hdg : decode cc pc = .ok (.putfield 78, 3)) (kk : ∀ (H1 : Heap) (locs1 : List Loc), Wx X h1 H1 → Km h h1 → va_S (aA (eB X)) s.heap H1 locs1 → W p l e R s m args below meth c H1 locs1 cells slots Q (F0 m (pc + 3) ls rest)) : W p l e R s m args below meth c H locs cells slots Q (F0 m pc ls (.int v :: .ref a :: rest)) :=
  y_puti (ty := .int) C hW hZ ha i_X3 tyX3 tyX3_ok nmX3 (by decide) rfl rfl (by decide) m_302 rfl (by decide +kernel) rfl rfl rfl eh hdg kk
theorem gf_X5_270 {a : Nat} (C : Cx X p s m args meth c RX5 cc nL rt mn) (hW : Wx X h H) (ha : hK h a = 3) (hdg : decode cc pc = .ok (.getfield 270, 3)) (kk : W p l e R s m args below meth c H locs cells slots Q (F0 m (pc + 3) ls (.int (hI h a 6) :: rest))) : W p l e R s m args below meth c H locs cells slots Q (F0 m pc ls (.ref a :: rest)) :=
  y_geti C hW ha i_X3 (by decide) rfl (by decide) m_307 rfl hdg kk
theorem pf_X5_261 {a : Nat} {v : Int64} (C : Cx X p s m args meth c RX5 cc nL rt mn) (hW : Wx X h H) (hZ : va_S (aA (eB X)) s.heap H locs) (ha : hK h a = 3) (eh : h1 = wJ h a 7 v) (hdg : decode cc pc = .ok (.putfield 261, 3)) (kk : ∀ (H1 : Heap) (locs1 : List Loc), Wx X h1 H1 → Km h h1 → va_S (aA (eB X)) s.heap H1 locs1 → W p l e R s m args below meth c H1 locs1 cells slots Q (F0 m (pc + 3) ls rest)) : W p l e R s m args below meth c H locs cells slots Q (F0 m pc ls (.long v :: .ref a :: rest)) :=
  y_putj C hW hZ ha i_X3 tyX3 tyX3_ok nmX3 (by decide) rfl rfl (by decide) m_309 rfl (by decide +kernel) rfl eh hdg kk
theorem gf_X5_261 {a : Nat} (C : Cx X p s m args meth c RX5 cc nL rt mn) (hW : Wx X h H) (ha : hK h a = 3) (hdg : decode cc pc = .ok (.getfield 261, 3)) (kk : W p l e R s m args below meth c H locs cells slots Q (F0 m (pc + 3) ls (.long (hJ h a 7) :: rest))) : W p l e R s m args below meth c H locs cells slots Q (F0 m pc ls (.ref a :: rest)) :=
  y_getj C hW ha i_X3 (by decide) rfl (by decide) m_309 rfl hdg kk
theorem pf_X5_93 {a : Nat} {v : Int64} (C : Cx X p s m args meth c RX5 cc nL rt mn) (hW : Wx X h H) (hZ : va_S (aA (eB X)) s.heap H locs) (ha : hK h a = 3) (eh : h1 = wJ h a 8 v) (hdg : decode cc pc = .ok (.putfield 93, 3)) (kk : ∀ (H1 : Heap) (locs1 : List Loc), Wx X h1 H1 → Km h h1 → va_S (aA (eB X)) s.heap H1 locs1 → W p l e R s m args below meth c H1 locs1 cells slots Q (F0 m (pc + 3) ls rest)) : W p l e R s m args below meth c H locs cells slots Q (F0 m pc ls (.long v :: .ref a :: rest)) :=
  y_putj C hW hZ ha i_X3 tyX3 tyX3_ok nmX3 (by decide) rfl rfl (by decide) m_313 rfl (by decide +kernel) rfl eh hdg kk
end
theorem cw_X5_267 : cwd RX5 267 yX5_notePass cX5_notePass 8 none false 2 := ⟨m_1330, m_1327, m_7, ⟨m_1329, ms_70⟩, by decide, by decide, by decide +kernel⟩
theorem cw_X5_264 : cwd RX5 264 yX3_addToHand cX3_addToHand 4 none false 3 := ⟨m_1002, m_1326, m_8, ⟨m_1000, m_1001⟩, by decide, by decide, by decide +kernel⟩
theorem dX5_make_0 : decode cX5_make 0 = .ok (.aload_n 1, 1) := by decide +kernel
theorem dX5_make_1 : decode cX5_make 1 = .ok (.getfield 78, 3) := by decide +kernel
theorem dX5_make_4 : decode cX5_make 4 = .ok (.istore_n 3, 1) := by decide +kernel
theorem dX5_make_5 : decode cX5_make 5 = .ok (.iload_n 2, 1) := by decide +kernel
theorem dX5_make_6 : decode cX5_make 6 = .ok (.invokestatic 194, 3) := by decide +kernel
theorem dX5_make_9 : decode cX5_make 9 = .ok (.istore 4, 2) := by decide +kernel
theorem dX5_make_11 : decode cX5_make 11 = .ok (.iload_n 2, 1) := by decide +kernel
theorem dX5_make_12 : decode cX5_make 12 = .ok (.invokestatic 233, 3) := by decide +kernel
theorem dX5_make_15 : decode cX5_make 15 = .ok (.istore 5, 2) := by decide +kernel
theorem dX5_make_17 : decode cX5_make 17 = .ok (.iload_n 2, 1) := by decide +kernel
theorem dX5_make_18 : decode cX5_make 18 = .ok (.invokestatic 181, 3) := by decide +kernel
theorem dX5_make_21 : decode cX5_make 21 = .ok (.istore 6, 2) := by decide +kernel
theorem dX5_make_23 : decode cX5_make 23 = .ok (.iload 4, 2) := by decide +kernel
theorem dX5_make_25 : decode cX5_make 25 = .ok (.aload_n 0, 1) := by decide +kernel
theorem dX5_make_26 : decode cX5_make 26 = .ok (.getfield 22, 3) := by decide +kernel
theorem dX5_make_29 : decode cX5_make 29 = .ok (.getfield 129, 3) := by decide +kernel
theorem dX5_make_32 : decode cX5_make 32 = .ok (.if_icmp .ne 22, 3) := by decide +kernel
theorem dX5_make_35 : decode cX5_make 35 = .ok (.aload_n 1, 1) := by decide +kernel
theorem dX5_make_36 : decode cX5_make 36 = .ok (.dup, 1) := by decide +kernel
theorem dX5_make_37 : decode cX5_make 37 = .ok (.getfield 93, 3) := by decide +kernel
theorem dX5_make_40 : decode cX5_make 40 = .ok (.aload_n 1, 1) := by decide +kernel
theorem dX5_make_41 : decode cX5_make 41 = .ok (.getfield 33, 3) := by decide +kernel
theorem dX5_make_44 : decode cX5_make 44 = .ok (.iload_n 3, 1) := by decide +kernel
theorem dX5_make_45 : decode cX5_make 45 = .ok (.laload, 1) := by decide +kernel
theorem dX5_make_46 : decode cX5_make 46 = .ok (.ldc2_w 259, 3) := by decide +kernel
theorem dX5_make_49 : decode cX5_make 49 = .ok (.lxor, 1) := by decide +kernel
theorem dX5_make_50 : decode cX5_make 50 = .ok (.land, 1) := by decide +kernel
theorem dX5_make_51 : decode cX5_make 51 = .ok (.putfield 93, 3) := by decide +kernel
theorem dX5_make_54 : decode cX5_make 54 = .ok (.aload_n 1, 1) := by decide +kernel
theorem dX5_make_55 : decode cX5_make 55 = .ok (.lconst 0, 1) := by decide +kernel
theorem dX5_make_56 : decode cX5_make 56 = .ok (.putfield 261, 3) := by decide +kernel
theorem dX5_make_59 : decode cX5_make 59 = .ok (.aload_n 0, 1) := by decide +kernel
theorem dX5_make_60 : decode cX5_make 60 = .ok (.aload_n 1, 1) := by decide +kernel
theorem dX5_make_61 : decode cX5_make 61 = .ok (.iload_n 2, 1) := by decide +kernel
theorem dX5_make_62 : decode cX5_make 62 = .ok (.invokevirtual 222, 3) := by decide +kernel
theorem dX5_make_65 : decode cX5_make 65 = .ok (.aload_n 0, 1) := by decide +kernel
theorem dX5_make_66 : decode cX5_make 66 = .ok (.aload_n 1, 1) := by decide +kernel
theorem dX5_make_67 : decode cX5_make 67 = .ok (.iload_n 2, 1) := by decide +kernel
theorem dX5_make_68 : decode cX5_make 68 = .ok (.invokevirtual 226, 3) := by decide +kernel
theorem dX5_make_71 : decode cX5_make 71 = .ok (.aload_n 1, 1) := by decide +kernel
theorem dX5_make_72 : decode cX5_make 72 = .ok (.dup, 1) := by decide +kernel
theorem dX5_make_73 : decode cX5_make 73 = .ok (.getfield 93, 3) := by decide +kernel
theorem dX5_make_76 : decode cX5_make 76 = .ok (.aload_n 1, 1) := by decide +kernel
theorem dX5_make_77 : decode cX5_make 77 = .ok (.getfield 261, 3) := by decide +kernel
theorem dX5_make_80 : decode cX5_make 80 = .ok (.ldc2_w 259, 3) := by decide +kernel
theorem dX5_make_83 : decode cX5_make 83 = .ok (.lxor, 1) := by decide +kernel
theorem dX5_make_84 : decode cX5_make 84 = .ok (.land, 1) := by decide +kernel
theorem dX5_make_85 : decode cX5_make 85 = .ok (.putfield 93, 3) := by decide +kernel
theorem dX5_make_88 : decode cX5_make 88 = .ok (.iload 5, 2) := by decide +kernel
theorem dX5_make_90 : decode cX5_make 90 = .ok (.iconst 3, 1) := by decide +kernel
theorem dX5_make_91 : decode cX5_make 91 = .ok (.if_icmp .ne 11, 3) := by decide +kernel
theorem dX5_make_94 : decode cX5_make 94 = .ok (.aload_n 1, 1) := by decide +kernel
theorem dX5_make_95 : decode cX5_make 95 = .ok (.iload_n 3, 1) := by decide +kernel
theorem dX5_make_96 : decode cX5_make 96 = .ok (.iload 4, 2) := by decide +kernel
theorem dX5_make_98 : decode cX5_make 98 = .ok (.iconst (-1), 1) := by decide +kernel
theorem dX5_make_99 : decode cX5_make 99 = .ok (.invokevirtual 264, 3) := by decide +kernel
theorem dX5_make_102 : decode cX5_make 102 = .ok (.aload_n 0, 1) := by decide +kernel
theorem dX5_make_103 : decode cX5_make 103 = .ok (.getfield 22, 3) := by decide +kernel
theorem dX5_make_106 : decode cX5_make 106 = .ok (.iconst 1, 1) := by decide +kernel
theorem dX5_make_107 : decode cX5_make 107 = .ok (.invokevirtual 104, 3) := by decide +kernel
theorem dX5_make_110 : decode cX5_make 110 = .ok (.ifCond .eq 41, 3) := by decide +kernel
theorem dX5_make_113 : decode cX5_make 113 = .ok (.iload 6, 2) := by decide +kernel
theorem dX5_make_115 : decode cX5_make 115 = .ok (.iconst (-1), 1) := by decide +kernel
theorem dX5_make_116 : decode cX5_make 116 = .ok (.if_icmp .eq 35, 3) := by decide +kernel
theorem dX5_make_119 : decode cX5_make 119 = .ok (.iload 6, 2) := by decide +kernel
theorem dX5_make_121 : decode cX5_make 121 = .ok (.aload_n 0, 1) := by decide +kernel
theorem dX5_make_122 : decode cX5_make 122 = .ok (.getfield 22, 3) := by decide +kernel
theorem dX5_make_125 : decode cX5_make 125 = .ok (.getfield 129, 3) := by decide +kernel
theorem dX5_make_128 : decode cX5_make 128 = .ok (.if_icmp .eq 23, 3) := by decide +kernel
theorem dX5_make_131 : decode cX5_make 131 = .ok (.aload_n 1, 1) := by decide +kernel
theorem dX5_make_132 : decode cX5_make 132 = .ok (.iload_n 3, 1) := by decide +kernel
theorem dX5_make_133 : decode cX5_make 133 = .ok (.iload 6, 2) := by decide +kernel
theorem dX5_make_135 : decode cX5_make 135 = .ok (.invokevirtual 209, 3) := by decide +kernel
theorem dX5_make_138 : decode cX5_make 138 = .ok (.bipush 16, 2) := by decide +kernel
theorem dX5_make_140 : decode cX5_make 140 = .ok (.if_icmp .ge 11, 3) := by decide +kernel
theorem dX5_make_143 : decode cX5_make 143 = .ok (.aload_n 1, 1) := by decide +kernel
theorem dX5_make_144 : decode cX5_make 144 = .ok (.iload_n 3, 1) := by decide +kernel
theorem dX5_make_145 : decode cX5_make 145 = .ok (.iload 6, 2) := by decide +kernel
theorem dX5_make_147 : decode cX5_make 147 = .ok (.iconst 1, 1) := by decide +kernel
theorem dX5_make_148 : decode cX5_make 148 = .ok (.invokevirtual 264, 3) := by decide +kernel
theorem dX5_make_151 : decode cX5_make 151 = .ok (.aload_n 0, 1) := by decide +kernel
theorem dX5_make_152 : decode cX5_make 152 = .ok (.aload_n 1, 1) := by decide +kernel
theorem dX5_make_153 : decode cX5_make 153 = .ok (.iload_n 2, 1) := by decide +kernel
theorem dX5_make_154 : decode cX5_make 154 = .ok (.invokevirtual 267, 3) := by decide +kernel
theorem dX5_make_157 : decode cX5_make 157 = .ok (.iload 6, 2) := by decide +kernel
theorem dX5_make_159 : decode cX5_make 159 = .ok (.iconst (-1), 1) := by decide +kernel
theorem dX5_make_160 : decode cX5_make 160 = .ok (.if_icmp .ne 27, 3) := by decide +kernel
theorem dX5_make_163 : decode cX5_make 163 = .ok (.iload 5, 2) := by decide +kernel
theorem dX5_make_165 : decode cX5_make 165 = .ok (.iconst 3, 1) := by decide +kernel
theorem dX5_make_166 : decode cX5_make 166 = .ok (.if_icmp .eq 21, 3) := by decide +kernel
theorem dX5_make_169 : decode cX5_make 169 = .ok (.iload 5, 2) := by decide +kernel
theorem dX5_make_171 : decode cX5_make 171 = .ok (.iconst 2, 1) := by decide +kernel
theorem dX5_make_172 : decode cX5_make 172 = .ok (.if_icmp .eq 19, 3) := by decide +kernel
theorem dX5_make_175 : decode cX5_make 175 = .ok (.aload_n 0, 1) := by decide +kernel
theorem dX5_make_176 : decode cX5_make 176 = .ok (.getfield 22, 3) := by decide +kernel
theorem dX5_make_179 : decode cX5_make 179 = .ok (.iload 4, 2) := by decide +kernel
theorem dX5_make_181 : decode cX5_make 181 = .ok (.invokevirtual 212, 3) := by decide +kernel
theorem dX5_make_184 : decode cX5_make 184 = .ok (.ifCond .eq 7, 3) := by decide +kernel
theorem dX5_make_187 : decode cX5_make 187 = .ok (.iconst 1, 1) := by decide +kernel
theorem dX5_make_188 : decode cX5_make 188 = .ok (.goto 4, 3) := by decide +kernel
theorem dX5_make_191 : decode cX5_make 191 = .ok (.iconst 0, 1) := by decide +kernel
theorem dX5_make_192 : decode cX5_make 192 = .ok (.istore 7, 2) := by decide +kernel
theorem dX5_make_194 : decode cX5_make 194 = .ok (.aload_n 1, 1) := by decide +kernel
theorem dX5_make_195 : decode cX5_make 195 = .ok (.iload 7, 2) := by decide +kernel
theorem dX5_make_197 : decode cX5_make 197 = .ok (.ifCond .eq 7, 3) := by decide +kernel
theorem dX5_make_200 : decode cX5_make 200 = .ok (.iconst 0, 1) := by decide +kernel
theorem dX5_make_201 : decode cX5_make 201 = .ok (.goto 15, 3) := by decide +kernel
theorem dX5_make_204 : decode cX5_make 204 = .ok (.aload_n 1, 1) := by decide +kernel
theorem dX5_make_205 : decode cX5_make 205 = .ok (.getfield 270, 3) := by decide +kernel
theorem dX5_make_208 : decode cX5_make 208 = .ok (.iconst 1, 1) := by decide +kernel
theorem dX5_make_209 : decode cX5_make 209 = .ok (.iadd, 1) := by decide +kernel
theorem dX5_make_210 : decode cX5_make 210 = .ok (.sipush 200, 3) := by decide +kernel
theorem dX5_make_213 : decode cX5_make 213 = .ok (.invokestatic 273, 3) := by decide +kernel
theorem dX5_make_216 : decode cX5_make 216 = .ok (.putfield 270, 3) := by decide +kernel
theorem dX5_make_219 : decode cX5_make 219 = .ok (.aload_n 1, 1) := by decide +kernel
theorem dX5_make_220 : decode cX5_make 220 = .ok (.iconst 1, 1) := by decide +kernel
theorem dX5_make_221 : decode cX5_make 221 = .ok (.iload_n 3, 1) := by decide +kernel
theorem dX5_make_222 : decode cX5_make 222 = .ok (.isub, 1) := by decide +kernel
theorem dX5_make_223 : decode cX5_make 223 = .ok (.putfield 78, 3) := by decide +kernel
theorem dX5_make_226 : decode cX5_make 226 = .ok (.aload_n 0, 1) := by decide +kernel
theorem dX5_make_227 : decode cX5_make 227 = .ok (.getfield 22, 3) := by decide +kernel
theorem dX5_make_230 : decode cX5_make 230 = .ok (.getfield 276, 3) := by decide +kernel
theorem dX5_make_233 : decode cX5_make 233 = .ok (.ifCond .le 34, 3) := by decide +kernel
theorem dX5_make_236 : decode cX5_make 236 = .ok (.aload_n 0, 1) := by decide +kernel
theorem dX5_make_237 : decode cX5_make 237 = .ok (.aload_n 1, 1) := by decide +kernel
theorem dX5_make_238 : decode cX5_make 238 = .ok (.aload_n 1, 1) := by decide +kernel
theorem dX5_make_239 : decode cX5_make 239 = .ok (.getfield 78, 3) := by decide +kernel
theorem dX5_make_242 : decode cX5_make 242 = .ok (.invokevirtual 279, 3) := by decide +kernel
theorem dX5_make_245 : decode cX5_make 245 = .ok (.ifCond .eq 22, 3) := by decide +kernel
theorem dX5_make_248 : decode cX5_make 248 = .ok (.aload_n 1, 1) := by decide +kernel
theorem dX5_make_249 : decode cX5_make 249 = .ok (.getfield 283, 3) := by decide +kernel
theorem dX5_make_252 : decode cX5_make 252 = .ok (.iload_n 3, 1) := by decide +kernel
theorem dX5_make_253 : decode cX5_make 253 = .ok (.aload_n 1, 1) := by decide +kernel
theorem dX5_make_254 : decode cX5_make 254 = .ok (.getfield 283, 3) := by decide +kernel
theorem dX5_make_257 : decode cX5_make 257 = .ok (.iload_n 3, 1) := by decide +kernel
theorem dX5_make_258 : decode cX5_make 258 = .ok (.iaload, 1) := by decide +kernel
theorem dX5_make_259 : decode cX5_make 259 = .ok (.iconst 1, 1) := by decide +kernel
theorem dX5_make_260 : decode cX5_make 260 = .ok (.iadd, 1) := by decide +kernel
theorem dX5_make_261 : decode cX5_make 261 = .ok (.bipush 9, 2) := by decide +kernel
theorem dX5_make_263 : decode cX5_make 263 = .ok (.invokestatic 273, 3) := by decide +kernel
theorem dX5_make_266 : decode cX5_make 266 = .ok (.iastore, 1) := by decide +kernel
theorem dX5_make_267 : decode cX5_make 267 = .ok (.return_, 1) := by decide +kernel
def sX5_make_267 (F : Nat) (h : Hp) : Option (Hp) := some h
def sX5_make_216 (F : Nat) (h : Hp) (x0 : Nat) (x1 : Nat) (x3 : Int32) (t0 : Int32) (t1 : Nat) : Option (Hp) := nm (wI h t1 6 t0) fun h_1 => nm (wI h_1 x1 5 ((1 : Int32) - x3)) fun h_2 => cl (hR h_2 x0 0) fun r_3 => br ((hI h_2 r_3 7) ≤ 0) (sX5_make_267 F h_2 ) (cl (sX5_isRoyalHit F h_2 x0 x1 (hI h_2 x1 5)) fun o_5 => br (o_5.1 = 0) (sX5_make_267 F o_5.2 ) (cl (hR o_5.2 x1 4) fun r_7 => cl (hR o_5.2 x1 4) fun r_8 => gd (inB x3 (hN o_5.2 r_8)) <| gd (inB x3 (hN o_5.2 r_7)) <| nm (wI o_5.2 r_7 x3.toNatClampNeg (if (9 : Int32) < ((hI o_5.2 r_8 x3.toNatClampNeg) + (1 : Int32)) then (9 : Int32) else ((hI o_5.2 r_8 x3.toNatClampNeg) + (1 : Int32)))) fun h_11 => sX5_make_267 F h_11 ))
def sX5_make_192 (F : Nat) (h : Hp) (x0 : Nat) (x1 : Nat) (x3 : Int32) (t0 : Int32) : Option (Hp) := br (t0 = 0) (sX5_make_216 F h x0 x1 x3 (if (200 : Int32) < ((hI h x1 6) + (1 : Int32)) then (200 : Int32) else ((hI h x1 6) + (1 : Int32))) x1) (sX5_make_216 F h x0 x1 x3 (0 : Int32) x1)
def sX5_make_187 (F : Nat) (h : Hp) (x0 : Nat) (x1 : Nat) (x3 : Int32) : Option (Hp) := sX5_make_192 F h x0 x1 x3 (1 : Int32)
def sX5_make_191 (F : Nat) (h : Hp) (x0 : Nat) (x1 : Nat) (x3 : Int32) : Option (Hp) := sX5_make_192 F h x0 x1 x3 (0 : Int32)
def sX5_make_151 (F : Nat) (h : Hp) (x0 : Nat) (x1 : Nat) (x2 : Int32) (x3 : Int32) (x4 : Int32) (x5 : Int32) (x6 : Int32) : Option (Hp) := cl (sX5_notePass F h x0 x1 x2) fun o_1 => br (x6 = (-1 : Int32)) (br (x5 = (3 : Int32)) (sX5_make_187 F o_1 x0 x1 x3) (br (x5 = (2 : Int32)) (sX5_make_191 F o_1 x0 x1 x3) (cl (hR o_1 x0 0) fun r_5 => cl (sX1_becomesOthers o_1 r_5 x4) fun o_6 => br (o_6.1 = 0) (sX5_make_191 F o_6.2 x0 x1 x3) (sX5_make_187 F o_6.2 x0 x1 x3)))) (sX5_make_187 F o_1 x0 x1 x3)
def sX5_make_102 (F : Nat) (h : Hp) (x0 : Nat) (x1 : Nat) (x2 : Int32) (x3 : Int32) (x4 : Int32) (x5 : Int32) (x6 : Int32) : Option (Hp) := cl (hR h x0 0) fun r_1 => cl (sX1_has h r_1 (1 : Int32)) fun o_2 => br (o_2.1 = 0) (sX5_make_151 F o_2.2 x0 x1 x2 x3 x4 x5 x6) (br (x6 = (-1 : Int32)) (sX5_make_151 F o_2.2 x0 x1 x2 x3 x4 x5 x6) (cl (hR o_2.2 x0 0) fun r_5 => br (x6 = (hI o_2.2 r_5 4)) (sX5_make_151 F o_2.2 x0 x1 x2 x3 x4 x5 x6) (cl (sX3_inHand o_2.2 x1 x3 x6) fun o_7 => br ((16 : Int32) ≤ o_7.1) (sX5_make_151 F o_7.2 x0 x1 x2 x3 x4 x5 x6) (cl (sX3_addToHand o_7.2 x1 x3 x6 (1 : Int32)) fun o_9 => sX5_make_151 F o_9 x0 x1 x2 x3 x4 x5 x6))))
def sX5_make_54 (F : Nat) (h : Hp) (x0 : Nat) (x1 : Nat) (x2 : Int32) (x3 : Int32) (x4 : Int32) (x5 : Int32) (x6 : Int32) : Option (Hp) := nm (wJ h x1 7 (0 : Int64)) fun h_1 => cl (sX5_shift F h_1 x0 x1 x2) fun o_2 => cl (sX5_blast F o_2 x0 x1 x2) fun o_3 => nm (wJ o_3 x1 8 ((hJ o_3 x1 8) &&& ((hJ o_3 x1 7) ^^^ (-1 : Int64)))) fun h_4 => br (x5 = (3 : Int32)) (cl (sX3_addToHand h_4 x1 x3 x4 (-1 : Int32)) fun o_6 => sX5_make_102 F o_6 x0 x1 x2 x3 x4 x5 x6) (sX5_make_102 F h_4 x0 x1 x2 x3 x4 x5 x6)
def sX5_make (F : Nat) (h : Hp) (x0 : Nat) (x1 : Nat) (x2 : Int32) : Option (Hp) := nm (hI h x1 5) fun v_1 => cl (sX5_manOf h x2) fun o_2 => cl (sX5_kindOf o_2.2 x2) fun o_3 => cl (sX5_takenBy o_3.2 x2) fun o_4 => cl (hR o_4.2 x0 0) fun r_5 => br (o_2.1 = (hI o_4.2 r_5 4)) (cl (hR o_4.2 x1 1) fun r_7 => gd (inB v_1 (hN o_4.2 r_7)) <| nm (wJ o_4.2 x1 8 ((hJ o_4.2 x1 8) &&& ((hJ o_4.2 r_7 v_1.toNatClampNeg) ^^^ (-1 : Int64)))) fun h_9 => sX5_make_54 F h_9 x0 x1 x2 v_1 o_2.1 o_3.1 o_4.1) (sX5_make_54 F o_4.2 x0 x1 x2 v_1 o_2.1 o_3.1 o_4.1)
set_option maxRecDepth 20000 in
theorem moX5_make_267 {o : Hp} {F : Nat} {h : Hp} (hE : sX5_make_267 F h  = some o) : Le h o := by
  exact le_some1 hE
set_option maxRecDepth 20000 in
theorem moX5_make_216 {o : Hp} {F : Nat} {h : Hp} {x0 : Nat} {x1 : Nat} {x3 : Int32} {t0 : Int32} {t1 : Nat} (hE : sX5_make_216 F h x0 x1 x3 t0 t1 = some o) : Le h o := by
  obtain ⟨h_1, eh_1, hE⟩ := nm_e2 hE
  refine (le_I eh_1).tr ?_
  obtain ⟨h_2, eh_2, hE⟩ := nm_e2 hE
  refine (le_I eh_2).tr ?_
  obtain ⟨r_3, er_3, hE⟩ := cl_e hE
  rcases br_e hE with ⟨_, hE⟩ | ⟨_, hE⟩
  · exact moX5_make_267 hE
  · obtain ⟨o_5, eo_5, hE⟩ := cl_e hE
    refine (moX5_isRoyalHit eo_5).tr ?_
    rcases br_e hE with ⟨_, hE⟩ | ⟨_, hE⟩
    · exact moX5_make_267 hE
    · obtain ⟨r_7, er_7, hE⟩ := cl_e hE
      obtain ⟨r_8, er_8, hE⟩ := cl_e hE
      obtain ⟨g_9, hE⟩ := gd_e hE
      obtain ⟨g_10, hE⟩ := gd_e hE
      obtain ⟨h_11, eh_11, hE⟩ := nm_e2 hE
      refine (le_I eh_11).tr ?_
      exact moX5_make_267 hE
set_option maxRecDepth 20000 in
theorem moX5_make_192 {o : Hp} {F : Nat} {h : Hp} {x0 : Nat} {x1 : Nat} {x3 : Int32} {t0 : Int32} (hE : sX5_make_192 F h x0 x1 x3 t0 = some o) : Le h o := by
  rcases br_e hE with ⟨_, hE⟩ | ⟨_, hE⟩
  · exact moX5_make_216 hE
  · exact moX5_make_216 hE
set_option maxRecDepth 20000 in
theorem moX5_make_187 {o : Hp} {F : Nat} {h : Hp} {x0 : Nat} {x1 : Nat} {x3 : Int32} (hE : sX5_make_187 F h x0 x1 x3 = some o) : Le h o := by
  exact moX5_make_192 hE
set_option maxRecDepth 20000 in
theorem moX5_make_191 {o : Hp} {F : Nat} {h : Hp} {x0 : Nat} {x1 : Nat} {x3 : Int32} (hE : sX5_make_191 F h x0 x1 x3 = some o) : Le h o := by
  exact moX5_make_192 hE
set_option maxRecDepth 20000 in
theorem moX5_make_151 {o : Hp} {F : Nat} {h : Hp} {x0 : Nat} {x1 : Nat} {x2 : Int32} {x3 : Int32} {x4 : Int32} {x5 : Int32} {x6 : Int32} (hE : sX5_make_151 F h x0 x1 x2 x3 x4 x5 x6 = some o) : Le h o := by
  obtain ⟨o_1, eo_1, hE⟩ := cl_e hE
  refine (moX5_notePass eo_1).tr ?_
  rcases br_e hE with ⟨_, hE⟩ | ⟨_, hE⟩
  · rcases br_e hE with ⟨_, hE⟩ | ⟨_, hE⟩
    · exact moX5_make_187 hE
    · rcases br_e hE with ⟨_, hE⟩ | ⟨_, hE⟩
      · exact moX5_make_191 hE
      · obtain ⟨r_5, er_5, hE⟩ := cl_e hE
        obtain ⟨o_6, eo_6, hE⟩ := cl_e hE
        refine (moX1_becomesOthers eo_6).tr ?_
        rcases br_e hE with ⟨_, hE⟩ | ⟨_, hE⟩
        · exact moX5_make_191 hE
        · exact moX5_make_187 hE
  · exact moX5_make_187 hE
set_option maxRecDepth 20000 in
theorem moX5_make_102 {o : Hp} {F : Nat} {h : Hp} {x0 : Nat} {x1 : Nat} {x2 : Int32} {x3 : Int32} {x4 : Int32} {x5 : Int32} {x6 : Int32} (hE : sX5_make_102 F h x0 x1 x2 x3 x4 x5 x6 = some o) : Le h o := by
  obtain ⟨r_1, er_1, hE⟩ := cl_e hE
  obtain ⟨o_2, eo_2, hE⟩ := cl_e hE
  refine (moX1_has eo_2).tr ?_
  rcases br_e hE with ⟨_, hE⟩ | ⟨_, hE⟩
  · exact moX5_make_151 hE
  · rcases br_e hE with ⟨_, hE⟩ | ⟨_, hE⟩
    · exact moX5_make_151 hE
    · obtain ⟨r_5, er_5, hE⟩ := cl_e hE
      rcases br_e hE with ⟨_, hE⟩ | ⟨_, hE⟩
      · exact moX5_make_151 hE
      · obtain ⟨o_7, eo_7, hE⟩ := cl_e hE
        refine (moX3_inHand eo_7).tr ?_
        rcases br_e hE with ⟨_, hE⟩ | ⟨_, hE⟩
        · exact moX5_make_151 hE
        · obtain ⟨o_9, eo_9, hE⟩ := cl_e hE
          refine (moX3_addToHand eo_9).tr ?_
          exact moX5_make_151 hE
set_option maxRecDepth 20000 in
theorem moX5_make_54 {o : Hp} {F : Nat} {h : Hp} {x0 : Nat} {x1 : Nat} {x2 : Int32} {x3 : Int32} {x4 : Int32} {x5 : Int32} {x6 : Int32} (hE : sX5_make_54 F h x0 x1 x2 x3 x4 x5 x6 = some o) : Le h o := by
  obtain ⟨h_1, eh_1, hE⟩ := nm_e2 hE
  refine (le_J eh_1).tr ?_
  obtain ⟨o_2, eo_2, hE⟩ := cl_e hE
  refine (moX5_shift eo_2).tr ?_
  obtain ⟨o_3, eo_3, hE⟩ := cl_e hE
  refine (moX5_blast eo_3).tr ?_
  obtain ⟨h_4, eh_4, hE⟩ := nm_e2 hE
  refine (le_J eh_4).tr ?_
  rcases br_e hE with ⟨_, hE⟩ | ⟨_, hE⟩
  · obtain ⟨o_6, eo_6, hE⟩ := cl_e hE
    refine (moX3_addToHand eo_6).tr ?_
    exact moX5_make_102 hE
  · exact moX5_make_102 hE
set_option maxRecDepth 20000 in
theorem moX5_make {o : Hp} {F : Nat} {h : Hp} {x0 : Nat} {x1 : Nat} {x2 : Int32} (hE : sX5_make F h x0 x1 x2 = some o) : Le h o := by
  obtain ⟨v_1, ev_1, hE⟩ := nm_e2 hE
  obtain ⟨o_2, eo_2, hE⟩ := cl_e hE
  refine (moX5_manOf eo_2).tr ?_
  obtain ⟨o_3, eo_3, hE⟩ := cl_e hE
  refine (moX5_kindOf eo_3).tr ?_
  obtain ⟨o_4, eo_4, hE⟩ := cl_e hE
  refine (moX5_takenBy eo_4).tr ?_
  obtain ⟨r_5, er_5, hE⟩ := cl_e hE
  rcases br_e hE with ⟨_, hE⟩ | ⟨_, hE⟩
  · obtain ⟨r_7, er_7, hE⟩ := cl_e hE
    obtain ⟨g_8, hE⟩ := gd_e hE
    obtain ⟨h_9, eh_9, hE⟩ := nm_e2 hE
    refine (le_J eh_9).tr ?_
    exact moX5_make_54 hE
  · exact moX5_make_54 hE
set_option maxRecDepth 20000 in
theorem bX5_make_267 {p : Program} {l : Launch} {e : Env} {s : State} {m : MethodId} {args : Array Value} {below : List Frame} {meth : Method} {c : Code} {X : Ec} {h0 : Hp} {o : Hp} {F : Nat} (C : Cx X p s m args meth c RX5 cX5_make 8 none "make") {h : Hp} {H : Heap} {locs : List Loc} (hkm : Km h0 h) (hW : Wx X h H) (hZ : va_S (aA (eB X)) s.heap H locs) (ls : Array Slot) (hl : lv_has ls 8 []) (hE : sX5_make_267 F h  = some o) : W p l e (rm 3 69) s m args below meth c H locs 0 0 (MQ below (QV X h0 o) args s 0 0 (aA (eB X))) (F0 m 267 ls []) := by
  exact x_vret C rfl hW hZ hkm hE dX5_make_267
set_option maxRecDepth 20000 in
theorem bX5_make_216 {p : Program} {l : Launch} {e : Env} {s : State} {m : MethodId} {args : Array Value} {below : List Frame} {meth : Method} {c : Code} {X : Ec} {h0 : Hp} {o : Hp} {F : Nat} (C : Cx X p s m args meth c RX5 cX5_make 8 none "make") {h : Hp} {x0 : Nat} {x1 : Nat} {x3 : Int32} {t0 : Int32} {t1 : Nat} {H : Heap} {locs : List Loc} (k_x0 : hK h x0 = 5) (k_x1 : hK h x1 = 3) (k_t1 : hK h t1 = 3) (hkm : Km h0 h) (hW : Wx X h H) (hZ : va_S (aA (eB X)) s.heap H locs) (ls : Array Slot) (hl : lv_has ls 8 [(0, .ref x0), (1, .ref x1), (3, .int x3)]) (hE : sX5_make_216 F h x0 x1 x3 t0 t1 = some o) : W p l e (rm 3 69) s m args below meth c H locs 0 0 (MQ below (QV X h0 o) args s 0 0 (aA (eB X))) (F0 m 216 ls [.int t0, .ref t1]) := by
  obtain ⟨h_1, eh_1, hE⟩ := nm_e2 hE
  refine pf_X5_270 C hW hZ k_t1 eh_1 dX5_make_216 (fun _ _ hW km hZ => ?_)
  replace hkm := hkm.tr km
  replace k_x0 := km.at k_x0 (by decide)
  replace k_x1 := km.at k_x1 (by decide)
  refine lv_aload_n C.1 C.2.1 dX5_make_219 rfl (lv_at hl 1 rfl) ?_
  refine lv_iconst (v := (1 : Int32)) C.1 C.2.1 dX5_make_220 (by decide) ?_
  refine lv_iload_n C.1 C.2.1 dX5_make_221 rfl (lv_at hl 2 rfl) ?_
  refine lv_isub C.1 C.2.1 dX5_make_222 ?_
  obtain ⟨h_2, eh_2, hE⟩ := nm_e2 hE
  refine pf_X5_78 C hW hZ k_x1 eh_2 dX5_make_223 (fun _ _ hW km hZ => ?_)
  replace hkm := hkm.tr km
  replace k_x0 := km.at k_x0 (by decide)
  replace k_x1 := km.at k_x1 (by decide)
  refine lv_aload_n C.1 C.2.1 dX5_make_226 rfl (lv_at hl 0 rfl) ?_
  obtain ⟨r_3, er_3, hE⟩ := cl_e hE
  refine gf_X5_22 C hW k_x0 er_3 dX5_make_227 (fun k_r_3 => ?_)
  refine gf_X5_276 C hW k_r_3 dX5_make_230 ?_
  refine lv_if_le (tgt := 267) C.1 C.2.1 dX5_make_233 (by decide) (fun c_4 => ?_) (fun c_4 => ?_)
  · have hE := br_p hE c_4
    exact bX5_make_267 C hkm hW hZ _ (lv_sub hl [] rfl) hE
  · have hE := br_n hE c_4
    refine lv_aload_n C.1 C.2.1 dX5_make_236 rfl (lv_at hl 0 rfl) ?_
    refine lv_aload_n C.1 C.2.1 dX5_make_237 rfl (lv_at hl 1 rfl) ?_
    refine lv_aload_n C.1 C.2.1 dX5_make_238 rfl (lv_at hl 1 rfl) ?_
    refine gf_X5_78 C hW k_x1 dX5_make_239 ?_
    obtain ⟨o_5, eo_5, hE⟩ := cl_e hE
    refine x_kI (o := o_5) (z_runV (As := [.ref x1, .int (hI h_2 x1 5)]) (rest := []) C (ct_X5_isRoyalHit l X F k_x0 k_x1 eo_5) cw_X5_279 hW hZ k_x0 (by decide) rfl rfl rfl hl.1 (Nat.le_of_ble_eq_true rfl) rfl dX5_make_242 ⟨Nat.le_of_ble_eq_true rfl, Nat.le_of_ble_eq_true rfl⟩ ⟨Nat.le_refl _, Nat.le_refl _⟩) hZ (fun _ _ hW km hZ => ?_)
    replace hkm := hkm.tr km
    replace k_x0 := km.at k_x0 (by decide)
    replace k_x1 := km.at k_x1 (by decide)
    refine lv_if_eq (tgt := 267) C.1 C.2.1 dX5_make_245 (by decide) (fun c_6 => ?_) (fun c_6 => ?_)
    · have hE := br_p hE c_6
      exact bX5_make_267 C hkm hW hZ _ (lv_sub hl [] rfl) hE
    · have hE := br_n hE c_6
      refine lv_aload_n C.1 C.2.1 dX5_make_248 rfl (lv_at hl 1 rfl) ?_
      obtain ⟨r_7, er_7, hE⟩ := cl_e hE
      refine gf_X5_283 C hW k_x1 er_7 dX5_make_249 (fun k_r_7 => ?_)
      refine lv_iload_n C.1 C.2.1 dX5_make_252 rfl (lv_at hl 2 rfl) ?_
      refine lv_aload_n C.1 C.2.1 dX5_make_253 rfl (lv_at hl 1 rfl) ?_
      obtain ⟨r_8, er_8, hE⟩ := cl_e hE
      refine gf_X5_283 C hW k_x1 er_8 dX5_make_254 (fun k_r_8 => ?_)
      refine lv_iload_n C.1 C.2.1 dX5_make_257 rfl (lv_at hl 2 rfl) ?_
      obtain ⟨g_9, hE⟩ := gd_e hE
      refine y_iald C hW k_r_8 g_9 dX5_make_258 ?_
      refine lv_iconst (v := (1 : Int32)) C.1 C.2.1 dX5_make_259 (by decide) ?_
      refine lv_iadd C.1 C.2.1 dX5_make_260 ?_
      refine lv_bipush (v := (9 : Int32)) C.1 C.2.1 dX5_make_261 (by decide) ?_
      refine va_mmin C.1 C.2.1 (C.2.2.1.trans hl.1.symm) C.2.2.2.1 (C.2.2.2.2.1 _ m_1339) (C.2.2.2.2.1 _ m_1340) (C.2.2.2.2.1 _ m_3) (C.2.2.2.2.1 _ m_1341) (Nat.le_of_ble_eq_true rfl) (Nat.le_of_ble_eq_true rfl) (Nat.le_refl _) (Nat.le_refl _) dX5_make_263 ?_
      obtain ⟨g_10, hE⟩ := gd_e hE
      obtain ⟨h_11, eh_11, hE⟩ := nm_e2 hE
      refine y_iast C hW hZ k_r_7 g_10 eh_11 dX5_make_266 (fun _ _ hW km hZ => ?_)
      replace hkm := hkm.tr km
      replace k_x0 := km.at k_x0 (by decide)
      replace k_x1 := km.at k_x1 (by decide)
      exact bX5_make_267 C hkm hW hZ _ (lv_sub hl [] rfl) hE
set_option maxRecDepth 20000 in
theorem bX5_make_192 {p : Program} {l : Launch} {e : Env} {s : State} {m : MethodId} {args : Array Value} {below : List Frame} {meth : Method} {c : Code} {X : Ec} {h0 : Hp} {o : Hp} {F : Nat} (C : Cx X p s m args meth c RX5 cX5_make 8 none "make") {h : Hp} {x0 : Nat} {x1 : Nat} {x3 : Int32} {t0 : Int32} {H : Heap} {locs : List Loc} (k_x0 : hK h x0 = 5) (k_x1 : hK h x1 = 3) (hkm : Km h0 h) (hW : Wx X h H) (hZ : va_S (aA (eB X)) s.heap H locs) (ls : Array Slot) (hl : lv_has ls 8 [(0, .ref x0), (1, .ref x1), (3, .int x3)]) (hE : sX5_make_192 F h x0 x1 x3 t0 = some o) : W p l e (rm 3 69) s m args below meth c H locs 0 0 (MQ below (QV X h0 o) args s 0 0 (aA (eB X))) (F0 m 192 ls [.int t0]) := by
  refine lv_istore (lv' := [(7, .int t0), (0, .ref x0), (1, .ref x1), (3, .int x3)]) C.1 C.2.1 dX5_make_192 hl (by decide) rfl (fun ls hl => ?_)
  refine lv_aload_n C.1 C.2.1 dX5_make_194 rfl (lv_at hl 2 rfl) ?_
  refine lv_iload C.1 C.2.1 dX5_make_195 (lv_at hl 0 rfl) ?_
  refine lv_if_eq (tgt := 204) C.1 C.2.1 dX5_make_197 (by decide) (fun c_1 => ?_) (fun c_1 => ?_)
  · have hE := br_p hE c_1
    refine lv_aload_n C.1 C.2.1 dX5_make_204 rfl (lv_at hl 2 rfl) ?_
    refine gf_X5_270 C hW k_x1 dX5_make_205 ?_
    refine lv_iconst (v := (1 : Int32)) C.1 C.2.1 dX5_make_208 (by decide) ?_
    refine lv_iadd C.1 C.2.1 dX5_make_209 ?_
    refine lv_sipush (v := (200 : Int32)) C.1 C.2.1 dX5_make_210 (by decide) ?_
    refine va_mmin C.1 C.2.1 (C.2.2.1.trans hl.1.symm) C.2.2.2.1 (C.2.2.2.2.1 _ m_1339) (C.2.2.2.2.1 _ m_1340) (C.2.2.2.2.1 _ m_3) (C.2.2.2.2.1 _ m_1341) (Nat.le_of_ble_eq_true rfl) (Nat.le_of_ble_eq_true rfl) (Nat.le_refl _) (Nat.le_refl _) dX5_make_213 ?_
    exact bX5_make_216 C k_x0 k_x1 k_x1 hkm hW hZ _ (lv_sub hl [1, 2, 3] rfl) hE
  · have hE := br_n hE c_1
    refine lv_iconst (v := (0 : Int32)) C.1 C.2.1 dX5_make_200 (by decide) ?_
    refine lv_goto (tgt := 216) C.1 C.2.1 dX5_make_201 (by decide) ?_
    exact bX5_make_216 C k_x0 k_x1 k_x1 hkm hW hZ _ (lv_sub hl [1, 2, 3] rfl) hE
set_option maxRecDepth 20000 in
theorem bX5_make_187 {p : Program} {l : Launch} {e : Env} {s : State} {m : MethodId} {args : Array Value} {below : List Frame} {meth : Method} {c : Code} {X : Ec} {h0 : Hp} {o : Hp} {F : Nat} (C : Cx X p s m args meth c RX5 cX5_make 8 none "make") {h : Hp} {x0 : Nat} {x1 : Nat} {x3 : Int32} {H : Heap} {locs : List Loc} (k_x0 : hK h x0 = 5) (k_x1 : hK h x1 = 3) (hkm : Km h0 h) (hW : Wx X h H) (hZ : va_S (aA (eB X)) s.heap H locs) (ls : Array Slot) (hl : lv_has ls 8 [(0, .ref x0), (1, .ref x1), (3, .int x3)]) (hE : sX5_make_187 F h x0 x1 x3 = some o) : W p l e (rm 3 69) s m args below meth c H locs 0 0 (MQ below (QV X h0 o) args s 0 0 (aA (eB X))) (F0 m 187 ls []) := by
  refine lv_iconst (v := (1 : Int32)) C.1 C.2.1 dX5_make_187 (by decide) ?_
  refine lv_goto (tgt := 192) C.1 C.2.1 dX5_make_188 (by decide) ?_
  exact bX5_make_192 C k_x0 k_x1 hkm hW hZ _ (lv_sub hl [0, 1, 2] rfl) hE
set_option maxRecDepth 20000 in
theorem bX5_make_191 {p : Program} {l : Launch} {e : Env} {s : State} {m : MethodId} {args : Array Value} {below : List Frame} {meth : Method} {c : Code} {X : Ec} {h0 : Hp} {o : Hp} {F : Nat} (C : Cx X p s m args meth c RX5 cX5_make 8 none "make") {h : Hp} {x0 : Nat} {x1 : Nat} {x3 : Int32} {H : Heap} {locs : List Loc} (k_x0 : hK h x0 = 5) (k_x1 : hK h x1 = 3) (hkm : Km h0 h) (hW : Wx X h H) (hZ : va_S (aA (eB X)) s.heap H locs) (ls : Array Slot) (hl : lv_has ls 8 [(0, .ref x0), (1, .ref x1), (3, .int x3)]) (hE : sX5_make_191 F h x0 x1 x3 = some o) : W p l e (rm 3 69) s m args below meth c H locs 0 0 (MQ below (QV X h0 o) args s 0 0 (aA (eB X))) (F0 m 191 ls []) := by
  refine lv_iconst (v := (0 : Int32)) C.1 C.2.1 dX5_make_191 (by decide) ?_
  exact bX5_make_192 C k_x0 k_x1 hkm hW hZ _ (lv_sub hl [0, 1, 2] rfl) hE
set_option maxRecDepth 20000 in
theorem bX5_make_151 {p : Program} {l : Launch} {e : Env} {s : State} {m : MethodId} {args : Array Value} {below : List Frame} {meth : Method} {c : Code} {X : Ec} {h0 : Hp} {o : Hp} {F : Nat} (C : Cx X p s m args meth c RX5 cX5_make 8 none "make") {h : Hp} {x0 : Nat} {x1 : Nat} {x2 : Int32} {x3 : Int32} {x4 : Int32} {x5 : Int32} {x6 : Int32} {H : Heap} {locs : List Loc} (k_x0 : hK h x0 = 5) (k_x1 : hK h x1 = 3) (hkm : Km h0 h) (hW : Wx X h H) (hZ : va_S (aA (eB X)) s.heap H locs) (ls : Array Slot) (hl : lv_has ls 8 [(0, .ref x0), (1, .ref x1), (2, .int x2), (3, .int x3), (4, .int x4), (5, .int x5), (6, .int x6)]) (hE : sX5_make_151 F h x0 x1 x2 x3 x4 x5 x6 = some o) : W p l e (rm 3 69) s m args below meth c H locs 0 0 (MQ below (QV X h0 o) args s 0 0 (aA (eB X))) (F0 m 151 ls []) := by
  refine lv_aload_n C.1 C.2.1 dX5_make_151 rfl (lv_at hl 0 rfl) ?_
  refine lv_aload_n C.1 C.2.1 dX5_make_152 rfl (lv_at hl 1 rfl) ?_
  refine lv_iload_n C.1 C.2.1 dX5_make_153 rfl (lv_at hl 2 rfl) ?_
  obtain ⟨o_1, eo_1, hE⟩ := cl_e hE
  refine x_kV (o := o_1) (z_runV (As := [.ref x1, .int x2]) (rest := []) C (ct_X5_notePass l X F k_x0 k_x1 eo_1) cw_X5_267 hW hZ k_x0 (by decide) rfl rfl rfl hl.1 (Nat.le_of_ble_eq_true rfl) rfl dX5_make_154 ⟨Nat.le_of_ble_eq_true rfl, Nat.le_of_ble_eq_true rfl⟩ ⟨Nat.le_refl _, Nat.le_refl _⟩) hZ (fun _ _ hW km hZ => ?_)
  replace hkm := hkm.tr km
  replace k_x0 := km.at k_x0 (by decide)
  replace k_x1 := km.at k_x1 (by decide)
  refine lv_iload C.1 C.2.1 dX5_make_157 (lv_at hl 6 rfl) ?_
  refine lv_iconst (v := (-1 : Int32)) C.1 C.2.1 dX5_make_159 (by decide) ?_
  refine lv_icmp_ne (tgt := 187) C.1 C.2.1 dX5_make_160 (by decide) (fun c_2 => ?_) (fun c_2 => ?_)
  · have hE := br_n hE c_2
    exact bX5_make_187 C k_x0 k_x1 hkm hW hZ _ (lv_sub hl [0, 1, 3] rfl) hE
  · have hE := br_p hE c_2
    refine lv_iload C.1 C.2.1 dX5_make_163 (lv_at hl 5 rfl) ?_
    refine lv_iconst (v := (3 : Int32)) C.1 C.2.1 dX5_make_165 (by decide) ?_
    refine lv_icmp_eq (tgt := 187) C.1 C.2.1 dX5_make_166 (by decide) (fun c_3 => ?_) (fun c_3 => ?_)
    · have hE := br_p hE c_3
      exact bX5_make_187 C k_x0 k_x1 hkm hW hZ _ (lv_sub hl [0, 1, 3] rfl) hE
    · have hE := br_n hE c_3
      refine lv_iload C.1 C.2.1 dX5_make_169 (lv_at hl 5 rfl) ?_
      refine lv_iconst (v := (2 : Int32)) C.1 C.2.1 dX5_make_171 (by decide) ?_
      refine lv_icmp_eq (tgt := 191) C.1 C.2.1 dX5_make_172 (by decide) (fun c_4 => ?_) (fun c_4 => ?_)
      · have hE := br_p hE c_4
        exact bX5_make_191 C k_x0 k_x1 hkm hW hZ _ (lv_sub hl [0, 1, 3] rfl) hE
      · have hE := br_n hE c_4
        refine lv_aload_n C.1 C.2.1 dX5_make_175 rfl (lv_at hl 0 rfl) ?_
        obtain ⟨r_5, er_5, hE⟩ := cl_e hE
        refine gf_X5_22 C hW k_x0 er_5 dX5_make_176 (fun k_r_5 => ?_)
        refine lv_iload C.1 C.2.1 dX5_make_179 (lv_at hl 4 rfl) ?_
        obtain ⟨o_6, eo_6, hE⟩ := cl_e hE
        refine x_kI (o := o_6) (z_runV (As := [.int x4]) (rest := []) C (ct_X1_becomesOthers l X k_r_5 eo_6) cw_X5_212 hW hZ k_r_5 (by decide) rfl rfl rfl hl.1 (Nat.le_of_ble_eq_true rfl) rfl dX5_make_181 ⟨Nat.le_of_ble_eq_true rfl, Nat.le_of_ble_eq_true rfl⟩ ⟨Nat.le_refl _, Nat.le_refl _⟩) hZ (fun _ _ hW km hZ => ?_)
        replace hkm := hkm.tr km
        replace k_x0 := km.at k_x0 (by decide)
        replace k_x1 := km.at k_x1 (by decide)
        refine lv_if_eq (tgt := 191) C.1 C.2.1 dX5_make_184 (by decide) (fun c_7 => ?_) (fun c_7 => ?_)
        · have hE := br_p hE c_7
          exact bX5_make_191 C k_x0 k_x1 hkm hW hZ _ (lv_sub hl [0, 1, 3] rfl) hE
        · have hE := br_n hE c_7
          exact bX5_make_187 C k_x0 k_x1 hkm hW hZ _ (lv_sub hl [0, 1, 3] rfl) hE
set_option maxRecDepth 20000 in
theorem bX5_make_102 {p : Program} {l : Launch} {e : Env} {s : State} {m : MethodId} {args : Array Value} {below : List Frame} {meth : Method} {c : Code} {X : Ec} {h0 : Hp} {o : Hp} {F : Nat} (C : Cx X p s m args meth c RX5 cX5_make 8 none "make") {h : Hp} {x0 : Nat} {x1 : Nat} {x2 : Int32} {x3 : Int32} {x4 : Int32} {x5 : Int32} {x6 : Int32} {H : Heap} {locs : List Loc} (k_x0 : hK h x0 = 5) (k_x1 : hK h x1 = 3) (hkm : Km h0 h) (hW : Wx X h H) (hZ : va_S (aA (eB X)) s.heap H locs) (ls : Array Slot) (hl : lv_has ls 8 [(0, .ref x0), (1, .ref x1), (2, .int x2), (3, .int x3), (4, .int x4), (5, .int x5), (6, .int x6)]) (hE : sX5_make_102 F h x0 x1 x2 x3 x4 x5 x6 = some o) : W p l e (rm 3 69) s m args below meth c H locs 0 0 (MQ below (QV X h0 o) args s 0 0 (aA (eB X))) (F0 m 102 ls []) := by
  refine lv_aload_n C.1 C.2.1 dX5_make_102 rfl (lv_at hl 0 rfl) ?_
  obtain ⟨r_1, er_1, hE⟩ := cl_e hE
  refine gf_X5_22 C hW k_x0 er_1 dX5_make_103 (fun k_r_1 => ?_)
  refine lv_iconst (v := (1 : Int32)) C.1 C.2.1 dX5_make_106 (by decide) ?_
  obtain ⟨o_2, eo_2, hE⟩ := cl_e hE
  refine x_kI (o := o_2) (z_runV (As := [.int (1 : Int32)]) (rest := []) C (ct_X1_has l X k_r_1 eo_2) cw_X5_104 hW hZ k_r_1 (by decide) rfl rfl rfl hl.1 (Nat.le_of_ble_eq_true rfl) rfl dX5_make_107 ⟨Nat.le_of_ble_eq_true rfl, Nat.le_of_ble_eq_true rfl⟩ ⟨Nat.le_refl _, Nat.le_refl _⟩) hZ (fun _ _ hW km hZ => ?_)
  replace hkm := hkm.tr km
  replace k_x0 := km.at k_x0 (by decide)
  replace k_x1 := km.at k_x1 (by decide)
  refine lv_if_eq (tgt := 151) C.1 C.2.1 dX5_make_110 (by decide) (fun c_3 => ?_) (fun c_3 => ?_)
  · have hE := br_p hE c_3
    exact bX5_make_151 C k_x0 k_x1 hkm hW hZ _ (lv_sub hl [0, 1, 2, 3, 4, 5, 6] rfl) hE
  · have hE := br_n hE c_3
    refine lv_iload C.1 C.2.1 dX5_make_113 (lv_at hl 6 rfl) ?_
    refine lv_iconst (v := (-1 : Int32)) C.1 C.2.1 dX5_make_115 (by decide) ?_
    refine lv_icmp_eq (tgt := 151) C.1 C.2.1 dX5_make_116 (by decide) (fun c_4 => ?_) (fun c_4 => ?_)
    · have hE := br_p hE c_4
      exact bX5_make_151 C k_x0 k_x1 hkm hW hZ _ (lv_sub hl [0, 1, 2, 3, 4, 5, 6] rfl) hE
    · have hE := br_n hE c_4
      refine lv_iload C.1 C.2.1 dX5_make_119 (lv_at hl 6 rfl) ?_
      refine lv_aload_n C.1 C.2.1 dX5_make_121 rfl (lv_at hl 0 rfl) ?_
      obtain ⟨r_5, er_5, hE⟩ := cl_e hE
      refine gf_X5_22 C hW k_x0 er_5 dX5_make_122 (fun k_r_5 => ?_)
      refine gf_X5_129 C hW k_r_5 dX5_make_125 ?_
      refine lv_icmp_eq (tgt := 151) C.1 C.2.1 dX5_make_128 (by decide) (fun c_6 => ?_) (fun c_6 => ?_)
      · have hE := br_p hE c_6
        exact bX5_make_151 C k_x0 k_x1 hkm hW hZ _ (lv_sub hl [0, 1, 2, 3, 4, 5, 6] rfl) hE
      · have hE := br_n hE c_6
        refine lv_aload_n C.1 C.2.1 dX5_make_131 rfl (lv_at hl 1 rfl) ?_
        refine lv_iload_n C.1 C.2.1 dX5_make_132 rfl (lv_at hl 3 rfl) ?_
        refine lv_iload C.1 C.2.1 dX5_make_133 (lv_at hl 6 rfl) ?_
        obtain ⟨o_7, eo_7, hE⟩ := cl_e hE
        refine x_kI (o := o_7) (z_runV (As := [.int x3, .int x6]) (rest := []) C (ct_X3_inHand l X k_x1 eo_7) cw_X5_209 hW hZ k_x1 (by decide) rfl rfl rfl hl.1 (Nat.le_of_ble_eq_true rfl) rfl dX5_make_135 ⟨Nat.le_of_ble_eq_true rfl, Nat.le_of_ble_eq_true rfl⟩ ⟨Nat.le_refl _, Nat.le_refl _⟩) hZ (fun _ _ hW km hZ => ?_)
        replace hkm := hkm.tr km
        replace k_x0 := km.at k_x0 (by decide)
        replace k_x1 := km.at k_x1 (by decide)
        refine lv_bipush (v := (16 : Int32)) C.1 C.2.1 dX5_make_138 (by decide) ?_
        refine lv_icmp_ge (tgt := 151) C.1 C.2.1 dX5_make_140 (by decide) (fun c_8 => ?_) (fun c_8 => ?_)
        · have hE := br_p hE c_8
          exact bX5_make_151 C k_x0 k_x1 hkm hW hZ _ (lv_sub hl [0, 1, 2, 3, 4, 5, 6] rfl) hE
        · have hE := br_n hE c_8
          refine lv_aload_n C.1 C.2.1 dX5_make_143 rfl (lv_at hl 1 rfl) ?_
          refine lv_iload_n C.1 C.2.1 dX5_make_144 rfl (lv_at hl 3 rfl) ?_
          refine lv_iload C.1 C.2.1 dX5_make_145 (lv_at hl 6 rfl) ?_
          refine lv_iconst (v := (1 : Int32)) C.1 C.2.1 dX5_make_147 (by decide) ?_
          obtain ⟨o_9, eo_9, hE⟩ := cl_e hE
          refine x_kV (o := o_9) (z_runV (As := [.int x3, .int x6, .int (1 : Int32)]) (rest := []) C (ct_X3_addToHand l X k_x1 eo_9) cw_X5_264 hW hZ k_x1 (by decide) rfl rfl rfl hl.1 (Nat.le_of_ble_eq_true rfl) rfl dX5_make_148 ⟨Nat.le_of_ble_eq_true rfl, Nat.le_of_ble_eq_true rfl⟩ ⟨Nat.le_refl _, Nat.le_refl _⟩) hZ (fun _ _ hW km hZ => ?_)
          replace hkm := hkm.tr km
          replace k_x0 := km.at k_x0 (by decide)
          replace k_x1 := km.at k_x1 (by decide)
          exact bX5_make_151 C k_x0 k_x1 hkm hW hZ _ (lv_sub hl [0, 1, 2, 3, 4, 5, 6] rfl) hE
set_option maxRecDepth 20000 in
theorem bX5_make_54 {p : Program} {l : Launch} {e : Env} {s : State} {m : MethodId} {args : Array Value} {below : List Frame} {meth : Method} {c : Code} {X : Ec} {h0 : Hp} {o : Hp} {F : Nat} (C : Cx X p s m args meth c RX5 cX5_make 8 none "make") {h : Hp} {x0 : Nat} {x1 : Nat} {x2 : Int32} {x3 : Int32} {x4 : Int32} {x5 : Int32} {x6 : Int32} {H : Heap} {locs : List Loc} (k_x0 : hK h x0 = 5) (k_x1 : hK h x1 = 3) (hkm : Km h0 h) (hW : Wx X h H) (hZ : va_S (aA (eB X)) s.heap H locs) (ls : Array Slot) (hl : lv_has ls 8 [(0, .ref x0), (1, .ref x1), (2, .int x2), (3, .int x3), (4, .int x4), (5, .int x5), (6, .int x6)]) (hE : sX5_make_54 F h x0 x1 x2 x3 x4 x5 x6 = some o) : W p l e (rm 3 69) s m args below meth c H locs 0 0 (MQ below (QV X h0 o) args s 0 0 (aA (eB X))) (F0 m 54 ls []) := by
  refine lv_aload_n C.1 C.2.1 dX5_make_54 rfl (lv_at hl 1 rfl) ?_
  refine lv_lconst (v := (0 : Int64)) C.1 C.2.1 dX5_make_55 (by decide) ?_
  obtain ⟨h_1, eh_1, hE⟩ := nm_e2 hE
  refine pf_X5_261 C hW hZ k_x1 eh_1 dX5_make_56 (fun _ _ hW km hZ => ?_)
  replace hkm := hkm.tr km
  replace k_x0 := km.at k_x0 (by decide)
  replace k_x1 := km.at k_x1 (by decide)
  refine lv_aload_n C.1 C.2.1 dX5_make_59 rfl (lv_at hl 0 rfl) ?_
  refine lv_aload_n C.1 C.2.1 dX5_make_60 rfl (lv_at hl 1 rfl) ?_
  refine lv_iload_n C.1 C.2.1 dX5_make_61 rfl (lv_at hl 2 rfl) ?_
  obtain ⟨o_2, eo_2, hE⟩ := cl_e hE
  refine x_kV (o := o_2) (z_runV (As := [.ref x1, .int x2]) (rest := []) C (ct_X5_shift l X F k_x0 k_x1 eo_2) cw_X5_222 hW hZ k_x0 (by decide) rfl rfl rfl hl.1 (Nat.le_of_ble_eq_true rfl) rfl dX5_make_62 ⟨Nat.le_of_ble_eq_true rfl, Nat.le_of_ble_eq_true rfl⟩ ⟨Nat.le_refl _, Nat.le_refl _⟩) hZ (fun _ _ hW km hZ => ?_)
  replace hkm := hkm.tr km
  replace k_x0 := km.at k_x0 (by decide)
  replace k_x1 := km.at k_x1 (by decide)
  refine lv_aload_n C.1 C.2.1 dX5_make_65 rfl (lv_at hl 0 rfl) ?_
  refine lv_aload_n C.1 C.2.1 dX5_make_66 rfl (lv_at hl 1 rfl) ?_
  refine lv_iload_n C.1 C.2.1 dX5_make_67 rfl (lv_at hl 2 rfl) ?_
  obtain ⟨o_3, eo_3, hE⟩ := cl_e hE
  refine x_kV (o := o_3) (z_runV (As := [.ref x1, .int x2]) (rest := []) C (ct_X5_blast l X F k_x0 k_x1 eo_3) cw_X5_226 hW hZ k_x0 (by decide) rfl rfl rfl hl.1 (Nat.le_of_ble_eq_true rfl) rfl dX5_make_68 ⟨Nat.le_of_ble_eq_true rfl, Nat.le_of_ble_eq_true rfl⟩ ⟨Nat.le_refl _, Nat.le_refl _⟩) hZ (fun _ _ hW km hZ => ?_)
  replace hkm := hkm.tr km
  replace k_x0 := km.at k_x0 (by decide)
  replace k_x1 := km.at k_x1 (by decide)
  refine lv_aload_n C.1 C.2.1 dX5_make_71 rfl (lv_at hl 1 rfl) ?_
  refine lv_dup C.1 C.2.1 dX5_make_72 rfl ?_
  refine gf_X5_93 C hW k_x1 dX5_make_73 ?_
  refine lv_aload_n C.1 C.2.1 dX5_make_76 rfl (lv_at hl 1 rfl) ?_
  refine gf_X5_261 C hW k_x1 dX5_make_77 ?_
  refine lv_ldc2 (v := (-1 : Int64)) C.1 C.2.1 C.2.2.2.1 (C.2.2.2.2.1 _ m_1325) dX5_make_80 ?_
  refine lv_lxor C.1 C.2.1 dX5_make_83 ?_
  refine lv_land C.1 C.2.1 dX5_make_84 ?_
  obtain ⟨h_4, eh_4, hE⟩ := nm_e2 hE
  refine pf_X5_93 C hW hZ k_x1 eh_4 dX5_make_85 (fun _ _ hW km hZ => ?_)
  replace hkm := hkm.tr km
  replace k_x0 := km.at k_x0 (by decide)
  replace k_x1 := km.at k_x1 (by decide)
  refine lv_iload C.1 C.2.1 dX5_make_88 (lv_at hl 5 rfl) ?_
  refine lv_iconst (v := (3 : Int32)) C.1 C.2.1 dX5_make_90 (by decide) ?_
  refine lv_icmp_ne (tgt := 102) C.1 C.2.1 dX5_make_91 (by decide) (fun c_5 => ?_) (fun c_5 => ?_)
  · have hE := br_n hE c_5
    exact bX5_make_102 C k_x0 k_x1 hkm hW hZ _ (lv_sub hl [0, 1, 2, 3, 4, 5, 6] rfl) hE
  · have hE := br_p hE c_5
    refine lv_aload_n C.1 C.2.1 dX5_make_94 rfl (lv_at hl 1 rfl) ?_
    refine lv_iload_n C.1 C.2.1 dX5_make_95 rfl (lv_at hl 3 rfl) ?_
    refine lv_iload C.1 C.2.1 dX5_make_96 (lv_at hl 4 rfl) ?_
    refine lv_iconst (v := (-1 : Int32)) C.1 C.2.1 dX5_make_98 (by decide) ?_
    obtain ⟨o_6, eo_6, hE⟩ := cl_e hE
    refine x_kV (o := o_6) (z_runV (As := [.int x3, .int x4, .int (-1 : Int32)]) (rest := []) C (ct_X3_addToHand l X k_x1 eo_6) cw_X5_264 hW hZ k_x1 (by decide) rfl rfl rfl hl.1 (Nat.le_of_ble_eq_true rfl) rfl dX5_make_99 ⟨Nat.le_of_ble_eq_true rfl, Nat.le_of_ble_eq_true rfl⟩ ⟨Nat.le_refl _, Nat.le_refl _⟩) hZ (fun _ _ hW km hZ => ?_)
    replace hkm := hkm.tr km
    replace k_x0 := km.at k_x0 (by decide)
    replace k_x1 := km.at k_x1 (by decide)
    exact bX5_make_102 C k_x0 k_x1 hkm hW hZ _ (lv_sub hl [0, 1, 2, 3, 4, 5, 6] rfl) hE
set_option maxRecDepth 20000 in
theorem ct_X5_make (l : Launch) (X : Ec) (F : Nat) {h : Hp} {x0 : Nat} {x1 : Nat} {x2 : Int32} {o : Hp} (k_x0 : hK h x0 = 5) (k_x1 : hK h x1 = 3) (hE : sX5_make F h x0 x1 x2 = some o) : MetV l yX5_make cX5_make 8 none 3 69 X [.ref x0, .ref x1, .int x2] h o := by
  refine x_met (by decide) (Nat.le_of_ble_eq_true rfl) ?_
  intro p e s m below meth c ls C hl hW hZ
  have hl : lv_has ls 8 [(0, .ref x0), (1, .ref x1), (2, .int x2)] := hl
  have hkm : Km h h := Km.rf h
  refine lv_aload_n C.1 C.2.1 dX5_make_0 rfl (lv_at hl 1 rfl) ?_
  refine gf_X5_78 C hW k_x1 dX5_make_1 ?_
  obtain ⟨v_1, ev_1, hE⟩ := nm_e2 hE
  refine x_nmI ev_1 ?_
  refine lv_istore_n (lv' := [(3, .int v_1), (0, .ref x0), (1, .ref x1), (2, .int x2)]) C.1 C.2.1 dX5_make_4 rfl hl (by decide) rfl (fun ls hl => ?_)
  refine lv_iload_n C.1 C.2.1 dX5_make_5 rfl (lv_at hl 3 rfl) ?_
  obtain ⟨o_2, eo_2, hE⟩ := cl_e hE
  refine x_kI (o := o_2) (z_runS (As := [.int x2]) (rest := []) C (ct_X5_manOf l X eo_2) cw_X5_194 hW hZ rfl hl.1 (Nat.le_of_ble_eq_true rfl) rfl dX5_make_6 ⟨Nat.le_of_ble_eq_true rfl, Nat.le_of_ble_eq_true rfl⟩ ⟨Nat.le_refl _, Nat.le_refl _⟩) hZ (fun _ _ hW km hZ => ?_)
  replace hkm := hkm.tr km
  replace k_x0 := km.at k_x0 (by decide)
  replace k_x1 := km.at k_x1 (by decide)
  refine lv_istore (lv' := [(4, .int o_2.1), (3, .int v_1), (0, .ref x0), (1, .ref x1), (2, .int x2)]) C.1 C.2.1 dX5_make_9 hl (by decide) rfl (fun ls hl => ?_)
  refine lv_iload_n C.1 C.2.1 dX5_make_11 rfl (lv_at hl 4 rfl) ?_
  obtain ⟨o_3, eo_3, hE⟩ := cl_e hE
  refine x_kI (o := o_3) (z_runS (As := [.int x2]) (rest := []) C (ct_X5_kindOf l X eo_3) cw_X5_233 hW hZ rfl hl.1 (Nat.le_of_ble_eq_true rfl) rfl dX5_make_12 ⟨Nat.le_of_ble_eq_true rfl, Nat.le_of_ble_eq_true rfl⟩ ⟨Nat.le_refl _, Nat.le_refl _⟩) hZ (fun _ _ hW km hZ => ?_)
  replace hkm := hkm.tr km
  replace k_x0 := km.at k_x0 (by decide)
  replace k_x1 := km.at k_x1 (by decide)
  refine lv_istore (lv' := [(5, .int o_3.1), (4, .int o_2.1), (3, .int v_1), (0, .ref x0), (1, .ref x1), (2, .int x2)]) C.1 C.2.1 dX5_make_15 hl (by decide) rfl (fun ls hl => ?_)
  refine lv_iload_n C.1 C.2.1 dX5_make_17 rfl (lv_at hl 5 rfl) ?_
  obtain ⟨o_4, eo_4, hE⟩ := cl_e hE
  refine x_kI (o := o_4) (z_runS (As := [.int x2]) (rest := []) C (ct_X5_takenBy l X eo_4) cw_X5_181 hW hZ rfl hl.1 (Nat.le_of_ble_eq_true rfl) rfl dX5_make_18 ⟨Nat.le_of_ble_eq_true rfl, Nat.le_of_ble_eq_true rfl⟩ ⟨Nat.le_refl _, Nat.le_refl _⟩) hZ (fun _ _ hW km hZ => ?_)
  replace hkm := hkm.tr km
  replace k_x0 := km.at k_x0 (by decide)
  replace k_x1 := km.at k_x1 (by decide)
  refine lv_istore (lv' := [(6, .int o_4.1), (5, .int o_3.1), (4, .int o_2.1), (3, .int v_1), (0, .ref x0), (1, .ref x1), (2, .int x2)]) C.1 C.2.1 dX5_make_21 hl (by decide) rfl (fun ls hl => ?_)
  refine lv_iload C.1 C.2.1 dX5_make_23 (lv_at hl 2 rfl) ?_
  refine lv_aload_n C.1 C.2.1 dX5_make_25 rfl (lv_at hl 4 rfl) ?_
  obtain ⟨r_5, er_5, hE⟩ := cl_e hE
  refine gf_X5_22 C hW k_x0 er_5 dX5_make_26 (fun k_r_5 => ?_)
  refine gf_X5_129 C hW k_r_5 dX5_make_29 ?_
  refine lv_icmp_ne (tgt := 54) C.1 C.2.1 dX5_make_32 (by decide) (fun c_6 => ?_) (fun c_6 => ?_)
  · have hE := br_n hE c_6
    exact bX5_make_54 C k_x0 k_x1 hkm hW hZ _ (lv_sub hl [4, 5, 6, 3, 2, 1, 0] rfl) hE
  · have hE := br_p hE c_6
    refine lv_aload_n C.1 C.2.1 dX5_make_35 rfl (lv_at hl 5 rfl) ?_
    refine lv_dup C.1 C.2.1 dX5_make_36 rfl ?_
    refine gf_X5_93 C hW k_x1 dX5_make_37 ?_
    refine lv_aload_n C.1 C.2.1 dX5_make_40 rfl (lv_at hl 5 rfl) ?_
    obtain ⟨r_7, er_7, hE⟩ := cl_e hE
    refine gf_X5_33 C hW k_x1 er_7 dX5_make_41 (fun k_r_7 => ?_)
    refine lv_iload_n C.1 C.2.1 dX5_make_44 rfl (lv_at hl 3 rfl) ?_
    obtain ⟨g_8, hE⟩ := gd_e hE
    refine y_lald C hW k_r_7 g_8 dX5_make_45 ?_
    refine lv_ldc2 (v := (-1 : Int64)) C.1 C.2.1 C.2.2.2.1 (C.2.2.2.2.1 _ m_1325) dX5_make_46 ?_
    refine lv_lxor C.1 C.2.1 dX5_make_49 ?_
    refine lv_land C.1 C.2.1 dX5_make_50 ?_
    obtain ⟨h_9, eh_9, hE⟩ := nm_e2 hE
    refine pf_X5_93 C hW hZ k_x1 eh_9 dX5_make_51 (fun _ _ hW km hZ => ?_)
    replace hkm := hkm.tr km
    replace k_x0 := km.at k_x0 (by decide)
    replace k_x1 := km.at k_x1 (by decide)
    exact bX5_make_54 C k_x0 k_x1 hkm hW hZ _ (lv_sub hl [4, 5, 6, 3, 2, 1, 0] rfl) hE
theorem dX5_endOf_0 : decode cX5_endOf 0 = .ok (.aload_n 0, 1) := by decide +kernel
theorem dX5_endOf_1 : decode cX5_endOf 1 = .ok (.aload_n 1, 1) := by decide +kernel
theorem dX5_endOf_2 : decode cX5_endOf 2 = .ok (.invokevirtual 74, 3) := by decide +kernel
theorem dX5_endOf_5 : decode cX5_endOf 5 = .ok (.istore_n 2, 1) := by decide +kernel
theorem dX5_endOf_6 : decode cX5_endOf 6 = .ok (.iload_n 2, 1) := by decide +kernel
theorem dX5_endOf_7 : decode cX5_endOf 7 = .ok (.ifCond .eq 5, 3) := by decide +kernel
theorem dX5_endOf_10 : decode cX5_endOf 10 = .ok (.iload_n 2, 1) := by decide +kernel
theorem dX5_endOf_11 : decode cX5_endOf 11 = .ok (.ireturn, 1) := by decide +kernel
theorem dX5_endOf_12 : decode cX5_endOf 12 = .ok (.aload_n 0, 1) := by decide +kernel
theorem dX5_endOf_13 : decode cX5_endOf 13 = .ok (.aload_n 1, 1) := by decide +kernel
theorem dX5_endOf_14 : decode cX5_endOf 14 = .ok (.aload_n 0, 1) := by decide +kernel
theorem dX5_endOf_15 : decode cX5_endOf 15 = .ok (.getfield 9, 3) := by decide +kernel
theorem dX5_endOf_18 : decode cX5_endOf 18 = .ok (.iconst 1, 1) := by decide +kernel
theorem dX5_endOf_19 : decode cX5_endOf 19 = .ok (.invokevirtual 306, 3) := by decide +kernel
theorem dX5_endOf_22 : decode cX5_endOf 22 = .ok (.ifCond .le 5, 3) := by decide +kernel
theorem dX5_endOf_25 : decode cX5_endOf 25 = .ok (.iconst 0, 1) := by decide +kernel
theorem dX5_endOf_26 : decode cX5_endOf 26 = .ok (.ireturn, 1) := by decide +kernel
theorem dX5_endOf_27 : decode cX5_endOf 27 = .ok (.aload_n 0, 1) := by decide +kernel
theorem dX5_endOf_28 : decode cX5_endOf 28 = .ok (.aload_n 1, 1) := by decide +kernel
theorem dX5_endOf_29 : decode cX5_endOf 29 = .ok (.aload_n 1, 1) := by decide +kernel
theorem dX5_endOf_30 : decode cX5_endOf 30 = .ok (.getfield 78, 3) := by decide +kernel
theorem dX5_endOf_33 : decode cX5_endOf 33 = .ok (.invokevirtual 279, 3) := by decide +kernel
theorem dX5_endOf_36 : decode cX5_endOf 36 = .ok (.ifCond .eq 7, 3) := by decide +kernel
theorem dX5_endOf_39 : decode cX5_endOf 39 = .ok (.iconst 5, 1) := by decide +kernel
theorem dX5_endOf_40 : decode cX5_endOf 40 = .ok (.goto 5, 3) := by decide +kernel
theorem dX5_endOf_43 : decode cX5_endOf 43 = .ok (.bipush 6, 2) := by decide +kernel
theorem dX5_endOf_45 : decode cX5_endOf 45 = .ok (.ireturn, 1) := by decide +kernel
def sX5_endOf_45 (F : Nat) (h : Hp) (t0 : Int32) : Option (Int32 × Hp) := some (t0, h)
def sX5_endOf (F : Nat) (h : Hp) (x0 : Nat) (x1 : Nat) : Option (Int32 × Hp) := cl (sX5_earlyEnd h x0 x1) fun o_1 => br (o_1.1 = 0) (cl (hR o_1.2 x0 2) fun r_3 => cl (sX5_collect F o_1.2 x0 x1 r_3 (1 : Int32)) fun o_4 => br (o_4.1 ≤ 0) (cl (sX5_isRoyalHit F o_4.2 x0 x1 (hI o_4.2 x1 5)) fun o_6 => br (o_6.1 = 0) (sX5_endOf_45 F o_6.2 (6 : Int32)) (sX5_endOf_45 F o_6.2 (5 : Int32))) (some ((0 : Int32), o_4.2))) (some (o_1.1, o_1.2))
set_option maxRecDepth 20000 in
theorem moX5_endOf_45 {o : Int32 × Hp} {F : Nat} {h : Hp} {t0 : Int32} (hE : sX5_endOf_45 F h  t0 = some o) : Le h o.2 := by
  exact le_some2 hE
set_option maxRecDepth 20000 in
theorem moX5_endOf {o : Int32 × Hp} {F : Nat} {h : Hp} {x0 : Nat} {x1 : Nat} (hE : sX5_endOf F h x0 x1 = some o) : Le h o.2 := by
  obtain ⟨o_1, eo_1, hE⟩ := cl_e hE
  refine (moX5_earlyEnd eo_1).tr ?_
  rcases br_e hE with ⟨_, hE⟩ | ⟨_, hE⟩
  · obtain ⟨r_3, er_3, hE⟩ := cl_e hE
    obtain ⟨o_4, eo_4, hE⟩ := cl_e hE
    refine (moX5_collect eo_4).tr ?_
    rcases br_e hE with ⟨_, hE⟩ | ⟨_, hE⟩
    · obtain ⟨o_6, eo_6, hE⟩ := cl_e hE
      refine (moX5_isRoyalHit eo_6).tr ?_
      rcases br_e hE with ⟨_, hE⟩ | ⟨_, hE⟩
      · exact moX5_endOf_45 hE
      · exact moX5_endOf_45 hE
    · exact le_some2 hE
  · exact le_some2 hE
set_option maxRecDepth 20000 in
theorem bX5_endOf_45 {p : Program} {l : Launch} {e : Env} {s : State} {m : MethodId} {args : Array Value} {below : List Frame} {meth : Method} {c : Code} {X : Ec} {h0 : Hp} {o : Int32 × Hp} {F : Nat} (C : Cx X p s m args meth c RX5 cX5_endOf 3 (some .int) "endOf") {h : Hp} {t0 : Int32} {H : Heap} {locs : List Loc} (hkm : Km h0 h) (hW : Wx X h H) (hZ : va_S (aA (eB X)) s.heap H locs) (ls : Array Slot) (hl : lv_has ls 3 []) (hE : sX5_endOf_45 F h  t0 = some o) : W p l e (rm 4 139) s m args below meth c H locs 0 0 (MQ below (QI X h0 o.1 o.2) args s 0 0 (aA (eB X))) (F0 m 45 ls [.int t0]) := by
  exact x_iret C rfl rfl hW hZ hkm hE dX5_endOf_45
set_option maxRecDepth 20000 in
theorem ct_X5_endOf (l : Launch) (X : Ec) (F : Nat) {h : Hp} {x0 : Nat} {x1 : Nat} {o : Int32 × Hp} (k_x0 : hK h x0 = 5) (k_x1 : hK h x1 = 3) (hE : sX5_endOf F h x0 x1 = some o) : MetI l yX5_endOf cX5_endOf 3 (some .int) 4 139 X [.ref x0, .ref x1] h o := by
  refine x_met (by decide) (Nat.le_of_ble_eq_true rfl) ?_
  intro p e s m below meth c ls C hl hW hZ
  have hl : lv_has ls 3 [(0, .ref x0), (1, .ref x1)] := hl
  have hkm : Km h h := Km.rf h
  refine lv_aload_n C.1 C.2.1 dX5_endOf_0 rfl (lv_at hl 0 rfl) ?_
  refine lv_aload_n C.1 C.2.1 dX5_endOf_1 rfl (lv_at hl 1 rfl) ?_
  obtain ⟨o_1, eo_1, hE⟩ := cl_e hE
  refine x_kI (o := o_1) (z_runV (As := [.ref x1]) (rest := []) C (ct_X5_earlyEnd l X k_x0 k_x1 eo_1) cw_X5_74 hW hZ k_x0 (by decide) rfl rfl rfl hl.1 (Nat.le_of_ble_eq_true rfl) rfl dX5_endOf_2 ⟨Nat.le_of_ble_eq_true rfl, Nat.le_of_ble_eq_true rfl⟩ ⟨Nat.le_refl _, Nat.le_refl _⟩) hZ (fun _ _ hW km hZ => ?_)
  replace hkm := hkm.tr km
  replace k_x0 := km.at k_x0 (by decide)
  replace k_x1 := km.at k_x1 (by decide)
  refine lv_istore_n (lv' := [(2, .int o_1.1), (0, .ref x0), (1, .ref x1)]) C.1 C.2.1 dX5_endOf_5 rfl hl (by decide) rfl (fun ls hl => ?_)
  refine lv_iload_n C.1 C.2.1 dX5_endOf_6 rfl (lv_at hl 0 rfl) ?_
  refine lv_if_eq (tgt := 12) C.1 C.2.1 dX5_endOf_7 (by decide) (fun c_2 => ?_) (fun c_2 => ?_)
  · have hE := br_p hE c_2
    refine lv_aload_n C.1 C.2.1 dX5_endOf_12 rfl (lv_at hl 1 rfl) ?_
    refine lv_aload_n C.1 C.2.1 dX5_endOf_13 rfl (lv_at hl 2 rfl) ?_
    refine lv_aload_n C.1 C.2.1 dX5_endOf_14 rfl (lv_at hl 1 rfl) ?_
    obtain ⟨r_3, er_3, hE⟩ := cl_e hE
    refine gf_X5_9 C hW k_x0 er_3 dX5_endOf_15 (fun k_r_3 => ?_)
    refine lv_iconst (v := (1 : Int32)) C.1 C.2.1 dX5_endOf_18 (by decide) ?_
    obtain ⟨o_4, eo_4, hE⟩ := cl_e hE
    refine x_kI (o := o_4) (z_runV (As := [.ref x1, .ref r_3, .int (1 : Int32)]) (rest := []) C (ct_X5_collect l X F k_x0 k_x1 k_r_3 eo_4) cw_X5_306 hW hZ k_x0 (by decide) rfl rfl rfl hl.1 (Nat.le_of_ble_eq_true rfl) rfl dX5_endOf_19 ⟨Nat.le_of_ble_eq_true rfl, Nat.le_of_ble_eq_true rfl⟩ ⟨Nat.le_refl _, Nat.le_refl _⟩) hZ (fun _ _ hW km hZ => ?_)
    replace hkm := hkm.tr km
    replace k_x0 := km.at k_x0 (by decide)
    replace k_x1 := km.at k_x1 (by decide)
    refine lv_if_le (tgt := 27) C.1 C.2.1 dX5_endOf_22 (by decide) (fun c_5 => ?_) (fun c_5 => ?_)
    · have hE := br_p hE c_5
      refine lv_aload_n C.1 C.2.1 dX5_endOf_27 rfl (lv_at hl 1 rfl) ?_
      refine lv_aload_n C.1 C.2.1 dX5_endOf_28 rfl (lv_at hl 2 rfl) ?_
      refine lv_aload_n C.1 C.2.1 dX5_endOf_29 rfl (lv_at hl 2 rfl) ?_
      refine gf_X5_78 C hW k_x1 dX5_endOf_30 ?_
      obtain ⟨o_6, eo_6, hE⟩ := cl_e hE
      refine x_kI (o := o_6) (z_runV (As := [.ref x1, .int (hI o_4.2 x1 5)]) (rest := []) C (ct_X5_isRoyalHit l X F k_x0 k_x1 eo_6) cw_X5_279 hW hZ k_x0 (by decide) rfl rfl rfl hl.1 (Nat.le_of_ble_eq_true rfl) rfl dX5_endOf_33 ⟨Nat.le_of_ble_eq_true rfl, Nat.le_of_ble_eq_true rfl⟩ ⟨Nat.le_refl _, Nat.le_refl _⟩) hZ (fun _ _ hW km hZ => ?_)
      replace hkm := hkm.tr km
      replace k_x0 := km.at k_x0 (by decide)
      replace k_x1 := km.at k_x1 (by decide)
      refine lv_if_eq (tgt := 43) C.1 C.2.1 dX5_endOf_36 (by decide) (fun c_7 => ?_) (fun c_7 => ?_)
      · have hE := br_p hE c_7
        refine lv_bipush (v := (6 : Int32)) C.1 C.2.1 dX5_endOf_43 (by decide) ?_
        exact bX5_endOf_45 C hkm hW hZ _ (lv_sub hl [] rfl) hE
      · have hE := br_n hE c_7
        refine lv_iconst (v := (5 : Int32)) C.1 C.2.1 dX5_endOf_39 (by decide) ?_
        refine lv_goto (tgt := 45) C.1 C.2.1 dX5_endOf_40 (by decide) ?_
        exact bX5_endOf_45 C hkm hW hZ _ (lv_sub hl [] rfl) hE
    · have hE := br_n hE c_5
      refine lv_iconst (v := (0 : Int32)) C.1 C.2.1 dX5_endOf_25 (by decide) ?_
      exact x_iret C rfl rfl hW hZ hkm hE dX5_endOf_26
  · have hE := br_n hE c_2
    refine lv_iload_n C.1 C.2.1 dX5_endOf_10 rfl (lv_at hl 0 rfl) ?_
    exact x_iret C rfl rfl hW hZ hkm hE dX5_endOf_11
set_option maxRecDepth 100000 in
theorem m_105 : Cond.fieldLink RX5 313 (TX1 8).1 (TX1 8).2.1 (TX1 8).2.2.1 ∈ W0 := w0_in (List.mem_append_right _ (List.mem_of_getElem? (i := 105) rfl)) rfl
set_option maxRecDepth 100000 in
theorem m_108 : Cond.fieldLink RX5 310 (TX1 9).1 (TX1 9).2.1 (TX1 9).2.2.1 ∈ W0 := w0_in (List.mem_append_right _ (List.mem_of_getElem? (i := 108) rfl)) rfl
section
variable {p : Program} {l : Launch} {e : Env} {R : Room} {s : State} {m : MethodId} {args : Array Value} {below : List Frame} {meth : Method} {c : Code} {H : Heap} {locs : List Loc} {cells slots : Nat} {Q : State → Prop}
variable {cc : ByteArray} {pc : Nat} {ls : Array Slot} {rest : List Value} {X : Ec} {h h1 : Hp} {nL : Nat} {rt : Option FieldType} {mn : String}
theorem gf_X5_310 {a : Nat} (C : Cx X p s m args meth c RX5 cc nL rt mn) (hW : Wx X h H) (ha : hK h a = 1) (hdg : decode cc pc = .ok (.getfield 310, 3)) (kk : W p l e R s m args below meth c H locs cells slots Q (F0 m (pc + 3) ls (.int (hI h a 9) :: rest))) : W p l e R s m args below meth c H locs cells slots Q (F0 m pc ls (.ref a :: rest)) :=
  y_geti C hW ha i_X1 (by decide) rfl (by decide) m_108 rfl hdg kk
theorem gf_X5_313 {a : Nat} (C : Cx X p s m args meth c RX5 cc nL rt mn) (hW : Wx X h H) (ha : hK h a = 1) (hdg : decode cc pc = .ok (.getfield 313, 3)) (kk : W p l e R s m args below meth c H locs cells slots Q (F0 m (pc + 3) ls (.int (hI h a 8) :: rest))) : W p l e R s m args below meth c H locs cells slots Q (F0 m pc ls (.ref a :: rest)) :=
  y_geti C hW ha i_X1 (by decide) rfl (by decide) m_105 rfl hdg kk
end
theorem dX5_winnerOf_0 : decode cX5_winnerOf 0 = .ok (.aload_n 1, 1) := by decide +kernel
theorem dX5_winnerOf_1 : decode cX5_winnerOf 1 = .ok (.getfield 78, 3) := by decide +kernel
theorem dX5_winnerOf_4 : decode cX5_winnerOf 4 = .ok (.istore_n 3, 1) := by decide +kernel
theorem dX5_winnerOf_5 : decode cX5_winnerOf 5 = .ok (.iconst 1, 1) := by decide +kernel
theorem dX5_winnerOf_6 : decode cX5_winnerOf 6 = .ok (.iload_n 3, 1) := by decide +kernel
theorem dX5_winnerOf_7 : decode cX5_winnerOf 7 = .ok (.isub, 1) := by decide +kernel
theorem dX5_winnerOf_8 : decode cX5_winnerOf 8 = .ok (.istore 4, 2) := by decide +kernel
theorem dX5_winnerOf_10 : decode cX5_winnerOf 10 = .ok (.iload_n 2, 1) := by decide +kernel
theorem dX5_winnerOf_11 : decode cX5_winnerOf 11 = .ok (.tableswitch 169 1 6 #[37, 54, 71, 95, 133, 136], 37) := by decide +kernel
theorem dX5_winnerOf_48 : decode cX5_winnerOf 48 = .ok (.aload_n 1, 1) := by decide +kernel
theorem dX5_winnerOf_49 : decode cX5_winnerOf 49 = .ok (.getfield 60, 3) := by decide +kernel
theorem dX5_winnerOf_52 : decode cX5_winnerOf 52 = .ok (.iload_n 3, 1) := by decide +kernel
theorem dX5_winnerOf_53 : decode cX5_winnerOf 53 = .ok (.iaload, 1) := by decide +kernel
theorem dX5_winnerOf_54 : decode cX5_winnerOf 54 = .ok (.iconst (-1), 1) := by decide +kernel
theorem dX5_winnerOf_55 : decode cX5_winnerOf 55 = .ok (.if_icmp .ne 8, 3) := by decide +kernel
theorem dX5_winnerOf_58 : decode cX5_winnerOf 58 = .ok (.iload 4, 2) := by decide +kernel
theorem dX5_winnerOf_60 : decode cX5_winnerOf 60 = .ok (.goto 4, 3) := by decide +kernel
theorem dX5_winnerOf_63 : decode cX5_winnerOf 63 = .ok (.iload_n 3, 1) := by decide +kernel
theorem dX5_winnerOf_64 : decode cX5_winnerOf 64 = .ok (.ireturn, 1) := by decide +kernel
theorem dX5_winnerOf_65 : decode cX5_winnerOf 65 = .ok (.aload_n 0, 1) := by decide +kernel
theorem dX5_winnerOf_66 : decode cX5_winnerOf 66 = .ok (.aload_n 1, 1) := by decide +kernel
theorem dX5_winnerOf_67 : decode cX5_winnerOf 67 = .ok (.iload 4, 2) := by decide +kernel
theorem dX5_winnerOf_69 : decode cX5_winnerOf 69 = .ok (.invokevirtual 294, 3) := by decide +kernel
theorem dX5_winnerOf_72 : decode cX5_winnerOf 72 = .ok (.ifCond .eq 8, 3) := by decide +kernel
theorem dX5_winnerOf_75 : decode cX5_winnerOf 75 = .ok (.iload 4, 2) := by decide +kernel
theorem dX5_winnerOf_77 : decode cX5_winnerOf 77 = .ok (.goto 4, 3) := by decide +kernel
theorem dX5_winnerOf_80 : decode cX5_winnerOf 80 = .ok (.iload_n 3, 1) := by decide +kernel
theorem dX5_winnerOf_81 : decode cX5_winnerOf 81 = .ok (.ireturn, 1) := by decide +kernel
theorem dX5_winnerOf_82 : decode cX5_winnerOf 82 = .ok (.aload_n 1, 1) := by decide +kernel
theorem dX5_winnerOf_83 : decode cX5_winnerOf 83 = .ok (.getfield 283, 3) := by decide +kernel
theorem dX5_winnerOf_86 : decode cX5_winnerOf 86 = .ok (.iload 4, 2) := by decide +kernel
theorem dX5_winnerOf_88 : decode cX5_winnerOf 88 = .ok (.iaload, 1) := by decide +kernel
theorem dX5_winnerOf_89 : decode cX5_winnerOf 89 = .ok (.aload_n 0, 1) := by decide +kernel
theorem dX5_winnerOf_90 : decode cX5_winnerOf 90 = .ok (.getfield 22, 3) := by decide +kernel
theorem dX5_winnerOf_93 : decode cX5_winnerOf 93 = .ok (.getfield 276, 3) := by decide +kernel
theorem dX5_winnerOf_96 : decode cX5_winnerOf 96 = .ok (.if_icmp .lt 8, 3) := by decide +kernel
theorem dX5_winnerOf_99 : decode cX5_winnerOf 99 = .ok (.iload 4, 2) := by decide +kernel
theorem dX5_winnerOf_101 : decode cX5_winnerOf 101 = .ok (.goto 4, 3) := by decide +kernel
theorem dX5_winnerOf_104 : decode cX5_winnerOf 104 = .ok (.iload_n 3, 1) := by decide +kernel
theorem dX5_winnerOf_105 : decode cX5_winnerOf 105 = .ok (.ireturn, 1) := by decide +kernel
theorem dX5_winnerOf_106 : decode cX5_winnerOf 106 = .ok (.aload_n 0, 1) := by decide +kernel
theorem dX5_winnerOf_107 : decode cX5_winnerOf 107 = .ok (.aload_n 1, 1) := by decide +kernel
theorem dX5_winnerOf_108 : decode cX5_winnerOf 108 = .ok (.iload_n 3, 1) := by decide +kernel
theorem dX5_winnerOf_109 : decode cX5_winnerOf 109 = .ok (.invokevirtual 297, 3) := by decide +kernel
theorem dX5_winnerOf_112 : decode cX5_winnerOf 112 = .ok (.ifCond .eq 7, 3) := by decide +kernel
theorem dX5_winnerOf_115 : decode cX5_winnerOf 115 = .ok (.iload_n 3, 1) := by decide +kernel
theorem dX5_winnerOf_116 : decode cX5_winnerOf 116 = .ok (.goto 5, 3) := by decide +kernel
theorem dX5_winnerOf_119 : decode cX5_winnerOf 119 = .ok (.iload 4, 2) := by decide +kernel
theorem dX5_winnerOf_121 : decode cX5_winnerOf 121 = .ok (.istore 5, 2) := by decide +kernel
theorem dX5_winnerOf_123 : decode cX5_winnerOf 123 = .ok (.aload_n 0, 1) := by decide +kernel
theorem dX5_winnerOf_124 : decode cX5_winnerOf 124 = .ok (.getfield 22, 3) := by decide +kernel
theorem dX5_winnerOf_127 : decode cX5_winnerOf 127 = .ok (.getfield 310, 3) := by decide +kernel
theorem dX5_winnerOf_130 : decode cX5_winnerOf 130 = .ok (.iconst 1, 1) := by decide +kernel
theorem dX5_winnerOf_131 : decode cX5_winnerOf 131 = .ok (.if_icmp .ne 8, 3) := by decide +kernel
theorem dX5_winnerOf_134 : decode cX5_winnerOf 134 = .ok (.iload 5, 2) := by decide +kernel
theorem dX5_winnerOf_136 : decode cX5_winnerOf 136 = .ok (.goto 7, 3) := by decide +kernel
theorem dX5_winnerOf_139 : decode cX5_winnerOf 139 = .ok (.iconst 1, 1) := by decide +kernel
theorem dX5_winnerOf_140 : decode cX5_winnerOf 140 = .ok (.iload 5, 2) := by decide +kernel
theorem dX5_winnerOf_142 : decode cX5_winnerOf 142 = .ok (.isub, 1) := by decide +kernel
theorem dX5_winnerOf_143 : decode cX5_winnerOf 143 = .ok (.ireturn, 1) := by decide +kernel
theorem dX5_winnerOf_144 : decode cX5_winnerOf 144 = .ok (.iload 4, 2) := by decide +kernel
theorem dX5_winnerOf_146 : decode cX5_winnerOf 146 = .ok (.ireturn, 1) := by decide +kernel
theorem dX5_winnerOf_147 : decode cX5_winnerOf 147 = .ok (.aload_n 0, 1) := by decide +kernel
theorem dX5_winnerOf_148 : decode cX5_winnerOf 148 = .ok (.getfield 22, 3) := by decide +kernel
theorem dX5_winnerOf_151 : decode cX5_winnerOf 151 = .ok (.getfield 313, 3) := by decide +kernel
theorem dX5_winnerOf_154 : decode cX5_winnerOf 154 = .ok (.iconst 1, 1) := by decide +kernel
theorem dX5_winnerOf_155 : decode cX5_winnerOf 155 = .ok (.if_icmp .ne 7, 3) := by decide +kernel
theorem dX5_winnerOf_158 : decode cX5_winnerOf 158 = .ok (.iload_n 3, 1) := by decide +kernel
theorem dX5_winnerOf_159 : decode cX5_winnerOf 159 = .ok (.goto 20, 3) := by decide +kernel
theorem dX5_winnerOf_162 : decode cX5_winnerOf 162 = .ok (.aload_n 0, 1) := by decide +kernel
theorem dX5_winnerOf_163 : decode cX5_winnerOf 163 = .ok (.getfield 22, 3) := by decide +kernel
theorem dX5_winnerOf_166 : decode cX5_winnerOf 166 = .ok (.getfield 313, 3) := by decide +kernel
theorem dX5_winnerOf_169 : decode cX5_winnerOf 169 = .ok (.iconst 2, 1) := by decide +kernel
theorem dX5_winnerOf_170 : decode cX5_winnerOf 170 = .ok (.if_icmp .ne 8, 3) := by decide +kernel
theorem dX5_winnerOf_173 : decode cX5_winnerOf 173 = .ok (.iload 4, 2) := by decide +kernel
theorem dX5_winnerOf_175 : decode cX5_winnerOf 175 = .ok (.goto 4, 3) := by decide +kernel
theorem dX5_winnerOf_178 : decode cX5_winnerOf 178 = .ok (.iconst 2, 1) := by decide +kernel
theorem dX5_winnerOf_179 : decode cX5_winnerOf 179 = .ok (.ireturn, 1) := by decide +kernel
theorem dX5_winnerOf_180 : decode cX5_winnerOf 180 = .ok (.iconst (-1), 1) := by decide +kernel
theorem dX5_winnerOf_181 : decode cX5_winnerOf 181 = .ok (.ireturn, 1) := by decide +kernel
def sX5_winnerOf_64 (h : Hp) (t0 : Int32) : Option (Int32 × Hp) := some (t0, h)
def sX5_winnerOf_81 (h : Hp) (t0 : Int32) : Option (Int32 × Hp) := some (t0, h)
def sX5_winnerOf_105 (h : Hp) (t0 : Int32) : Option (Int32 × Hp) := some (t0, h)
def sX5_winnerOf_143 (h : Hp) (t0 : Int32) : Option (Int32 × Hp) := some (t0, h)
def sX5_winnerOf_121 (h : Hp) (x0 : Nat) (t0 : Int32) : Option (Int32 × Hp) := cl (hR h x0 0) fun r_1 => br ((hI h r_1 9) = (1 : Int32)) (sX5_winnerOf_143  h t0) (sX5_winnerOf_143  h ((1 : Int32) - t0))
def sX5_winnerOf_179 (h : Hp) (t0 : Int32) : Option (Int32 × Hp) := some (t0, h)
def sX5_winnerOf (h : Hp) (x0 : Nat) (x1 : Nat) (x2 : Int32) : Option (Int32 × Hp) := nm (hI h x1 5) fun v_1 => nm ((1 : Int32) - v_1) fun v_2 => br (x2 = (1 : Int32)) (cl (hR h x1 2) fun r_3 => gd (inB v_1 (hN h r_3)) <| br ((hI h r_3 v_1.toNatClampNeg) = (-1 : Int32)) (sX5_winnerOf_64  h v_2) (sX5_winnerOf_64  h v_1)) (br (x2 = (2 : Int32)) (cl (sX5_isOnHill h x0 x1 v_2) fun o_7 => br (o_7.1 = 0) (sX5_winnerOf_81  o_7.2 v_1) (sX5_winnerOf_81  o_7.2 v_2)) (br (x2 = (3 : Int32)) (cl (hR h x1 4) fun r_10 => gd (inB v_2 (hN h r_10)) <| cl (hR h x0 0) fun r_12 => br ((hI h r_10 v_2.toNatClampNeg) < (hI h r_12 7)) (sX5_winnerOf_105  h v_1) (sX5_winnerOf_105  h v_2)) (br (x2 = (4 : Int32)) (cl (sX5_isBare h x0 x1 v_1) fun o_15 => br (o_15.1 = 0) (sX5_winnerOf_121  o_15.2 x0 v_2) (sX5_winnerOf_121  o_15.2 x0 v_1)) (br (x2 = (5 : Int32)) (some (v_2, h)) (br (x2 = (6 : Int32)) (cl (hR h x0 0) fun r_19 => br ((hI h r_19 8) = (1 : Int32)) (sX5_winnerOf_179  h v_1) (cl (hR h x0 0) fun r_21 => br ((hI h r_21 8) = (2 : Int32)) (sX5_winnerOf_179  h v_2) (sX5_winnerOf_179  h (2 : Int32)))) (some ((-1 : Int32), h)))))))
set_option maxRecDepth 20000 in
theorem moX5_winnerOf_64 {o : Int32 × Hp} {h : Hp} {t0 : Int32} (hE : sX5_winnerOf_64 h  t0 = some o) : Le h o.2 := by
  exact le_some2 hE
set_option maxRecDepth 20000 in
theorem moX5_winnerOf_81 {o : Int32 × Hp} {h : Hp} {t0 : Int32} (hE : sX5_winnerOf_81 h  t0 = some o) : Le h o.2 := by
  exact le_some2 hE
set_option maxRecDepth 20000 in
theorem moX5_winnerOf_105 {o : Int32 × Hp} {h : Hp} {t0 : Int32} (hE : sX5_winnerOf_105 h  t0 = some o) : Le h o.2 := by
  exact le_some2 hE
set_option maxRecDepth 20000 in
theorem moX5_winnerOf_143 {o : Int32 × Hp} {h : Hp} {t0 : Int32} (hE : sX5_winnerOf_143 h  t0 = some o) : Le h o.2 := by
  exact le_some2 hE
set_option maxRecDepth 20000 in
theorem moX5_winnerOf_121 {o : Int32 × Hp} {h : Hp} {x0 : Nat} {t0 : Int32} (hE : sX5_winnerOf_121 h x0 t0 = some o) : Le h o.2 := by
  obtain ⟨r_1, er_1, hE⟩ := cl_e hE
  rcases br_e hE with ⟨_, hE⟩ | ⟨_, hE⟩
  · exact moX5_winnerOf_143 hE
  · exact moX5_winnerOf_143 hE
set_option maxRecDepth 20000 in
theorem moX5_winnerOf_179 {o : Int32 × Hp} {h : Hp} {t0 : Int32} (hE : sX5_winnerOf_179 h  t0 = some o) : Le h o.2 := by
  exact le_some2 hE
set_option maxRecDepth 20000 in
theorem moX5_winnerOf {o : Int32 × Hp} {h : Hp} {x0 : Nat} {x1 : Nat} {x2 : Int32} (hE : sX5_winnerOf h x0 x1 x2 = some o) : Le h o.2 := by
  obtain ⟨v_1, ev_1, hE⟩ := nm_e2 hE
  obtain ⟨v_2, ev_2, hE⟩ := nm_e2 hE
  rcases br_e hE with ⟨_, hE⟩ | ⟨_, hE⟩
  · obtain ⟨r_3, er_3, hE⟩ := cl_e hE
    obtain ⟨g_4, hE⟩ := gd_e hE
    rcases br_e hE with ⟨_, hE⟩ | ⟨_, hE⟩
    · exact moX5_winnerOf_64 hE
    · exact moX5_winnerOf_64 hE
  rcases br_e hE with ⟨_, hE⟩ | ⟨_, hE⟩
  · obtain ⟨o_7, eo_7, hE⟩ := cl_e hE
    refine (moX5_isOnHill eo_7).tr ?_
    rcases br_e hE with ⟨_, hE⟩ | ⟨_, hE⟩
    · exact moX5_winnerOf_81 hE
    · exact moX5_winnerOf_81 hE
  rcases br_e hE with ⟨_, hE⟩ | ⟨_, hE⟩
  · obtain ⟨r_10, er_10, hE⟩ := cl_e hE
    obtain ⟨g_11, hE⟩ := gd_e hE
    obtain ⟨r_12, er_12, hE⟩ := cl_e hE
    rcases br_e hE with ⟨_, hE⟩ | ⟨_, hE⟩
    · exact moX5_winnerOf_105 hE
    · exact moX5_winnerOf_105 hE
  rcases br_e hE with ⟨_, hE⟩ | ⟨_, hE⟩
  · obtain ⟨o_15, eo_15, hE⟩ := cl_e hE
    refine (moX5_isBare eo_15).tr ?_
    rcases br_e hE with ⟨_, hE⟩ | ⟨_, hE⟩
    · exact moX5_winnerOf_121 hE
    · exact moX5_winnerOf_121 hE
  rcases br_e hE with ⟨_, hE⟩ | ⟨_, hE⟩
  · exact le_some2 hE
  rcases br_e hE with ⟨_, hE⟩ | ⟨_, hE⟩
  · obtain ⟨r_19, er_19, hE⟩ := cl_e hE
    rcases br_e hE with ⟨_, hE⟩ | ⟨_, hE⟩
    · exact moX5_winnerOf_179 hE
    · obtain ⟨r_21, er_21, hE⟩ := cl_e hE
      rcases br_e hE with ⟨_, hE⟩ | ⟨_, hE⟩
      · exact moX5_winnerOf_179 hE
      · exact moX5_winnerOf_179 hE
  exact le_some2 hE
set_option maxRecDepth 20000 in
theorem bX5_winnerOf_64 {p : Program} {l : Launch} {e : Env} {s : State} {m : MethodId} {args : Array Value} {below : List Frame} {meth : Method} {c : Code} {X : Ec} {h0 : Hp} {o : Int32 × Hp} (C : Cx X p s m args meth c RX5 cX5_winnerOf 6 (some .int) "winnerOf") {h : Hp} {t0 : Int32} {H : Heap} {locs : List Loc} (hkm : Km h0 h) (hW : Wx X h H) (hZ : va_S (aA (eB X)) s.heap H locs) (ls : Array Slot) (hl : lv_has ls 6 []) (hE : sX5_winnerOf_64 h  t0 = some o) : W p l e (rm 1 22) s m args below meth c H locs 0 0 (MQ below (QI X h0 o.1 o.2) args s 0 0 (aA (eB X))) (F0 m 64 ls [.int t0]) := by
  exact x_iret C rfl rfl hW hZ hkm hE dX5_winnerOf_64
set_option maxRecDepth 20000 in
theorem bX5_winnerOf_81 {p : Program} {l : Launch} {e : Env} {s : State} {m : MethodId} {args : Array Value} {below : List Frame} {meth : Method} {c : Code} {X : Ec} {h0 : Hp} {o : Int32 × Hp} (C : Cx X p s m args meth c RX5 cX5_winnerOf 6 (some .int) "winnerOf") {h : Hp} {t0 : Int32} {H : Heap} {locs : List Loc} (hkm : Km h0 h) (hW : Wx X h H) (hZ : va_S (aA (eB X)) s.heap H locs) (ls : Array Slot) (hl : lv_has ls 6 []) (hE : sX5_winnerOf_81 h  t0 = some o) : W p l e (rm 1 22) s m args below meth c H locs 0 0 (MQ below (QI X h0 o.1 o.2) args s 0 0 (aA (eB X))) (F0 m 81 ls [.int t0]) := by
  exact x_iret C rfl rfl hW hZ hkm hE dX5_winnerOf_81
set_option maxRecDepth 20000 in
theorem bX5_winnerOf_105 {p : Program} {l : Launch} {e : Env} {s : State} {m : MethodId} {args : Array Value} {below : List Frame} {meth : Method} {c : Code} {X : Ec} {h0 : Hp} {o : Int32 × Hp} (C : Cx X p s m args meth c RX5 cX5_winnerOf 6 (some .int) "winnerOf") {h : Hp} {t0 : Int32} {H : Heap} {locs : List Loc} (hkm : Km h0 h) (hW : Wx X h H) (hZ : va_S (aA (eB X)) s.heap H locs) (ls : Array Slot) (hl : lv_has ls 6 []) (hE : sX5_winnerOf_105 h  t0 = some o) : W p l e (rm 1 22) s m args below meth c H locs 0 0 (MQ below (QI X h0 o.1 o.2) args s 0 0 (aA (eB X))) (F0 m 105 ls [.int t0]) := by
  exact x_iret C rfl rfl hW hZ hkm hE dX5_winnerOf_105
set_option maxRecDepth 20000 in
theorem bX5_winnerOf_143 {p : Program} {l : Launch} {e : Env} {s : State} {m : MethodId} {args : Array Value} {below : List Frame} {meth : Method} {c : Code} {X : Ec} {h0 : Hp} {o : Int32 × Hp} (C : Cx X p s m args meth c RX5 cX5_winnerOf 6 (some .int) "winnerOf") {h : Hp} {t0 : Int32} {H : Heap} {locs : List Loc} (hkm : Km h0 h) (hW : Wx X h H) (hZ : va_S (aA (eB X)) s.heap H locs) (ls : Array Slot) (hl : lv_has ls 6 []) (hE : sX5_winnerOf_143 h  t0 = some o) : W p l e (rm 1 22) s m args below meth c H locs 0 0 (MQ below (QI X h0 o.1 o.2) args s 0 0 (aA (eB X))) (F0 m 143 ls [.int t0]) := by
  exact x_iret C rfl rfl hW hZ hkm hE dX5_winnerOf_143
set_option maxRecDepth 20000 in
theorem bX5_winnerOf_121 {p : Program} {l : Launch} {e : Env} {s : State} {m : MethodId} {args : Array Value} {below : List Frame} {meth : Method} {c : Code} {X : Ec} {h0 : Hp} {o : Int32 × Hp} (C : Cx X p s m args meth c RX5 cX5_winnerOf 6 (some .int) "winnerOf") {h : Hp} {x0 : Nat} {t0 : Int32} {H : Heap} {locs : List Loc} (k_x0 : hK h x0 = 5) (hkm : Km h0 h) (hW : Wx X h H) (hZ : va_S (aA (eB X)) s.heap H locs) (ls : Array Slot) (hl : lv_has ls 6 [(0, .ref x0)]) (hE : sX5_winnerOf_121 h x0 t0 = some o) : W p l e (rm 1 22) s m args below meth c H locs 0 0 (MQ below (QI X h0 o.1 o.2) args s 0 0 (aA (eB X))) (F0 m 121 ls [.int t0]) := by
  refine lv_istore (lv' := [(5, .int t0), (0, .ref x0)]) C.1 C.2.1 dX5_winnerOf_121 hl (by decide) rfl (fun ls hl => ?_)
  refine lv_aload_n C.1 C.2.1 dX5_winnerOf_123 rfl (lv_at hl 1 rfl) ?_
  obtain ⟨r_1, er_1, hE⟩ := cl_e hE
  refine gf_X5_22 C hW k_x0 er_1 dX5_winnerOf_124 (fun k_r_1 => ?_)
  refine gf_X5_310 C hW k_r_1 dX5_winnerOf_127 ?_
  refine lv_iconst (v := (1 : Int32)) C.1 C.2.1 dX5_winnerOf_130 (by decide) ?_
  refine lv_icmp_ne (tgt := 139) C.1 C.2.1 dX5_winnerOf_131 (by decide) (fun c_2 => ?_) (fun c_2 => ?_)
  · have hE := br_n hE c_2
    refine lv_iconst (v := (1 : Int32)) C.1 C.2.1 dX5_winnerOf_139 (by decide) ?_
    refine lv_iload C.1 C.2.1 dX5_winnerOf_140 (lv_at hl 0 rfl) ?_
    refine lv_isub C.1 C.2.1 dX5_winnerOf_142 ?_
    exact bX5_winnerOf_143 C hkm hW hZ _ (lv_sub hl [] rfl) hE
  · have hE := br_p hE c_2
    refine lv_iload C.1 C.2.1 dX5_winnerOf_134 (lv_at hl 0 rfl) ?_
    refine lv_goto (tgt := 143) C.1 C.2.1 dX5_winnerOf_136 (by decide) ?_
    exact bX5_winnerOf_143 C hkm hW hZ _ (lv_sub hl [] rfl) hE
set_option maxRecDepth 20000 in
theorem bX5_winnerOf_179 {p : Program} {l : Launch} {e : Env} {s : State} {m : MethodId} {args : Array Value} {below : List Frame} {meth : Method} {c : Code} {X : Ec} {h0 : Hp} {o : Int32 × Hp} (C : Cx X p s m args meth c RX5 cX5_winnerOf 6 (some .int) "winnerOf") {h : Hp} {t0 : Int32} {H : Heap} {locs : List Loc} (hkm : Km h0 h) (hW : Wx X h H) (hZ : va_S (aA (eB X)) s.heap H locs) (ls : Array Slot) (hl : lv_has ls 6 []) (hE : sX5_winnerOf_179 h  t0 = some o) : W p l e (rm 1 22) s m args below meth c H locs 0 0 (MQ below (QI X h0 o.1 o.2) args s 0 0 (aA (eB X))) (F0 m 179 ls [.int t0]) := by
  exact x_iret C rfl rfl hW hZ hkm hE dX5_winnerOf_179
set_option maxRecDepth 20000 in
theorem ct_X5_winnerOf (l : Launch) (X : Ec) {h : Hp} {x0 : Nat} {x1 : Nat} {x2 : Int32} {o : Int32 × Hp} (k_x0 : hK h x0 = 5) (k_x1 : hK h x1 = 3) (hE : sX5_winnerOf h x0 x1 x2 = some o) : MetI l yX5_winnerOf cX5_winnerOf 6 (some .int) 1 22 X [.ref x0, .ref x1, .int x2] h o := by
  refine x_met (by decide) (Nat.le_of_ble_eq_true rfl) ?_
  intro p e s m below meth c ls C hl hW hZ
  have hl : lv_has ls 6 [(0, .ref x0), (1, .ref x1), (2, .int x2)] := hl
  have hkm : Km h h := Km.rf h
  refine lv_aload_n C.1 C.2.1 dX5_winnerOf_0 rfl (lv_at hl 1 rfl) ?_
  refine gf_X5_78 C hW k_x1 dX5_winnerOf_1 ?_
  obtain ⟨v_1, ev_1, hE⟩ := nm_e2 hE
  refine x_nmI ev_1 ?_
  refine lv_istore_n (lv' := [(3, .int v_1), (0, .ref x0), (1, .ref x1), (2, .int x2)]) C.1 C.2.1 dX5_winnerOf_4 rfl hl (by decide) rfl (fun ls hl => ?_)
  refine lv_iconst (v := (1 : Int32)) C.1 C.2.1 dX5_winnerOf_5 (by decide) ?_
  refine lv_iload_n C.1 C.2.1 dX5_winnerOf_6 rfl (lv_at hl 0 rfl) ?_
  refine lv_isub C.1 C.2.1 dX5_winnerOf_7 ?_
  obtain ⟨v_2, ev_2, hE⟩ := nm_e2 hE
  refine x_nmI ev_2 ?_
  refine lv_istore (lv' := [(4, .int v_2), (3, .int v_1), (0, .ref x0), (1, .ref x1), (2, .int x2)]) C.1 C.2.1 dX5_winnerOf_8 hl (by decide) rfl (fun ls hl => ?_)
  refine lv_iload_n C.1 C.2.1 dX5_winnerOf_10 rfl (lv_at hl 4 rfl) ?_
  by_cases c_6 : x2 = (1 : Int32)
  · have hE := br_p hE c_6
    refine lv_tableIn (off := 37) (tgt := 48) C.1 C.2.1 dX5_winnerOf_11 (by rw [c_6]; decide) (by rw [c_6]; decide) (by rw [c_6]; rfl) (by decide) ?_
    refine lv_aload_n C.1 C.2.1 dX5_winnerOf_48 rfl (lv_at hl 3 rfl) ?_
    obtain ⟨r_3, er_3, hE⟩ := cl_e hE
    refine gf_X5_60 C hW k_x1 er_3 dX5_winnerOf_49 (fun k_r_3 => ?_)
    refine lv_iload_n C.1 C.2.1 dX5_winnerOf_52 rfl (lv_at hl 1 rfl) ?_
    obtain ⟨g_4, hE⟩ := gd_e hE
    refine y_iald C hW k_r_3 g_4 dX5_winnerOf_53 ?_
    refine lv_iconst (v := (-1 : Int32)) C.1 C.2.1 dX5_winnerOf_54 (by decide) ?_
    refine lv_icmp_ne (tgt := 63) C.1 C.2.1 dX5_winnerOf_55 (by decide) (fun c_5 => ?_) (fun c_5 => ?_)
    · have hE := br_n hE c_5
      refine lv_iload_n C.1 C.2.1 dX5_winnerOf_63 rfl (lv_at hl 1 rfl) ?_
      exact bX5_winnerOf_64 C hkm hW hZ _ (lv_sub hl [] rfl) hE
    · have hE := br_p hE c_5
      refine lv_iload C.1 C.2.1 dX5_winnerOf_58 (lv_at hl 0 rfl) ?_
      refine lv_goto (tgt := 64) C.1 C.2.1 dX5_winnerOf_60 (by decide) ?_
      exact bX5_winnerOf_64 C hkm hW hZ _ (lv_sub hl [] rfl) hE
  have hE := br_n hE c_6
  by_cases c_9 : x2 = (2 : Int32)
  · have hE := br_p hE c_9
    refine lv_tableIn (off := 54) (tgt := 65) C.1 C.2.1 dX5_winnerOf_11 (by rw [c_9]; decide) (by rw [c_9]; decide) (by rw [c_9]; rfl) (by decide) ?_
    refine lv_aload_n C.1 C.2.1 dX5_winnerOf_65 rfl (lv_at hl 2 rfl) ?_
    refine lv_aload_n C.1 C.2.1 dX5_winnerOf_66 rfl (lv_at hl 3 rfl) ?_
    refine lv_iload C.1 C.2.1 dX5_winnerOf_67 (lv_at hl 0 rfl) ?_
    obtain ⟨o_7, eo_7, hE⟩ := cl_e hE
    refine x_kI (o := o_7) (z_runV (As := [.ref x1, .int v_2]) (rest := []) C (ct_X5_isOnHill l X k_x0 k_x1 eo_7) cw_X5_294 hW hZ k_x0 (by decide) rfl rfl rfl hl.1 (Nat.le_of_ble_eq_true rfl) rfl dX5_winnerOf_69 ⟨Nat.le_of_ble_eq_true rfl, Nat.le_of_ble_eq_true rfl⟩ ⟨Nat.le_refl _, Nat.le_refl _⟩) hZ (fun _ _ hW km hZ => ?_)
    replace hkm := hkm.tr km
    replace k_x0 := km.at k_x0 (by decide)
    replace k_x1 := km.at k_x1 (by decide)
    refine lv_if_eq (tgt := 80) C.1 C.2.1 dX5_winnerOf_72 (by decide) (fun c_8 => ?_) (fun c_8 => ?_)
    · have hE := br_p hE c_8
      refine lv_iload_n C.1 C.2.1 dX5_winnerOf_80 rfl (lv_at hl 1 rfl) ?_
      exact bX5_winnerOf_81 C hkm hW hZ _ (lv_sub hl [] rfl) hE
    · have hE := br_n hE c_8
      refine lv_iload C.1 C.2.1 dX5_winnerOf_75 (lv_at hl 0 rfl) ?_
      refine lv_goto (tgt := 81) C.1 C.2.1 dX5_winnerOf_77 (by decide) ?_
      exact bX5_winnerOf_81 C hkm hW hZ _ (lv_sub hl [] rfl) hE
  have hE := br_n hE c_9
  by_cases c_14 : x2 = (3 : Int32)
  · have hE := br_p hE c_14
    refine lv_tableIn (off := 71) (tgt := 82) C.1 C.2.1 dX5_winnerOf_11 (by rw [c_14]; decide) (by rw [c_14]; decide) (by rw [c_14]; rfl) (by decide) ?_
    refine lv_aload_n C.1 C.2.1 dX5_winnerOf_82 rfl (lv_at hl 3 rfl) ?_
    obtain ⟨r_10, er_10, hE⟩ := cl_e hE
    refine gf_X5_283 C hW k_x1 er_10 dX5_winnerOf_83 (fun k_r_10 => ?_)
    refine lv_iload C.1 C.2.1 dX5_winnerOf_86 (lv_at hl 0 rfl) ?_
    obtain ⟨g_11, hE⟩ := gd_e hE
    refine y_iald C hW k_r_10 g_11 dX5_winnerOf_88 ?_
    refine lv_aload_n C.1 C.2.1 dX5_winnerOf_89 rfl (lv_at hl 2 rfl) ?_
    obtain ⟨r_12, er_12, hE⟩ := cl_e hE
    refine gf_X5_22 C hW k_x0 er_12 dX5_winnerOf_90 (fun k_r_12 => ?_)
    refine gf_X5_276 C hW k_r_12 dX5_winnerOf_93 ?_
    refine lv_icmp_lt (tgt := 104) C.1 C.2.1 dX5_winnerOf_96 (by decide) (fun c_13 => ?_) (fun c_13 => ?_)
    · have hE := br_p hE c_13
      refine lv_iload_n C.1 C.2.1 dX5_winnerOf_104 rfl (lv_at hl 1 rfl) ?_
      exact bX5_winnerOf_105 C hkm hW hZ _ (lv_sub hl [] rfl) hE
    · have hE := br_n hE c_13
      refine lv_iload C.1 C.2.1 dX5_winnerOf_99 (lv_at hl 0 rfl) ?_
      refine lv_goto (tgt := 105) C.1 C.2.1 dX5_winnerOf_101 (by decide) ?_
      exact bX5_winnerOf_105 C hkm hW hZ _ (lv_sub hl [] rfl) hE
  have hE := br_n hE c_14
  by_cases c_17 : x2 = (4 : Int32)
  · have hE := br_p hE c_17
    refine lv_tableIn (off := 95) (tgt := 106) C.1 C.2.1 dX5_winnerOf_11 (by rw [c_17]; decide) (by rw [c_17]; decide) (by rw [c_17]; rfl) (by decide) ?_
    refine lv_aload_n C.1 C.2.1 dX5_winnerOf_106 rfl (lv_at hl 2 rfl) ?_
    refine lv_aload_n C.1 C.2.1 dX5_winnerOf_107 rfl (lv_at hl 3 rfl) ?_
    refine lv_iload_n C.1 C.2.1 dX5_winnerOf_108 rfl (lv_at hl 1 rfl) ?_
    obtain ⟨o_15, eo_15, hE⟩ := cl_e hE
    refine x_kI (o := o_15) (z_runV (As := [.ref x1, .int v_1]) (rest := []) C (ct_X5_isBare l X k_x0 k_x1 eo_15) cw_X5_297 hW hZ k_x0 (by decide) rfl rfl rfl hl.1 (Nat.le_of_ble_eq_true rfl) rfl dX5_winnerOf_109 ⟨Nat.le_of_ble_eq_true rfl, Nat.le_of_ble_eq_true rfl⟩ ⟨Nat.le_refl _, Nat.le_refl _⟩) hZ (fun _ _ hW km hZ => ?_)
    replace hkm := hkm.tr km
    replace k_x0 := km.at k_x0 (by decide)
    replace k_x1 := km.at k_x1 (by decide)
    refine lv_if_eq (tgt := 119) C.1 C.2.1 dX5_winnerOf_112 (by decide) (fun c_16 => ?_) (fun c_16 => ?_)
    · have hE := br_p hE c_16
      refine lv_iload C.1 C.2.1 dX5_winnerOf_119 (lv_at hl 0 rfl) ?_
      exact bX5_winnerOf_121 C k_x0 hkm hW hZ _ (lv_sub hl [2] rfl) hE
    · have hE := br_n hE c_16
      refine lv_iload_n C.1 C.2.1 dX5_winnerOf_115 rfl (lv_at hl 1 rfl) ?_
      refine lv_goto (tgt := 121) C.1 C.2.1 dX5_winnerOf_116 (by decide) ?_
      exact bX5_winnerOf_121 C k_x0 hkm hW hZ _ (lv_sub hl [2] rfl) hE
  have hE := br_n hE c_17
  by_cases c_18 : x2 = (5 : Int32)
  · have hE := br_p hE c_18
    refine lv_tableIn (off := 133) (tgt := 144) C.1 C.2.1 dX5_winnerOf_11 (by rw [c_18]; decide) (by rw [c_18]; decide) (by rw [c_18]; rfl) (by decide) ?_
    refine lv_iload C.1 C.2.1 dX5_winnerOf_144 (lv_at hl 0 rfl) ?_
    exact x_iret C rfl rfl hW hZ hkm hE dX5_winnerOf_146
  have hE := br_n hE c_18
  by_cases c_23 : x2 = (6 : Int32)
  · have hE := br_p hE c_23
    refine lv_tableIn (off := 136) (tgt := 147) C.1 C.2.1 dX5_winnerOf_11 (by rw [c_23]; decide) (by rw [c_23]; decide) (by rw [c_23]; rfl) (by decide) ?_
    refine lv_aload_n C.1 C.2.1 dX5_winnerOf_147 rfl (lv_at hl 2 rfl) ?_
    obtain ⟨r_19, er_19, hE⟩ := cl_e hE
    refine gf_X5_22 C hW k_x0 er_19 dX5_winnerOf_148 (fun k_r_19 => ?_)
    refine gf_X5_313 C hW k_r_19 dX5_winnerOf_151 ?_
    refine lv_iconst (v := (1 : Int32)) C.1 C.2.1 dX5_winnerOf_154 (by decide) ?_
    refine lv_icmp_ne (tgt := 162) C.1 C.2.1 dX5_winnerOf_155 (by decide) (fun c_20 => ?_) (fun c_20 => ?_)
    · have hE := br_n hE c_20
      refine lv_aload_n C.1 C.2.1 dX5_winnerOf_162 rfl (lv_at hl 2 rfl) ?_
      obtain ⟨r_21, er_21, hE⟩ := cl_e hE
      refine gf_X5_22 C hW k_x0 er_21 dX5_winnerOf_163 (fun k_r_21 => ?_)
      refine gf_X5_313 C hW k_r_21 dX5_winnerOf_166 ?_
      refine lv_iconst (v := (2 : Int32)) C.1 C.2.1 dX5_winnerOf_169 (by decide) ?_
      refine lv_icmp_ne (tgt := 178) C.1 C.2.1 dX5_winnerOf_170 (by decide) (fun c_22 => ?_) (fun c_22 => ?_)
      · have hE := br_n hE c_22
        refine lv_iconst (v := (2 : Int32)) C.1 C.2.1 dX5_winnerOf_178 (by decide) ?_
        exact bX5_winnerOf_179 C hkm hW hZ _ (lv_sub hl [] rfl) hE
      · have hE := br_p hE c_22
        refine lv_iload C.1 C.2.1 dX5_winnerOf_173 (lv_at hl 0 rfl) ?_
        refine lv_goto (tgt := 179) C.1 C.2.1 dX5_winnerOf_175 (by decide) ?_
        exact bX5_winnerOf_179 C hkm hW hZ _ (lv_sub hl [] rfl) hE
    · have hE := br_p hE c_20
      refine lv_iload_n C.1 C.2.1 dX5_winnerOf_158 rfl (lv_at hl 1 rfl) ?_
      refine lv_goto (tgt := 179) C.1 C.2.1 dX5_winnerOf_159 (by decide) ?_
      exact bX5_winnerOf_179 C hkm hW hZ _ (lv_sub hl [] rfl) hE
  have hE := br_n hE c_23
  refine lv_tableOut (tgt := 180) C.1 C.2.1 dX5_winnerOf_11 (by have zc_6 := lv_neT (a := 1) c_6 (by decide); have zc_9 := lv_neT (a := 2) c_9 (by decide); have zc_14 := lv_neT (a := 3) c_14 (by decide); have zc_17 := lv_neT (a := 4) c_17 (by decide); have zc_18 := lv_neT (a := 5) c_18 (by decide); have zc_23 := lv_neT (a := 6) c_23 (by decide); omega) (by decide) ?_
  refine lv_iconst (v := (-1 : Int32)) C.1 C.2.1 dX5_winnerOf_180 (by decide) ?_
  exact x_iret C rfl rfl hW hZ hkm hE dX5_winnerOf_181
theorem dX5_seenBy_0 : decode cX5_seenBy 0 = .ok (.aload_n 1, 1) := by decide +kernel
theorem dX5_seenBy_1 : decode cX5_seenBy 1 = .ok (.getfield 33, 3) := by decide +kernel
theorem dX5_seenBy_4 : decode cX5_seenBy 4 = .ok (.iload_n 2, 1) := by decide +kernel
theorem dX5_seenBy_5 : decode cX5_seenBy 5 = .ok (.laload, 1) := by decide +kernel
theorem dX5_seenBy_6 : decode cX5_seenBy 6 = .ok (.lstore_n 3, 1) := by decide +kernel
theorem dX5_seenBy_7 : decode cX5_seenBy 7 = .ok (.lload_n 3, 1) := by decide +kernel
theorem dX5_seenBy_8 : decode cX5_seenBy 8 = .ok (.lstore 5, 2) := by decide +kernel
theorem dX5_seenBy_10 : decode cX5_seenBy 10 = .ok (.iconst 0, 1) := by decide +kernel
theorem dX5_seenBy_11 : decode cX5_seenBy 11 = .ok (.istore 7, 2) := by decide +kernel
theorem dX5_seenBy_13 : decode cX5_seenBy 13 = .ok (.iload 7, 2) := by decide +kernel
theorem dX5_seenBy_15 : decode cX5_seenBy 15 = .ok (.bipush 64, 2) := by decide +kernel
theorem dX5_seenBy_17 : decode cX5_seenBy 17 = .ok (.if_icmp .ge 121, 3) := by decide +kernel
theorem dX5_seenBy_20 : decode cX5_seenBy 20 = .ok (.lload 5, 2) := by decide +kernel
theorem dX5_seenBy_22 : decode cX5_seenBy 22 = .ok (.lconst 0, 1) := by decide +kernel
theorem dX5_seenBy_23 : decode cX5_seenBy 23 = .ok (.lcmp, 1) := by decide +kernel
theorem dX5_seenBy_24 : decode cX5_seenBy 24 = .ok (.ifCond .eq 114, 3) := by decide +kernel
theorem dX5_seenBy_27 : decode cX5_seenBy 27 = .ok (.lload 5, 2) := by decide +kernel
theorem dX5_seenBy_29 : decode cX5_seenBy 29 = .ok (.invokestatic 85, 3) := by decide +kernel
theorem dX5_seenBy_32 : decode cX5_seenBy 32 = .ok (.istore 8, 2) := by decide +kernel
theorem dX5_seenBy_34 : decode cX5_seenBy 34 = .ok (.lload 5, 2) := by decide +kernel
theorem dX5_seenBy_36 : decode cX5_seenBy 36 = .ok (.lload 5, 2) := by decide +kernel
theorem dX5_seenBy_38 : decode cX5_seenBy 38 = .ok (.lconst 1, 1) := by decide +kernel
theorem dX5_seenBy_39 : decode cX5_seenBy 39 = .ok (.lsub, 1) := by decide +kernel
theorem dX5_seenBy_40 : decode cX5_seenBy 40 = .ok (.land, 1) := by decide +kernel
theorem dX5_seenBy_41 : decode cX5_seenBy 41 = .ok (.lstore 5, 2) := by decide +kernel
theorem dX5_seenBy_43 : decode cX5_seenBy 43 = .ok (.aload_n 0, 1) := by decide +kernel
theorem dX5_seenBy_44 : decode cX5_seenBy 44 = .ok (.getfield 26, 3) := by decide +kernel
theorem dX5_seenBy_47 : decode cX5_seenBy 47 = .ok (.getfield 51, 3) := by decide +kernel
theorem dX5_seenBy_50 : decode cX5_seenBy 50 = .ok (.aload_n 1, 1) := by decide +kernel
theorem dX5_seenBy_51 : decode cX5_seenBy 51 = .ok (.getfield 42, 3) := by decide +kernel
theorem dX5_seenBy_54 : decode cX5_seenBy 54 = .ok (.iload 8, 2) := by decide +kernel
theorem dX5_seenBy_56 : decode cX5_seenBy 56 = .ok (.baload, 1) := by decide +kernel
theorem dX5_seenBy_57 : decode cX5_seenBy 57 = .ok (.iload 8, 2) := by decide +kernel
theorem dX5_seenBy_59 : decode cX5_seenBy 59 = .ok (.bipush 64, 2) := by decide +kernel
theorem dX5_seenBy_61 : decode cX5_seenBy 61 = .ok (.invokestatic 142, 3) := by decide +kernel
theorem dX5_seenBy_64 : decode cX5_seenBy 64 = .ok (.iaload, 1) := by decide +kernel
theorem dX5_seenBy_65 : decode cX5_seenBy 65 = .ok (.istore 9, 2) := by decide +kernel
theorem dX5_seenBy_67 : decode cX5_seenBy 67 = .ok (.aload_n 0, 1) := by decide +kernel
theorem dX5_seenBy_68 : decode cX5_seenBy 68 = .ok (.getfield 26, 3) := by decide +kernel
theorem dX5_seenBy_71 : decode cX5_seenBy 71 = .ok (.getfield 51, 3) := by decide +kernel
theorem dX5_seenBy_74 : decode cX5_seenBy 74 = .ok (.aload_n 1, 1) := by decide +kernel
theorem dX5_seenBy_75 : decode cX5_seenBy 75 = .ok (.getfield 42, 3) := by decide +kernel
theorem dX5_seenBy_78 : decode cX5_seenBy 78 = .ok (.iload 8, 2) := by decide +kernel
theorem dX5_seenBy_80 : decode cX5_seenBy 80 = .ok (.baload, 1) := by decide +kernel
theorem dX5_seenBy_81 : decode cX5_seenBy 81 = .ok (.iload 8, 2) := by decide +kernel
theorem dX5_seenBy_83 : decode cX5_seenBy 83 = .ok (.iconst 0, 1) := by decide +kernel
theorem dX5_seenBy_84 : decode cX5_seenBy 84 = .ok (.invokestatic 142, 3) := by decide +kernel
theorem dX5_seenBy_87 : decode cX5_seenBy 87 = .ok (.iaload, 1) := by decide +kernel
theorem dX5_seenBy_88 : decode cX5_seenBy 88 = .ok (.istore 10, 2) := by decide +kernel
theorem dX5_seenBy_90 : decode cX5_seenBy 90 = .ok (.iload 10, 2) := by decide +kernel
theorem dX5_seenBy_92 : decode cX5_seenBy 92 = .ok (.iload 9, 2) := by decide +kernel
theorem dX5_seenBy_94 : decode cX5_seenBy 94 = .ok (.if_icmp .ge 38, 3) := by decide +kernel
theorem dX5_seenBy_97 : decode cX5_seenBy 97 = .ok (.aload_n 0, 1) := by decide +kernel
theorem dX5_seenBy_98 : decode cX5_seenBy 98 = .ok (.aload_n 1, 1) := by decide +kernel
theorem dX5_seenBy_99 : decode cX5_seenBy 99 = .ok (.iload 10, 2) := by decide +kernel
theorem dX5_seenBy_101 : decode cX5_seenBy 101 = .ok (.iload_n 2, 1) := by decide +kernel
theorem dX5_seenBy_102 : decode cX5_seenBy 102 = .ok (.invokevirtual 153, 3) := by decide +kernel
theorem dX5_seenBy_105 : decode cX5_seenBy 105 = .ok (.ifCond .eq 21, 3) := by decide +kernel
theorem dX5_seenBy_108 : decode cX5_seenBy 108 = .ok (.lload_n 3, 1) := by decide +kernel
theorem dX5_seenBy_109 : decode cX5_seenBy 109 = .ok (.lconst 1, 1) := by decide +kernel
theorem dX5_seenBy_110 : decode cX5_seenBy 110 = .ok (.aload_n 0, 1) := by decide +kernel
theorem dX5_seenBy_111 : decode cX5_seenBy 111 = .ok (.getfield 26, 3) := by decide +kernel
theorem dX5_seenBy_114 : decode cX5_seenBy 114 = .ok (.getfield 54, 3) := by decide +kernel
theorem dX5_seenBy_117 : decode cX5_seenBy 117 = .ok (.iload 10, 2) := by decide +kernel
theorem dX5_seenBy_119 : decode cX5_seenBy 119 = .ok (.iaload, 1) := by decide +kernel
theorem dX5_seenBy_120 : decode cX5_seenBy 120 = .ok (.bipush 63, 2) := by decide +kernel
theorem dX5_seenBy_122 : decode cX5_seenBy 122 = .ok (.iand, 1) := by decide +kernel
theorem dX5_seenBy_123 : decode cX5_seenBy 123 = .ok (.lshl, 1) := by decide +kernel
theorem dX5_seenBy_124 : decode cX5_seenBy 124 = .ok (.lor, 1) := by decide +kernel
theorem dX5_seenBy_125 : decode cX5_seenBy 125 = .ok (.lstore_n 3, 1) := by decide +kernel
theorem dX5_seenBy_126 : decode cX5_seenBy 126 = .ok (.iinc 10 1, 3) := by decide +kernel
theorem dX5_seenBy_129 : decode cX5_seenBy 129 = .ok (.goto (-39), 3) := by decide +kernel
theorem dX5_seenBy_132 : decode cX5_seenBy 132 = .ok (.iinc 7 1, 3) := by decide +kernel
theorem dX5_seenBy_135 : decode cX5_seenBy 135 = .ok (.goto (-122), 3) := by decide +kernel
theorem dX5_seenBy_138 : decode cX5_seenBy 138 = .ok (.lload_n 3, 1) := by decide +kernel
theorem dX5_seenBy_139 : decode cX5_seenBy 139 = .ok (.lreturn, 1) := by decide +kernel
def sX5_seenBy_138 (F : Nat) (h : Hp) (x3 : Int64) : Option (Int64 × Hp) := some (x3, h)
def sX5_seenBy_126 (F : Nat) (k_13 : Hp → Nat → Nat → Int32 → Int64 → Int64 → Int32 → Option (Int64 × Hp)) (k_90 : Hp → Nat → Nat → Int32 → Int64 → Int64 → Int32 → Int32 → Int32 → Option (Int64 × Hp)) (h : Hp) (x0 : Nat) (x1 : Nat) (x2 : Int32) (x3 : Int64) (x5 : Int64) (x7 : Int32) (x9 : Int32) (x10 : Int32) : Option (Int64 × Hp) := nm (x10 + (1 : Int32)) fun v_1 => k_90 h x0 x1 x2 x3 x5 x7 x9 v_1
def sX5_seenBy_90 (F : Nat) (k_13 : Hp → Nat → Nat → Int32 → Int64 → Int64 → Int32 → Option (Int64 × Hp)) : Nat → Hp → Nat → Nat → Int32 → Int64 → Int64 → Int32 → Int32 → Int32 → Option (Int64 × Hp)
  | 0, _, _, _, _, _, _, _, _, _ => none
  | f + 1, h, x0, x1, x2, x3, x5, x7, x9, x10 => br (x9 ≤ x10) (nm (x7 + (1 : Int32)) fun v_2 => k_13 h x0 x1 x2 x3 x5 v_2) (cl (sX5_leads h x0 x1 x10 x2) fun o_3 => br (o_3.1 = 0) (sX5_seenBy_126 F k_13 (sX5_seenBy_90 F k_13 f) o_3.2 x0 x1 x2 x3 x5 x7 x9 x10) (cl (hR o_3.2 x0 1) fun r_5 => cl (hR o_3.2 r_5 1) fun r_6 => gd (inB x10 (hN o_3.2 r_6)) <| nm (x3 ||| ((1 : Int64) <<< (((hI o_3.2 r_6 x10.toNatClampNeg) &&& (63 : Int32)).toInt64 &&& 63))) fun v_8 => sX5_seenBy_126 F k_13 (sX5_seenBy_90 F k_13 f) o_3.2 x0 x1 x2 v_8 x5 x7 x9 x10))
def sX5_seenBy_13 (F : Nat) : Nat → Hp → Nat → Nat → Int32 → Int64 → Int64 → Int32 → Option (Int64 × Hp)
  | 0, _, _, _, _, _, _, _ => none
  | f + 1, h, x0, x1, x2, x3, x5, x7 => br ((64 : Int32) ≤ x7) (sX5_seenBy_138 F h x3) (br ((lg_cmp x5 (0 : Int64)) = 0) (sX5_seenBy_138 F h x3) (cl (sX11_lowest h x5) fun o_3 => nm (x5 &&& (x5 - (1 : Int64))) fun v_4 => cl (hR o_3.2 x0 1) fun r_5 => cl (hR o_3.2 r_5 0) fun r_6 => cl (hR o_3.2 x1 0) fun r_7 => gd (inB o_3.1 (hN o_3.2 r_7)) <| cl (sX10_cell o_3.2 (hI o_3.2 r_7 o_3.1.toNatClampNeg) o_3.1 (64 : Int32)) fun o_9 => gd (inB o_9.1 (hN o_9.2 r_6)) <| nm (hI o_9.2 r_6 o_9.1.toNatClampNeg) fun v_11 => cl (hR o_9.2 x0 1) fun r_12 => cl (hR o_9.2 r_12 0) fun r_13 => cl (hR o_9.2 x1 0) fun r_14 => gd (inB o_3.1 (hN o_9.2 r_14)) <| cl (sX10_cell o_9.2 (hI o_9.2 r_14 o_3.1.toNatClampNeg) o_3.1 (0 : Int32)) fun o_16 => gd (inB o_16.1 (hN o_16.2 r_13)) <| nm (hI o_16.2 r_13 o_16.1.toNatClampNeg) fun v_18 => sX5_seenBy_90 F (sX5_seenBy_13 F f) F o_16.2 x0 x1 x2 x3 v_4 x7 v_11 v_18))
def sX5_seenBy (F : Nat) (h : Hp) (x0 : Nat) (x1 : Nat) (x2 : Int32) : Option (Int64 × Hp) := cl (hR h x1 1) fun r_1 => gd (inB x2 (hN h r_1)) <| nm (hJ h r_1 x2.toNatClampNeg) fun v_3 => sX5_seenBy_13 F F h x0 x1 x2 v_3 v_3 (0 : Int32)
set_option maxRecDepth 20000 in
theorem moX5_seenBy_138 {o : Int64 × Hp} {F : Nat} {h : Hp} {x3 : Int64} (hE : sX5_seenBy_138 F h x3 = some o) : Le h o.2 := by
  exact le_some2 hE
set_option maxRecDepth 20000 in
theorem moX5_seenBy_126 {o : Int64 × Hp} {k_13 : Hp → Nat → Nat → Int32 → Int64 → Int64 → Int32 → Option (Int64 × Hp)} {k_90 : Hp → Nat → Nat → Int32 → Int64 → Int64 → Int32 → Int32 → Int32 → Option (Int64 × Hp)} {F : Nat} (mk_13 : ∀ (h : Hp) (x0 : Nat) (x1 : Nat) (x2 : Int32) (x3 : Int64) (x5 : Int64) (x7 : Int32), k_13 h x0 x1 x2 x3 x5 x7 = some o → Le h o.2) (mk_90 : ∀ (h : Hp) (x0 : Nat) (x1 : Nat) (x2 : Int32) (x3 : Int64) (x5 : Int64) (x7 : Int32) (x9 : Int32) (x10 : Int32), k_90 h x0 x1 x2 x3 x5 x7 x9 x10 = some o → Le h o.2) {h : Hp} {x0 : Nat} {x1 : Nat} {x2 : Int32} {x3 : Int64} {x5 : Int64} {x7 : Int32} {x9 : Int32} {x10 : Int32} (hE : sX5_seenBy_126 F k_13 k_90 h x0 x1 x2 x3 x5 x7 x9 x10 = some o) : Le h o.2 := by
  obtain ⟨v_1, ev_1, hE⟩ := nm_e2 hE
  exact mk_90 _ _ _ _ _ _ _ _ _ hE
set_option maxRecDepth 20000 in
theorem moX5_seenBy_90 {o : Int64 × Hp} {k_13 : Hp → Nat → Nat → Int32 → Int64 → Int64 → Int32 → Option (Int64 × Hp)} {F : Nat} (mk_13 : ∀ (h : Hp) (x0 : Nat) (x1 : Nat) (x2 : Int32) (x3 : Int64) (x5 : Int64) (x7 : Int32), k_13 h x0 x1 x2 x3 x5 x7 = some o → Le h o.2) : ∀ (f : Nat) {h : Hp} {x0 : Nat} {x1 : Nat} {x2 : Int32} {x3 : Int64} {x5 : Int64} {x7 : Int32} {x9 : Int32} {x10 : Int32}, sX5_seenBy_90 F k_13 f h x0 x1 x2 x3 x5 x7 x9 x10 = some o → Le h o.2 := by
  intro f
  induction f with
  | zero =>
    intro h x0 x1 x2 x3 x5 x7 x9 x10 hE
    rw [sX5_seenBy_90] at hE
    cases hE
  | succ f ih =>
    intro h x0 x1 x2 x3 x5 x7 x9 x10 hE
    rw [sX5_seenBy_90] at hE
    have mk_90 : ∀ (h : Hp) (x0 : Nat) (x1 : Nat) (x2 : Int32) (x3 : Int64) (x5 : Int64) (x7 : Int32) (x9 : Int32) (x10 : Int32), sX5_seenBy_90 F k_13 f h x0 x1 x2 x3 x5 x7 x9 x10 = some o → Le h o.2 := fun h x0 x1 x2 x3 x5 x7 x9 x10 hE => ih hE
    rcases br_e hE with ⟨_, hE⟩ | ⟨_, hE⟩
    · obtain ⟨v_2, ev_2, hE⟩ := nm_e2 hE
      exact mk_13 _ _ _ _ _ _ _ hE
    · obtain ⟨o_3, eo_3, hE⟩ := cl_e hE
      refine (moX5_leads eo_3).tr ?_
      rcases br_e hE with ⟨_, hE⟩ | ⟨_, hE⟩
      · exact moX5_seenBy_126 mk_13 mk_90 hE
      · obtain ⟨r_5, er_5, hE⟩ := cl_e hE
        obtain ⟨r_6, er_6, hE⟩ := cl_e hE
        obtain ⟨g_7, hE⟩ := gd_e hE
        obtain ⟨v_8, ev_8, hE⟩ := nm_e2 hE
        exact moX5_seenBy_126 mk_13 mk_90 hE
set_option maxRecDepth 20000 in
theorem moX5_seenBy_13 {o : Int64 × Hp} {F : Nat} : ∀ (f : Nat) {h : Hp} {x0 : Nat} {x1 : Nat} {x2 : Int32} {x3 : Int64} {x5 : Int64} {x7 : Int32}, sX5_seenBy_13 F f h x0 x1 x2 x3 x5 x7 = some o → Le h o.2 := by
  intro f
  induction f with
  | zero =>
    intro h x0 x1 x2 x3 x5 x7 hE
    rw [sX5_seenBy_13] at hE
    cases hE
  | succ f ih =>
    intro h x0 x1 x2 x3 x5 x7 hE
    rw [sX5_seenBy_13] at hE
    have mk_13 : ∀ (h : Hp) (x0 : Nat) (x1 : Nat) (x2 : Int32) (x3 : Int64) (x5 : Int64) (x7 : Int32), sX5_seenBy_13 F f h x0 x1 x2 x3 x5 x7 = some o → Le h o.2 := fun h x0 x1 x2 x3 x5 x7 hE => ih hE
    rcases br_e hE with ⟨_, hE⟩ | ⟨_, hE⟩
    · exact moX5_seenBy_138 hE
    · rcases br_e hE with ⟨_, hE⟩ | ⟨_, hE⟩
      · exact moX5_seenBy_138 hE
      · obtain ⟨o_3, eo_3, hE⟩ := cl_e hE
        refine (moX11_lowest eo_3).tr ?_
        obtain ⟨v_4, ev_4, hE⟩ := nm_e2 hE
        obtain ⟨r_5, er_5, hE⟩ := cl_e hE
        obtain ⟨r_6, er_6, hE⟩ := cl_e hE
        obtain ⟨r_7, er_7, hE⟩ := cl_e hE
        obtain ⟨g_8, hE⟩ := gd_e hE
        obtain ⟨o_9, eo_9, hE⟩ := cl_e hE
        refine (moX10_cell eo_9).tr ?_
        obtain ⟨g_10, hE⟩ := gd_e hE
        obtain ⟨v_11, ev_11, hE⟩ := nm_e2 hE
        obtain ⟨r_12, er_12, hE⟩ := cl_e hE
        obtain ⟨r_13, er_13, hE⟩ := cl_e hE
        obtain ⟨r_14, er_14, hE⟩ := cl_e hE
        obtain ⟨g_15, hE⟩ := gd_e hE
        obtain ⟨o_16, eo_16, hE⟩ := cl_e hE
        refine (moX10_cell eo_16).tr ?_
        obtain ⟨g_17, hE⟩ := gd_e hE
        obtain ⟨v_18, ev_18, hE⟩ := nm_e2 hE
        exact moX5_seenBy_90 mk_13 _ hE
set_option maxRecDepth 20000 in
theorem moX5_seenBy {o : Int64 × Hp} {F : Nat} {h : Hp} {x0 : Nat} {x1 : Nat} {x2 : Int32} (hE : sX5_seenBy F h x0 x1 x2 = some o) : Le h o.2 := by
  obtain ⟨r_1, er_1, hE⟩ := cl_e hE
  obtain ⟨g_2, hE⟩ := gd_e hE
  obtain ⟨v_3, ev_3, hE⟩ := nm_e2 hE
  exact moX5_seenBy_13 _ hE
set_option maxRecDepth 20000 in
theorem bX5_seenBy_138 {p : Program} {l : Launch} {e : Env} {s : State} {m : MethodId} {args : Array Value} {below : List Frame} {meth : Method} {c : Code} {X : Ec} {h0 : Hp} {o : Int64 × Hp} {F : Nat} (C : Cx X p s m args meth c RX5 cX5_seenBy 11 (some .long) "seenBy") {h : Hp} {x3 : Int64} {H : Heap} {locs : List Loc} (hkm : Km h0 h) (hW : Wx X h H) (hZ : va_S (aA (eB X)) s.heap H locs) (ls : Array Slot) (hl : lv_has ls 11 [(3, .long x3)]) (hE : sX5_seenBy_138 F h x3 = some o) : W p l e (rm 2 52) s m args below meth c H locs 0 0 (MQ below (QJ X h0 o.1 o.2) args s 0 0 (aA (eB X))) (F0 m 138 ls []) := by
  refine lv_lload_n C.1 C.2.1 dX5_seenBy_138 rfl (lv_at hl 0 rfl) ?_
  exact x_lret C rfl hW hZ hkm hE dX5_seenBy_139
set_option maxRecDepth 20000 in
theorem bX5_seenBy_126 {p : Program} {l : Launch} {e : Env} {s : State} {m : MethodId} {args : Array Value} {below : List Frame} {meth : Method} {c : Code} {X : Ec} {h0 : Hp} {o : Int64 × Hp} {k_13 : Hp → Nat → Nat → Int32 → Int64 → Int64 → Int32 → Option (Int64 × Hp)} {k_90 : Hp → Nat → Nat → Int32 → Int64 → Int64 → Int32 → Int32 → Int32 → Option (Int64 × Hp)} {F : Nat} (C : Cx X p s m args meth c RX5 cX5_seenBy 11 (some .long) "seenBy") (hk_13 : ∀ (h : Hp) (x0 : Nat) (x1 : Nat) (x2 : Int32) (x3 : Int64) (x5 : Int64) (x7 : Int32) (H : Heap) (locs : List Loc), hK h x0 = 5 → hK h x1 = 3 → Km h0 h → Wx X h H → va_S (aA (eB X)) s.heap H locs → ∀ (ls : Array Slot), lv_has ls 11 [(0, .ref x0), (1, .ref x1), (2, .int x2), (3, .long x3), (5, .long x5), (7, .int x7)] → k_13 h x0 x1 x2 x3 x5 x7 = some o → W p l e (rm 2 52) s m args below meth c H locs 0 0 (MQ below (QJ X h0 o.1 o.2) args s 0 0 (aA (eB X))) (F0 m 13 ls [])) (hk_90 : ∀ (h : Hp) (x0 : Nat) (x1 : Nat) (x2 : Int32) (x3 : Int64) (x5 : Int64) (x7 : Int32) (x9 : Int32) (x10 : Int32) (H : Heap) (locs : List Loc), hK h x0 = 5 → hK h x1 = 3 → Km h0 h → Wx X h H → va_S (aA (eB X)) s.heap H locs → ∀ (ls : Array Slot), lv_has ls 11 [(0, .ref x0), (1, .ref x1), (2, .int x2), (3, .long x3), (5, .long x5), (7, .int x7), (9, .int x9), (10, .int x10)] → k_90 h x0 x1 x2 x3 x5 x7 x9 x10 = some o → W p l e (rm 2 52) s m args below meth c H locs 0 0 (MQ below (QJ X h0 o.1 o.2) args s 0 0 (aA (eB X))) (F0 m 90 ls [])) {h : Hp} {x0 : Nat} {x1 : Nat} {x2 : Int32} {x3 : Int64} {x5 : Int64} {x7 : Int32} {x9 : Int32} {x10 : Int32} {H : Heap} {locs : List Loc} (k_x0 : hK h x0 = 5) (k_x1 : hK h x1 = 3) (hkm : Km h0 h) (hW : Wx X h H) (hZ : va_S (aA (eB X)) s.heap H locs) (ls : Array Slot) (hl : lv_has ls 11 [(0, .ref x0), (1, .ref x1), (2, .int x2), (3, .long x3), (5, .long x5), (7, .int x7), (9, .int x9), (10, .int x10)]) (hE : sX5_seenBy_126 F k_13 k_90 h x0 x1 x2 x3 x5 x7 x9 x10 = some o) : W p l e (rm 2 52) s m args below meth c H locs 0 0 (MQ below (QJ X h0 o.1 o.2) args s 0 0 (aA (eB X))) (F0 m 126 ls []) := by
  obtain ⟨v_1, ev_1, hE⟩ := nm_e2 hE
  refine lv_iinc (v := v_1) (lv' := [(10, .int v_1), (0, .ref x0), (1, .ref x1), (2, .int x2), (3, .long x3), (5, .long x5), (7, .int x7), (9, .int x9)]) C.1 C.2.1 dX5_seenBy_126 hl (k := 7) rfl (by rw [ev_1]; rfl) (by decide) rfl (fun ls hl => ?_)
  refine lv_goto (tgt := 90) C.1 C.2.1 dX5_seenBy_129 (by decide) ?_
  exact hk_90 _ _ _ _ _ _ _ _ _ _ _ k_x0 k_x1 hkm hW hZ _ (lv_sub hl [1, 2, 3, 4, 5, 6, 7, 0] rfl) hE
set_option maxRecDepth 20000 in
theorem bX5_seenBy_90 {p : Program} {l : Launch} {e : Env} {s : State} {m : MethodId} {args : Array Value} {below : List Frame} {meth : Method} {c : Code} {X : Ec} {h0 : Hp} {o : Int64 × Hp} {k_13 : Hp → Nat → Nat → Int32 → Int64 → Int64 → Int32 → Option (Int64 × Hp)} {F : Nat} (C : Cx X p s m args meth c RX5 cX5_seenBy 11 (some .long) "seenBy") (hk_13 : ∀ (h : Hp) (x0 : Nat) (x1 : Nat) (x2 : Int32) (x3 : Int64) (x5 : Int64) (x7 : Int32) (H : Heap) (locs : List Loc), hK h x0 = 5 → hK h x1 = 3 → Km h0 h → Wx X h H → va_S (aA (eB X)) s.heap H locs → ∀ (ls : Array Slot), lv_has ls 11 [(0, .ref x0), (1, .ref x1), (2, .int x2), (3, .long x3), (5, .long x5), (7, .int x7)] → k_13 h x0 x1 x2 x3 x5 x7 = some o → W p l e (rm 2 52) s m args below meth c H locs 0 0 (MQ below (QJ X h0 o.1 o.2) args s 0 0 (aA (eB X))) (F0 m 13 ls [])) : ∀ (f : Nat) {h : Hp} {x0 : Nat} {x1 : Nat} {x2 : Int32} {x3 : Int64} {x5 : Int64} {x7 : Int32} {x9 : Int32} {x10 : Int32} {H : Heap} {locs : List Loc} (k_x0 : hK h x0 = 5) (k_x1 : hK h x1 = 3), Km h0 h → Wx X h H → va_S (aA (eB X)) s.heap H locs → ∀ (ls : Array Slot), lv_has ls 11 [(0, .ref x0), (1, .ref x1), (2, .int x2), (3, .long x3), (5, .long x5), (7, .int x7), (9, .int x9), (10, .int x10)] → sX5_seenBy_90 F k_13 f h x0 x1 x2 x3 x5 x7 x9 x10 = some o → W p l e (rm 2 52) s m args below meth c H locs 0 0 (MQ below (QJ X h0 o.1 o.2) args s 0 0 (aA (eB X))) (F0 m 90 ls []) := by
  intro f
  induction f with
  | zero =>
    intro h x0 x1 x2 x3 x5 x7 x9 x10 H locs k_x0 k_x1 hkm hW hZ ls hl hE
    rw [sX5_seenBy_90] at hE
    cases hE
  | succ f ih =>
    intro h x0 x1 x2 x3 x5 x7 x9 x10 H locs k_x0 k_x1 hkm hW hZ ls hl hE
    rw [sX5_seenBy_90] at hE
    have hk_90 : ∀ (h : Hp) (x0 : Nat) (x1 : Nat) (x2 : Int32) (x3 : Int64) (x5 : Int64) (x7 : Int32) (x9 : Int32) (x10 : Int32) (H : Heap) (locs : List Loc), hK h x0 = 5 → hK h x1 = 3 → Km h0 h → Wx X h H → va_S (aA (eB X)) s.heap H locs → ∀ (ls : Array Slot), lv_has ls 11 [(0, .ref x0), (1, .ref x1), (2, .int x2), (3, .long x3), (5, .long x5), (7, .int x7), (9, .int x9), (10, .int x10)] → sX5_seenBy_90 F k_13 f h x0 x1 x2 x3 x5 x7 x9 x10 = some o → W p l e (rm 2 52) s m args below meth c H locs 0 0 (MQ below (QJ X h0 o.1 o.2) args s 0 0 (aA (eB X))) (F0 m 90 ls []) := fun h x0 x1 x2 x3 x5 x7 x9 x10 H locs k_x0 k_x1 a b c ls hl hE => ih k_x0 k_x1 a b c ls hl hE
    refine lv_iload C.1 C.2.1 dX5_seenBy_90 (lv_at hl 7 rfl) ?_
    refine lv_iload C.1 C.2.1 dX5_seenBy_92 (lv_at hl 6 rfl) ?_
    refine lv_icmp_ge (tgt := 132) C.1 C.2.1 dX5_seenBy_94 (by decide) (fun c_1 => ?_) (fun c_1 => ?_)
    · have hE := br_p hE c_1
      obtain ⟨v_2, ev_2, hE⟩ := nm_e2 hE
      refine lv_iinc (v := v_2) (lv' := [(7, .int v_2), (0, .ref x0), (1, .ref x1), (2, .int x2), (3, .long x3), (5, .long x5), (9, .int x9), (10, .int x10)]) C.1 C.2.1 dX5_seenBy_132 hl (k := 5) rfl (by rw [ev_2]; rfl) (by decide) rfl (fun ls hl => ?_)
      refine lv_goto (tgt := 13) C.1 C.2.1 dX5_seenBy_135 (by decide) ?_
      exact hk_13 _ _ _ _ _ _ _ _ _ k_x0 k_x1 hkm hW hZ _ (lv_sub hl [1, 2, 3, 4, 5, 0] rfl) hE
    · have hE := br_n hE c_1
      refine lv_aload_n C.1 C.2.1 dX5_seenBy_97 rfl (lv_at hl 0 rfl) ?_
      refine lv_aload_n C.1 C.2.1 dX5_seenBy_98 rfl (lv_at hl 1 rfl) ?_
      refine lv_iload C.1 C.2.1 dX5_seenBy_99 (lv_at hl 7 rfl) ?_
      refine lv_iload_n C.1 C.2.1 dX5_seenBy_101 rfl (lv_at hl 2 rfl) ?_
      obtain ⟨o_3, eo_3, hE⟩ := cl_e hE
      refine x_kI (o := o_3) (z_runV (As := [.ref x1, .int x10, .int x2]) (rest := []) C (ct_X5_leads l X k_x0 k_x1 eo_3) cw_X5_153 hW hZ k_x0 (by decide) rfl rfl rfl hl.1 (Nat.le_of_ble_eq_true rfl) rfl dX5_seenBy_102 ⟨Nat.le_of_ble_eq_true rfl, Nat.le_of_ble_eq_true rfl⟩ ⟨Nat.le_refl _, Nat.le_refl _⟩) hZ (fun _ _ hW km hZ => ?_)
      replace hkm := hkm.tr km
      replace k_x0 := km.at k_x0 (by decide)
      replace k_x1 := km.at k_x1 (by decide)
      refine lv_if_eq (tgt := 126) C.1 C.2.1 dX5_seenBy_105 (by decide) (fun c_4 => ?_) (fun c_4 => ?_)
      · have hE := br_p hE c_4
        exact bX5_seenBy_126 C hk_13 hk_90 k_x0 k_x1 hkm hW hZ _ (lv_sub hl [0, 1, 2, 3, 4, 5, 6, 7] rfl) hE
      · have hE := br_n hE c_4
        refine lv_lload_n C.1 C.2.1 dX5_seenBy_108 rfl (lv_at hl 3 rfl) ?_
        refine lv_lconst (v := (1 : Int64)) C.1 C.2.1 dX5_seenBy_109 (by decide) ?_
        refine lv_aload_n C.1 C.2.1 dX5_seenBy_110 rfl (lv_at hl 0 rfl) ?_
        obtain ⟨r_5, er_5, hE⟩ := cl_e hE
        refine gf_X5_26 C hW k_x0 er_5 dX5_seenBy_111 (fun k_r_5 => ?_)
        obtain ⟨r_6, er_6, hE⟩ := cl_e hE
        refine gf_X5_54 C hW k_r_5 er_6 dX5_seenBy_114 (fun k_r_6 => ?_)
        refine lv_iload C.1 C.2.1 dX5_seenBy_117 (lv_at hl 7 rfl) ?_
        obtain ⟨g_7, hE⟩ := gd_e hE
        refine y_iald C hW k_r_6 g_7 dX5_seenBy_119 ?_
        refine lv_bipush (v := (63 : Int32)) C.1 C.2.1 dX5_seenBy_120 (by decide) ?_
        refine lv_iand C.1 C.2.1 dX5_seenBy_122 ?_
        refine lv_lshl C.1 C.2.1 dX5_seenBy_123 rfl ?_
        refine lv_lor C.1 C.2.1 dX5_seenBy_124 ?_
        obtain ⟨v_8, ev_8, hE⟩ := nm_e2 hE
        refine x_nmJ ev_8 ?_
        refine lv_lstore_n (lv' := [(3, .long v_8), (0, .ref x0), (1, .ref x1), (2, .int x2), (5, .long x5), (7, .int x7), (9, .int x9), (10, .int x10)]) C.1 C.2.1 dX5_seenBy_125 rfl hl (by decide) rfl (fun ls hl => ?_)
        exact bX5_seenBy_126 C hk_13 hk_90 k_x0 k_x1 hkm hW hZ _ (lv_sub hl [1, 2, 3, 0, 4, 5, 6, 7] rfl) hE
set_option maxRecDepth 20000 in
theorem bX5_seenBy_13 {p : Program} {l : Launch} {e : Env} {s : State} {m : MethodId} {args : Array Value} {below : List Frame} {meth : Method} {c : Code} {X : Ec} {h0 : Hp} {o : Int64 × Hp} {F : Nat} (C : Cx X p s m args meth c RX5 cX5_seenBy 11 (some .long) "seenBy") : ∀ (f : Nat) {h : Hp} {x0 : Nat} {x1 : Nat} {x2 : Int32} {x3 : Int64} {x5 : Int64} {x7 : Int32} {H : Heap} {locs : List Loc} (k_x0 : hK h x0 = 5) (k_x1 : hK h x1 = 3), Km h0 h → Wx X h H → va_S (aA (eB X)) s.heap H locs → ∀ (ls : Array Slot), lv_has ls 11 [(0, .ref x0), (1, .ref x1), (2, .int x2), (3, .long x3), (5, .long x5), (7, .int x7)] → sX5_seenBy_13 F f h x0 x1 x2 x3 x5 x7 = some o → W p l e (rm 2 52) s m args below meth c H locs 0 0 (MQ below (QJ X h0 o.1 o.2) args s 0 0 (aA (eB X))) (F0 m 13 ls []) := by
  intro f
  induction f with
  | zero =>
    intro h x0 x1 x2 x3 x5 x7 H locs k_x0 k_x1 hkm hW hZ ls hl hE
    rw [sX5_seenBy_13] at hE
    cases hE
  | succ f ih =>
    intro h x0 x1 x2 x3 x5 x7 H locs k_x0 k_x1 hkm hW hZ ls hl hE
    rw [sX5_seenBy_13] at hE
    have hk_13 : ∀ (h : Hp) (x0 : Nat) (x1 : Nat) (x2 : Int32) (x3 : Int64) (x5 : Int64) (x7 : Int32) (H : Heap) (locs : List Loc), hK h x0 = 5 → hK h x1 = 3 → Km h0 h → Wx X h H → va_S (aA (eB X)) s.heap H locs → ∀ (ls : Array Slot), lv_has ls 11 [(0, .ref x0), (1, .ref x1), (2, .int x2), (3, .long x3), (5, .long x5), (7, .int x7)] → sX5_seenBy_13 F f h x0 x1 x2 x3 x5 x7 = some o → W p l e (rm 2 52) s m args below meth c H locs 0 0 (MQ below (QJ X h0 o.1 o.2) args s 0 0 (aA (eB X))) (F0 m 13 ls []) := fun h x0 x1 x2 x3 x5 x7 H locs k_x0 k_x1 a b c ls hl hE => ih k_x0 k_x1 a b c ls hl hE
    refine lv_iload C.1 C.2.1 dX5_seenBy_13 (lv_at hl 5 rfl) ?_
    refine lv_bipush (v := (64 : Int32)) C.1 C.2.1 dX5_seenBy_15 (by decide) ?_
    refine lv_icmp_ge (tgt := 138) C.1 C.2.1 dX5_seenBy_17 (by decide) (fun c_1 => ?_) (fun c_1 => ?_)
    · have hE := br_p hE c_1
      exact bX5_seenBy_138 C hkm hW hZ _ (lv_sub hl [3] rfl) hE
    · have hE := br_n hE c_1
      refine lv_lload C.1 C.2.1 dX5_seenBy_20 (lv_at hl 4 rfl) ?_
      refine lv_lconst (v := (0 : Int64)) C.1 C.2.1 dX5_seenBy_22 (by decide) ?_
      refine W.lcmp C.1 C.2.1 dX5_seenBy_23 ?_
      refine lv_if_eq (tgt := 138) C.1 C.2.1 dX5_seenBy_24 (by decide) (fun c_2 => ?_) (fun c_2 => ?_)
      · have hE := br_p hE c_2
        exact bX5_seenBy_138 C hkm hW hZ _ (lv_sub hl [3] rfl) hE
      · have hE := br_n hE c_2
        refine lv_lload C.1 C.2.1 dX5_seenBy_27 (lv_at hl 4 rfl) ?_
        obtain ⟨o_3, eo_3, hE⟩ := cl_e hE
        refine x_kI (o := o_3) (x_runSN (As := [.long x5]) (rest := []) C (ct_X11_lowest l X eo_3) cn_X5_85 hW hZ rfl hl.1 (Nat.le_of_ble_eq_true rfl) rfl dX5_seenBy_29 ⟨Nat.le_of_ble_eq_true rfl, Nat.le_of_ble_eq_true rfl⟩ ⟨Nat.le_refl _, Nat.le_refl _⟩) hZ (fun _ _ hW km hZ => ?_)
        replace hkm := hkm.tr km
        replace k_x0 := km.at k_x0 (by decide)
        replace k_x1 := km.at k_x1 (by decide)
        refine lv_istore (lv' := [(8, .int o_3.1), (0, .ref x0), (1, .ref x1), (2, .int x2), (3, .long x3), (5, .long x5), (7, .int x7)]) C.1 C.2.1 dX5_seenBy_32 hl (by decide) rfl (fun ls hl => ?_)
        refine lv_lload C.1 C.2.1 dX5_seenBy_34 (lv_at hl 5 rfl) ?_
        refine lv_lload C.1 C.2.1 dX5_seenBy_36 (lv_at hl 5 rfl) ?_
        refine lv_lconst (v := (1 : Int64)) C.1 C.2.1 dX5_seenBy_38 (by decide) ?_
        refine lv_lsub C.1 C.2.1 dX5_seenBy_39 ?_
        refine lv_land C.1 C.2.1 dX5_seenBy_40 ?_
        obtain ⟨v_4, ev_4, hE⟩ := nm_e2 hE
        refine x_nmJ ev_4 ?_
        refine lv_lstore (lv' := [(5, .long v_4), (8, .int o_3.1), (0, .ref x0), (1, .ref x1), (2, .int x2), (3, .long x3), (7, .int x7)]) C.1 C.2.1 dX5_seenBy_41 hl (by decide) rfl (fun ls hl => ?_)
        refine lv_aload_n C.1 C.2.1 dX5_seenBy_43 rfl (lv_at hl 2 rfl) ?_
        obtain ⟨r_5, er_5, hE⟩ := cl_e hE
        refine gf_X5_26 C hW k_x0 er_5 dX5_seenBy_44 (fun k_r_5 => ?_)
        obtain ⟨r_6, er_6, hE⟩ := cl_e hE
        refine gf_X5_51 C hW k_r_5 er_6 dX5_seenBy_47 (fun k_r_6 => ?_)
        refine lv_aload_n C.1 C.2.1 dX5_seenBy_50 rfl (lv_at hl 3 rfl) ?_
        obtain ⟨r_7, er_7, hE⟩ := cl_e hE
        refine gf_X5_42 C hW k_x1 er_7 dX5_seenBy_51 (fun k_r_7 => ?_)
        refine lv_iload C.1 C.2.1 dX5_seenBy_54 (lv_at hl 1 rfl) ?_
        obtain ⟨g_8, hE⟩ := gd_e hE
        refine y_bald C hW k_r_7 g_8 dX5_seenBy_56 ?_
        refine lv_iload C.1 C.2.1 dX5_seenBy_57 (lv_at hl 1 rfl) ?_
        refine lv_bipush (v := (64 : Int32)) C.1 C.2.1 dX5_seenBy_59 (by decide) ?_
        obtain ⟨o_9, eo_9, hE⟩ := cl_e hE
        refine x_kI (o := o_9) (z_runS (As := [.int (hI o_3.2 r_7 o_3.1.toNatClampNeg), .int o_3.1, .int (64 : Int32)]) (rest := [.ref r_6]) C (ct_X10_cell l X eo_9) cw_X5_142 hW hZ rfl hl.1 (Nat.le_of_ble_eq_true rfl) rfl dX5_seenBy_61 ⟨Nat.le_of_ble_eq_true rfl, Nat.le_of_ble_eq_true rfl⟩ ⟨Nat.le_refl _, Nat.le_refl _⟩) hZ (fun _ _ hW km hZ => ?_)
        replace hkm := hkm.tr km
        replace k_x0 := km.at k_x0 (by decide)
        replace k_x1 := km.at k_x1 (by decide)
        replace k_r_6 := km.at k_r_6 (by decide)
        obtain ⟨g_10, hE⟩ := gd_e hE
        refine y_iald C hW k_r_6 g_10 dX5_seenBy_64 ?_
        obtain ⟨v_11, ev_11, hE⟩ := nm_e2 hE
        refine x_nmI ev_11 ?_
        refine lv_istore (lv' := [(9, .int v_11), (5, .long v_4), (8, .int o_3.1), (0, .ref x0), (1, .ref x1), (2, .int x2), (3, .long x3), (7, .int x7)]) C.1 C.2.1 dX5_seenBy_65 hl (by decide) rfl (fun ls hl => ?_)
        refine lv_aload_n C.1 C.2.1 dX5_seenBy_67 rfl (lv_at hl 3 rfl) ?_
        obtain ⟨r_12, er_12, hE⟩ := cl_e hE
        refine gf_X5_26 C hW k_x0 er_12 dX5_seenBy_68 (fun k_r_12 => ?_)
        obtain ⟨r_13, er_13, hE⟩ := cl_e hE
        refine gf_X5_51 C hW k_r_12 er_13 dX5_seenBy_71 (fun k_r_13 => ?_)
        refine lv_aload_n C.1 C.2.1 dX5_seenBy_74 rfl (lv_at hl 4 rfl) ?_
        obtain ⟨r_14, er_14, hE⟩ := cl_e hE
        refine gf_X5_42 C hW k_x1 er_14 dX5_seenBy_75 (fun k_r_14 => ?_)
        refine lv_iload C.1 C.2.1 dX5_seenBy_78 (lv_at hl 2 rfl) ?_
        obtain ⟨g_15, hE⟩ := gd_e hE
        refine y_bald C hW k_r_14 g_15 dX5_seenBy_80 ?_
        refine lv_iload C.1 C.2.1 dX5_seenBy_81 (lv_at hl 2 rfl) ?_
        refine lv_iconst (v := (0 : Int32)) C.1 C.2.1 dX5_seenBy_83 (by decide) ?_
        obtain ⟨o_16, eo_16, hE⟩ := cl_e hE
        refine x_kI (o := o_16) (z_runS (As := [.int (hI o_9.2 r_14 o_3.1.toNatClampNeg), .int o_3.1, .int (0 : Int32)]) (rest := [.ref r_13]) C (ct_X10_cell l X eo_16) cw_X5_142 hW hZ rfl hl.1 (Nat.le_of_ble_eq_true rfl) rfl dX5_seenBy_84 ⟨Nat.le_of_ble_eq_true rfl, Nat.le_of_ble_eq_true rfl⟩ ⟨Nat.le_refl _, Nat.le_refl _⟩) hZ (fun _ _ hW km hZ => ?_)
        replace hkm := hkm.tr km
        replace k_x0 := km.at k_x0 (by decide)
        replace k_x1 := km.at k_x1 (by decide)
        replace k_r_13 := km.at k_r_13 (by decide)
        obtain ⟨g_17, hE⟩ := gd_e hE
        refine y_iald C hW k_r_13 g_17 dX5_seenBy_87 ?_
        obtain ⟨v_18, ev_18, hE⟩ := nm_e2 hE
        refine x_nmI ev_18 ?_
        refine lv_istore (lv' := [(10, .int v_18), (9, .int v_11), (5, .long v_4), (8, .int o_3.1), (0, .ref x0), (1, .ref x1), (2, .int x2), (3, .long x3), (7, .int x7)]) C.1 C.2.1 dX5_seenBy_88 hl (by decide) rfl (fun ls hl => ?_)
        exact bX5_seenBy_90 C hk_13 F k_x0 k_x1 hkm hW hZ _ (lv_sub hl [4, 5, 6, 7, 2, 8, 1, 0] rfl) hE
set_option maxRecDepth 20000 in
theorem ct_X5_seenBy (l : Launch) (X : Ec) (F : Nat) {h : Hp} {x0 : Nat} {x1 : Nat} {x2 : Int32} {o : Int64 × Hp} (k_x0 : hK h x0 = 5) (k_x1 : hK h x1 = 3) (hE : sX5_seenBy F h x0 x1 x2 = some o) : MetJ l yX5_seenBy cX5_seenBy 11 (some .long) 2 52 X [.ref x0, .ref x1, .int x2] h o := by
  refine x_met (by decide) (Nat.le_of_ble_eq_true rfl) ?_
  intro p e s m below meth c ls C hl hW hZ
  have hl : lv_has ls 11 [(0, .ref x0), (1, .ref x1), (2, .int x2)] := hl
  have hkm : Km h h := Km.rf h
  refine lv_aload_n C.1 C.2.1 dX5_seenBy_0 rfl (lv_at hl 1 rfl) ?_
  obtain ⟨r_1, er_1, hE⟩ := cl_e hE
  refine gf_X5_33 C hW k_x1 er_1 dX5_seenBy_1 (fun k_r_1 => ?_)
  refine lv_iload_n C.1 C.2.1 dX5_seenBy_4 rfl (lv_at hl 2 rfl) ?_
  obtain ⟨g_2, hE⟩ := gd_e hE
  refine y_lald C hW k_r_1 g_2 dX5_seenBy_5 ?_
  obtain ⟨v_3, ev_3, hE⟩ := nm_e2 hE
  refine x_nmJ ev_3 ?_
  refine lv_lstore_n (lv' := [(3, .long v_3), (0, .ref x0), (1, .ref x1), (2, .int x2)]) C.1 C.2.1 dX5_seenBy_6 rfl hl (by decide) rfl (fun ls hl => ?_)
  refine lv_lload_n C.1 C.2.1 dX5_seenBy_7 rfl (lv_at hl 0 rfl) ?_
  refine lv_lstore (lv' := [(5, .long v_3), (3, .long v_3), (0, .ref x0), (1, .ref x1), (2, .int x2)]) C.1 C.2.1 dX5_seenBy_8 hl (by decide) rfl (fun ls hl => ?_)
  refine lv_iconst (v := (0 : Int32)) C.1 C.2.1 dX5_seenBy_10 (by decide) ?_
  refine lv_istore (lv' := [(7, .int (0 : Int32)), (5, .long v_3), (3, .long v_3), (0, .ref x0), (1, .ref x1), (2, .int x2)]) C.1 C.2.1 dX5_seenBy_11 hl (by decide) rfl (fun ls hl => ?_)
  exact bX5_seenBy_13 C F k_x0 k_x1 hkm hW hZ _ (lv_sub hl [3, 4, 5, 2, 1, 0] rfl) hE
