set_option maxRecDepth 100000 in
theorem m_1027 : Cond.instanceMethod yX1_has ∈ W0 := w0_in (List.mem_append_right _ (List.mem_of_getElem? (i := 1027) rfl)) rfl
set_option maxRecDepth 100000 in
theorem m_1028 : Cond.selects RX1 yX1_has yX1_has ∈ W0 := w0_in (List.mem_append_right _ (List.mem_of_getElem? (i := 1028) rfl)) rfl
set_option maxRecDepth 100000 in
theorem m_1029 : Cond.code yX1_has cX1_has 2 (some .boolean) ∈ W0 := w0_in (List.mem_append_right _ (List.mem_of_getElem? (i := 1029) rfl)) rfl
set_option maxRecDepth 100000 in
theorem m_1520 : Cond.methodLink RX1 83 yX1_has ∈ W0 := w0_in (List.mem_append_right _ (List.mem_of_getElem? (i := 1520) rfl)) rfl
section
variable {p : Program} {l : Launch} {e : Env} {R : Room} {s : State} {m : MethodId} {args : Array Value} {below : List Frame} {meth : Method} {c : Code} {H : Heap} {locs : List Loc} {cells slots : Nat} {Q : State → Prop}
variable {cc : ByteArray} {pc : Nat} {ls : Array Slot} {rest : List Value} {X : Ec} {h h1 : Hp} {nL : Nat} {rt : Option FieldType} {mn : String}
theorem gf_X1_49 {a : Nat} (C : Cx X p s m args meth c RX1 cc nL rt mn) (hW : Wx X h H) (ha : hK h a = 1) (hdg : decode cc pc = .ok (.getfield 49, 3)) (kk : W p l e R s m args below meth c H locs cells slots Q (F0 m (pc + 3) ls (.int (hI h a 7) :: rest))) : W p l e R s m args below meth c H locs cells slots Q (F0 m pc ls (.ref a :: rest)) :=
  y_geti C hW ha i_X1 (by decide) rfl (by decide) m_100 rfl hdg kk
end
theorem cw_X1_83 : cwd RX1 83 yX1_has cX1_has 2 (some .boolean) false 1 := ⟨m_1029, m_1520, m_4, ⟨m_1027, m_1028⟩, by decide, by decide, by decide +kernel⟩
theorem dX1_isPlain_0 : decode cX1_isPlain 0 = .ok (.aload_n 0, 1) := by decide +kernel
theorem dX1_isPlain_1 : decode cX1_isPlain 1 = .ok (.bipush 9, 2) := by decide +kernel
theorem dX1_isPlain_3 : decode cX1_isPlain 3 = .ok (.invokevirtual 83, 3) := by decide +kernel
theorem dX1_isPlain_6 : decode cX1_isPlain 6 = .ok (.ifCond .ne 14, 3) := by decide +kernel
theorem dX1_isPlain_9 : decode cX1_isPlain 9 = .ok (.aload_n 0, 1) := by decide +kernel
theorem dX1_isPlain_10 : decode cX1_isPlain 10 = .ok (.getfield 49, 3) := by decide +kernel
theorem dX1_isPlain_13 : decode cX1_isPlain 13 = .ok (.ifCond .ne 7, 3) := by decide +kernel
theorem dX1_isPlain_16 : decode cX1_isPlain 16 = .ok (.iconst 1, 1) := by decide +kernel
theorem dX1_isPlain_17 : decode cX1_isPlain 17 = .ok (.goto 4, 3) := by decide +kernel
theorem dX1_isPlain_20 : decode cX1_isPlain 20 = .ok (.iconst 0, 1) := by decide +kernel
theorem dX1_isPlain_21 : decode cX1_isPlain 21 = .ok (.ireturn, 1) := by decide +kernel
set_option maxRecDepth 20000 in
theorem moX1_isPlain_21 {o : Int32 × Hp} {h : Hp} {t0 : Int32} (hE : sX1_isPlain_21 h  t0 = some o) : Le h o.2 := by
  obtain ⟨g_1, hE⟩ := gd_e hE
  exact le_some2 hE
set_option maxRecDepth 20000 in
theorem moX1_isPlain_20 {o : Int32 × Hp} {h : Hp} (hE : sX1_isPlain_20 h  = some o) : Le h o.2 := by
  exact moX1_isPlain_21 hE
set_option maxRecDepth 20000 in
theorem moX1_isPlain {o : Int32 × Hp} {h : Hp} {x0 : Nat} (hE : sX1_isPlain h x0 = some o) : Le h o.2 := by
  obtain ⟨o_1, eo_1, hE⟩ := cl_e hE
  refine (moX1_has eo_1).tr ?_
  rcases br_e hE with ⟨_, hE⟩ | ⟨_, hE⟩
  · rcases br_e hE with ⟨_, hE⟩ | ⟨_, hE⟩
    · exact moX1_isPlain_21 hE
    · exact moX1_isPlain_20 hE
  · exact moX1_isPlain_20 hE
set_option maxRecDepth 20000 in
theorem bX1_isPlain_21 {p : Program} {l : Launch} {e : Env} {s : State} {m : MethodId} {args : Array Value} {below : List Frame} {meth : Method} {c : Code} {X : Ec} {h0 : Hp} {o : Int32 × Hp} (C : Cx X p s m args meth c RX1 cX1_isPlain 1 (some .boolean) "isPlain") {h : Hp} {t0 : Int32} {H : Heap} {locs : List Loc} (hkm : Km h0 h) (hW : Wx X h H) (hZ : va_S (aA (eB X)) s.heap H locs) (ls : Array Slot) (hl : lv_has ls 1 []) (hE : sX1_isPlain_21 h  t0 = some o) : W p l e (rm 1 21) s m args below meth c H locs 0 0 (MQ below (QI X h0 o.1 o.2) args s 0 0 (aA (eB X))) (F0 m 21 ls [.int t0]) := by
  obtain ⟨g_1, hE⟩ := gd_e hE
  exact x_iret C rfl (narB g_1) hW hZ hkm hE dX1_isPlain_21
set_option maxRecDepth 20000 in
theorem bX1_isPlain_20 {p : Program} {l : Launch} {e : Env} {s : State} {m : MethodId} {args : Array Value} {below : List Frame} {meth : Method} {c : Code} {X : Ec} {h0 : Hp} {o : Int32 × Hp} (C : Cx X p s m args meth c RX1 cX1_isPlain 1 (some .boolean) "isPlain") {h : Hp} {H : Heap} {locs : List Loc} (hkm : Km h0 h) (hW : Wx X h H) (hZ : va_S (aA (eB X)) s.heap H locs) (ls : Array Slot) (hl : lv_has ls 1 []) (hE : sX1_isPlain_20 h  = some o) : W p l e (rm 1 21) s m args below meth c H locs 0 0 (MQ below (QI X h0 o.1 o.2) args s 0 0 (aA (eB X))) (F0 m 20 ls []) := by
  refine lv_iconst (v := (0 : Int32)) C.1 C.2.1 dX1_isPlain_20 (by decide) ?_
  exact bX1_isPlain_21 C hkm hW hZ _ (lv_sub hl [] rfl) hE
set_option maxRecDepth 20000 in
theorem ct_X1_isPlain (l : Launch) (X : Ec) {h : Hp} {x0 : Nat} {o : Int32 × Hp} (k_x0 : hK h x0 = 1) (hE : sX1_isPlain h x0 = some o) : MetI l yX1_isPlain cX1_isPlain 1 (some .boolean) 1 21 X [.ref x0] h o := by
  refine x_met (by decide) (Nat.le_of_ble_eq_true rfl) ?_
  intro p e s m below meth c ls C hl hW hZ
  have hl : lv_has ls 1 [(0, .ref x0)] := hl
  have hkm : Km h h := Km.rf h
  refine lv_aload_n C.1 C.2.1 dX1_isPlain_0 rfl (lv_at hl 0 rfl) ?_
  refine lv_bipush (v := (9 : Int32)) C.1 C.2.1 dX1_isPlain_1 (by decide) ?_
  obtain ⟨o_1, eo_1, hE⟩ := cl_e hE
  refine x_kI (o := o_1) (z_runV (As := [.int (9 : Int32)]) (rest := []) C (ct_X1_has l X k_x0 eo_1) cw_X1_83 hW hZ k_x0 (by decide) rfl rfl rfl hl.1 (Nat.le_of_ble_eq_true rfl) rfl dX1_isPlain_3 ⟨Nat.le_of_ble_eq_true rfl, Nat.le_of_ble_eq_true rfl⟩ ⟨Nat.le_refl _, Nat.le_refl _⟩) hZ (fun _ _ hW km hZ => ?_)
  replace hkm := hkm.tr km
  replace k_x0 := km.at k_x0 (by decide)
  refine lv_if_ne (tgt := 20) C.1 C.2.1 dX1_isPlain_6 (by decide) (fun c_2 => ?_) (fun c_2 => ?_)
  · have hE := br_n hE c_2
    exact bX1_isPlain_20 C hkm hW hZ _ (lv_sub hl [] rfl) hE
  · have hE := br_p hE c_2
    refine lv_aload_n C.1 C.2.1 dX1_isPlain_9 rfl (lv_at hl 0 rfl) ?_
    refine gf_X1_49 C hW k_x0 dX1_isPlain_10 ?_
    refine lv_if_ne (tgt := 20) C.1 C.2.1 dX1_isPlain_13 (by decide) (fun c_3 => ?_) (fun c_3 => ?_)
    · have hE := br_n hE c_3
      exact bX1_isPlain_20 C hkm hW hZ _ (lv_sub hl [] rfl) hE
    · have hE := br_p hE c_3
      refine lv_iconst (v := (1 : Int32)) C.1 C.2.1 dX1_isPlain_16 (by decide) ?_
      refine lv_goto (tgt := 21) C.1 C.2.1 dX1_isPlain_17 (by decide) ?_
      exact bX1_isPlain_21 C hkm hW hZ _ (lv_sub hl [] rfl) hE
section
variable {p : Program} {l : Launch} {e : Env} {R : Room} {s : State} {m : MethodId} {args : Array Value} {below : List Frame} {meth : Method} {c : Code} {H : Heap} {locs : List Loc} {cells slots : Nat} {Q : State → Prop}
variable {cc : ByteArray} {pc : Nat} {ls : Array Slot} {rest : List Value} {X : Ec} {h h1 : Hp} {nL : Nat} {rt : Option FieldType} {mn : String}
theorem gf_X1_21 {a r : Nat} (C : Cx X p s m args meth c RX1 cc nL rt mn) (hW : Wx X h H) (ha : hK h a = 1) (hr : hR h a 17 = some r) (hdg : decode cc pc = .ok (.getfield 21, 3)) (kk : hK h r = 17 → W p l e R s m args below meth c H locs cells slots Q (F0 m (pc + 3) ls (.ref r :: rest))) : W p l e R s m args below meth c H locs cells slots Q (F0 m pc ls (.ref a :: rest)) :=
  y_getr C hW ha i_X1 (by decide) rfl (by decide) m_127 rfl rfl hr hdg kk
end
theorem dX1_becomesThis_0 : decode cX1_becomesThis 0 = .ok (.iconst 0, 1) := by decide +kernel
theorem dX1_becomesThis_1 : decode cX1_becomesThis 1 = .ok (.istore_n 3, 1) := by decide +kernel
theorem dX1_becomesThis_2 : decode cX1_becomesThis 2 = .ok (.iload_n 3, 1) := by decide +kernel
theorem dX1_becomesThis_3 : decode cX1_becomesThis 3 = .ok (.aload_n 0, 1) := by decide +kernel
theorem dX1_becomesThis_4 : decode cX1_becomesThis 4 = .ok (.getfield 24, 3) := by decide +kernel
theorem dX1_becomesThis_7 : decode cX1_becomesThis 7 = .ok (.iload_n 1, 1) := by decide +kernel
theorem dX1_becomesThis_8 : decode cX1_becomesThis 8 = .ok (.iaload, 1) := by decide +kernel
theorem dX1_becomesThis_9 : decode cX1_becomesThis 9 = .ok (.if_icmp .ge 26, 3) := by decide +kernel
theorem dX1_becomesThis_12 : decode cX1_becomesThis 12 = .ok (.aload_n 0, 1) := by decide +kernel
theorem dX1_becomesThis_13 : decode cX1_becomesThis 13 = .ok (.getfield 21, 3) := by decide +kernel
theorem dX1_becomesThis_16 : decode cX1_becomesThis 16 = .ok (.iload_n 1, 1) := by decide +kernel
theorem dX1_becomesThis_17 : decode cX1_becomesThis 17 = .ok (.bipush 6, 2) := by decide +kernel
theorem dX1_becomesThis_19 : decode cX1_becomesThis 19 = .ok (.imul, 1) := by decide +kernel
theorem dX1_becomesThis_20 : decode cX1_becomesThis 20 = .ok (.iload_n 3, 1) := by decide +kernel
theorem dX1_becomesThis_21 : decode cX1_becomesThis 21 = .ok (.iadd, 1) := by decide +kernel
theorem dX1_becomesThis_22 : decode cX1_becomesThis 22 = .ok (.iaload, 1) := by decide +kernel
theorem dX1_becomesThis_23 : decode cX1_becomesThis 23 = .ok (.iload_n 2, 1) := by decide +kernel
theorem dX1_becomesThis_24 : decode cX1_becomesThis 24 = .ok (.if_icmp .ne 5, 3) := by decide +kernel
theorem dX1_becomesThis_27 : decode cX1_becomesThis 27 = .ok (.iconst 1, 1) := by decide +kernel
theorem dX1_becomesThis_28 : decode cX1_becomesThis 28 = .ok (.ireturn, 1) := by decide +kernel
theorem dX1_becomesThis_29 : decode cX1_becomesThis 29 = .ok (.iinc 3 1, 3) := by decide +kernel
theorem dX1_becomesThis_32 : decode cX1_becomesThis 32 = .ok (.goto (-30), 3) := by decide +kernel
theorem dX1_becomesThis_35 : decode cX1_becomesThis 35 = .ok (.iconst 0, 1) := by decide +kernel
theorem dX1_becomesThis_36 : decode cX1_becomesThis 36 = .ok (.ireturn, 1) := by decide +kernel
set_option maxRecDepth 20000 in
theorem moX1_becomesThis_2 {o : Int32 × Hp} {F : Nat} : ∀ (f : Nat) {h : Hp} {x0 : Nat} {x1 : Int32} {x2 : Int32} {x3 : Int32}, sX1_becomesThis_2 F f h x0 x1 x2 x3 = some o → Le h o.2 := by
  intro f
  induction f with
  | zero =>
    intro h x0 x1 x2 x3 hE
    rw [sX1_becomesThis_2] at hE
    cases hE
  | succ f ih =>
    intro h x0 x1 x2 x3 hE
    rw [sX1_becomesThis_2] at hE
    have mk_2 : ∀ (h : Hp) (x0 : Nat) (x1 : Int32) (x2 : Int32) (x3 : Int32), sX1_becomesThis_2 F f h x0 x1 x2 x3 = some o → Le h o.2 := fun h x0 x1 x2 x3 hE => ih hE
    obtain ⟨r_1, er_1, hE⟩ := cl_e hE
    obtain ⟨g_2, hE⟩ := gd_e hE
    rcases br_e hE with ⟨_, hE⟩ | ⟨_, hE⟩
    · exact le_some2 hE
    · obtain ⟨r_4, er_4, hE⟩ := cl_e hE
      obtain ⟨g_5, hE⟩ := gd_e hE
      rcases br_e hE with ⟨_, hE⟩ | ⟨_, hE⟩
      · exact le_some2 hE
      · obtain ⟨v_7, ev_7, hE⟩ := nm_e2 hE
        exact mk_2 _ _ _ _ _ hE
set_option maxRecDepth 20000 in
theorem moX1_becomesThis {o : Int32 × Hp} {F : Nat} {h : Hp} {x0 : Nat} {x1 : Int32} {x2 : Int32} (hE : sX1_becomesThis F h x0 x1 x2 = some o) : Le h o.2 := by
  exact moX1_becomesThis_2 _ hE
set_option maxRecDepth 20000 in
theorem bX1_becomesThis_2 {p : Program} {l : Launch} {e : Env} {s : State} {m : MethodId} {args : Array Value} {below : List Frame} {meth : Method} {c : Code} {X : Ec} {h0 : Hp} {o : Int32 × Hp} {F : Nat} (C : Cx X p s m args meth c RX1 cX1_becomesThis 4 (some .boolean) "becomesThis") : ∀ (f : Nat) {h : Hp} {x0 : Nat} {x1 : Int32} {x2 : Int32} {x3 : Int32} {H : Heap} {locs : List Loc} (k_x0 : hK h x0 = 1), Km h0 h → Wx X h H → va_S (aA (eB X)) s.heap H locs → ∀ (ls : Array Slot), lv_has ls 4 [(0, .ref x0), (1, .int x1), (2, .int x2), (3, .int x3)] → sX1_becomesThis_2 F f h x0 x1 x2 x3 = some o → W p l e (rm 0 0) s m args below meth c H locs 0 0 (MQ below (QI X h0 o.1 o.2) args s 0 0 (aA (eB X))) (F0 m 2 ls []) := by
  intro f
  induction f with
  | zero =>
    intro h x0 x1 x2 x3 H locs k_x0 hkm hW hZ ls hl hE
    rw [sX1_becomesThis_2] at hE
    cases hE
  | succ f ih =>
    intro h x0 x1 x2 x3 H locs k_x0 hkm hW hZ ls hl hE
    rw [sX1_becomesThis_2] at hE
    have hk_2 : ∀ (h : Hp) (x0 : Nat) (x1 : Int32) (x2 : Int32) (x3 : Int32) (H : Heap) (locs : List Loc), hK h x0 = 1 → Km h0 h → Wx X h H → va_S (aA (eB X)) s.heap H locs → ∀ (ls : Array Slot), lv_has ls 4 [(0, .ref x0), (1, .int x1), (2, .int x2), (3, .int x3)] → sX1_becomesThis_2 F f h x0 x1 x2 x3 = some o → W p l e (rm 0 0) s m args below meth c H locs 0 0 (MQ below (QI X h0 o.1 o.2) args s 0 0 (aA (eB X))) (F0 m 2 ls []) := fun h x0 x1 x2 x3 H locs k_x0 a b c ls hl hE => ih k_x0 a b c ls hl hE
    refine lv_iload_n C.1 C.2.1 dX1_becomesThis_2 rfl (lv_at hl 3 rfl) ?_
    refine lv_aload_n C.1 C.2.1 dX1_becomesThis_3 rfl (lv_at hl 0 rfl) ?_
    obtain ⟨r_1, er_1, hE⟩ := cl_e hE
    refine gf_X1_24 C hW k_x0 er_1 dX1_becomesThis_4 (fun k_r_1 => ?_)
    refine lv_iload_n C.1 C.2.1 dX1_becomesThis_7 rfl (lv_at hl 1 rfl) ?_
    obtain ⟨g_2, hE⟩ := gd_e hE
    refine y_iald C hW k_r_1 g_2 dX1_becomesThis_8 ?_
    refine lv_icmp_ge (tgt := 35) C.1 C.2.1 dX1_becomesThis_9 (by decide) (fun c_3 => ?_) (fun c_3 => ?_)
    · have hE := br_p hE c_3
      refine lv_iconst (v := (0 : Int32)) C.1 C.2.1 dX1_becomesThis_35 (by decide) ?_
      exact x_iret C rfl (by decide) hW hZ hkm hE dX1_becomesThis_36
    · have hE := br_n hE c_3
      refine lv_aload_n C.1 C.2.1 dX1_becomesThis_12 rfl (lv_at hl 0 rfl) ?_
      obtain ⟨r_4, er_4, hE⟩ := cl_e hE
      refine gf_X1_21 C hW k_x0 er_4 dX1_becomesThis_13 (fun k_r_4 => ?_)
      refine lv_iload_n C.1 C.2.1 dX1_becomesThis_16 rfl (lv_at hl 1 rfl) ?_
      refine lv_bipush (v := (6 : Int32)) C.1 C.2.1 dX1_becomesThis_17 (by decide) ?_
      refine lv_imul C.1 C.2.1 dX1_becomesThis_19 ?_
      refine lv_iload_n C.1 C.2.1 dX1_becomesThis_20 rfl (lv_at hl 3 rfl) ?_
      refine lv_iadd C.1 C.2.1 dX1_becomesThis_21 ?_
      obtain ⟨g_5, hE⟩ := gd_e hE
      refine y_iald C hW k_r_4 g_5 dX1_becomesThis_22 ?_
      refine lv_iload_n C.1 C.2.1 dX1_becomesThis_23 rfl (lv_at hl 2 rfl) ?_
      refine lv_icmp_ne (tgt := 29) C.1 C.2.1 dX1_becomesThis_24 (by decide) (fun c_6 => ?_) (fun c_6 => ?_)
      · have hE := br_n hE c_6
        obtain ⟨v_7, ev_7, hE⟩ := nm_e2 hE
        refine lv_iinc (v := v_7) (lv' := [(3, .int v_7), (0, .ref x0), (1, .int x1), (2, .int x2)]) C.1 C.2.1 dX1_becomesThis_29 hl (k := 3) rfl (by rw [ev_7]; rfl) (by decide) rfl (fun ls hl => ?_)
        refine lv_goto (tgt := 2) C.1 C.2.1 dX1_becomesThis_32 (by decide) ?_
        exact hk_2 _ _ _ _ _ _ _ k_x0 hkm hW hZ _ (lv_sub hl [1, 2, 3, 0] rfl) hE
      · have hE := br_p hE c_6
        refine lv_iconst (v := (1 : Int32)) C.1 C.2.1 dX1_becomesThis_27 (by decide) ?_
        exact x_iret C rfl (by decide) hW hZ hkm hE dX1_becomesThis_28
set_option maxRecDepth 20000 in
theorem ct_X1_becomesThis (l : Launch) (X : Ec) (F : Nat) {h : Hp} {x0 : Nat} {x1 : Int32} {x2 : Int32} {o : Int32 × Hp} (k_x0 : hK h x0 = 1) (hE : sX1_becomesThis F h x0 x1 x2 = some o) : MetI l yX1_becomesThis cX1_becomesThis 4 (some .boolean) 0 0 X [.ref x0, .int x1, .int x2] h o := by
  refine x_met (by decide) (Nat.le_of_ble_eq_true rfl) ?_
  intro p e s m below meth c ls C hl hW hZ
  have hl : lv_has ls 4 [(0, .ref x0), (1, .int x1), (2, .int x2)] := hl
  have hkm : Km h h := Km.rf h
  refine lv_iconst (v := (0 : Int32)) C.1 C.2.1 dX1_becomesThis_0 (by decide) ?_
  refine lv_istore_n (lv' := [(3, .int (0 : Int32)), (0, .ref x0), (1, .int x1), (2, .int x2)]) C.1 C.2.1 dX1_becomesThis_1 rfl hl (by decide) rfl (fun ls hl => ?_)
  exact bX1_becomesThis_2 C F k_x0 hkm hW hZ _ (lv_sub hl [1, 2, 3, 0] rfl) hE
section
variable {p : Program} {l : Launch} {e : Env} {R : Room} {s : State} {m : MethodId} {args : Array Value} {below : List Frame} {meth : Method} {c : Code} {H : Heap} {locs : List Loc} {cells slots : Nat} {Q : State → Prop}
variable {cc : ByteArray} {pc : Nat} {ls : Array Slot} {rest : List Value} {X : Ec} {h h1 : Hp} {nL : Nat} {rt : Option FieldType} {mn : String}
theorem gf_X1_15 {a r : Nat} (C : Cx X p s m args meth c RX1 cc nL rt mn) (hW : Wx X h H) (ha : hK h a = 1) (hr : hR h a 15 = some r) (hdg : decode cc pc = .ok (.getfield 15, 3)) (kk : hK h r = 17 → W p l e R s m args below meth c H locs cells slots Q (F0 m (pc + 3) ls (.ref r :: rest))) : W p l e R s m args below meth c H locs cells slots Q (F0 m pc ls (.ref a :: rest)) :=
  y_getr C hW ha i_X1 (by decide) rfl (by decide) m_121 rfl rfl hr hdg kk
end
theorem dX1_hasCatch_0 : decode cX1_hasCatch 0 = .ok (.iconst 0, 1) := by decide +kernel
theorem dX1_hasCatch_1 : decode cX1_hasCatch 1 = .ok (.istore_n 1, 1) := by decide +kernel
theorem dX1_hasCatch_2 : decode cX1_hasCatch 2 = .ok (.iload_n 1, 1) := by decide +kernel
theorem dX1_hasCatch_3 : decode cX1_hasCatch 3 = .ok (.aload_n 0, 1) := by decide +kernel
theorem dX1_hasCatch_4 : decode cX1_hasCatch 4 = .ok (.getfield 52, 3) := by decide +kernel
theorem dX1_hasCatch_7 : decode cX1_hasCatch 7 = .ok (.if_icmp .ge 46, 3) := by decide +kernel
theorem dX1_hasCatch_10 : decode cX1_hasCatch 10 = .ok (.iconst 0, 1) := by decide +kernel
theorem dX1_hasCatch_11 : decode cX1_hasCatch 11 = .ok (.istore_n 2, 1) := by decide +kernel
theorem dX1_hasCatch_12 : decode cX1_hasCatch 12 = .ok (.iload_n 2, 1) := by decide +kernel
theorem dX1_hasCatch_13 : decode cX1_hasCatch 13 = .ok (.aload_n 0, 1) := by decide +kernel
theorem dX1_hasCatch_14 : decode cX1_hasCatch 14 = .ok (.getfield 18, 3) := by decide +kernel
theorem dX1_hasCatch_17 : decode cX1_hasCatch 17 = .ok (.iload_n 1, 1) := by decide +kernel
theorem dX1_hasCatch_18 : decode cX1_hasCatch 18 = .ok (.iaload, 1) := by decide +kernel
theorem dX1_hasCatch_19 : decode cX1_hasCatch 19 = .ok (.if_icmp .ge 28, 3) := by decide +kernel
theorem dX1_hasCatch_22 : decode cX1_hasCatch 22 = .ok (.aload_n 0, 1) := by decide +kernel
theorem dX1_hasCatch_23 : decode cX1_hasCatch 23 = .ok (.getfield 15, 3) := by decide +kernel
theorem dX1_hasCatch_26 : decode cX1_hasCatch 26 = .ok (.iload_n 1, 1) := by decide +kernel
theorem dX1_hasCatch_27 : decode cX1_hasCatch 27 = .ok (.bipush 8, 2) := by decide +kernel
theorem dX1_hasCatch_29 : decode cX1_hasCatch 29 = .ok (.imul, 1) := by decide +kernel
theorem dX1_hasCatch_30 : decode cX1_hasCatch 30 = .ok (.iload_n 2, 1) := by decide +kernel
theorem dX1_hasCatch_31 : decode cX1_hasCatch 31 = .ok (.iadd, 1) := by decide +kernel
theorem dX1_hasCatch_32 : decode cX1_hasCatch 32 = .ok (.iaload, 1) := by decide +kernel
theorem dX1_hasCatch_33 : decode cX1_hasCatch 33 = .ok (.bipush 32, 2) := by decide +kernel
theorem dX1_hasCatch_35 : decode cX1_hasCatch 35 = .ok (.iand, 1) := by decide +kernel
theorem dX1_hasCatch_36 : decode cX1_hasCatch 36 = .ok (.ifCond .eq 5, 3) := by decide +kernel
theorem dX1_hasCatch_39 : decode cX1_hasCatch 39 = .ok (.iconst 1, 1) := by decide +kernel
theorem dX1_hasCatch_40 : decode cX1_hasCatch 40 = .ok (.ireturn, 1) := by decide +kernel
theorem dX1_hasCatch_41 : decode cX1_hasCatch 41 = .ok (.iinc 2 1, 3) := by decide +kernel
theorem dX1_hasCatch_44 : decode cX1_hasCatch 44 = .ok (.goto (-32), 3) := by decide +kernel
theorem dX1_hasCatch_47 : decode cX1_hasCatch 47 = .ok (.iinc 1 1, 3) := by decide +kernel
theorem dX1_hasCatch_50 : decode cX1_hasCatch 50 = .ok (.goto (-48), 3) := by decide +kernel
theorem dX1_hasCatch_53 : decode cX1_hasCatch 53 = .ok (.iconst 0, 1) := by decide +kernel
theorem dX1_hasCatch_54 : decode cX1_hasCatch 54 = .ok (.ireturn, 1) := by decide +kernel
set_option maxRecDepth 20000 in
theorem moX1_hasCatch_12 {o : Int32 × Hp} {k_2 : Hp → Nat → Int32 → Option (Int32 × Hp)} {F : Nat} (mk_2 : ∀ (h : Hp) (x0 : Nat) (x1 : Int32), k_2 h x0 x1 = some o → Le h o.2) : ∀ (f : Nat) {h : Hp} {x0 : Nat} {x1 : Int32} {x2 : Int32}, sX1_hasCatch_12 F k_2 f h x0 x1 x2 = some o → Le h o.2 := by
  intro f
  induction f with
  | zero =>
    intro h x0 x1 x2 hE
    rw [sX1_hasCatch_12] at hE
    cases hE
  | succ f ih =>
    intro h x0 x1 x2 hE
    rw [sX1_hasCatch_12] at hE
    have mk_12 : ∀ (h : Hp) (x0 : Nat) (x1 : Int32) (x2 : Int32), sX1_hasCatch_12 F k_2 f h x0 x1 x2 = some o → Le h o.2 := fun h x0 x1 x2 hE => ih hE
    obtain ⟨r_1, er_1, hE⟩ := cl_e hE
    obtain ⟨g_2, hE⟩ := gd_e hE
    rcases br_e hE with ⟨_, hE⟩ | ⟨_, hE⟩
    · obtain ⟨v_4, ev_4, hE⟩ := nm_e2 hE
      exact mk_2 _ _ _ hE
    · obtain ⟨r_5, er_5, hE⟩ := cl_e hE
      obtain ⟨g_6, hE⟩ := gd_e hE
      rcases br_e hE with ⟨_, hE⟩ | ⟨_, hE⟩
      · obtain ⟨v_8, ev_8, hE⟩ := nm_e2 hE
        exact mk_12 _ _ _ _ hE
      · exact le_some2 hE
set_option maxRecDepth 20000 in
theorem moX1_hasCatch_2 {o : Int32 × Hp} {F : Nat} : ∀ (f : Nat) {h : Hp} {x0 : Nat} {x1 : Int32}, sX1_hasCatch_2 F f h x0 x1 = some o → Le h o.2 := by
  intro f
  induction f with
  | zero =>
    intro h x0 x1 hE
    rw [sX1_hasCatch_2] at hE
    cases hE
  | succ f ih =>
    intro h x0 x1 hE
    rw [sX1_hasCatch_2] at hE
    have mk_2 : ∀ (h : Hp) (x0 : Nat) (x1 : Int32), sX1_hasCatch_2 F f h x0 x1 = some o → Le h o.2 := fun h x0 x1 hE => ih hE
    rcases br_e hE with ⟨_, hE⟩ | ⟨_, hE⟩
    · exact le_some2 hE
    · exact moX1_hasCatch_12 mk_2 _ hE
set_option maxRecDepth 20000 in
theorem moX1_hasCatch {o : Int32 × Hp} {F : Nat} {h : Hp} {x0 : Nat} (hE : sX1_hasCatch F h x0 = some o) : Le h o.2 := by
  exact moX1_hasCatch_2 _ hE
set_option maxRecDepth 20000 in
theorem bX1_hasCatch_12 {p : Program} {l : Launch} {e : Env} {s : State} {m : MethodId} {args : Array Value} {below : List Frame} {meth : Method} {c : Code} {X : Ec} {h0 : Hp} {o : Int32 × Hp} {k_2 : Hp → Nat → Int32 → Option (Int32 × Hp)} {F : Nat} (C : Cx X p s m args meth c RX1 cX1_hasCatch 3 (some .boolean) "hasCatch") (hk_2 : ∀ (h : Hp) (x0 : Nat) (x1 : Int32) (H : Heap) (locs : List Loc), hK h x0 = 1 → Km h0 h → Wx X h H → va_S (aA (eB X)) s.heap H locs → ∀ (ls : Array Slot), lv_has ls 3 [(0, .ref x0), (1, .int x1)] → k_2 h x0 x1 = some o → W p l e (rm 0 0) s m args below meth c H locs 0 0 (MQ below (QI X h0 o.1 o.2) args s 0 0 (aA (eB X))) (F0 m 2 ls [])) : ∀ (f : Nat) {h : Hp} {x0 : Nat} {x1 : Int32} {x2 : Int32} {H : Heap} {locs : List Loc} (k_x0 : hK h x0 = 1), Km h0 h → Wx X h H → va_S (aA (eB X)) s.heap H locs → ∀ (ls : Array Slot), lv_has ls 3 [(0, .ref x0), (1, .int x1), (2, .int x2)] → sX1_hasCatch_12 F k_2 f h x0 x1 x2 = some o → W p l e (rm 0 0) s m args below meth c H locs 0 0 (MQ below (QI X h0 o.1 o.2) args s 0 0 (aA (eB X))) (F0 m 12 ls []) := by
  intro f
  induction f with
  | zero =>
    intro h x0 x1 x2 H locs k_x0 hkm hW hZ ls hl hE
    rw [sX1_hasCatch_12] at hE
    cases hE
  | succ f ih =>
    intro h x0 x1 x2 H locs k_x0 hkm hW hZ ls hl hE
    rw [sX1_hasCatch_12] at hE
    have hk_12 : ∀ (h : Hp) (x0 : Nat) (x1 : Int32) (x2 : Int32) (H : Heap) (locs : List Loc), hK h x0 = 1 → Km h0 h → Wx X h H → va_S (aA (eB X)) s.heap H locs → ∀ (ls : Array Slot), lv_has ls 3 [(0, .ref x0), (1, .int x1), (2, .int x2)] → sX1_hasCatch_12 F k_2 f h x0 x1 x2 = some o → W p l e (rm 0 0) s m args below meth c H locs 0 0 (MQ below (QI X h0 o.1 o.2) args s 0 0 (aA (eB X))) (F0 m 12 ls []) := fun h x0 x1 x2 H locs k_x0 a b c ls hl hE => ih k_x0 a b c ls hl hE
    refine lv_iload_n C.1 C.2.1 dX1_hasCatch_12 rfl (lv_at hl 2 rfl) ?_
    refine lv_aload_n C.1 C.2.1 dX1_hasCatch_13 rfl (lv_at hl 0 rfl) ?_
    obtain ⟨r_1, er_1, hE⟩ := cl_e hE
    refine gf_X1_18 C hW k_x0 er_1 dX1_hasCatch_14 (fun k_r_1 => ?_)
    refine lv_iload_n C.1 C.2.1 dX1_hasCatch_17 rfl (lv_at hl 1 rfl) ?_
    obtain ⟨g_2, hE⟩ := gd_e hE
    refine y_iald C hW k_r_1 g_2 dX1_hasCatch_18 ?_
    refine lv_icmp_ge (tgt := 47) C.1 C.2.1 dX1_hasCatch_19 (by decide) (fun c_3 => ?_) (fun c_3 => ?_)
    · have hE := br_p hE c_3
      obtain ⟨v_4, ev_4, hE⟩ := nm_e2 hE
      refine lv_iinc (v := v_4) (lv' := [(1, .int v_4), (0, .ref x0), (2, .int x2)]) C.1 C.2.1 dX1_hasCatch_47 hl (k := 1) rfl (by rw [ev_4]; rfl) (by decide) rfl (fun ls hl => ?_)
      refine lv_goto (tgt := 2) C.1 C.2.1 dX1_hasCatch_50 (by decide) ?_
      exact hk_2 _ _ _ _ _ k_x0 hkm hW hZ _ (lv_sub hl [1, 0] rfl) hE
    · have hE := br_n hE c_3
      refine lv_aload_n C.1 C.2.1 dX1_hasCatch_22 rfl (lv_at hl 0 rfl) ?_
      obtain ⟨r_5, er_5, hE⟩ := cl_e hE
      refine gf_X1_15 C hW k_x0 er_5 dX1_hasCatch_23 (fun k_r_5 => ?_)
      refine lv_iload_n C.1 C.2.1 dX1_hasCatch_26 rfl (lv_at hl 1 rfl) ?_
      refine lv_bipush (v := (8 : Int32)) C.1 C.2.1 dX1_hasCatch_27 (by decide) ?_
      refine lv_imul C.1 C.2.1 dX1_hasCatch_29 ?_
      refine lv_iload_n C.1 C.2.1 dX1_hasCatch_30 rfl (lv_at hl 2 rfl) ?_
      refine lv_iadd C.1 C.2.1 dX1_hasCatch_31 ?_
      obtain ⟨g_6, hE⟩ := gd_e hE
      refine y_iald C hW k_r_5 g_6 dX1_hasCatch_32 ?_
      refine lv_bipush (v := (32 : Int32)) C.1 C.2.1 dX1_hasCatch_33 (by decide) ?_
      refine lv_iand C.1 C.2.1 dX1_hasCatch_35 ?_
      refine lv_if_eq (tgt := 41) C.1 C.2.1 dX1_hasCatch_36 (by decide) (fun c_7 => ?_) (fun c_7 => ?_)
      · have hE := br_p hE c_7
        obtain ⟨v_8, ev_8, hE⟩ := nm_e2 hE
        refine lv_iinc (v := v_8) (lv' := [(2, .int v_8), (0, .ref x0), (1, .int x1)]) C.1 C.2.1 dX1_hasCatch_41 hl (k := 2) rfl (by rw [ev_8]; rfl) (by decide) rfl (fun ls hl => ?_)
        refine lv_goto (tgt := 12) C.1 C.2.1 dX1_hasCatch_44 (by decide) ?_
        exact hk_12 _ _ _ _ _ _ k_x0 hkm hW hZ _ (lv_sub hl [1, 2, 0] rfl) hE
      · have hE := br_n hE c_7
        refine lv_iconst (v := (1 : Int32)) C.1 C.2.1 dX1_hasCatch_39 (by decide) ?_
        exact x_iret C rfl (by decide) hW hZ hkm hE dX1_hasCatch_40
set_option maxRecDepth 20000 in
theorem bX1_hasCatch_2 {p : Program} {l : Launch} {e : Env} {s : State} {m : MethodId} {args : Array Value} {below : List Frame} {meth : Method} {c : Code} {X : Ec} {h0 : Hp} {o : Int32 × Hp} {F : Nat} (C : Cx X p s m args meth c RX1 cX1_hasCatch 3 (some .boolean) "hasCatch") : ∀ (f : Nat) {h : Hp} {x0 : Nat} {x1 : Int32} {H : Heap} {locs : List Loc} (k_x0 : hK h x0 = 1), Km h0 h → Wx X h H → va_S (aA (eB X)) s.heap H locs → ∀ (ls : Array Slot), lv_has ls 3 [(0, .ref x0), (1, .int x1)] → sX1_hasCatch_2 F f h x0 x1 = some o → W p l e (rm 0 0) s m args below meth c H locs 0 0 (MQ below (QI X h0 o.1 o.2) args s 0 0 (aA (eB X))) (F0 m 2 ls []) := by
  intro f
  induction f with
  | zero =>
    intro h x0 x1 H locs k_x0 hkm hW hZ ls hl hE
    rw [sX1_hasCatch_2] at hE
    cases hE
  | succ f ih =>
    intro h x0 x1 H locs k_x0 hkm hW hZ ls hl hE
    rw [sX1_hasCatch_2] at hE
    have hk_2 : ∀ (h : Hp) (x0 : Nat) (x1 : Int32) (H : Heap) (locs : List Loc), hK h x0 = 1 → Km h0 h → Wx X h H → va_S (aA (eB X)) s.heap H locs → ∀ (ls : Array Slot), lv_has ls 3 [(0, .ref x0), (1, .int x1)] → sX1_hasCatch_2 F f h x0 x1 = some o → W p l e (rm 0 0) s m args below meth c H locs 0 0 (MQ below (QI X h0 o.1 o.2) args s 0 0 (aA (eB X))) (F0 m 2 ls []) := fun h x0 x1 H locs k_x0 a b c ls hl hE => ih k_x0 a b c ls hl hE
    refine lv_iload_n C.1 C.2.1 dX1_hasCatch_2 rfl (lv_at hl 1 rfl) ?_
    refine lv_aload_n C.1 C.2.1 dX1_hasCatch_3 rfl (lv_at hl 0 rfl) ?_
    refine gf_X1_52 C hW k_x0 dX1_hasCatch_4 ?_
    refine lv_icmp_ge (tgt := 53) C.1 C.2.1 dX1_hasCatch_7 (by decide) (fun c_1 => ?_) (fun c_1 => ?_)
    · have hE := br_p hE c_1
      refine lv_iconst (v := (0 : Int32)) C.1 C.2.1 dX1_hasCatch_53 (by decide) ?_
      exact x_iret C rfl (by decide) hW hZ hkm hE dX1_hasCatch_54
    · have hE := br_n hE c_1
      refine lv_iconst (v := (0 : Int32)) C.1 C.2.1 dX1_hasCatch_10 (by decide) ?_
      refine lv_istore_n (lv' := [(2, .int (0 : Int32)), (0, .ref x0), (1, .int x1)]) C.1 C.2.1 dX1_hasCatch_11 rfl hl (by decide) rfl (fun ls hl => ?_)
      exact bX1_hasCatch_12 C hk_2 F k_x0 hkm hW hZ _ (lv_sub hl [1, 2, 0] rfl) hE
set_option maxRecDepth 20000 in
theorem ct_X1_hasCatch (l : Launch) (X : Ec) (F : Nat) {h : Hp} {x0 : Nat} {o : Int32 × Hp} (k_x0 : hK h x0 = 1) (hE : sX1_hasCatch F h x0 = some o) : MetI l yX1_hasCatch cX1_hasCatch 3 (some .boolean) 0 0 X [.ref x0] h o := by
  refine x_met (by decide) (Nat.le_of_ble_eq_true rfl) ?_
  intro p e s m below meth c ls C hl hW hZ
  have hl : lv_has ls 3 [(0, .ref x0)] := hl
  have hkm : Km h h := Km.rf h
  refine lv_iconst (v := (0 : Int32)) C.1 C.2.1 dX1_hasCatch_0 (by decide) ?_
  refine lv_istore_n (lv' := [(1, .int (0 : Int32)), (0, .ref x0)]) C.1 C.2.1 dX1_hasCatch_1 rfl hl (by decide) rfl (fun ls hl => ?_)
  exact bX1_hasCatch_2 C F k_x0 hkm hW hZ _ (lv_sub hl [1, 0] rfl) hE
