section
variable {p : Program} {l : Launch} {e : Env} {R : Room} {s : State} {m : MethodId} {args : Array Value} {below : List Frame} {meth : Method} {c : Code} {H : Heap} {locs : List Loc} {cells slots : Nat} {Q : State → Prop}
variable {cc : ByteArray} {pc : Nat} {ls : Array Slot} {rest : List Value} {X : Ec} {h h1 : Hp} {nL : Nat} {rt : Option FieldType} {mn : String}
theorem gf_X15_126 {a : Nat} (C : Cx X p s m args meth c RX15 cc nL rt mn) (hW : Wx X h H) (ha : hK h a = 14) (hdg : decode cc pc = .ok (.getfield 126, 3)) (kk : W p l e R s m args below meth c H locs cells slots Q (F0 m (pc + 3) ls (.int (hI h a 15) :: rest))) : W p l e R s m args below meth c H locs cells slots Q (F0 m pc ls (.ref a :: rest)) :=
  y_getiN C hW ha i_X14 (by decide) rfl (by decide) n_1835 rfl hdg kk
theorem gf_X15_142 {a : Nat} (C : Cx X p s m args meth c RX15 cc nL rt mn) (hW : Wx X h H) (ha : hK h a = 14) (hdg : decode cc pc = .ok (.getfield 142, 3)) (kk : W p l e R s m args below meth c H locs cells slots Q (F0 m (pc + 3) ls (.int (hI h a 18) :: rest))) : W p l e R s m args below meth c H locs cells slots Q (F0 m pc ls (.ref a :: rest)) :=
  y_getiN C hW ha i_X14 (by decide) rfl (by decide) n_1841 rfl hdg kk
theorem gf_X15_233 {a : Nat} (C : Cx X p s m args meth c RX15 cc nL rt mn) (hW : Wx X h H) (ha : hK h a = 14) (hdg : decode cc pc = .ok (.getfield 233, 3)) (kk : W p l e R s m args below meth c H locs cells slots Q (F0 m (pc + 3) ls (.int (hI h a 20) :: rest))) : W p l e R s m args below meth c H locs cells slots Q (F0 m pc ls (.ref a :: rest)) :=
  y_getiN C hW ha i_X14 (by decide) rfl (by decide) n_1845 rfl hdg kk
end
theorem dX15_before_0 : decode cX15_before 0 = .ok (.aload_n 0, 1) := by decide +kernel
theorem dX15_before_1 : decode cX15_before 1 = .ok (.iload_n 1, 1) := by decide +kernel
theorem dX15_before_2 : decode cX15_before 2 = .ok (.invokevirtual 486, 3) := by decide +kernel
theorem dX15_before_5 : decode cX15_before 5 = .ok (.ifCond .ne 6, 3) := by decide +kernel
theorem dX15_before_8 : decode cX15_before 8 = .ok (.bipush (-102), 2) := by decide +kernel
theorem dX15_before_10 : decode cX15_before 10 = .ok (.ireturn, 1) := by decide +kernel
theorem dX15_before_11 : decode cX15_before 11 = .ok (.aload_n 0, 1) := by decide +kernel
theorem dX15_before_12 : decode cX15_before 12 = .ok (.getfield 252, 3) := by decide +kernel
theorem dX15_before_15 : decode cX15_before 15 = .ok (.getfield 126, 3) := by decide +kernel
theorem dX15_before_18 : decode cX15_before 18 = .ok (.ifCond .ne 23, 3) := by decide +kernel
theorem dX15_before_21 : decode cX15_before 21 = .ok (.aload_n 0, 1) := by decide +kernel
theorem dX15_before_22 : decode cX15_before 22 = .ok (.getfield 252, 3) := by decide +kernel
theorem dX15_before_25 : decode cX15_before 25 = .ok (.getfield 142, 3) := by decide +kernel
theorem dX15_before_28 : decode cX15_before 28 = .ok (.ifCond .ne 13, 3) := by decide +kernel
theorem dX15_before_31 : decode cX15_before 31 = .ok (.aload_n 0, 1) := by decide +kernel
theorem dX15_before_32 : decode cX15_before 32 = .ok (.getfield 252, 3) := by decide +kernel
theorem dX15_before_35 : decode cX15_before 35 = .ok (.getfield 233, 3) := by decide +kernel
theorem dX15_before_38 : decode cX15_before 38 = .ok (.ifCond .le 6, 3) := by decide +kernel
theorem dX15_before_41 : decode cX15_before 41 = .ok (.bipush (-103), 2) := by decide +kernel
theorem dX15_before_43 : decode cX15_before 43 = .ok (.ireturn, 1) := by decide +kernel
theorem dX15_before_44 : decode cX15_before 44 = .ok (.aload_n 0, 1) := by decide +kernel
theorem dX15_before_45 : decode cX15_before 45 = .ok (.iconst 0, 1) := by decide +kernel
theorem dX15_before_46 : decode cX15_before 46 = .ok (.putfield 390, 3) := by decide +kernel
theorem dX15_before_49 : decode cX15_before 49 = .ok (.aload_n 0, 1) := by decide +kernel
theorem dX15_before_50 : decode cX15_before 50 = .ok (.getfield 257, 3) := by decide +kernel
theorem dX15_before_53 : decode cX15_before 53 = .ok (.iload_n 1, 1) := by decide +kernel
theorem dX15_before_54 : decode cX15_before 54 = .ok (.aaload, 1) := by decide +kernel
set_option maxRecDepth 20000 in
theorem moX15_before_41 {o : Int32 × Hp} {F : Nat} {h : Hp} (hE : sX15_before_41 F h  = some o) : Le h o.2 := by
  exact le_some2 hE
set_option maxRecDepth 20000 in
theorem moX15_before_5 {o : Int32 × Hp} {F : Nat} {h : Hp} {x0 : Nat} {x1 : Int32} {t0 : Int32} (hE : sX15_before_5 F h x0 x1 t0 = some o) : Le h o.2 := by
  rcases br_e hE with ⟨_, hE⟩ | ⟨_, hE⟩
  · exact le_some2 hE
  · obtain ⟨r_2, er_2, hE⟩ := cl_e hE
    rcases br_e hE with ⟨_, hE⟩ | ⟨_, hE⟩
    · obtain ⟨r_4, er_4, hE⟩ := cl_e hE
      rcases br_e hE with ⟨_, hE⟩ | ⟨_, hE⟩
      · obtain ⟨r_6, er_6, hE⟩ := cl_e hE
        rcases br_e hE with ⟨_, hE⟩ | ⟨_, hE⟩
        · obtain ⟨h_8, eh_8, hE⟩ := nm_e2 hE
          refine (le_I eh_8).tr ?_
          obtain ⟨r_9, er_9, hE⟩ := cl_e hE
          cases hE
        · exact moX15_before_41 hE
      · exact moX15_before_41 hE
    · exact moX15_before_41 hE
set_option maxRecDepth 20000 in
theorem moX15_before {o : Int32 × Hp} {F : Nat} {h : Hp} {x0 : Nat} {x1 : Int32} (hE : sX15_before F h x0 x1 = some o) : Le h o.2 := by
  obtain ⟨o_1, eo_1, hE⟩ := cl_e hE
  refine (moX15_has eo_1).tr ?_
  exact moX15_before_5 hE
set_option maxRecDepth 20000 in
theorem bX15_before_41 {p : Program} {l : Launch} {e : Env} {s : State} {m : MethodId} {args : Array Value} {below : List Frame} {meth : Method} {c : Code} {X : Ec} {h0 : Hp} {o : Int32 × Hp} {F : Nat} (C : Cx X p s m args meth c RX15 cX15_before 4 (some .int) "before") {h : Hp} {H : Heap} {locs : List Loc} (hkl : Kl h0 h) (hW : Wx X h H) (hZ : va_S (aA (eB X)) s.heap H locs) (ls : Array Slot) (hl : lv_has ls 4 []) (hE : sX15_before_41 F h  = some o) : W p l e (rmA 1 21 h0 o.2) s m args below meth c H locs (hS h - hS h0) (hL h - hL h0) (MQ below (QIA X h0 o.1 o.2) args s (hS o.2 - hS h0) (hL o.2 - hL h0) (aA (eB X))) (F0 m 41 ls []) := by
  refine lv_bipush (v := (-103 : Int32)) C.1 C.2.1 dX15_before_41 (by decide) ?_
  exact x_iretA C rfl rfl hW hZ hkl hE dX15_before_43
set_option maxRecDepth 20000 in
theorem bX15_before_5 {p : Program} {l : Launch} {e : Env} {s : State} {m : MethodId} {args : Array Value} {below : List Frame} {meth : Method} {c : Code} {X : Ec} {h0 : Hp} {o : Int32 × Hp} {F : Nat} (C : Cx X p s m args meth c RX15 cX15_before 4 (some .int) "before") {h : Hp} {x0 : Nat} {x1 : Int32} {t0 : Int32} {H : Heap} {locs : List Loc} (k_x0 : hK h x0 = 15) (hkl : Kl h0 h) (hW : Wx X h H) (hZ : va_S (aA (eB X)) s.heap H locs) (ls : Array Slot) (hl : lv_has ls 4 [(0, .ref x0), (1, .int x1)]) (hE : sX15_before_5 F h x0 x1 t0 = some o) : W p l e (rmA 1 21 h0 o.2) s m args below meth c H locs (hS h - hS h0) (hL h - hL h0) (MQ below (QIA X h0 o.1 o.2) args s (hS o.2 - hS h0) (hL o.2 - hL h0) (aA (eB X))) (F0 m 5 ls [.int t0]) := by
  refine lv_if_ne (tgt := 11) C.1 C.2.1 dX15_before_5 (by decide) (fun c_1 => ?_) (fun c_1 => ?_)
  · have hE := br_n hE c_1
    refine lv_aload_n C.1 C.2.1 dX15_before_11 rfl (lv_at hl 0 rfl) ?_
    obtain ⟨r_2, er_2, hE⟩ := cl_e hE
    refine gf_X15_252 C hW k_x0 er_2 dX15_before_12 (fun k_r_2 => ?_)
    refine gf_X15_126 C hW k_r_2 dX15_before_15 ?_
    refine lv_if_ne (tgt := 41) C.1 C.2.1 dX15_before_18 (by decide) (fun c_3 => ?_) (fun c_3 => ?_)
    · have hE := br_n hE c_3
      exact bX15_before_41 C hkl hW hZ _ (lv_sub hl [] rfl) hE
    · have hE := br_p hE c_3
      refine lv_aload_n C.1 C.2.1 dX15_before_21 rfl (lv_at hl 0 rfl) ?_
      obtain ⟨r_4, er_4, hE⟩ := cl_e hE
      refine gf_X15_252 C hW k_x0 er_4 dX15_before_22 (fun k_r_4 => ?_)
      refine gf_X15_142 C hW k_r_4 dX15_before_25 ?_
      refine lv_if_ne (tgt := 41) C.1 C.2.1 dX15_before_28 (by decide) (fun c_5 => ?_) (fun c_5 => ?_)
      · have hE := br_n hE c_5
        exact bX15_before_41 C hkl hW hZ _ (lv_sub hl [] rfl) hE
      · have hE := br_p hE c_5
        refine lv_aload_n C.1 C.2.1 dX15_before_31 rfl (lv_at hl 0 rfl) ?_
        obtain ⟨r_6, er_6, hE⟩ := cl_e hE
        refine gf_X15_252 C hW k_x0 er_6 dX15_before_32 (fun k_r_6 => ?_)
        refine gf_X15_233 C hW k_r_6 dX15_before_35 ?_
        refine lv_if_le (tgt := 44) C.1 C.2.1 dX15_before_38 (by decide) (fun c_7 => ?_) (fun c_7 => ?_)
        · have hE := br_p hE c_7
          refine lv_aload_n C.1 C.2.1 dX15_before_44 rfl (lv_at hl 0 rfl) ?_
          refine lv_iconst (v := (0 : Int32)) C.1 C.2.1 dX15_before_45 (by decide) ?_
          obtain ⟨h_8, eh_8, hE⟩ := nm_e2 hE
          refine pf_X15_390 C hW hZ k_x0 eh_8 dX15_before_46 (fun _ _ hW km hZ => ?_)
          replace hkl := hkl.tr km.l
          refine x_wc km ?_
          replace k_x0 := km.at k_x0 (by decide)
          refine lv_aload_n C.1 C.2.1 dX15_before_49 rfl (lv_at hl 0 rfl) ?_
          obtain ⟨r_9, er_9, hE⟩ := cl_e hE
          refine gf_X15_257 C hW k_x0 er_9 dX15_before_50 (fun k_r_9 => ?_)
          refine lv_iload_n C.1 C.2.1 dX15_before_53 rfl (lv_at hl 1 rfl) ?_
          cases hE
        · have hE := br_n hE c_7
          exact bX15_before_41 C hkl hW hZ _ (lv_sub hl [] rfl) hE
  · have hE := br_p hE c_1
    refine lv_bipush (v := (-102 : Int32)) C.1 C.2.1 dX15_before_8 (by decide) ?_
    exact x_iretA C rfl rfl hW hZ hkl hE dX15_before_10
set_option maxRecDepth 20000 in
theorem ct_X15_before (l : Launch) (X : Ec) (F : Nat) {h : Hp} {x0 : Nat} {x1 : Int32} {o : Int32 × Hp} (k_x0 : hK h x0 = 15) (hE : sX15_before F h x0 x1 = some o) : MetIA l yX15_before cX15_before 4 (some .int) 1 21 X [.ref x0, .int x1] h o := by
  refine x_metA (oh := o.2) (by decide) (Nat.le_of_ble_eq_true rfl) ?_
  intro p e s m below meth c ls C hl hW hZ
  have hl : lv_has ls 4 [(0, .ref x0), (1, .int x1)] := hl
  have hkl : Kl h h := Kl.rf h
  refine lv_aload_n C.1 C.2.1 dX15_before_0 rfl (lv_at hl 0 rfl) ?_
  refine lv_iload_n C.1 C.2.1 dX15_before_1 rfl (lv_at hl 1 rfl) ?_
  obtain ⟨o_1, eo_1, hE⟩ := cl_e hE
  have m1 := moX15_has eo_1
  have m2 := moX15_before_5 hE
  refine x_kI (o := o_1) (z_runV (As := [.int x1]) (rest := []) C (ct_X15_has l X k_x0 eo_1) cw_X15_486 hW hZ k_x0 (by decide) rfl rfl rfl hl.1 (Nat.le_of_ble_eq_true rfl) rfl dX15_before_2 ⟨Nat.le_of_ble_eq_true rfl, Nat.le_of_ble_eq_true rfl⟩ (rm_ok0 hkl m1 m2)) hZ (fun _ _ hW km hZ => ?_)
  replace hkl := hkl.tr km.l
  refine x_wc km ?_
  replace k_x0 := km.at k_x0 (by decide)
  exact bX15_before_5 C k_x0 hkl hW hZ _ (lv_sub hl [0, 1] rfl) hE
section
variable {p : Program} {l : Launch} {e : Env} {R : Room} {s : State} {m : MethodId} {args : Array Value} {below : List Frame} {meth : Method} {c : Code} {H : Heap} {locs : List Loc} {cells slots : Nat} {Q : State → Prop}
variable {cc : ByteArray} {pc : Nat} {ls : Array Slot} {rest : List Value} {X : Ec} {h h1 : Hp} {nL : Nat} {rt : Option FieldType} {mn : String}
theorem gf_X15_390 {a : Nat} (C : Cx X p s m args meth c RX15 cc nL rt mn) (hW : Wx X h H) (ha : hK h a = 15) (hdg : decode cc pc = .ok (.getfield 390, 3)) (kk : W p l e R s m args below meth c H locs cells slots Q (F0 m (pc + 3) ls (.int (hI h a 44) :: rest))) : W p l e R s m args below meth c H locs cells slots Q (F0 m pc ls (.ref a :: rest)) :=
  y_geti C hW ha i_X15 (by decide) rfl (by decide) m_2155 rfl hdg kk
theorem gf_X15_317 {a r : Nat} (C : Cx X p s m args meth c RX15 cc nL rt mn) (hW : Wx X h H) (ha : hK h a = 15) (hr : hR h a 40 = some r) (hdg : decode cc pc = .ok (.getfield 317, 3)) (kk : hK h r = 21 → W p l e R s m args below meth c H locs cells slots Q (F0 m (pc + 3) ls (.ref r :: rest))) : W p l e R s m args below meth c H locs cells slots Q (F0 m pc ls (.ref a :: rest)) :=
  y_getr C hW ha i_X15 (by decide) rfl (by decide) m_2151 rfl rfl hr hdg kk
theorem gf_X15_324 {a r : Nat} (C : Cx X p s m args meth c RX15 cc nL rt mn) (hW : Wx X h H) (ha : hK h a = 15) (hr : hR h a 42 = some r) (hdg : decode cc pc = .ok (.getfield 324, 3)) (kk : hK h r = 17 → W p l e R s m args below meth c H locs cells slots Q (F0 m (pc + 3) ls (.ref r :: rest))) : W p l e R s m args below meth c H locs cells slots Q (F0 m pc ls (.ref a :: rest)) :=
  y_getr C hW ha i_X15 (by decide) rfl (by decide) m_2153 rfl rfl hr hdg kk
end
theorem dX15_beforeAt_0 : decode cX15_beforeAt 0 = .ok (.iload_n 1, 1) := by decide +kernel
theorem dX15_beforeAt_1 : decode cX15_beforeAt 1 = .ok (.ifCond .lt 11, 3) := by decide +kernel
theorem dX15_beforeAt_4 : decode cX15_beforeAt 4 = .ok (.iload_n 1, 1) := by decide +kernel
theorem dX15_beforeAt_5 : decode cX15_beforeAt 5 = .ok (.aload_n 0, 1) := by decide +kernel
theorem dX15_beforeAt_6 : decode cX15_beforeAt 6 = .ok (.getfield 390, 3) := by decide +kernel
theorem dX15_beforeAt_9 : decode cX15_beforeAt 9 = .ok (.if_icmp .lt 8, 3) := by decide +kernel
theorem dX15_beforeAt_12 : decode cX15_beforeAt 12 = .ok (.bipush (-102), 2) := by decide +kernel
theorem dX15_beforeAt_14 : decode cX15_beforeAt 14 = .ok (.goto 18, 3) := by decide +kernel
theorem dX15_beforeAt_17 : decode cX15_beforeAt 17 = .ok (.aload_n 0, 1) := by decide +kernel
theorem dX15_beforeAt_18 : decode cX15_beforeAt 18 = .ok (.aload_n 0, 1) := by decide +kernel
theorem dX15_beforeAt_19 : decode cX15_beforeAt 19 = .ok (.getfield 317, 3) := by decide +kernel
theorem dX15_beforeAt_22 : decode cX15_beforeAt 22 = .ok (.aload_n 0, 1) := by decide +kernel
theorem dX15_beforeAt_23 : decode cX15_beforeAt 23 = .ok (.getfield 324, 3) := by decide +kernel
theorem dX15_beforeAt_26 : decode cX15_beforeAt 26 = .ok (.iload_n 1, 1) := by decide +kernel
theorem dX15_beforeAt_27 : decode cX15_beforeAt 27 = .ok (.iaload, 1) := by decide +kernel
theorem dX15_beforeAt_28 : decode cX15_beforeAt 28 = .ok (.aaload, 1) := by decide +kernel
theorem dX15_beforeAt_32 : decode cX15_beforeAt 32 = .ok (.ireturn, 1) := by decide +kernel
set_option maxRecDepth 20000 in
theorem moX15_beforeAt_32 {o : Int32 × Hp} {h : Hp} {t0 : Int32} (hE : sX15_beforeAt_32 h  t0 = some o) : Le h o.2 := by
  exact le_some2 hE
set_option maxRecDepth 20000 in
theorem moX15_beforeAt_12 {o : Int32 × Hp} {h : Hp} (hE : sX15_beforeAt_12 h  = some o) : Le h o.2 := by
  exact moX15_beforeAt_32 hE
set_option maxRecDepth 20000 in
theorem moX15_beforeAt {o : Int32 × Hp} {h : Hp} {x0 : Nat} {x1 : Int32} (hE : sX15_beforeAt h x0 x1 = some o) : Le h o.2 := by
  rcases br_e hE with ⟨_, hE⟩ | ⟨_, hE⟩
  · exact moX15_beforeAt_12 hE
  · rcases br_e hE with ⟨_, hE⟩ | ⟨_, hE⟩
    · obtain ⟨r_3, er_3, hE⟩ := cl_e hE
      obtain ⟨r_4, er_4, hE⟩ := cl_e hE
      obtain ⟨g_5, hE⟩ := gd_e hE
      cases hE
    · exact moX15_beforeAt_12 hE
set_option maxRecDepth 20000 in
theorem bX15_beforeAt_32 {p : Program} {l : Launch} {e : Env} {s : State} {m : MethodId} {args : Array Value} {below : List Frame} {meth : Method} {c : Code} {X : Ec} {h0 : Hp} {o : Int32 × Hp} (C : Cx X p s m args meth c RX15 cX15_beforeAt 2 (some .int) "beforeAt") {h : Hp} {t0 : Int32} {H : Heap} {locs : List Loc} (hkl : Kl h0 h) (hW : Wx X h H) (hZ : va_S (aA (eB X)) s.heap H locs) (ls : Array Slot) (hl : lv_has ls 2 []) (hE : sX15_beforeAt_32 h  t0 = some o) : W p l e (rmA 0 0 h0 o.2) s m args below meth c H locs (hS h - hS h0) (hL h - hL h0) (MQ below (QIA X h0 o.1 o.2) args s (hS o.2 - hS h0) (hL o.2 - hL h0) (aA (eB X))) (F0 m 32 ls [.int t0]) := by
  exact x_iretA C rfl rfl hW hZ hkl hE dX15_beforeAt_32
set_option maxRecDepth 20000 in
theorem bX15_beforeAt_12 {p : Program} {l : Launch} {e : Env} {s : State} {m : MethodId} {args : Array Value} {below : List Frame} {meth : Method} {c : Code} {X : Ec} {h0 : Hp} {o : Int32 × Hp} (C : Cx X p s m args meth c RX15 cX15_beforeAt 2 (some .int) "beforeAt") {h : Hp} {H : Heap} {locs : List Loc} (hkl : Kl h0 h) (hW : Wx X h H) (hZ : va_S (aA (eB X)) s.heap H locs) (ls : Array Slot) (hl : lv_has ls 2 []) (hE : sX15_beforeAt_12 h  = some o) : W p l e (rmA 0 0 h0 o.2) s m args below meth c H locs (hS h - hS h0) (hL h - hL h0) (MQ below (QIA X h0 o.1 o.2) args s (hS o.2 - hS h0) (hL o.2 - hL h0) (aA (eB X))) (F0 m 12 ls []) := by
  refine lv_bipush (v := (-102 : Int32)) C.1 C.2.1 dX15_beforeAt_12 (by decide) ?_
  refine lv_goto (tgt := 32) C.1 C.2.1 dX15_beforeAt_14 (by decide) ?_
  exact bX15_beforeAt_32 C hkl hW hZ _ (lv_sub hl [] rfl) hE
set_option maxRecDepth 20000 in
theorem ct_X15_beforeAt (l : Launch) (X : Ec) {h : Hp} {x0 : Nat} {x1 : Int32} {o : Int32 × Hp} (k_x0 : hK h x0 = 15) (hE : sX15_beforeAt h x0 x1 = some o) : MetIA l yX15_beforeAt cX15_beforeAt 2 (some .int) 0 0 X [.ref x0, .int x1] h o := by
  refine x_metA (oh := o.2) (by decide) (Nat.le_of_ble_eq_true rfl) ?_
  intro p e s m below meth c ls C hl hW hZ
  have hl : lv_has ls 2 [(0, .ref x0), (1, .int x1)] := hl
  have hkl : Kl h h := Kl.rf h
  refine lv_iload_n C.1 C.2.1 dX15_beforeAt_0 rfl (lv_at hl 1 rfl) ?_
  refine lv_if_lt (tgt := 12) C.1 C.2.1 dX15_beforeAt_1 (by decide) (fun c_1 => ?_) (fun c_1 => ?_)
  · have hE := br_p hE c_1
    exact bX15_beforeAt_12 C hkl hW hZ _ (lv_sub hl [] rfl) hE
  · have hE := br_n hE c_1
    refine lv_iload_n C.1 C.2.1 dX15_beforeAt_4 rfl (lv_at hl 1 rfl) ?_
    refine lv_aload_n C.1 C.2.1 dX15_beforeAt_5 rfl (lv_at hl 0 rfl) ?_
    refine gf_X15_390 C hW k_x0 dX15_beforeAt_6 ?_
    refine lv_icmp_lt (tgt := 17) C.1 C.2.1 dX15_beforeAt_9 (by decide) (fun c_2 => ?_) (fun c_2 => ?_)
    · have hE := br_p hE c_2
      refine lv_aload_n C.1 C.2.1 dX15_beforeAt_17 rfl (lv_at hl 0 rfl) ?_
      refine lv_aload_n C.1 C.2.1 dX15_beforeAt_18 rfl (lv_at hl 0 rfl) ?_
      obtain ⟨r_3, er_3, hE⟩ := cl_e hE
      refine gf_X15_317 C hW k_x0 er_3 dX15_beforeAt_19 (fun k_r_3 => ?_)
      refine lv_aload_n C.1 C.2.1 dX15_beforeAt_22 rfl (lv_at hl 0 rfl) ?_
      obtain ⟨r_4, er_4, hE⟩ := cl_e hE
      refine gf_X15_324 C hW k_x0 er_4 dX15_beforeAt_23 (fun k_r_4 => ?_)
      refine lv_iload_n C.1 C.2.1 dX15_beforeAt_26 rfl (lv_at hl 1 rfl) ?_
      obtain ⟨g_5, hE⟩ := gd_e hE
      refine y_iald C hW k_r_4 g_5 dX15_beforeAt_27 ?_
      cases hE
    · have hE := br_n hE c_2
      exact bX15_beforeAt_12 C hkl hW hZ _ (lv_sub hl [] rfl) hE
theorem dX15_hasCatches_0 : decode cX15_hasCatches 0 = .ok (.iconst 0, 1) := by decide +kernel
theorem dX15_hasCatches_1 : decode cX15_hasCatches 1 = .ok (.istore_n 1, 1) := by decide +kernel
theorem dX15_hasCatches_2 : decode cX15_hasCatches 2 = .ok (.iload_n 1, 1) := by decide +kernel
theorem dX15_hasCatches_3 : decode cX15_hasCatches 3 = .ok (.aload_n 0, 1) := by decide +kernel
theorem dX15_hasCatches_4 : decode cX15_hasCatches 4 = .ok (.getfield 252, 3) := by decide +kernel
theorem dX15_hasCatches_7 : decode cX15_hasCatches 7 = .ok (.getfield 169, 3) := by decide +kernel
theorem dX15_hasCatches_10 : decode cX15_hasCatches 10 = .ok (.if_icmp .ge 52, 3) := by decide +kernel
theorem dX15_hasCatches_13 : decode cX15_hasCatches 13 = .ok (.iconst 0, 1) := by decide +kernel
theorem dX15_hasCatches_14 : decode cX15_hasCatches 14 = .ok (.istore_n 2, 1) := by decide +kernel
theorem dX15_hasCatches_15 : decode cX15_hasCatches 15 = .ok (.iload_n 2, 1) := by decide +kernel
theorem dX15_hasCatches_16 : decode cX15_hasCatches 16 = .ok (.aload_n 0, 1) := by decide +kernel
theorem dX15_hasCatches_17 : decode cX15_hasCatches 17 = .ok (.getfield 252, 3) := by decide +kernel
theorem dX15_hasCatches_20 : decode cX15_hasCatches 20 = .ok (.getfield 176, 3) := by decide +kernel
theorem dX15_hasCatches_23 : decode cX15_hasCatches 23 = .ok (.iload_n 1, 1) := by decide +kernel
theorem dX15_hasCatches_24 : decode cX15_hasCatches 24 = .ok (.iaload, 1) := by decide +kernel
theorem dX15_hasCatches_25 : decode cX15_hasCatches 25 = .ok (.if_icmp .ge 31, 3) := by decide +kernel
theorem dX15_hasCatches_28 : decode cX15_hasCatches 28 = .ok (.aload_n 0, 1) := by decide +kernel
theorem dX15_hasCatches_29 : decode cX15_hasCatches 29 = .ok (.getfield 252, 3) := by decide +kernel
theorem dX15_hasCatches_32 : decode cX15_hasCatches 32 = .ok (.getfield 198, 3) := by decide +kernel
theorem dX15_hasCatches_35 : decode cX15_hasCatches 35 = .ok (.bipush 8, 2) := by decide +kernel
theorem dX15_hasCatches_37 : decode cX15_hasCatches 37 = .ok (.iload_n 1, 1) := by decide +kernel
theorem dX15_hasCatches_38 : decode cX15_hasCatches 38 = .ok (.imul, 1) := by decide +kernel
theorem dX15_hasCatches_39 : decode cX15_hasCatches 39 = .ok (.iload_n 2, 1) := by decide +kernel
theorem dX15_hasCatches_40 : decode cX15_hasCatches 40 = .ok (.iadd, 1) := by decide +kernel
theorem dX15_hasCatches_41 : decode cX15_hasCatches 41 = .ok (.iaload, 1) := by decide +kernel
theorem dX15_hasCatches_42 : decode cX15_hasCatches 42 = .ok (.bipush 32, 2) := by decide +kernel
theorem dX15_hasCatches_44 : decode cX15_hasCatches 44 = .ok (.iand, 1) := by decide +kernel
theorem dX15_hasCatches_45 : decode cX15_hasCatches 45 = .ok (.ifCond .eq 5, 3) := by decide +kernel
theorem dX15_hasCatches_48 : decode cX15_hasCatches 48 = .ok (.iconst 1, 1) := by decide +kernel
theorem dX15_hasCatches_49 : decode cX15_hasCatches 49 = .ok (.ireturn, 1) := by decide +kernel
theorem dX15_hasCatches_50 : decode cX15_hasCatches 50 = .ok (.iinc 2 1, 3) := by decide +kernel
theorem dX15_hasCatches_53 : decode cX15_hasCatches 53 = .ok (.goto (-38), 3) := by decide +kernel
theorem dX15_hasCatches_56 : decode cX15_hasCatches 56 = .ok (.iinc 1 1, 3) := by decide +kernel
theorem dX15_hasCatches_59 : decode cX15_hasCatches 59 = .ok (.goto (-57), 3) := by decide +kernel
theorem dX15_hasCatches_62 : decode cX15_hasCatches 62 = .ok (.iconst 0, 1) := by decide +kernel
theorem dX15_hasCatches_63 : decode cX15_hasCatches 63 = .ok (.ireturn, 1) := by decide +kernel
set_option maxRecDepth 20000 in
theorem moX15_hasCatches_15 {o : Int32 × Hp} {k_2 : Hp → Nat → Int32 → Option (Int32 × Hp)} {F : Nat} (mk_2 : ∀ (h : Hp) (x0 : Nat) (x1 : Int32), k_2 h x0 x1 = some o → Le h o.2) : ∀ (f : Nat) {h : Hp} {x0 : Nat} {x1 : Int32} {x2 : Int32}, sX15_hasCatches_15 F k_2 f h x0 x1 x2 = some o → Le h o.2 := by
  intro f
  induction f with
  | zero =>
    intro h x0 x1 x2 hE
    rw [sX15_hasCatches_15] at hE
    cases hE
  | succ f ih =>
    intro h x0 x1 x2 hE
    rw [sX15_hasCatches_15] at hE
    have mk_15 : ∀ (h : Hp) (x0 : Nat) (x1 : Int32) (x2 : Int32), sX15_hasCatches_15 F k_2 f h x0 x1 x2 = some o → Le h o.2 := fun h x0 x1 x2 hE => ih hE
    obtain ⟨r_1, er_1, hE⟩ := cl_e hE
    obtain ⟨r_2, er_2, hE⟩ := cl_e hE
    obtain ⟨g_3, hE⟩ := gd_e hE
    rcases br_e hE with ⟨_, hE⟩ | ⟨_, hE⟩
    · obtain ⟨v_5, ev_5, hE⟩ := nm_e2 hE
      exact mk_2 _ _ _ hE
    · obtain ⟨r_6, er_6, hE⟩ := cl_e hE
      obtain ⟨r_7, er_7, hE⟩ := cl_e hE
      obtain ⟨g_8, hE⟩ := gd_e hE
      rcases br_e hE with ⟨_, hE⟩ | ⟨_, hE⟩
      · obtain ⟨v_10, ev_10, hE⟩ := nm_e2 hE
        exact mk_15 _ _ _ _ hE
      · exact le_some2 hE
set_option maxRecDepth 20000 in
theorem moX15_hasCatches_2 {o : Int32 × Hp} {F : Nat} : ∀ (f : Nat) {h : Hp} {x0 : Nat} {x1 : Int32}, sX15_hasCatches_2 F f h x0 x1 = some o → Le h o.2 := by
  intro f
  induction f with
  | zero =>
    intro h x0 x1 hE
    rw [sX15_hasCatches_2] at hE
    cases hE
  | succ f ih =>
    intro h x0 x1 hE
    rw [sX15_hasCatches_2] at hE
    have mk_2 : ∀ (h : Hp) (x0 : Nat) (x1 : Int32), sX15_hasCatches_2 F f h x0 x1 = some o → Le h o.2 := fun h x0 x1 hE => ih hE
    obtain ⟨r_1, er_1, hE⟩ := cl_e hE
    rcases br_e hE with ⟨_, hE⟩ | ⟨_, hE⟩
    · exact le_some2 hE
    · exact moX15_hasCatches_15 mk_2 _ hE
set_option maxRecDepth 20000 in
theorem moX15_hasCatches {o : Int32 × Hp} {F : Nat} {h : Hp} {x0 : Nat} (hE : sX15_hasCatches F h x0 = some o) : Le h o.2 := by
  exact moX15_hasCatches_2 _ hE
set_option maxRecDepth 20000 in
theorem bX15_hasCatches_15 {p : Program} {l : Launch} {e : Env} {s : State} {m : MethodId} {args : Array Value} {below : List Frame} {meth : Method} {c : Code} {X : Ec} {h0 : Hp} {o : Int32 × Hp} {k_2 : Hp → Nat → Int32 → Option (Int32 × Hp)} {F : Nat} (C : Cx X p s m args meth c RX15 cX15_hasCatches 3 (some .boolean) "hasCatches") (hk_2 : ∀ (h : Hp) (x0 : Nat) (x1 : Int32) (H : Heap) (locs : List Loc), hK h x0 = 15 → Km h0 h → Wx X h H → va_S (aA (eB X)) s.heap H locs → ∀ (ls : Array Slot), lv_has ls 3 [(0, .ref x0), (1, .int x1)] → k_2 h x0 x1 = some o → W p l e (rm 0 0) s m args below meth c H locs 0 0 (MQ below (QI X h0 o.1 o.2) args s 0 0 (aA (eB X))) (F0 m 2 ls [])) : ∀ (f : Nat) {h : Hp} {x0 : Nat} {x1 : Int32} {x2 : Int32} {H : Heap} {locs : List Loc} (k_x0 : hK h x0 = 15), Km h0 h → Wx X h H → va_S (aA (eB X)) s.heap H locs → ∀ (ls : Array Slot), lv_has ls 3 [(0, .ref x0), (1, .int x1), (2, .int x2)] → sX15_hasCatches_15 F k_2 f h x0 x1 x2 = some o → W p l e (rm 0 0) s m args below meth c H locs 0 0 (MQ below (QI X h0 o.1 o.2) args s 0 0 (aA (eB X))) (F0 m 15 ls []) := by
  intro f
  induction f with
  | zero =>
    intro h x0 x1 x2 H locs k_x0 hkm hW hZ ls hl hE
    rw [sX15_hasCatches_15] at hE
    cases hE
  | succ f ih =>
    intro h x0 x1 x2 H locs k_x0 hkm hW hZ ls hl hE
    rw [sX15_hasCatches_15] at hE
    have hk_15 : ∀ (h : Hp) (x0 : Nat) (x1 : Int32) (x2 : Int32) (H : Heap) (locs : List Loc), hK h x0 = 15 → Km h0 h → Wx X h H → va_S (aA (eB X)) s.heap H locs → ∀ (ls : Array Slot), lv_has ls 3 [(0, .ref x0), (1, .int x1), (2, .int x2)] → sX15_hasCatches_15 F k_2 f h x0 x1 x2 = some o → W p l e (rm 0 0) s m args below meth c H locs 0 0 (MQ below (QI X h0 o.1 o.2) args s 0 0 (aA (eB X))) (F0 m 15 ls []) := fun h x0 x1 x2 H locs k_x0 a b c ls hl hE => ih k_x0 a b c ls hl hE
    refine lv_iload_n C.1 C.2.1 dX15_hasCatches_15 rfl (lv_at hl 2 rfl) ?_
    refine lv_aload_n C.1 C.2.1 dX15_hasCatches_16 rfl (lv_at hl 0 rfl) ?_
    obtain ⟨r_1, er_1, hE⟩ := cl_e hE
    refine gf_X15_252 C hW k_x0 er_1 dX15_hasCatches_17 (fun k_r_1 => ?_)
    obtain ⟨r_2, er_2, hE⟩ := cl_e hE
    refine gf_X15_176 C hW k_r_1 er_2 dX15_hasCatches_20 (fun k_r_2 => ?_)
    refine lv_iload_n C.1 C.2.1 dX15_hasCatches_23 rfl (lv_at hl 1 rfl) ?_
    obtain ⟨g_3, hE⟩ := gd_e hE
    refine y_iald C hW k_r_2 g_3 dX15_hasCatches_24 ?_
    refine lv_icmp_ge (tgt := 56) C.1 C.2.1 dX15_hasCatches_25 (by decide) (fun c_4 => ?_) (fun c_4 => ?_)
    · have hE := br_p hE c_4
      obtain ⟨v_5, ev_5, hE⟩ := nm_e2 hE
      refine lv_iinc (v := v_5) (lv' := [(1, .int v_5), (0, .ref x0), (2, .int x2)]) C.1 C.2.1 dX15_hasCatches_56 hl (k := 1) rfl (by rw [ev_5]; rfl) (by decide) rfl (fun ls hl => ?_)
      refine lv_goto (tgt := 2) C.1 C.2.1 dX15_hasCatches_59 (by decide) ?_
      exact hk_2 _ _ _ _ _ k_x0 hkm hW hZ _ (lv_sub hl [1, 0] rfl) hE
    · have hE := br_n hE c_4
      refine lv_aload_n C.1 C.2.1 dX15_hasCatches_28 rfl (lv_at hl 0 rfl) ?_
      obtain ⟨r_6, er_6, hE⟩ := cl_e hE
      refine gf_X15_252 C hW k_x0 er_6 dX15_hasCatches_29 (fun k_r_6 => ?_)
      obtain ⟨r_7, er_7, hE⟩ := cl_e hE
      refine gf_X15_198 C hW k_r_6 er_7 dX15_hasCatches_32 (fun k_r_7 => ?_)
      refine lv_bipush (v := (8 : Int32)) C.1 C.2.1 dX15_hasCatches_35 (by decide) ?_
      refine lv_iload_n C.1 C.2.1 dX15_hasCatches_37 rfl (lv_at hl 1 rfl) ?_
      refine lv_imul C.1 C.2.1 dX15_hasCatches_38 ?_
      refine lv_iload_n C.1 C.2.1 dX15_hasCatches_39 rfl (lv_at hl 2 rfl) ?_
      refine lv_iadd C.1 C.2.1 dX15_hasCatches_40 ?_
      obtain ⟨g_8, hE⟩ := gd_e hE
      refine y_iald C hW k_r_7 g_8 dX15_hasCatches_41 ?_
      refine lv_bipush (v := (32 : Int32)) C.1 C.2.1 dX15_hasCatches_42 (by decide) ?_
      refine lv_iand C.1 C.2.1 dX15_hasCatches_44 ?_
      refine lv_if_eq (tgt := 50) C.1 C.2.1 dX15_hasCatches_45 (by decide) (fun c_9 => ?_) (fun c_9 => ?_)
      · have hE := br_p hE c_9
        obtain ⟨v_10, ev_10, hE⟩ := nm_e2 hE
        refine lv_iinc (v := v_10) (lv' := [(2, .int v_10), (0, .ref x0), (1, .int x1)]) C.1 C.2.1 dX15_hasCatches_50 hl (k := 2) rfl (by rw [ev_10]; rfl) (by decide) rfl (fun ls hl => ?_)
        refine lv_goto (tgt := 15) C.1 C.2.1 dX15_hasCatches_53 (by decide) ?_
        exact hk_15 _ _ _ _ _ _ k_x0 hkm hW hZ _ (lv_sub hl [1, 2, 0] rfl) hE
      · have hE := br_n hE c_9
        refine lv_iconst (v := (1 : Int32)) C.1 C.2.1 dX15_hasCatches_48 (by decide) ?_
        exact x_iret C rfl (by decide) hW hZ hkm hE dX15_hasCatches_49
set_option maxRecDepth 20000 in
theorem bX15_hasCatches_2 {p : Program} {l : Launch} {e : Env} {s : State} {m : MethodId} {args : Array Value} {below : List Frame} {meth : Method} {c : Code} {X : Ec} {h0 : Hp} {o : Int32 × Hp} {F : Nat} (C : Cx X p s m args meth c RX15 cX15_hasCatches 3 (some .boolean) "hasCatches") : ∀ (f : Nat) {h : Hp} {x0 : Nat} {x1 : Int32} {H : Heap} {locs : List Loc} (k_x0 : hK h x0 = 15), Km h0 h → Wx X h H → va_S (aA (eB X)) s.heap H locs → ∀ (ls : Array Slot), lv_has ls 3 [(0, .ref x0), (1, .int x1)] → sX15_hasCatches_2 F f h x0 x1 = some o → W p l e (rm 0 0) s m args below meth c H locs 0 0 (MQ below (QI X h0 o.1 o.2) args s 0 0 (aA (eB X))) (F0 m 2 ls []) := by
  intro f
  induction f with
  | zero =>
    intro h x0 x1 H locs k_x0 hkm hW hZ ls hl hE
    rw [sX15_hasCatches_2] at hE
    cases hE
  | succ f ih =>
    intro h x0 x1 H locs k_x0 hkm hW hZ ls hl hE
    rw [sX15_hasCatches_2] at hE
    have hk_2 : ∀ (h : Hp) (x0 : Nat) (x1 : Int32) (H : Heap) (locs : List Loc), hK h x0 = 15 → Km h0 h → Wx X h H → va_S (aA (eB X)) s.heap H locs → ∀ (ls : Array Slot), lv_has ls 3 [(0, .ref x0), (1, .int x1)] → sX15_hasCatches_2 F f h x0 x1 = some o → W p l e (rm 0 0) s m args below meth c H locs 0 0 (MQ below (QI X h0 o.1 o.2) args s 0 0 (aA (eB X))) (F0 m 2 ls []) := fun h x0 x1 H locs k_x0 a b c ls hl hE => ih k_x0 a b c ls hl hE
    refine lv_iload_n C.1 C.2.1 dX15_hasCatches_2 rfl (lv_at hl 1 rfl) ?_
    refine lv_aload_n C.1 C.2.1 dX15_hasCatches_3 rfl (lv_at hl 0 rfl) ?_
    obtain ⟨r_1, er_1, hE⟩ := cl_e hE
    refine gf_X15_252 C hW k_x0 er_1 dX15_hasCatches_4 (fun k_r_1 => ?_)
    refine gf_X15_169 C hW k_r_1 dX15_hasCatches_7 ?_
    refine lv_icmp_ge (tgt := 62) C.1 C.2.1 dX15_hasCatches_10 (by decide) (fun c_2 => ?_) (fun c_2 => ?_)
    · have hE := br_p hE c_2
      refine lv_iconst (v := (0 : Int32)) C.1 C.2.1 dX15_hasCatches_62 (by decide) ?_
      exact x_iret C rfl (by decide) hW hZ hkm hE dX15_hasCatches_63
    · have hE := br_n hE c_2
      refine lv_iconst (v := (0 : Int32)) C.1 C.2.1 dX15_hasCatches_13 (by decide) ?_
      refine lv_istore_n (lv' := [(2, .int (0 : Int32)), (0, .ref x0), (1, .int x1)]) C.1 C.2.1 dX15_hasCatches_14 rfl hl (by decide) rfl (fun ls hl => ?_)
      exact bX15_hasCatches_15 C hk_2 F k_x0 hkm hW hZ _ (lv_sub hl [1, 2, 0] rfl) hE
set_option maxRecDepth 20000 in
theorem ct_X15_hasCatches (l : Launch) (X : Ec) (F : Nat) {h : Hp} {x0 : Nat} {o : Int32 × Hp} (k_x0 : hK h x0 = 15) (hE : sX15_hasCatches F h x0 = some o) : MetI l yX15_hasCatches cX15_hasCatches 3 (some .boolean) 0 0 X [.ref x0] h o := by
  refine x_met (by decide) (Nat.le_of_ble_eq_true rfl) ?_
  intro p e s m below meth c ls C hl hW hZ
  have hl : lv_has ls 3 [(0, .ref x0)] := hl
  have hkm : Km h h := Km.rf h
  refine lv_iconst (v := (0 : Int32)) C.1 C.2.1 dX15_hasCatches_0 (by decide) ?_
  refine lv_istore_n (lv' := [(1, .int (0 : Int32)), (0, .ref x0)]) C.1 C.2.1 dX15_hasCatches_1 rfl hl (by decide) rfl (fun ls hl => ?_)
  exact bX15_hasCatches_2 C F k_x0 hkm hW hZ _ (lv_sub hl [1, 0] rfl) hE
set_option maxRecDepth 100000 in
theorem ms_199 : Cond.selects RX15 yX15_hasCatches yX15_hasCatches ∈ W0 := w0_in (List.mem_append_left _ (List.mem_of_getElem? (i := 199) rfl)) rfl
set_option maxRecDepth 100000 in
theorem m_2160 : Cond.fieldLink RX15 751 (TX15 49).1 (TX15 49).2.1 (TX15 49).2.2.1 ∈ W0 := w0_in (List.mem_append_right _ (List.mem_of_getElem? (i := 2160) rfl)) rfl
set_option maxRecDepth 100000 in
theorem m_2170 : Cond.fieldLink RX15 746 (TX15 59).1 (TX15 59).2.1 (TX15 59).2.2.1 ∈ W0 := w0_in (List.mem_append_right _ (List.mem_of_getElem? (i := 2170) rfl)) rfl
set_option maxRecDepth 100000 in
theorem m_2743 : Cond.methodLink RX15 807 yX15_hasCatches ∈ W0 := w0_in (List.mem_append_right _ (List.mem_of_getElem? (i := 2743) rfl)) rfl
set_option maxRecDepth 100000 in
theorem m_2745 : Cond.instanceMethod yX15_hasCatches ∈ W0 := w0_in (List.mem_append_right _ (List.mem_of_getElem? (i := 2745) rfl)) rfl
set_option maxRecDepth 100000 in
theorem m_2746 : Cond.code yX15_hasCatches cX15_hasCatches 3 (some .boolean) ∈ W0 := w0_in (List.mem_append_right _ (List.mem_of_getElem? (i := 2746) rfl)) rfl
set_option maxRecDepth 100000 in
theorem m_2777 : Cond.constant RX15 813 (1500000 : Int32) ∈ W0 := w0_in (List.mem_append_right _ (List.mem_of_getElem? (i := 2777) rfl)) rfl
section
variable {p : Program} {l : Launch} {e : Env} {R : Room} {s : State} {m : MethodId} {args : Array Value} {below : List Frame} {meth : Method} {c : Code} {H : Heap} {locs : List Loc} {cells slots : Nat} {Q : State → Prop}
variable {cc : ByteArray} {pc : Nat} {ls : Array Slot} {rest : List Value} {X : Ec} {h h1 : Hp} {nL : Nat} {rt : Option FieldType} {mn : String}
theorem gf_X15_356 {a r : Nat} (C : Cx X p s m args meth c RX15 cc nL rt mn) (hW : Wx X h H) (ha : hK h a = 15) (hr : hR h a 56 = some r) (hdg : decode cc pc = .ok (.getfield 356, 3)) (kk : hK h r = 17 → W p l e R s m args below meth c H locs cells slots Q (F0 m (pc + 3) ls (.ref r :: rest))) : W p l e R s m args below meth c H locs cells slots Q (F0 m pc ls (.ref a :: rest)) :=
  y_getr C hW ha i_X15 (by decide) rfl (by decide) m_2167 rfl rfl hr hdg kk
theorem pf_X15_751 {a : Nat} {v : Int32} (C : Cx X p s m args meth c RX15 cc nL rt mn) (hW : Wx X h H) (hZ : va_S (aA (eB X)) s.heap H locs) (ha : hK h a = 15) (eh : h1 = wI h a 49 v) (hdg : decode cc pc = .ok (.putfield 751, 3)) (kk : ∀ (H1 : Heap) (locs1 : List Loc), Wx X h1 H1 → Km h h1 → va_S (aA (eB X)) s.heap H1 locs1 → W p l e R s m args below meth c H1 locs1 cells slots Q (F0 m (pc + 3) ls rest)) : W p l e R s m args below meth c H locs cells slots Q (F0 m pc ls (.int v :: .ref a :: rest)) :=
  y_puti (ty := .int) C hW hZ ha i_X15 tyX15 tyX15_ok nmX15 (by decide) rfl rfl (by decide) m_2160 rfl (by decide +kernel) rfl rfl rfl eh hdg kk
theorem pf_X15_746 {a : Nat} {v : Int64} (C : Cx X p s m args meth c RX15 cc nL rt mn) (hW : Wx X h H) (hZ : va_S (aA (eB X)) s.heap H locs) (ha : hK h a = 15) (eh : h1 = wJ h a 59 v) (hdg : decode cc pc = .ok (.putfield 746, 3)) (kk : ∀ (H1 : Heap) (locs1 : List Loc), Wx X h1 H1 → Km h h1 → va_S (aA (eB X)) s.heap H1 locs1 → W p l e R s m args below meth c H1 locs1 cells slots Q (F0 m (pc + 3) ls rest)) : W p l e R s m args below meth c H locs cells slots Q (F0 m pc ls (.long v :: .ref a :: rest)) :=
  y_putj C hW hZ ha i_X15 tyX15 tyX15_ok nmX15 (by decide) rfl rfl (by decide) m_2170 rfl (by decide +kernel) rfl eh hdg kk
end
theorem cw_X15_807 : cwd RX15 807 yX15_hasCatches cX15_hasCatches 3 (some .boolean) false 0 := ⟨m_2746, m_2743, m_19, ⟨m_2745, ms_199⟩, by decide, by decide, by decide +kernel⟩
theorem dX15_solve_0 : decode cX15_solve 0 = .ok (.aload_n 0, 1) := by decide +kernel
theorem dX15_solve_1 : decode cX15_solve 1 = .ok (.getfield 1, 3) := by decide +kernel
theorem dX15_solve_4 : decode cX15_solve 4 = .ok (.istore_n 1, 1) := by decide +kernel
theorem dX15_solve_5 : decode cX15_solve 5 = .ok (.aload_n 0, 1) := by decide +kernel
theorem dX15_solve_6 : decode cX15_solve 6 = .ok (.iconst 0, 1) := by decide +kernel
theorem dX15_solve_7 : decode cX15_solve 7 = .ok (.putfield 1, 3) := by decide +kernel
theorem dX15_solve_10 : decode cX15_solve 10 = .ok (.aload_n 0, 1) := by decide +kernel
theorem dX15_solve_11 : decode cX15_solve 11 = .ok (.getfield 252, 3) := by decide +kernel
theorem dX15_solve_14 : decode cX15_solve 14 = .ok (.getfield 126, 3) := by decide +kernel
theorem dX15_solve_17 : decode cX15_solve 17 = .ok (.ifCond .ne 30, 3) := by decide +kernel
theorem dX15_solve_20 : decode cX15_solve 20 = .ok (.aload_n 0, 1) := by decide +kernel
theorem dX15_solve_21 : decode cX15_solve 21 = .ok (.getfield 252, 3) := by decide +kernel
theorem dX15_solve_24 : decode cX15_solve 24 = .ok (.getfield 142, 3) := by decide +kernel
theorem dX15_solve_27 : decode cX15_solve 27 = .ok (.ifCond .ne 20, 3) := by decide +kernel
theorem dX15_solve_30 : decode cX15_solve 30 = .ok (.aload_n 0, 1) := by decide +kernel
theorem dX15_solve_31 : decode cX15_solve 31 = .ok (.getfield 252, 3) := by decide +kernel
theorem dX15_solve_34 : decode cX15_solve 34 = .ok (.getfield 233, 3) := by decide +kernel
theorem dX15_solve_37 : decode cX15_solve 37 = .ok (.ifCond .gt 10, 3) := by decide +kernel
theorem dX15_solve_40 : decode cX15_solve 40 = .ok (.aload_n 0, 1) := by decide +kernel
theorem dX15_solve_41 : decode cX15_solve 41 = .ok (.invokevirtual 807, 3) := by decide +kernel
theorem dX15_solve_44 : decode cX15_solve 44 = .ok (.ifCond .eq 6, 3) := by decide +kernel
theorem dX15_solve_47 : decode cX15_solve 47 = .ok (.bipush (-103), 2) := by decide +kernel
theorem dX15_solve_49 : decode cX15_solve 49 = .ok (.ireturn, 1) := by decide +kernel
theorem dX15_solve_50 : decode cX15_solve 50 = .ok (.iconst 0, 1) := by decide +kernel
theorem dX15_solve_51 : decode cX15_solve 51 = .ok (.istore_n 2, 1) := by decide +kernel
theorem dX15_solve_52 : decode cX15_solve 52 = .ok (.iconst 0, 1) := by decide +kernel
theorem dX15_solve_53 : decode cX15_solve 53 = .ok (.istore_n 3, 1) := by decide +kernel
theorem dX15_solve_54 : decode cX15_solve 54 = .ok (.iload_n 3, 1) := by decide +kernel
theorem dX15_solve_55 : decode cX15_solve 55 = .ok (.iload_n 1, 1) := by decide +kernel
theorem dX15_solve_56 : decode cX15_solve 56 = .ok (.if_icmp .ge 119, 3) := by decide +kernel
theorem dX15_solve_59 : decode cX15_solve 59 = .ok (.aload_n 0, 1) := by decide +kernel
theorem dX15_solve_60 : decode cX15_solve 60 = .ok (.aload_n 0, 1) := by decide +kernel
theorem dX15_solve_61 : decode cX15_solve 61 = .ok (.getfield 7, 3) := by decide +kernel
theorem dX15_solve_64 : decode cX15_solve 64 = .ok (.iload_n 3, 1) := by decide +kernel
theorem dX15_solve_65 : decode cX15_solve 65 = .ok (.baload, 1) := by decide +kernel
theorem dX15_solve_66 : decode cX15_solve 66 = .ok (.invokevirtual 424, 3) := by decide +kernel
theorem dX15_solve_69 : decode cX15_solve 69 = .ok (.istore 4, 2) := by decide +kernel
theorem dX15_solve_71 : decode cX15_solve 71 = .ok (.iload 4, 2) := by decide +kernel
theorem dX15_solve_73 : decode cX15_solve 73 = .ok (.ifCond .le 35, 3) := by decide +kernel
theorem dX15_solve_76 : decode cX15_solve 76 = .ok (.iload 4, 2) := by decide +kernel
theorem dX15_solve_78 : decode cX15_solve 78 = .ok (.invokestatic 492, 3) := by decide +kernel
theorem dX15_solve_108 : decode cX15_solve 108 = .ok (.iconst 0, 1) := by decide +kernel
theorem dX15_solve_109 : decode cX15_solve 109 = .ok (.istore 5, 2) := by decide +kernel
theorem dX15_solve_111 : decode cX15_solve 111 = .ok (.iload 4, 2) := by decide +kernel
theorem dX15_solve_113 : decode cX15_solve 113 = .ok (.ifCond .eq 13, 3) := by decide +kernel
theorem dX15_solve_116 : decode cX15_solve 116 = .ok (.iload 5, 2) := by decide +kernel
theorem dX15_solve_118 : decode cX15_solve 118 = .ok (.ifCond .ne 8, 3) := by decide +kernel
theorem dX15_solve_121 : decode cX15_solve 121 = .ok (.iload_n 3, 1) := by decide +kernel
theorem dX15_solve_122 : decode cX15_solve 122 = .ok (.iconst 5, 1) := by decide +kernel
theorem dX15_solve_123 : decode cX15_solve 123 = .ok (.if_icmp .ne 9, 3) := by decide +kernel
theorem dX15_solve_126 : decode cX15_solve 126 = .ok (.sipush (-200), 3) := by decide +kernel
theorem dX15_solve_129 : decode cX15_solve 129 = .ok (.iload_n 3, 1) := by decide +kernel
theorem dX15_solve_130 : decode cX15_solve 130 = .ok (.isub, 1) := by decide +kernel
theorem dX15_solve_131 : decode cX15_solve 131 = .ok (.ireturn, 1) := by decide +kernel
theorem dX15_solve_132 : decode cX15_solve 132 = .ok (.iload_n 2, 1) := by decide +kernel
theorem dX15_solve_133 : decode cX15_solve 133 = .ok (.iload 4, 2) := by decide +kernel
theorem dX15_solve_135 : decode cX15_solve 135 = .ok (.invokestatic 492, 3) := by decide +kernel
theorem dX15_solve_175 : decode cX15_solve 175 = .ok (.iload_n 1, 1) := by decide +kernel
theorem dX15_solve_176 : decode cX15_solve 176 = .ok (.iconst 2, 1) := by decide +kernel
theorem dX15_solve_177 : decode cX15_solve 177 = .ok (.if_icmp .ge 9, 3) := by decide +kernel
theorem dX15_solve_180 : decode cX15_solve 180 = .ok (.sipush (-200), 3) := by decide +kernel
theorem dX15_solve_183 : decode cX15_solve 183 = .ok (.iload_n 1, 1) := by decide +kernel
theorem dX15_solve_184 : decode cX15_solve 184 = .ok (.isub, 1) := by decide +kernel
theorem dX15_solve_185 : decode cX15_solve 185 = .ok (.ireturn, 1) := by decide +kernel
theorem dX15_solve_186 : decode cX15_solve 186 = .ok (.aload_n 0, 1) := by decide +kernel
theorem dX15_solve_187 : decode cX15_solve 187 = .ok (.iconst 0, 1) := by decide +kernel
theorem dX15_solve_188 : decode cX15_solve 188 = .ok (.putfield 751, 3) := by decide +kernel
theorem dX15_solve_191 : decode cX15_solve 191 = .ok (.aload_n 0, 1) := by decide +kernel
theorem dX15_solve_192 : decode cX15_solve 192 = .ok (.lconst 0, 1) := by decide +kernel
theorem dX15_solve_193 : decode cX15_solve 193 = .ok (.putfield 746, 3) := by decide +kernel
theorem dX15_solve_196 : decode cX15_solve 196 = .ok (.aload_n 0, 1) := by decide +kernel
theorem dX15_solve_197 : decode cX15_solve 197 = .ok (.iconst 0, 1) := by decide +kernel
theorem dX15_solve_198 : decode cX15_solve 198 = .ok (.putfield 387, 3) := by decide +kernel
theorem dX15_solve_201 : decode cX15_solve 201 = .ok (.iconst 0, 1) := by decide +kernel
theorem dX15_solve_202 : decode cX15_solve 202 = .ok (.istore_n 3, 1) := by decide +kernel
theorem dX15_solve_203 : decode cX15_solve 203 = .ok (.iload_n 3, 1) := by decide +kernel
theorem dX15_solve_204 : decode cX15_solve 204 = .ok (.sipush 16384, 3) := by decide +kernel
theorem dX15_solve_207 : decode cX15_solve 207 = .ok (.if_icmp .ge 16, 3) := by decide +kernel
theorem dX15_solve_210 : decode cX15_solve 210 = .ok (.aload_n 0, 1) := by decide +kernel
theorem dX15_solve_211 : decode cX15_solve 211 = .ok (.getfield 356, 3) := by decide +kernel
theorem dX15_solve_214 : decode cX15_solve 214 = .ok (.iload_n 3, 1) := by decide +kernel
theorem dX15_solve_215 : decode cX15_solve 215 = .ok (.iconst 0, 1) := by decide +kernel
theorem dX15_solve_216 : decode cX15_solve 216 = .ok (.iastore, 1) := by decide +kernel
theorem dX15_solve_217 : decode cX15_solve 217 = .ok (.iinc 3 1, 3) := by decide +kernel
theorem dX15_solve_220 : decode cX15_solve 220 = .ok (.goto (-17), 3) := by decide +kernel
theorem dX15_solve_223 : decode cX15_solve 223 = .ok (.aload_n 0, 1) := by decide +kernel
theorem dX15_solve_224 : decode cX15_solve 224 = .ok (.iload_n 1, 1) := by decide +kernel
theorem dX15_solve_225 : decode cX15_solve 225 = .ok (.invokevirtual 754, 3) := by decide +kernel
set_option maxRecDepth 20000 in
theorem moX15_solve_47 {o : Int32 × Hp} {F : Nat} {h : Hp} (hE : sX15_solve_47 F h  = some o) : Le h o.2 := by
  exact le_some2 hE
set_option maxRecDepth 20000 in
theorem moX15_solve_203 {o : Int32 × Hp} {F : Nat} : ∀ (f : Nat) {h : Hp} {x0 : Nat} {x1 : Int32} {x3 : Int32}, sX15_solve_203 F f h x0 x1 x3 = some o → Le h o.2 := by
  intro f
  induction f with
  | zero =>
    intro h x0 x1 x3 hE
    rw [sX15_solve_203] at hE
    cases hE
  | succ f ih =>
    intro h x0 x1 x3 hE
    rw [sX15_solve_203] at hE
    have mk_203 : ∀ (h : Hp) (x0 : Nat) (x1 : Int32) (x3 : Int32), sX15_solve_203 F f h x0 x1 x3 = some o → Le h o.2 := fun h x0 x1 x3 hE => ih hE
    rcases br_e hE with ⟨_, hE⟩ | ⟨_, hE⟩
    · cases hE
    · obtain ⟨r_2, er_2, hE⟩ := cl_e hE
      obtain ⟨g_3, hE⟩ := gd_e hE
      obtain ⟨h_4, eh_4, hE⟩ := nm_e2 hE
      refine (le_I eh_4).tr ?_
      obtain ⟨v_5, ev_5, hE⟩ := nm_e2 hE
      exact mk_203 _ _ _ _ hE
set_option maxRecDepth 20000 in
theorem moX15_solve_126 {o : Int32 × Hp} {F : Nat} {h : Hp} {x3 : Int32} (hE : sX15_solve_126 F h x3 = some o) : Le h o.2 := by
  exact le_some2 hE
set_option maxRecDepth 20000 in
theorem moX15_solve_109 {o : Int32 × Hp} {k_54 : Hp → Nat → Int32 → Int32 → Int32 → Option (Int32 × Hp)} {F : Nat} (mk_54 : ∀ (h : Hp) (x0 : Nat) (x1 : Int32) (x2 : Int32) (x3 : Int32), k_54 h x0 x1 x2 x3 = some o → Le h o.2) {h : Hp} {x0 : Nat} {x1 : Int32} {x2 : Int32} {x3 : Int32} {x4 : Int32} {t0 : Int32} (hE : sX15_solve_109 F k_54 h x0 x1 x2 x3 x4 t0 = some o) : Le h o.2 := by
  rcases br_e hE with ⟨_, hE⟩ | ⟨_, hE⟩
  · exact moX15_solve_126 hE
  · rcases br_e hE with ⟨_, hE⟩ | ⟨_, hE⟩
    · rcases br_e hE with ⟨_, hE⟩ | ⟨_, hE⟩
      · exact moX15_solve_126 hE
      · cases hE
    · exact moX15_solve_126 hE
set_option maxRecDepth 20000 in
theorem moX15_solve_108 {o : Int32 × Hp} {k_54 : Hp → Nat → Int32 → Int32 → Int32 → Option (Int32 × Hp)} {F : Nat} (mk_54 : ∀ (h : Hp) (x0 : Nat) (x1 : Int32) (x2 : Int32) (x3 : Int32), k_54 h x0 x1 x2 x3 = some o → Le h o.2) {h : Hp} {x0 : Nat} {x1 : Int32} {x2 : Int32} {x3 : Int32} {x4 : Int32} (hE : sX15_solve_108 F k_54 h x0 x1 x2 x3 x4 = some o) : Le h o.2 := by
  exact moX15_solve_109 mk_54 hE
set_option maxRecDepth 20000 in
theorem moX15_solve_69 {o : Int32 × Hp} {k_54 : Hp → Nat → Int32 → Int32 → Int32 → Option (Int32 × Hp)} {F : Nat} (mk_54 : ∀ (h : Hp) (x0 : Nat) (x1 : Int32) (x2 : Int32) (x3 : Int32), k_54 h x0 x1 x2 x3 = some o → Le h o.2) {h : Hp} {x0 : Nat} {x1 : Int32} {x2 : Int32} {x3 : Int32} {t0 : Int32} (hE : sX15_solve_69 F k_54 h x0 x1 x2 x3 t0 = some o) : Le h o.2 := by
  rcases br_e hE with ⟨_, hE⟩ | ⟨_, hE⟩
  · exact moX15_solve_108 mk_54 hE
  · cases hE
set_option maxRecDepth 20000 in
theorem moX15_solve_54 {o : Int32 × Hp} {F : Nat} : ∀ (f : Nat) {h : Hp} {x0 : Nat} {x1 : Int32} {x2 : Int32} {x3 : Int32}, sX15_solve_54 F f h x0 x1 x2 x3 = some o → Le h o.2 := by
  intro f
  induction f with
  | zero =>
    intro h x0 x1 x2 x3 hE
    rw [sX15_solve_54] at hE
    cases hE
  | succ f ih =>
    intro h x0 x1 x2 x3 hE
    rw [sX15_solve_54] at hE
    have mk_54 : ∀ (h : Hp) (x0 : Nat) (x1 : Int32) (x2 : Int32) (x3 : Int32), sX15_solve_54 F f h x0 x1 x2 x3 = some o → Le h o.2 := fun h x0 x1 x2 x3 hE => ih hE
    rcases br_e hE with ⟨_, hE⟩ | ⟨_, hE⟩
    · rcases br_e hE with ⟨_, hE⟩ | ⟨_, hE⟩
      · obtain ⟨h_3, eh_3, hE⟩ := nm_e2 hE
        refine (le_I eh_3).tr ?_
        obtain ⟨h_4, eh_4, hE⟩ := nm_e2 hE
        refine (le_J eh_4).tr ?_
        obtain ⟨h_5, eh_5, hE⟩ := nm_e2 hE
        refine (le_I eh_5).tr ?_
        exact moX15_solve_203 _ hE
      · exact le_some2 hE
    · obtain ⟨r_6, er_6, hE⟩ := cl_e hE
      obtain ⟨g_7, hE⟩ := gd_e hE
      obtain ⟨o_8, eo_8, hE⟩ := cl_e hE
      refine (moX15_manLetter eo_8).tr ?_
      exact moX15_solve_69 mk_54 hE
set_option maxRecDepth 20000 in
theorem moX15_solve_44 {o : Int32 × Hp} {F : Nat} {h : Hp} {x0 : Nat} {x1 : Int32} {t0 : Int32} (hE : sX15_solve_44 F h x0 x1 t0 = some o) : Le h o.2 := by
  rcases br_e hE with ⟨_, hE⟩ | ⟨_, hE⟩
  · exact moX15_solve_54 _ hE
  · exact moX15_solve_47 hE
set_option maxRecDepth 20000 in
theorem moX15_solve {o : Int32 × Hp} {F : Nat} {h : Hp} {x0 : Nat} (hE : sX15_solve F h x0 = some o) : Le h o.2 := by
  obtain ⟨v_1, ev_1, hE⟩ := nm_e2 hE
  obtain ⟨h_2, eh_2, hE⟩ := nm_e2 hE
  refine (le_I eh_2).tr ?_
  obtain ⟨r_3, er_3, hE⟩ := cl_e hE
  rcases br_e hE with ⟨_, hE⟩ | ⟨_, hE⟩
  · obtain ⟨r_5, er_5, hE⟩ := cl_e hE
    rcases br_e hE with ⟨_, hE⟩ | ⟨_, hE⟩
    · obtain ⟨r_7, er_7, hE⟩ := cl_e hE
      rcases br_e hE with ⟨_, hE⟩ | ⟨_, hE⟩
      · exact moX15_solve_47 hE
      · obtain ⟨o_9, eo_9, hE⟩ := cl_e hE
        refine (moX15_hasCatches eo_9).tr ?_
        exact moX15_solve_44 hE
    · exact moX15_solve_47 hE
  · exact moX15_solve_47 hE
set_option maxRecDepth 20000 in
theorem bX15_solve_47 {p : Program} {l : Launch} {e : Env} {s : State} {m : MethodId} {args : Array Value} {below : List Frame} {meth : Method} {c : Code} {X : Ec} {h0 : Hp} {o : Int32 × Hp} {F : Nat} (C : Cx X p s m args meth c RX15 cX15_solve 7 (some .int) "solve") {h : Hp} {H : Heap} {locs : List Loc} (hkl : Kl h0 h) (hW : Wx X h H) (hZ : va_S (aA (eB X)) s.heap H locs) (ls : Array Slot) (hl : lv_has ls 7 []) (hE : sX15_solve_47 F h  = some o) : W p l e (rmA 2 43 h0 o.2) s m args below meth c H locs (hS h - hS h0) (hL h - hL h0) (MQ below (QIA X h0 o.1 o.2) args s (hS o.2 - hS h0) (hL o.2 - hL h0) (aA (eB X))) (F0 m 47 ls []) := by
  refine lv_bipush (v := (-103 : Int32)) C.1 C.2.1 dX15_solve_47 (by decide) ?_
  exact x_iretA C rfl rfl hW hZ hkl hE dX15_solve_49
set_option maxRecDepth 20000 in
theorem bX15_solve_203 {p : Program} {l : Launch} {e : Env} {s : State} {m : MethodId} {args : Array Value} {below : List Frame} {meth : Method} {c : Code} {X : Ec} {h0 : Hp} {o : Int32 × Hp} {F : Nat} (C : Cx X p s m args meth c RX15 cX15_solve 7 (some .int) "solve") : ∀ (f : Nat) {h : Hp} {x0 : Nat} {x1 : Int32} {x3 : Int32} {H : Heap} {locs : List Loc} (k_x0 : hK h x0 = 15), Kl h0 h → Wx X h H → va_S (aA (eB X)) s.heap H locs → ∀ (ls : Array Slot), lv_has ls 7 [(0, .ref x0), (1, .int x1), (3, .int x3)] → sX15_solve_203 F f h x0 x1 x3 = some o → W p l e (rmA 2 43 h0 o.2) s m args below meth c H locs (hS h - hS h0) (hL h - hL h0) (MQ below (QIA X h0 o.1 o.2) args s (hS o.2 - hS h0) (hL o.2 - hL h0) (aA (eB X))) (F0 m 203 ls []) := by
  intro f
  induction f with
  | zero =>
    intro h x0 x1 x3 H locs k_x0 hkl hW hZ ls hl hE
    rw [sX15_solve_203] at hE
    cases hE
  | succ f ih =>
    intro h x0 x1 x3 H locs k_x0 hkl hW hZ ls hl hE
    rw [sX15_solve_203] at hE
    have mk_203 : ∀ (h : Hp) (x0 : Nat) (x1 : Int32) (x3 : Int32), sX15_solve_203 F f h x0 x1 x3 = some o → Le h o.2 := fun h x0 x1 x3 hE => moX15_solve_203 _ hE
    have hk_203 : ∀ (h : Hp) (x0 : Nat) (x1 : Int32) (x3 : Int32) (H : Heap) (locs : List Loc), hK h x0 = 15 → Kl h0 h → Wx X h H → va_S (aA (eB X)) s.heap H locs → ∀ (ls : Array Slot), lv_has ls 7 [(0, .ref x0), (1, .int x1), (3, .int x3)] → sX15_solve_203 F f h x0 x1 x3 = some o → W p l e (rmA 2 43 h0 o.2) s m args below meth c H locs (hS h - hS h0) (hL h - hL h0) (MQ below (QIA X h0 o.1 o.2) args s (hS o.2 - hS h0) (hL o.2 - hL h0) (aA (eB X))) (F0 m 203 ls []) := fun h x0 x1 x3 H locs k_x0 a b c ls hl hE => ih k_x0 a b c ls hl hE
    refine lv_iload_n C.1 C.2.1 dX15_solve_203 rfl (lv_at hl 2 rfl) ?_
    refine lv_sipush (v := (16384 : Int32)) C.1 C.2.1 dX15_solve_204 (by decide) ?_
    refine lv_icmp_ge (tgt := 223) C.1 C.2.1 dX15_solve_207 (by decide) (fun c_1 => ?_) (fun c_1 => ?_)
    · have hE := br_p hE c_1
      refine lv_aload_n C.1 C.2.1 dX15_solve_223 rfl (lv_at hl 0 rfl) ?_
      refine lv_iload_n C.1 C.2.1 dX15_solve_224 rfl (lv_at hl 1 rfl) ?_
      cases hE
    · have hE := br_n hE c_1
      refine lv_aload_n C.1 C.2.1 dX15_solve_210 rfl (lv_at hl 0 rfl) ?_
      obtain ⟨r_2, er_2, hE⟩ := cl_e hE
      refine gf_X15_356 C hW k_x0 er_2 dX15_solve_211 (fun k_r_2 => ?_)
      refine lv_iload_n C.1 C.2.1 dX15_solve_214 rfl (lv_at hl 2 rfl) ?_
      refine lv_iconst (v := (0 : Int32)) C.1 C.2.1 dX15_solve_215 (by decide) ?_
      obtain ⟨g_3, hE⟩ := gd_e hE
      obtain ⟨h_4, eh_4, hE⟩ := nm_e2 hE
      refine y_iast C hW hZ k_r_2 g_3 eh_4 dX15_solve_216 (fun _ _ hW km hZ => ?_)
      replace hkl := hkl.tr km.l
      refine x_wc km ?_
      replace k_x0 := km.at k_x0 (by decide)
      obtain ⟨v_5, ev_5, hE⟩ := nm_e2 hE
      refine lv_iinc (v := v_5) (lv' := [(3, .int v_5), (0, .ref x0), (1, .int x1)]) C.1 C.2.1 dX15_solve_217 hl (k := 2) rfl (by rw [ev_5]; rfl) (by decide) rfl (fun ls hl => ?_)
      refine lv_goto (tgt := 203) C.1 C.2.1 dX15_solve_220 (by decide) ?_
      exact hk_203 _ _ _ _ _ _ k_x0 hkl hW hZ _ (lv_sub hl [1, 2, 0] rfl) hE
set_option maxRecDepth 20000 in
theorem bX15_solve_126 {p : Program} {l : Launch} {e : Env} {s : State} {m : MethodId} {args : Array Value} {below : List Frame} {meth : Method} {c : Code} {X : Ec} {h0 : Hp} {o : Int32 × Hp} {F : Nat} (C : Cx X p s m args meth c RX15 cX15_solve 7 (some .int) "solve") {h : Hp} {x3 : Int32} {H : Heap} {locs : List Loc} (hkl : Kl h0 h) (hW : Wx X h H) (hZ : va_S (aA (eB X)) s.heap H locs) (ls : Array Slot) (hl : lv_has ls 7 [(3, .int x3)]) (hE : sX15_solve_126 F h x3 = some o) : W p l e (rmA 2 43 h0 o.2) s m args below meth c H locs (hS h - hS h0) (hL h - hL h0) (MQ below (QIA X h0 o.1 o.2) args s (hS o.2 - hS h0) (hL o.2 - hL h0) (aA (eB X))) (F0 m 126 ls []) := by
  refine lv_sipush (v := (-200 : Int32)) C.1 C.2.1 dX15_solve_126 (by decide) ?_
  refine lv_iload_n C.1 C.2.1 dX15_solve_129 rfl (lv_at hl 0 rfl) ?_
  refine lv_isub C.1 C.2.1 dX15_solve_130 ?_
  exact x_iretA C rfl rfl hW hZ hkl hE dX15_solve_131
set_option maxRecDepth 20000 in
theorem bX15_solve_109 {p : Program} {l : Launch} {e : Env} {s : State} {m : MethodId} {args : Array Value} {below : List Frame} {meth : Method} {c : Code} {X : Ec} {h0 : Hp} {o : Int32 × Hp} {k_54 : Hp → Nat → Int32 → Int32 → Int32 → Option (Int32 × Hp)} {F : Nat} (C : Cx X p s m args meth c RX15 cX15_solve 7 (some .int) "solve") (hk_54 : ∀ (h : Hp) (x0 : Nat) (x1 : Int32) (x2 : Int32) (x3 : Int32) (H : Heap) (locs : List Loc), hK h x0 = 15 → Kl h0 h → Wx X h H → va_S (aA (eB X)) s.heap H locs → ∀ (ls : Array Slot), lv_has ls 7 [(0, .ref x0), (1, .int x1), (2, .int x2), (3, .int x3)] → k_54 h x0 x1 x2 x3 = some o → W p l e (rmA 2 43 h0 o.2) s m args below meth c H locs (hS h - hS h0) (hL h - hL h0) (MQ below (QIA X h0 o.1 o.2) args s (hS o.2 - hS h0) (hL o.2 - hL h0) (aA (eB X))) (F0 m 54 ls [])) (mk_54 : ∀ (h : Hp) (x0 : Nat) (x1 : Int32) (x2 : Int32) (x3 : Int32), k_54 h x0 x1 x2 x3 = some o → Le h o.2) {h : Hp} {x0 : Nat} {x1 : Int32} {x2 : Int32} {x3 : Int32} {x4 : Int32} {t0 : Int32} {H : Heap} {locs : List Loc} (k_x0 : hK h x0 = 15) (hkl : Kl h0 h) (hW : Wx X h H) (hZ : va_S (aA (eB X)) s.heap H locs) (ls : Array Slot) (hl : lv_has ls 7 [(0, .ref x0), (1, .int x1), (2, .int x2), (3, .int x3), (4, .int x4)]) (hE : sX15_solve_109 F k_54 h x0 x1 x2 x3 x4 t0 = some o) : W p l e (rmA 2 43 h0 o.2) s m args below meth c H locs (hS h - hS h0) (hL h - hL h0) (MQ below (QIA X h0 o.1 o.2) args s (hS o.2 - hS h0) (hL o.2 - hL h0) (aA (eB X))) (F0 m 109 ls [.int t0]) := by
  refine lv_istore (lv' := [(5, .int t0), (0, .ref x0), (1, .int x1), (2, .int x2), (3, .int x3), (4, .int x4)]) C.1 C.2.1 dX15_solve_109 hl (by decide) rfl (fun ls hl => ?_)
  refine lv_iload C.1 C.2.1 dX15_solve_111 (lv_at hl 5 rfl) ?_
  refine lv_if_eq (tgt := 126) C.1 C.2.1 dX15_solve_113 (by decide) (fun c_1 => ?_) (fun c_1 => ?_)
  · have hE := br_p hE c_1
    exact bX15_solve_126 C hkl hW hZ _ (lv_sub hl [4] rfl) hE
  · have hE := br_n hE c_1
    refine lv_iload C.1 C.2.1 dX15_solve_116 (lv_at hl 0 rfl) ?_
    refine lv_if_ne (tgt := 126) C.1 C.2.1 dX15_solve_118 (by decide) (fun c_2 => ?_) (fun c_2 => ?_)
    · have hE := br_n hE c_2
      exact bX15_solve_126 C hkl hW hZ _ (lv_sub hl [4] rfl) hE
    · have hE := br_p hE c_2
      refine lv_iload_n C.1 C.2.1 dX15_solve_121 rfl (lv_at hl 4 rfl) ?_
      refine lv_iconst (v := (5 : Int32)) C.1 C.2.1 dX15_solve_122 (by decide) ?_
      refine lv_icmp_ne (tgt := 132) C.1 C.2.1 dX15_solve_123 (by decide) (fun c_3 => ?_) (fun c_3 => ?_)
      · have hE := br_n hE c_3
        refine lv_iload_n C.1 C.2.1 dX15_solve_132 rfl (lv_at hl 3 rfl) ?_
        refine lv_iload C.1 C.2.1 dX15_solve_133 (lv_at hl 5 rfl) ?_
        cases hE
      · have hE := br_p hE c_3
        exact bX15_solve_126 C hkl hW hZ _ (lv_sub hl [4] rfl) hE
set_option maxRecDepth 20000 in
theorem bX15_solve_108 {p : Program} {l : Launch} {e : Env} {s : State} {m : MethodId} {args : Array Value} {below : List Frame} {meth : Method} {c : Code} {X : Ec} {h0 : Hp} {o : Int32 × Hp} {k_54 : Hp → Nat → Int32 → Int32 → Int32 → Option (Int32 × Hp)} {F : Nat} (C : Cx X p s m args meth c RX15 cX15_solve 7 (some .int) "solve") (hk_54 : ∀ (h : Hp) (x0 : Nat) (x1 : Int32) (x2 : Int32) (x3 : Int32) (H : Heap) (locs : List Loc), hK h x0 = 15 → Kl h0 h → Wx X h H → va_S (aA (eB X)) s.heap H locs → ∀ (ls : Array Slot), lv_has ls 7 [(0, .ref x0), (1, .int x1), (2, .int x2), (3, .int x3)] → k_54 h x0 x1 x2 x3 = some o → W p l e (rmA 2 43 h0 o.2) s m args below meth c H locs (hS h - hS h0) (hL h - hL h0) (MQ below (QIA X h0 o.1 o.2) args s (hS o.2 - hS h0) (hL o.2 - hL h0) (aA (eB X))) (F0 m 54 ls [])) (mk_54 : ∀ (h : Hp) (x0 : Nat) (x1 : Int32) (x2 : Int32) (x3 : Int32), k_54 h x0 x1 x2 x3 = some o → Le h o.2) {h : Hp} {x0 : Nat} {x1 : Int32} {x2 : Int32} {x3 : Int32} {x4 : Int32} {H : Heap} {locs : List Loc} (k_x0 : hK h x0 = 15) (hkl : Kl h0 h) (hW : Wx X h H) (hZ : va_S (aA (eB X)) s.heap H locs) (ls : Array Slot) (hl : lv_has ls 7 [(0, .ref x0), (1, .int x1), (2, .int x2), (3, .int x3), (4, .int x4)]) (hE : sX15_solve_108 F k_54 h x0 x1 x2 x3 x4 = some o) : W p l e (rmA 2 43 h0 o.2) s m args below meth c H locs (hS h - hS h0) (hL h - hL h0) (MQ below (QIA X h0 o.1 o.2) args s (hS o.2 - hS h0) (hL o.2 - hL h0) (aA (eB X))) (F0 m 108 ls []) := by
  refine lv_iconst (v := (0 : Int32)) C.1 C.2.1 dX15_solve_108 (by decide) ?_
  exact bX15_solve_109 C hk_54 mk_54 k_x0 hkl hW hZ _ (lv_sub hl [0, 1, 2, 3, 4] rfl) hE
set_option maxRecDepth 20000 in
theorem bX15_solve_69 {p : Program} {l : Launch} {e : Env} {s : State} {m : MethodId} {args : Array Value} {below : List Frame} {meth : Method} {c : Code} {X : Ec} {h0 : Hp} {o : Int32 × Hp} {k_54 : Hp → Nat → Int32 → Int32 → Int32 → Option (Int32 × Hp)} {F : Nat} (C : Cx X p s m args meth c RX15 cX15_solve 7 (some .int) "solve") (hk_54 : ∀ (h : Hp) (x0 : Nat) (x1 : Int32) (x2 : Int32) (x3 : Int32) (H : Heap) (locs : List Loc), hK h x0 = 15 → Kl h0 h → Wx X h H → va_S (aA (eB X)) s.heap H locs → ∀ (ls : Array Slot), lv_has ls 7 [(0, .ref x0), (1, .int x1), (2, .int x2), (3, .int x3)] → k_54 h x0 x1 x2 x3 = some o → W p l e (rmA 2 43 h0 o.2) s m args below meth c H locs (hS h - hS h0) (hL h - hL h0) (MQ below (QIA X h0 o.1 o.2) args s (hS o.2 - hS h0) (hL o.2 - hL h0) (aA (eB X))) (F0 m 54 ls [])) (mk_54 : ∀ (h : Hp) (x0 : Nat) (x1 : Int32) (x2 : Int32) (x3 : Int32), k_54 h x0 x1 x2 x3 = some o → Le h o.2) {h : Hp} {x0 : Nat} {x1 : Int32} {x2 : Int32} {x3 : Int32} {t0 : Int32} {H : Heap} {locs : List Loc} (k_x0 : hK h x0 = 15) (hkl : Kl h0 h) (hW : Wx X h H) (hZ : va_S (aA (eB X)) s.heap H locs) (ls : Array Slot) (hl : lv_has ls 7 [(0, .ref x0), (1, .int x1), (2, .int x2), (3, .int x3)]) (hE : sX15_solve_69 F k_54 h x0 x1 x2 x3 t0 = some o) : W p l e (rmA 2 43 h0 o.2) s m args below meth c H locs (hS h - hS h0) (hL h - hL h0) (MQ below (QIA X h0 o.1 o.2) args s (hS o.2 - hS h0) (hL o.2 - hL h0) (aA (eB X))) (F0 m 69 ls [.int t0]) := by
  refine lv_istore (lv' := [(4, .int t0), (0, .ref x0), (1, .int x1), (2, .int x2), (3, .int x3)]) C.1 C.2.1 dX15_solve_69 hl (by decide) rfl (fun ls hl => ?_)
  refine lv_iload C.1 C.2.1 dX15_solve_71 (lv_at hl 0 rfl) ?_
  refine lv_if_le (tgt := 108) C.1 C.2.1 dX15_solve_73 (by decide) (fun c_1 => ?_) (fun c_1 => ?_)
  · have hE := br_p hE c_1
    exact bX15_solve_108 C hk_54 mk_54 k_x0 hkl hW hZ _ (lv_sub hl [1, 2, 3, 4, 0] rfl) hE
  · have hE := br_n hE c_1
    refine lv_iload C.1 C.2.1 dX15_solve_76 (lv_at hl 0 rfl) ?_
    cases hE
set_option maxRecDepth 20000 in
theorem bX15_solve_54 {p : Program} {l : Launch} {e : Env} {s : State} {m : MethodId} {args : Array Value} {below : List Frame} {meth : Method} {c : Code} {X : Ec} {h0 : Hp} {o : Int32 × Hp} {F : Nat} (C : Cx X p s m args meth c RX15 cX15_solve 7 (some .int) "solve") : ∀ (f : Nat) {h : Hp} {x0 : Nat} {x1 : Int32} {x2 : Int32} {x3 : Int32} {H : Heap} {locs : List Loc} (k_x0 : hK h x0 = 15), Kl h0 h → Wx X h H → va_S (aA (eB X)) s.heap H locs → ∀ (ls : Array Slot), lv_has ls 7 [(0, .ref x0), (1, .int x1), (2, .int x2), (3, .int x3)] → sX15_solve_54 F f h x0 x1 x2 x3 = some o → W p l e (rmA 2 43 h0 o.2) s m args below meth c H locs (hS h - hS h0) (hL h - hL h0) (MQ below (QIA X h0 o.1 o.2) args s (hS o.2 - hS h0) (hL o.2 - hL h0) (aA (eB X))) (F0 m 54 ls []) := by
  intro f
  induction f with
  | zero =>
    intro h x0 x1 x2 x3 H locs k_x0 hkl hW hZ ls hl hE
    rw [sX15_solve_54] at hE
    cases hE
  | succ f ih =>
    intro h x0 x1 x2 x3 H locs k_x0 hkl hW hZ ls hl hE
    rw [sX15_solve_54] at hE
    have mk_54 : ∀ (h : Hp) (x0 : Nat) (x1 : Int32) (x2 : Int32) (x3 : Int32), sX15_solve_54 F f h x0 x1 x2 x3 = some o → Le h o.2 := fun h x0 x1 x2 x3 hE => moX15_solve_54 _ hE
    have hk_54 : ∀ (h : Hp) (x0 : Nat) (x1 : Int32) (x2 : Int32) (x3 : Int32) (H : Heap) (locs : List Loc), hK h x0 = 15 → Kl h0 h → Wx X h H → va_S (aA (eB X)) s.heap H locs → ∀ (ls : Array Slot), lv_has ls 7 [(0, .ref x0), (1, .int x1), (2, .int x2), (3, .int x3)] → sX15_solve_54 F f h x0 x1 x2 x3 = some o → W p l e (rmA 2 43 h0 o.2) s m args below meth c H locs (hS h - hS h0) (hL h - hL h0) (MQ below (QIA X h0 o.1 o.2) args s (hS o.2 - hS h0) (hL o.2 - hL h0) (aA (eB X))) (F0 m 54 ls []) := fun h x0 x1 x2 x3 H locs k_x0 a b c ls hl hE => ih k_x0 a b c ls hl hE
    refine lv_iload_n C.1 C.2.1 dX15_solve_54 rfl (lv_at hl 3 rfl) ?_
    refine lv_iload_n C.1 C.2.1 dX15_solve_55 rfl (lv_at hl 1 rfl) ?_
    refine lv_icmp_ge (tgt := 175) C.1 C.2.1 dX15_solve_56 (by decide) (fun c_1 => ?_) (fun c_1 => ?_)
    · have hE := br_p hE c_1
      refine lv_iload_n C.1 C.2.1 dX15_solve_175 rfl (lv_at hl 1 rfl) ?_
      refine lv_iconst (v := (2 : Int32)) C.1 C.2.1 dX15_solve_176 (by decide) ?_
      refine lv_icmp_ge (tgt := 186) C.1 C.2.1 dX15_solve_177 (by decide) (fun c_2 => ?_) (fun c_2 => ?_)
      · have hE := br_p hE c_2
        refine lv_aload_n C.1 C.2.1 dX15_solve_186 rfl (lv_at hl 0 rfl) ?_
        refine lv_iconst (v := (0 : Int32)) C.1 C.2.1 dX15_solve_187 (by decide) ?_
        obtain ⟨h_3, eh_3, hE⟩ := nm_e2 hE
        refine pf_X15_751 C hW hZ k_x0 eh_3 dX15_solve_188 (fun _ _ hW km hZ => ?_)
        replace hkl := hkl.tr km.l
        refine x_wc km ?_
        replace k_x0 := km.at k_x0 (by decide)
        refine lv_aload_n C.1 C.2.1 dX15_solve_191 rfl (lv_at hl 0 rfl) ?_
        refine lv_lconst (v := (0 : Int64)) C.1 C.2.1 dX15_solve_192 (by decide) ?_
        obtain ⟨h_4, eh_4, hE⟩ := nm_e2 hE
        refine pf_X15_746 C hW hZ k_x0 eh_4 dX15_solve_193 (fun _ _ hW km hZ => ?_)
        replace hkl := hkl.tr km.l
        refine x_wc km ?_
        replace k_x0 := km.at k_x0 (by decide)
        refine lv_aload_n C.1 C.2.1 dX15_solve_196 rfl (lv_at hl 0 rfl) ?_
        refine lv_iconst (v := (0 : Int32)) C.1 C.2.1 dX15_solve_197 (by decide) ?_
        obtain ⟨h_5, eh_5, hE⟩ := nm_e2 hE
        refine pf_X15_387 C hW hZ k_x0 eh_5 dX15_solve_198 (fun _ _ hW km hZ => ?_)
        replace hkl := hkl.tr km.l
        refine x_wc km ?_
        replace k_x0 := km.at k_x0 (by decide)
        refine lv_iconst (v := (0 : Int32)) C.1 C.2.1 dX15_solve_201 (by decide) ?_
        refine lv_istore_n (lv' := [(3, .int (0 : Int32)), (0, .ref x0), (1, .int x1), (2, .int x2)]) C.1 C.2.1 dX15_solve_202 rfl hl (by decide) rfl (fun ls hl => ?_)
        exact bX15_solve_203 C F k_x0 hkl hW hZ _ (lv_sub hl [1, 2, 0] rfl) hE
      · have hE := br_n hE c_2
        refine lv_sipush (v := (-200 : Int32)) C.1 C.2.1 dX15_solve_180 (by decide) ?_
        refine lv_iload_n C.1 C.2.1 dX15_solve_183 rfl (lv_at hl 1 rfl) ?_
        refine lv_isub C.1 C.2.1 dX15_solve_184 ?_
        exact x_iretA C rfl rfl hW hZ hkl hE dX15_solve_185
    · have hE := br_n hE c_1
      refine lv_aload_n C.1 C.2.1 dX15_solve_59 rfl (lv_at hl 0 rfl) ?_
      refine lv_aload_n C.1 C.2.1 dX15_solve_60 rfl (lv_at hl 0 rfl) ?_
      obtain ⟨r_6, er_6, hE⟩ := cl_e hE
      refine gf_X15_7 C hW k_x0 er_6 dX15_solve_61 (fun k_r_6 => ?_)
      refine lv_iload_n C.1 C.2.1 dX15_solve_64 rfl (lv_at hl 3 rfl) ?_
      obtain ⟨g_7, hE⟩ := gd_e hE
      refine y_bald C hW k_r_6 g_7 dX15_solve_65 ?_
      obtain ⟨o_8, eo_8, hE⟩ := cl_e hE
      have m1 := moX15_manLetter eo_8
      have m2 := moX15_solve_69 mk_54 hE
      refine x_kI (o := o_8) (z_runV (As := [.int (hI h r_6 x3.toNatClampNeg)]) (rest := []) C (ct_X15_manLetter l X F k_x0 eo_8) cw_X15_424 hW hZ k_x0 (by decide) rfl rfl rfl hl.1 (Nat.le_of_ble_eq_true rfl) rfl dX15_solve_66 ⟨Nat.le_of_ble_eq_true rfl, Nat.le_of_ble_eq_true rfl⟩ (rm_ok0 hkl m1 m2)) hZ (fun _ _ hW km hZ => ?_)
      replace hkl := hkl.tr km.l
      refine x_wc km ?_
      replace k_x0 := km.at k_x0 (by decide)
      exact bX15_solve_69 C hk_54 mk_54 k_x0 hkl hW hZ _ (lv_sub hl [0, 1, 2, 3] rfl) hE
set_option maxRecDepth 20000 in
theorem bX15_solve_44 {p : Program} {l : Launch} {e : Env} {s : State} {m : MethodId} {args : Array Value} {below : List Frame} {meth : Method} {c : Code} {X : Ec} {h0 : Hp} {o : Int32 × Hp} {F : Nat} (C : Cx X p s m args meth c RX15 cX15_solve 7 (some .int) "solve") {h : Hp} {x0 : Nat} {x1 : Int32} {t0 : Int32} {H : Heap} {locs : List Loc} (k_x0 : hK h x0 = 15) (hkl : Kl h0 h) (hW : Wx X h H) (hZ : va_S (aA (eB X)) s.heap H locs) (ls : Array Slot) (hl : lv_has ls 7 [(0, .ref x0), (1, .int x1)]) (hE : sX15_solve_44 F h x0 x1 t0 = some o) : W p l e (rmA 2 43 h0 o.2) s m args below meth c H locs (hS h - hS h0) (hL h - hL h0) (MQ below (QIA X h0 o.1 o.2) args s (hS o.2 - hS h0) (hL o.2 - hL h0) (aA (eB X))) (F0 m 44 ls [.int t0]) := by
  refine lv_if_eq (tgt := 50) C.1 C.2.1 dX15_solve_44 (by decide) (fun c_1 => ?_) (fun c_1 => ?_)
  · have hE := br_p hE c_1
    refine lv_iconst (v := (0 : Int32)) C.1 C.2.1 dX15_solve_50 (by decide) ?_
    refine lv_istore_n (lv' := [(2, .int (0 : Int32)), (0, .ref x0), (1, .int x1)]) C.1 C.2.1 dX15_solve_51 rfl hl (by decide) rfl (fun ls hl => ?_)
    refine lv_iconst (v := (0 : Int32)) C.1 C.2.1 dX15_solve_52 (by decide) ?_
    refine lv_istore_n (lv' := [(3, .int (0 : Int32)), (2, .int (0 : Int32)), (0, .ref x0), (1, .int x1)]) C.1 C.2.1 dX15_solve_53 rfl hl (by decide) rfl (fun ls hl => ?_)
    exact bX15_solve_54 C F k_x0 hkl hW hZ _ (lv_sub hl [2, 3, 1, 0] rfl) hE
  · have hE := br_n hE c_1
    exact bX15_solve_47 C hkl hW hZ _ (lv_sub hl [] rfl) hE
set_option maxRecDepth 20000 in
theorem ct_X15_solve (l : Launch) (X : Ec) (F : Nat) {h : Hp} {x0 : Nat} {o : Int32 × Hp} (k_x0 : hK h x0 = 15) (hE : sX15_solve F h x0 = some o) : MetIA l yX15_solve cX15_solve 7 (some .int) 2 43 X [.ref x0] h o := by
  refine x_metA (oh := o.2) (by decide) (Nat.le_of_ble_eq_true rfl) ?_
  intro p e s m below meth c ls C hl hW hZ
  have hl : lv_has ls 7 [(0, .ref x0)] := hl
  have hkl : Kl h h := Kl.rf h
  refine lv_aload_n C.1 C.2.1 dX15_solve_0 rfl (lv_at hl 0 rfl) ?_
  refine gf_X15_1 C hW k_x0 dX15_solve_1 ?_
  obtain ⟨v_1, ev_1, hE⟩ := nm_e2 hE
  refine x_nmI ev_1 ?_
  refine lv_istore_n (lv' := [(1, .int v_1), (0, .ref x0)]) C.1 C.2.1 dX15_solve_4 rfl hl (by decide) rfl (fun ls hl => ?_)
  refine lv_aload_n C.1 C.2.1 dX15_solve_5 rfl (lv_at hl 1 rfl) ?_
  refine lv_iconst (v := (0 : Int32)) C.1 C.2.1 dX15_solve_6 (by decide) ?_
  obtain ⟨h_2, eh_2, hE⟩ := nm_e2 hE
  refine pf_X15_1 C hW hZ k_x0 eh_2 dX15_solve_7 (fun _ _ hW km hZ => ?_)
  replace hkl := hkl.tr km.l
  refine x_wc km ?_
  replace k_x0 := km.at k_x0 (by decide)
  refine lv_aload_n C.1 C.2.1 dX15_solve_10 rfl (lv_at hl 1 rfl) ?_
  obtain ⟨r_3, er_3, hE⟩ := cl_e hE
  refine gf_X15_252 C hW k_x0 er_3 dX15_solve_11 (fun k_r_3 => ?_)
  refine gf_X15_126 C hW k_r_3 dX15_solve_14 ?_
  refine lv_if_ne (tgt := 47) C.1 C.2.1 dX15_solve_17 (by decide) (fun c_4 => ?_) (fun c_4 => ?_)
  · have hE := br_n hE c_4
    exact bX15_solve_47 C hkl hW hZ _ (lv_sub hl [] rfl) hE
  · have hE := br_p hE c_4
    refine lv_aload_n C.1 C.2.1 dX15_solve_20 rfl (lv_at hl 1 rfl) ?_
    obtain ⟨r_5, er_5, hE⟩ := cl_e hE
    refine gf_X15_252 C hW k_x0 er_5 dX15_solve_21 (fun k_r_5 => ?_)
    refine gf_X15_142 C hW k_r_5 dX15_solve_24 ?_
    refine lv_if_ne (tgt := 47) C.1 C.2.1 dX15_solve_27 (by decide) (fun c_6 => ?_) (fun c_6 => ?_)
    · have hE := br_n hE c_6
      exact bX15_solve_47 C hkl hW hZ _ (lv_sub hl [] rfl) hE
    · have hE := br_p hE c_6
      refine lv_aload_n C.1 C.2.1 dX15_solve_30 rfl (lv_at hl 1 rfl) ?_
      obtain ⟨r_7, er_7, hE⟩ := cl_e hE
      refine gf_X15_252 C hW k_x0 er_7 dX15_solve_31 (fun k_r_7 => ?_)
      refine gf_X15_233 C hW k_r_7 dX15_solve_34 ?_
      refine lv_if_gt (tgt := 47) C.1 C.2.1 dX15_solve_37 (by decide) (fun c_8 => ?_) (fun c_8 => ?_)
      · have hE := br_p hE c_8
        exact bX15_solve_47 C hkl hW hZ _ (lv_sub hl [] rfl) hE
      · have hE := br_n hE c_8
        refine lv_aload_n C.1 C.2.1 dX15_solve_40 rfl (lv_at hl 1 rfl) ?_
        obtain ⟨o_9, eo_9, hE⟩ := cl_e hE
        have m1 := moX15_hasCatches eo_9
        have m2 := moX15_solve_44 hE
        refine x_kI (o := o_9) (z_runV (As := []) (rest := []) C (ct_X15_hasCatches l X F k_x0 eo_9) cw_X15_807 hW hZ k_x0 (by decide) rfl rfl rfl hl.1 (Nat.le_of_ble_eq_true rfl) rfl dX15_solve_41 ⟨Nat.le_of_ble_eq_true rfl, Nat.le_of_ble_eq_true rfl⟩ (rm_ok0 hkl m1 m2)) hZ (fun _ _ hW km hZ => ?_)
        replace hkl := hkl.tr km.l
        refine x_wc km ?_
        replace k_x0 := km.at k_x0 (by decide)
        exact bX15_solve_44 C k_x0 hkl hW hZ _ (lv_sub hl [1, 0] rfl) hE
set_option maxRecDepth 100000 in
theorem m_2789 : Cond.constant RX15 769 (2000000 : Int32) ∈ W0 := w0_in (List.mem_append_right _ (List.mem_of_getElem? (i := 2789) rfl)) rfl
section
variable {p : Program} {l : Launch} {e : Env} {R : Room} {s : State} {m : MethodId} {args : Array Value} {below : List Frame} {meth : Method} {c : Code} {H : Heap} {locs : List Loc} {cells slots : Nat} {Q : State → Prop}
variable {cc : ByteArray} {pc : Nat} {ls : Array Slot} {rest : List Value} {X : Ec} {h h1 : Hp} {nL : Nat} {rt : Option FieldType} {mn : String}
theorem gf_X15_343 {a r : Nat} (C : Cx X p s m args meth c RX15 cc nL rt mn) (hW : Wx X h H) (ha : hK h a = 15) (hr : hR h a 51 = some r) (hdg : decode cc pc = .ok (.getfield 343, 3)) (kk : hK h r = 17 → W p l e R s m args below meth c H locs cells slots Q (F0 m (pc + 3) ls (.ref r :: rest))) : W p l e R s m args below meth c H locs cells slots Q (F0 m pc ls (.ref a :: rest)) :=
  y_getr C hW ha i_X15 (by decide) rfl (by decide) m_2162 rfl rfl hr hdg kk
theorem gf_X15_387 {a : Nat} (C : Cx X p s m args meth c RX15 cc nL rt mn) (hW : Wx X h H) (ha : hK h a = 15) (hdg : decode cc pc = .ok (.getfield 387, 3)) (kk : W p l e R s m args below meth c H locs cells slots Q (F0 m (pc + 3) ls (.int (hI h a 50) :: rest))) : W p l e R s m args below meth c H locs cells slots Q (F0 m pc ls (.ref a :: rest)) :=
  y_geti C hW ha i_X15 (by decide) rfl (by decide) m_2161 rfl hdg kk
end
theorem dX15_worth_0 : decode cX15_worth 0 = .ok (.aload_n 0, 1) := by decide +kernel
theorem dX15_worth_1 : decode cX15_worth 1 = .ok (.iload_n 1, 1) := by decide +kernel
theorem dX15_worth_2 : decode cX15_worth 2 = .ok (.invokevirtual 486, 3) := by decide +kernel
theorem dX15_worth_5 : decode cX15_worth 5 = .ok (.ifCond .ne 6, 3) := by decide +kernel
theorem dX15_worth_8 : decode cX15_worth 8 = .ok (.bipush (-102), 2) := by decide +kernel
theorem dX15_worth_10 : decode cX15_worth 10 = .ok (.ireturn, 1) := by decide +kernel
theorem dX15_worth_11 : decode cX15_worth 11 = .ok (.aload_n 0, 1) := by decide +kernel
theorem dX15_worth_12 : decode cX15_worth 12 = .ok (.getfield 387, 3) := by decide +kernel
theorem dX15_worth_15 : decode cX15_worth 15 = .ok (.ifCond .ne 7, 3) := by decide +kernel
theorem dX15_worth_18 : decode cX15_worth 18 = .ok (.iconst (-1), 1) := by decide +kernel
theorem dX15_worth_19 : decode cX15_worth 19 = .ok (.goto 13, 3) := by decide +kernel
theorem dX15_worth_22 : decode cX15_worth 22 = .ok (.aload_n 0, 1) := by decide +kernel
theorem dX15_worth_23 : decode cX15_worth 23 = .ok (.aload_n 0, 1) := by decide +kernel
theorem dX15_worth_24 : decode cX15_worth 24 = .ok (.getfield 257, 3) := by decide +kernel
theorem dX15_worth_27 : decode cX15_worth 27 = .ok (.iload_n 1, 1) := by decide +kernel
theorem dX15_worth_28 : decode cX15_worth 28 = .ok (.aaload, 1) := by decide +kernel
theorem dX15_worth_32 : decode cX15_worth 32 = .ok (.istore_n 2, 1) := by decide +kernel
theorem dX15_worth_33 : decode cX15_worth 33 = .ok (.iload_n 2, 1) := by decide +kernel
theorem dX15_worth_34 : decode cX15_worth 34 = .ok (.iconst (-1), 1) := by decide +kernel
theorem dX15_worth_35 : decode cX15_worth 35 = .ok (.if_icmp .ne 8, 3) := by decide +kernel
theorem dX15_worth_38 : decode cX15_worth 38 = .ok (.bipush (-103), 2) := by decide +kernel
theorem dX15_worth_40 : decode cX15_worth 40 = .ok (.goto 13, 3) := by decide +kernel
theorem dX15_worth_43 : decode cX15_worth 43 = .ok (.ldc_w 769, 3) := by decide +kernel
theorem dX15_worth_46 : decode cX15_worth 46 = .ok (.aload_n 0, 1) := by decide +kernel
theorem dX15_worth_47 : decode cX15_worth 47 = .ok (.getfield 343, 3) := by decide +kernel
theorem dX15_worth_50 : decode cX15_worth 50 = .ok (.iload_n 2, 1) := by decide +kernel
theorem dX15_worth_51 : decode cX15_worth 51 = .ok (.iaload, 1) := by decide +kernel
theorem dX15_worth_52 : decode cX15_worth 52 = .ok (.iadd, 1) := by decide +kernel
theorem dX15_worth_53 : decode cX15_worth 53 = .ok (.ireturn, 1) := by decide +kernel
set_option maxRecDepth 20000 in
theorem moX15_worth_53 {o : Int32 × Hp} {h : Hp} {t0 : Int32} (hE : sX15_worth_53 h  t0 = some o) : Le h o.2 := by
  exact le_some2 hE
set_option maxRecDepth 20000 in
theorem moX15_worth_32 {o : Int32 × Hp} {h : Hp} {x0 : Nat} {t0 : Int32} (hE : sX15_worth_32 h x0 t0 = some o) : Le h o.2 := by
  rcases br_e hE with ⟨_, hE⟩ | ⟨_, hE⟩
  · exact moX15_worth_53 hE
  · obtain ⟨r_2, er_2, hE⟩ := cl_e hE
    obtain ⟨g_3, hE⟩ := gd_e hE
    exact moX15_worth_53 hE
set_option maxRecDepth 20000 in
theorem moX15_worth {o : Int32 × Hp} {h : Hp} {x0 : Nat} {x1 : Int32} (hE : sX15_worth h x0 x1 = some o) : Le h o.2 := by
  obtain ⟨o_1, eo_1, hE⟩ := cl_e hE
  refine (moX15_has eo_1).tr ?_
  rcases br_e hE with ⟨_, hE⟩ | ⟨_, hE⟩
  · exact le_some2 hE
  · rcases br_e hE with ⟨_, hE⟩ | ⟨_, hE⟩
    · exact moX15_worth_32 hE
    · obtain ⟨r_4, er_4, hE⟩ := cl_e hE
      cases hE
set_option maxRecDepth 20000 in
theorem bX15_worth_53 {p : Program} {l : Launch} {e : Env} {s : State} {m : MethodId} {args : Array Value} {below : List Frame} {meth : Method} {c : Code} {X : Ec} {h0 : Hp} {o : Int32 × Hp} (C : Cx X p s m args meth c RX15 cX15_worth 3 (some .int) "worth") {h : Hp} {t0 : Int32} {H : Heap} {locs : List Loc} (hkm : Km h0 h) (hW : Wx X h H) (hZ : va_S (aA (eB X)) s.heap H locs) (ls : Array Slot) (hl : lv_has ls 3 []) (hE : sX15_worth_53 h  t0 = some o) : W p l e (rm 1 21) s m args below meth c H locs 0 0 (MQ below (QI X h0 o.1 o.2) args s 0 0 (aA (eB X))) (F0 m 53 ls [.int t0]) := by
  exact x_iret C rfl rfl hW hZ hkm hE dX15_worth_53
set_option maxRecDepth 20000 in
theorem bX15_worth_32 {p : Program} {l : Launch} {e : Env} {s : State} {m : MethodId} {args : Array Value} {below : List Frame} {meth : Method} {c : Code} {X : Ec} {h0 : Hp} {o : Int32 × Hp} (C : Cx X p s m args meth c RX15 cX15_worth 3 (some .int) "worth") {h : Hp} {x0 : Nat} {t0 : Int32} {H : Heap} {locs : List Loc} (k_x0 : hK h x0 = 15) (hkm : Km h0 h) (hW : Wx X h H) (hZ : va_S (aA (eB X)) s.heap H locs) (ls : Array Slot) (hl : lv_has ls 3 [(0, .ref x0)]) (hE : sX15_worth_32 h x0 t0 = some o) : W p l e (rm 1 21) s m args below meth c H locs 0 0 (MQ below (QI X h0 o.1 o.2) args s 0 0 (aA (eB X))) (F0 m 32 ls [.int t0]) := by
  refine lv_istore_n (lv' := [(2, .int t0), (0, .ref x0)]) C.1 C.2.1 dX15_worth_32 rfl hl (by decide) rfl (fun ls hl => ?_)
  refine lv_iload_n C.1 C.2.1 dX15_worth_33 rfl (lv_at hl 0 rfl) ?_
  refine lv_iconst (v := (-1 : Int32)) C.1 C.2.1 dX15_worth_34 (by decide) ?_
  refine lv_icmp_ne (tgt := 43) C.1 C.2.1 dX15_worth_35 (by decide) (fun c_1 => ?_) (fun c_1 => ?_)
  · have hE := br_n hE c_1
    refine lv_ldcw (v := (2000000 : Int32)) C.1 C.2.1 C.2.2.2.1 (C.2.2.2.2.1 _ m_2789) dX15_worth_43 ?_
    refine lv_aload_n C.1 C.2.1 dX15_worth_46 rfl (lv_at hl 1 rfl) ?_
    obtain ⟨r_2, er_2, hE⟩ := cl_e hE
    refine gf_X15_343 C hW k_x0 er_2 dX15_worth_47 (fun k_r_2 => ?_)
    refine lv_iload_n C.1 C.2.1 dX15_worth_50 rfl (lv_at hl 0 rfl) ?_
    obtain ⟨g_3, hE⟩ := gd_e hE
    refine y_iald C hW k_r_2 g_3 dX15_worth_51 ?_
    refine lv_iadd C.1 C.2.1 dX15_worth_52 ?_
    exact bX15_worth_53 C hkm hW hZ _ (lv_sub hl [] rfl) hE
  · have hE := br_p hE c_1
    refine lv_bipush (v := (-103 : Int32)) C.1 C.2.1 dX15_worth_38 (by decide) ?_
    refine lv_goto (tgt := 53) C.1 C.2.1 dX15_worth_40 (by decide) ?_
    exact bX15_worth_53 C hkm hW hZ _ (lv_sub hl [] rfl) hE
set_option maxRecDepth 20000 in
theorem ct_X15_worth (l : Launch) (X : Ec) {h : Hp} {x0 : Nat} {x1 : Int32} {o : Int32 × Hp} (k_x0 : hK h x0 = 15) (hE : sX15_worth h x0 x1 = some o) : MetI l yX15_worth cX15_worth 3 (some .int) 1 21 X [.ref x0, .int x1] h o := by
  refine x_met (by decide) (Nat.le_of_ble_eq_true rfl) ?_
  intro p e s m below meth c ls C hl hW hZ
  have hl : lv_has ls 3 [(0, .ref x0), (1, .int x1)] := hl
  have hkm : Km h h := Km.rf h
  refine lv_aload_n C.1 C.2.1 dX15_worth_0 rfl (lv_at hl 0 rfl) ?_
  refine lv_iload_n C.1 C.2.1 dX15_worth_1 rfl (lv_at hl 1 rfl) ?_
  obtain ⟨o_1, eo_1, hE⟩ := cl_e hE
  refine x_kI (o := o_1) (z_runV (As := [.int x1]) (rest := []) C (ct_X15_has l X k_x0 eo_1) cw_X15_486 hW hZ k_x0 (by decide) rfl rfl rfl hl.1 (Nat.le_of_ble_eq_true rfl) rfl dX15_worth_2 ⟨Nat.le_of_ble_eq_true rfl, Nat.le_of_ble_eq_true rfl⟩ ⟨Nat.le_refl _, Nat.le_refl _⟩) hZ (fun _ _ hW km hZ => ?_)
  replace hkm := hkm.tr km
  replace k_x0 := km.at k_x0 (by decide)
  refine lv_if_ne (tgt := 11) C.1 C.2.1 dX15_worth_5 (by decide) (fun c_2 => ?_) (fun c_2 => ?_)
  · have hE := br_n hE c_2
    refine lv_aload_n C.1 C.2.1 dX15_worth_11 rfl (lv_at hl 0 rfl) ?_
    refine gf_X15_387 C hW k_x0 dX15_worth_12 ?_
    refine lv_if_ne (tgt := 22) C.1 C.2.1 dX15_worth_15 (by decide) (fun c_3 => ?_) (fun c_3 => ?_)
    · have hE := br_n hE c_3
      refine lv_aload_n C.1 C.2.1 dX15_worth_22 rfl (lv_at hl 0 rfl) ?_
      refine lv_aload_n C.1 C.2.1 dX15_worth_23 rfl (lv_at hl 0 rfl) ?_
      obtain ⟨r_4, er_4, hE⟩ := cl_e hE
      refine gf_X15_257 C hW k_x0 er_4 dX15_worth_24 (fun k_r_4 => ?_)
      refine lv_iload_n C.1 C.2.1 dX15_worth_27 rfl (lv_at hl 1 rfl) ?_
      cases hE
    · have hE := br_p hE c_3
      refine lv_iconst (v := (-1 : Int32)) C.1 C.2.1 dX15_worth_18 (by decide) ?_
      refine lv_goto (tgt := 32) C.1 C.2.1 dX15_worth_19 (by decide) ?_
      exact bX15_worth_32 C k_x0 hkm hW hZ _ (lv_sub hl [0] rfl) hE
  · have hE := br_p hE c_2
    refine lv_bipush (v := (-102 : Int32)) C.1 C.2.1 dX15_worth_8 (by decide) ?_
    exact x_iret C rfl rfl hW hZ hkm hE dX15_worth_10
set_option maxRecDepth 100000 in
theorem m_2787 : Cond.constant RX15 767 (1000000 : Int32) ∈ W0 := w0_in (List.mem_append_right _ (List.mem_of_getElem? (i := 2787) rfl)) rfl
set_option maxRecDepth 100000 in
theorem m_2788 : Cond.constant RX15 768 (-1000000 : Int32) ∈ W0 := w0_in (List.mem_append_right _ (List.mem_of_getElem? (i := 2788) rfl)) rfl
theorem dX15_tally_0 : decode cX15_tally 0 = .ok (.iload_n 1, 1) := by decide +kernel
theorem dX15_tally_1 : decode cX15_tally 1 = .ok (.ifCond .lt 22, 3) := by decide +kernel
theorem dX15_tally_4 : decode cX15_tally 4 = .ok (.iload_n 1, 1) := by decide +kernel
theorem dX15_tally_5 : decode cX15_tally 5 = .ok (.iconst 1, 1) := by decide +kernel
theorem dX15_tally_6 : decode cX15_tally 6 = .ok (.if_icmp .gt 17, 3) := by decide +kernel
theorem dX15_tally_9 : decode cX15_tally 9 = .ok (.iload_n 2, 1) := by decide +kernel
theorem dX15_tally_10 : decode cX15_tally 10 = .ok (.ldc_w 768, 3) := by decide +kernel
theorem dX15_tally_13 : decode cX15_tally 13 = .ok (.if_icmp .lt 10, 3) := by decide +kernel
theorem dX15_tally_16 : decode cX15_tally 16 = .ok (.iload_n 2, 1) := by decide +kernel
theorem dX15_tally_17 : decode cX15_tally 17 = .ok (.ldc_w 767, 3) := by decide +kernel
theorem dX15_tally_20 : decode cX15_tally 20 = .ok (.if_icmp .le 6, 3) := by decide +kernel
theorem dX15_tally_23 : decode cX15_tally 23 = .ok (.bipush (-101), 2) := by decide +kernel
theorem dX15_tally_25 : decode cX15_tally 25 = .ok (.ireturn, 1) := by decide +kernel
theorem dX15_tally_26 : decode cX15_tally 26 = .ok (.aload_n 0, 1) := by decide +kernel
theorem dX15_tally_27 : decode cX15_tally 27 = .ok (.getfield 387, 3) := by decide +kernel
theorem dX15_tally_30 : decode cX15_tally 30 = .ok (.ifCond .ne 6, 3) := by decide +kernel
theorem dX15_tally_33 : decode cX15_tally 33 = .ok (.bipush (-103), 2) := by decide +kernel
theorem dX15_tally_35 : decode cX15_tally 35 = .ok (.ireturn, 1) := by decide +kernel
theorem dX15_tally_36 : decode cX15_tally 36 = .ok (.iconst 0, 1) := by decide +kernel
theorem dX15_tally_37 : decode cX15_tally 37 = .ok (.istore_n 3, 1) := by decide +kernel
theorem dX15_tally_38 : decode cX15_tally 38 = .ok (.aload_n 0, 1) := by decide +kernel
theorem dX15_tally_39 : decode cX15_tally 39 = .ok (.iconst 0, 1) := by decide +kernel
theorem dX15_tally_40 : decode cX15_tally 40 = .ok (.invokevirtual 801, 3) := by decide +kernel
set_option maxRecDepth 20000 in
theorem moX15_tally_23 {o : Int32 × Hp} {F : Nat} {h : Hp} (hE : sX15_tally_23 F h  = some o) : Le h o.2 := by
  exact le_some2 hE
set_option maxRecDepth 20000 in
theorem moX15_tally {o : Int32 × Hp} {F : Nat} {h : Hp} {x0 : Nat} {x1 : Int32} {x2 : Int32} (hE : sX15_tally F h x0 x1 x2 = some o) : Le h o.2 := by
  rcases br_e hE with ⟨_, hE⟩ | ⟨_, hE⟩
  · exact moX15_tally_23 hE
  · rcases br_e hE with ⟨_, hE⟩ | ⟨_, hE⟩
    · exact moX15_tally_23 hE
    · rcases br_e hE with ⟨_, hE⟩ | ⟨_, hE⟩
      · exact moX15_tally_23 hE
      · rcases br_e hE with ⟨_, hE⟩ | ⟨_, hE⟩
        · rcases br_e hE with ⟨_, hE⟩ | ⟨_, hE⟩
          · exact le_some2 hE
          · cases hE
        · exact moX15_tally_23 hE
set_option maxRecDepth 20000 in
theorem bX15_tally_23 {p : Program} {l : Launch} {e : Env} {s : State} {m : MethodId} {args : Array Value} {below : List Frame} {meth : Method} {c : Code} {X : Ec} {h0 : Hp} {o : Int32 × Hp} {F : Nat} (C : Cx X p s m args meth c RX15 cX15_tally 6 (some .int) "tally") {h : Hp} {H : Heap} {locs : List Loc} (hkm : Km h0 h) (hW : Wx X h H) (hZ : va_S (aA (eB X)) s.heap H locs) (ls : Array Slot) (hl : lv_has ls 6 []) (hE : sX15_tally_23 F h  = some o) : W p l e (rm 0 0) s m args below meth c H locs 0 0 (MQ below (QI X h0 o.1 o.2) args s 0 0 (aA (eB X))) (F0 m 23 ls []) := by
  refine lv_bipush (v := (-101 : Int32)) C.1 C.2.1 dX15_tally_23 (by decide) ?_
  exact x_iret C rfl rfl hW hZ hkm hE dX15_tally_25
set_option maxRecDepth 20000 in
theorem ct_X15_tally (l : Launch) (X : Ec) (F : Nat) {h : Hp} {x0 : Nat} {x1 : Int32} {x2 : Int32} {o : Int32 × Hp} (k_x0 : hK h x0 = 15) (hE : sX15_tally F h x0 x1 x2 = some o) : MetI l yX15_tally cX15_tally 6 (some .int) 0 0 X [.ref x0, .int x1, .int x2] h o := by
  refine x_met (by decide) (Nat.le_of_ble_eq_true rfl) ?_
  intro p e s m below meth c ls C hl hW hZ
  have hl : lv_has ls 6 [(0, .ref x0), (1, .int x1), (2, .int x2)] := hl
  have hkm : Km h h := Km.rf h
  refine lv_iload_n C.1 C.2.1 dX15_tally_0 rfl (lv_at hl 1 rfl) ?_
  refine lv_if_lt (tgt := 23) C.1 C.2.1 dX15_tally_1 (by decide) (fun c_1 => ?_) (fun c_1 => ?_)
  · have hE := br_p hE c_1
    exact bX15_tally_23 C hkm hW hZ _ (lv_sub hl [] rfl) hE
  · have hE := br_n hE c_1
    refine lv_iload_n C.1 C.2.1 dX15_tally_4 rfl (lv_at hl 1 rfl) ?_
    refine lv_iconst (v := (1 : Int32)) C.1 C.2.1 dX15_tally_5 (by decide) ?_
    refine lv_icmp_gt (tgt := 23) C.1 C.2.1 dX15_tally_6 (by decide) (fun c_2 => ?_) (fun c_2 => ?_)
    · have hE := br_p hE c_2
      exact bX15_tally_23 C hkm hW hZ _ (lv_sub hl [] rfl) hE
    · have hE := br_n hE c_2
      refine lv_iload_n C.1 C.2.1 dX15_tally_9 rfl (lv_at hl 2 rfl) ?_
      refine lv_ldcw (v := (-1000000 : Int32)) C.1 C.2.1 C.2.2.2.1 (C.2.2.2.2.1 _ m_2788) dX15_tally_10 ?_
      refine lv_icmp_lt (tgt := 23) C.1 C.2.1 dX15_tally_13 (by decide) (fun c_3 => ?_) (fun c_3 => ?_)
      · have hE := br_p hE c_3
        exact bX15_tally_23 C hkm hW hZ _ (lv_sub hl [] rfl) hE
      · have hE := br_n hE c_3
        refine lv_iload_n C.1 C.2.1 dX15_tally_16 rfl (lv_at hl 2 rfl) ?_
        refine lv_ldcw (v := (1000000 : Int32)) C.1 C.2.1 C.2.2.2.1 (C.2.2.2.2.1 _ m_2787) dX15_tally_17 ?_
        refine lv_icmp_le (tgt := 26) C.1 C.2.1 dX15_tally_20 (by decide) (fun c_4 => ?_) (fun c_4 => ?_)
        · have hE := br_p hE c_4
          refine lv_aload_n C.1 C.2.1 dX15_tally_26 rfl (lv_at hl 0 rfl) ?_
          refine gf_X15_387 C hW k_x0 dX15_tally_27 ?_
          refine lv_if_ne (tgt := 36) C.1 C.2.1 dX15_tally_30 (by decide) (fun c_5 => ?_) (fun c_5 => ?_)
          · have hE := br_n hE c_5
            refine lv_iconst (v := (0 : Int32)) C.1 C.2.1 dX15_tally_36 (by decide) ?_
            refine lv_istore_n (lv' := [(3, .int (0 : Int32)), (0, .ref x0), (1, .int x1), (2, .int x2)]) C.1 C.2.1 dX15_tally_37 rfl hl (by decide) rfl (fun ls hl => ?_)
            refine lv_aload_n C.1 C.2.1 dX15_tally_38 rfl (lv_at hl 1 rfl) ?_
            refine lv_iconst (v := (0 : Int32)) C.1 C.2.1 dX15_tally_39 (by decide) ?_
            cases hE
          · have hE := br_p hE c_5
            refine lv_bipush (v := (-103 : Int32)) C.1 C.2.1 dX15_tally_33 (by decide) ?_
            exact x_iret C rfl rfl hW hZ hkm hE dX15_tally_35
        · have hE := br_n hE c_4
          exact bX15_tally_23 C hkm hW hZ _ (lv_sub hl [] rfl) hE
theorem dX15_problem_0 : decode cX15_problem 0 = .ok (.iload_n 2, 1) := by decide +kernel
theorem dX15_problem_1 : decode cX15_problem 1 = .ok (.ifCond .lt 29, 3) := by decide +kernel
theorem dX15_problem_4 : decode cX15_problem 4 = .ok (.iload_n 2, 1) := by decide +kernel
theorem dX15_problem_5 : decode cX15_problem 5 = .ok (.iconst 3, 1) := by decide +kernel
theorem dX15_problem_6 : decode cX15_problem 6 = .ok (.if_icmp .gt 24, 3) := by decide +kernel
theorem dX15_problem_9 : decode cX15_problem 9 = .ok (.iload_n 3, 1) := by decide +kernel
theorem dX15_problem_10 : decode cX15_problem 10 = .ok (.ifCond .lt 20, 3) := by decide +kernel
theorem dX15_problem_13 : decode cX15_problem 13 = .ok (.iload_n 3, 1) := by decide +kernel
theorem dX15_problem_14 : decode cX15_problem 14 = .ok (.iconst 2, 1) := by decide +kernel
theorem dX15_problem_15 : decode cX15_problem 15 = .ok (.if_icmp .gt 15, 3) := by decide +kernel
theorem dX15_problem_18 : decode cX15_problem 18 = .ok (.iload 4, 2) := by decide +kernel
theorem dX15_problem_20 : decode cX15_problem 20 = .ok (.iconst 1, 1) := by decide +kernel
theorem dX15_problem_21 : decode cX15_problem 21 = .ok (.if_icmp .lt 9, 3) := by decide +kernel
theorem dX15_problem_24 : decode cX15_problem 24 = .ok (.iload 4, 2) := by decide +kernel
theorem dX15_problem_26 : decode cX15_problem 26 = .ok (.iconst 4, 1) := by decide +kernel
theorem dX15_problem_27 : decode cX15_problem 27 = .ok (.if_icmp .le 6, 3) := by decide +kernel
theorem dX15_problem_30 : decode cX15_problem 30 = .ok (.bipush (-101), 2) := by decide +kernel
theorem dX15_problem_32 : decode cX15_problem 32 = .ok (.ireturn, 1) := by decide +kernel
theorem dX15_problem_33 : decode cX15_problem 33 = .ok (.aload_n 0, 1) := by decide +kernel
theorem dX15_problem_34 : decode cX15_problem 34 = .ok (.iload_n 1, 1) := by decide +kernel
theorem dX15_problem_35 : decode cX15_problem 35 = .ok (.invokevirtual 668, 3) := by decide +kernel
theorem dX15_problem_38 : decode cX15_problem 38 = .ok (.bipush (-102), 2) := by decide +kernel
theorem dX15_problem_40 : decode cX15_problem 40 = .ok (.if_icmp .ne 6, 3) := by decide +kernel
theorem dX15_problem_43 : decode cX15_problem 43 = .ok (.bipush (-102), 2) := by decide +kernel
theorem dX15_problem_45 : decode cX15_problem 45 = .ok (.ireturn, 1) := by decide +kernel
theorem dX15_problem_46 : decode cX15_problem 46 = .ok (.aload_n 0, 1) := by decide +kernel
theorem dX15_problem_47 : decode cX15_problem 47 = .ok (.aload_n 0, 1) := by decide +kernel
theorem dX15_problem_48 : decode cX15_problem 48 = .ok (.getfield 257, 3) := by decide +kernel
theorem dX15_problem_51 : decode cX15_problem 51 = .ok (.iload_n 1, 1) := by decide +kernel
theorem dX15_problem_52 : decode cX15_problem 52 = .ok (.aaload, 1) := by decide +kernel
set_option maxRecDepth 20000 in
theorem moX15_problem_30 {o : Int32 × Hp} {F : Nat} {h : Hp} (hE : sX15_problem_30 F h  = some o) : Le h o.2 := by
  exact le_some2 hE
set_option maxRecDepth 20000 in
theorem moX15_problem_38 {o : Int32 × Hp} {F : Nat} {h : Hp} {x0 : Nat} {x1 : Int32} {x2 : Int32} {x3 : Int32} {x4 : Int32} {t0 : Int32} (hE : sX15_problem_38 F h x0 x1 x2 x3 x4 t0 = some o) : Le h o.2 := by
  rcases br_e hE with ⟨_, hE⟩ | ⟨_, hE⟩
  · exact le_some2 hE
  · obtain ⟨r_2, er_2, hE⟩ := cl_e hE
    cases hE
set_option maxRecDepth 20000 in
theorem moX15_problem {o : Int32 × Hp} {F : Nat} {h : Hp} {x0 : Nat} {x1 : Int32} {x2 : Int32} {x3 : Int32} {x4 : Int32} (hE : sX15_problem F h x0 x1 x2 x3 x4 = some o) : Le h o.2 := by
  rcases br_e hE with ⟨_, hE⟩ | ⟨_, hE⟩
  · exact moX15_problem_30 hE
  · rcases br_e hE with ⟨_, hE⟩ | ⟨_, hE⟩
    · exact moX15_problem_30 hE
    · rcases br_e hE with ⟨_, hE⟩ | ⟨_, hE⟩
      · exact moX15_problem_30 hE
      · rcases br_e hE with ⟨_, hE⟩ | ⟨_, hE⟩
        · exact moX15_problem_30 hE
        · rcases br_e hE with ⟨_, hE⟩ | ⟨_, hE⟩
          · exact moX15_problem_30 hE
          · rcases br_e hE with ⟨_, hE⟩ | ⟨_, hE⟩
            · obtain ⟨o_7, eo_7, hE⟩ := cl_e hE
              refine (moX15_moves eo_7).tr ?_
              exact moX15_problem_38 hE
            · exact moX15_problem_30 hE
set_option maxRecDepth 20000 in
theorem bX15_problem_30 {p : Program} {l : Launch} {e : Env} {s : State} {m : MethodId} {args : Array Value} {below : List Frame} {meth : Method} {c : Code} {X : Ec} {h0 : Hp} {o : Int32 × Hp} {F : Nat} (C : Cx X p s m args meth c RX15 cX15_problem 9 (some .int) "problem") {h : Hp} {H : Heap} {locs : List Loc} (hkl : Kl h0 h) (hW : Wx X h H) (hZ : va_S (aA (eB X)) s.heap H locs) (ls : Array Slot) (hl : lv_has ls 9 []) (hE : sX15_problem_30 F h  = some o) : W p l e (rmA 2 42 h0 o.2) s m args below meth c H locs (hS h - hS h0) (hL h - hL h0) (MQ below (QIA X h0 o.1 o.2) args s (hS o.2 - hS h0) (hL o.2 - hL h0) (aA (eB X))) (F0 m 30 ls []) := by
  refine lv_bipush (v := (-101 : Int32)) C.1 C.2.1 dX15_problem_30 (by decide) ?_
  exact x_iretA C rfl rfl hW hZ hkl hE dX15_problem_32
set_option maxRecDepth 20000 in
theorem bX15_problem_38 {p : Program} {l : Launch} {e : Env} {s : State} {m : MethodId} {args : Array Value} {below : List Frame} {meth : Method} {c : Code} {X : Ec} {h0 : Hp} {o : Int32 × Hp} {F : Nat} (C : Cx X p s m args meth c RX15 cX15_problem 9 (some .int) "problem") {h : Hp} {x0 : Nat} {x1 : Int32} {x2 : Int32} {x3 : Int32} {x4 : Int32} {t0 : Int32} {H : Heap} {locs : List Loc} (k_x0 : hK h x0 = 15) (hkl : Kl h0 h) (hW : Wx X h H) (hZ : va_S (aA (eB X)) s.heap H locs) (ls : Array Slot) (hl : lv_has ls 9 [(0, .ref x0), (1, .int x1), (2, .int x2), (3, .int x3), (4, .int x4)]) (hE : sX15_problem_38 F h x0 x1 x2 x3 x4 t0 = some o) : W p l e (rmA 2 42 h0 o.2) s m args below meth c H locs (hS h - hS h0) (hL h - hL h0) (MQ below (QIA X h0 o.1 o.2) args s (hS o.2 - hS h0) (hL o.2 - hL h0) (aA (eB X))) (F0 m 38 ls [.int t0]) := by
  refine lv_bipush (v := (-102 : Int32)) C.1 C.2.1 dX15_problem_38 (by decide) ?_
  refine lv_icmp_ne (tgt := 46) C.1 C.2.1 dX15_problem_40 (by decide) (fun c_1 => ?_) (fun c_1 => ?_)
  · have hE := br_n hE c_1
    refine lv_aload_n C.1 C.2.1 dX15_problem_46 rfl (lv_at hl 0 rfl) ?_
    refine lv_aload_n C.1 C.2.1 dX15_problem_47 rfl (lv_at hl 0 rfl) ?_
    obtain ⟨r_2, er_2, hE⟩ := cl_e hE
    refine gf_X15_257 C hW k_x0 er_2 dX15_problem_48 (fun k_r_2 => ?_)
    refine lv_iload_n C.1 C.2.1 dX15_problem_51 rfl (lv_at hl 1 rfl) ?_
    cases hE
  · have hE := br_p hE c_1
    refine lv_bipush (v := (-102 : Int32)) C.1 C.2.1 dX15_problem_43 (by decide) ?_
    exact x_iretA C rfl rfl hW hZ hkl hE dX15_problem_45
set_option maxRecDepth 20000 in
theorem ct_X15_problem (l : Launch) (X : Ec) (F : Nat) {h : Hp} {x0 : Nat} {x1 : Int32} {x2 : Int32} {x3 : Int32} {x4 : Int32} {o : Int32 × Hp} (k_x0 : hK h x0 = 15) (hE : sX15_problem F h x0 x1 x2 x3 x4 = some o) : MetIA l yX15_problem cX15_problem 9 (some .int) 2 42 X [.ref x0, .int x1, .int x2, .int x3, .int x4] h o := by
  refine x_metA (oh := o.2) (by decide) (Nat.le_of_ble_eq_true rfl) ?_
  intro p e s m below meth c ls C hl hW hZ
  have hl : lv_has ls 9 [(0, .ref x0), (1, .int x1), (2, .int x2), (3, .int x3), (4, .int x4)] := hl
  have hkl : Kl h h := Kl.rf h
  refine lv_iload_n C.1 C.2.1 dX15_problem_0 rfl (lv_at hl 2 rfl) ?_
  refine lv_if_lt (tgt := 30) C.1 C.2.1 dX15_problem_1 (by decide) (fun c_1 => ?_) (fun c_1 => ?_)
  · have hE := br_p hE c_1
    exact bX15_problem_30 C hkl hW hZ _ (lv_sub hl [] rfl) hE
  · have hE := br_n hE c_1
    refine lv_iload_n C.1 C.2.1 dX15_problem_4 rfl (lv_at hl 2 rfl) ?_
    refine lv_iconst (v := (3 : Int32)) C.1 C.2.1 dX15_problem_5 (by decide) ?_
    refine lv_icmp_gt (tgt := 30) C.1 C.2.1 dX15_problem_6 (by decide) (fun c_2 => ?_) (fun c_2 => ?_)
    · have hE := br_p hE c_2
      exact bX15_problem_30 C hkl hW hZ _ (lv_sub hl [] rfl) hE
    · have hE := br_n hE c_2
      refine lv_iload_n C.1 C.2.1 dX15_problem_9 rfl (lv_at hl 3 rfl) ?_
      refine lv_if_lt (tgt := 30) C.1 C.2.1 dX15_problem_10 (by decide) (fun c_3 => ?_) (fun c_3 => ?_)
      · have hE := br_p hE c_3
        exact bX15_problem_30 C hkl hW hZ _ (lv_sub hl [] rfl) hE
      · have hE := br_n hE c_3
        refine lv_iload_n C.1 C.2.1 dX15_problem_13 rfl (lv_at hl 3 rfl) ?_
        refine lv_iconst (v := (2 : Int32)) C.1 C.2.1 dX15_problem_14 (by decide) ?_
        refine lv_icmp_gt (tgt := 30) C.1 C.2.1 dX15_problem_15 (by decide) (fun c_4 => ?_) (fun c_4 => ?_)
        · have hE := br_p hE c_4
          exact bX15_problem_30 C hkl hW hZ _ (lv_sub hl [] rfl) hE
        · have hE := br_n hE c_4
          refine lv_iload C.1 C.2.1 dX15_problem_18 (lv_at hl 4 rfl) ?_
          refine lv_iconst (v := (1 : Int32)) C.1 C.2.1 dX15_problem_20 (by decide) ?_
          refine lv_icmp_lt (tgt := 30) C.1 C.2.1 dX15_problem_21 (by decide) (fun c_5 => ?_) (fun c_5 => ?_)
          · have hE := br_p hE c_5
            exact bX15_problem_30 C hkl hW hZ _ (lv_sub hl [] rfl) hE
          · have hE := br_n hE c_5
            refine lv_iload C.1 C.2.1 dX15_problem_24 (lv_at hl 4 rfl) ?_
            refine lv_iconst (v := (4 : Int32)) C.1 C.2.1 dX15_problem_26 (by decide) ?_
            refine lv_icmp_le (tgt := 33) C.1 C.2.1 dX15_problem_27 (by decide) (fun c_6 => ?_) (fun c_6 => ?_)
            · have hE := br_p hE c_6
              refine lv_aload_n C.1 C.2.1 dX15_problem_33 rfl (lv_at hl 0 rfl) ?_
              refine lv_iload_n C.1 C.2.1 dX15_problem_34 rfl (lv_at hl 1 rfl) ?_
              obtain ⟨o_7, eo_7, hE⟩ := cl_e hE
              have m1 := moX15_moves eo_7
              have m2 := moX15_problem_38 hE
              refine x_kI (o := o_7) (z_runV (As := [.int x1]) (rest := []) C (ct_X15_moves l X k_x0 eo_7) cw_X15_668 hW hZ k_x0 (by decide) rfl rfl rfl hl.1 (Nat.le_of_ble_eq_true rfl) rfl dX15_problem_35 ⟨Nat.le_of_ble_eq_true rfl, Nat.le_of_ble_eq_true rfl⟩ (rm_ok0 hkl m1 m2)) hZ (fun _ _ hW km hZ => ?_)
              replace hkl := hkl.tr km.l
              refine x_wc km ?_
              replace k_x0 := km.at k_x0 (by decide)
              exact bX15_problem_38 C k_x0 hkl hW hZ _ (lv_sub hl [0, 1, 2, 3, 4] rfl) hE
            · have hE := br_n hE c_6
              exact bX15_problem_30 C hkl hW hZ _ (lv_sub hl [] rfl) hE
set_option maxRecDepth 100000 in
theorem m_2175 : Cond.fieldLink RX15 847 (TX15 64).1 (TX15 64).2.1 (TX15 64).2.2.1 ∈ W0 := w0_in (List.mem_append_right _ (List.mem_of_getElem? (i := 2175) rfl)) rfl
section
variable {p : Program} {l : Launch} {e : Env} {R : Room} {s : State} {m : MethodId} {args : Array Value} {below : List Frame} {meth : Method} {c : Code} {H : Heap} {locs : List Loc} {cells slots : Nat} {Q : State → Prop}
variable {cc : ByteArray} {pc : Nat} {ls : Array Slot} {rest : List Value} {X : Ec} {h h1 : Hp} {nL : Nat} {rt : Option FieldType} {mn : String}
theorem gf_X15_393 {a : Nat} (C : Cx X p s m args meth c RX15 cc nL rt mn) (hW : Wx X h H) (ha : hK h a = 15) (hdg : decode cc pc = .ok (.getfield 393, 3)) (kk : W p l e R s m args below meth c H locs cells slots Q (F0 m (pc + 3) ls (.int (hI h a 65) :: rest))) : W p l e R s m args below meth c H locs cells slots Q (F0 m pc ls (.ref a :: rest)) :=
  y_geti C hW ha i_X15 (by decide) rfl (by decide) m_2176 rfl hdg kk
theorem gf_X15_847 {a : Nat} (C : Cx X p s m args meth c RX15 cc nL rt mn) (hW : Wx X h H) (ha : hK h a = 15) (hdg : decode cc pc = .ok (.getfield 847, 3)) (kk : W p l e R s m args below meth c H locs cells slots Q (F0 m (pc + 3) ls (.int (hI h a 64) :: rest))) : W p l e R s m args below meth c H locs cells slots Q (F0 m pc ls (.ref a :: rest)) :=
  y_geti C hW ha i_X15 (by decide) rfl (by decide) m_2175 rfl hdg kk
end
theorem dX15_isProblem_0 : decode cX15_isProblem 0 = .ok (.aload_n 0, 1) := by decide +kernel
theorem dX15_isProblem_1 : decode cX15_isProblem 1 = .ok (.getfield 393, 3) := by decide +kernel
theorem dX15_isProblem_4 : decode cX15_isProblem 4 = .ok (.ifCond .le 23, 3) := by decide +kernel
theorem dX15_isProblem_7 : decode cX15_isProblem 7 = .ok (.aload_n 0, 1) := by decide +kernel
theorem dX15_isProblem_8 : decode cX15_isProblem 8 = .ok (.getfield 261, 3) := by decide +kernel
theorem dX15_isProblem_11 : decode cX15_isProblem 11 = .ok (.aload_n 0, 1) := by decide +kernel
theorem dX15_isProblem_12 : decode cX15_isProblem 12 = .ok (.getfield 847, 3) := by decide +kernel
theorem dX15_isProblem_15 : decode cX15_isProblem 15 = .ok (.iaload, 1) := by decide +kernel
theorem dX15_isProblem_16 : decode cX15_isProblem 16 = .ok (.aload_n 0, 1) := by decide +kernel
theorem dX15_isProblem_17 : decode cX15_isProblem 17 = .ok (.getfield 393, 3) := by decide +kernel
theorem dX15_isProblem_20 : decode cX15_isProblem 20 = .ok (.if_icmp .ne 7, 3) := by decide +kernel
theorem dX15_isProblem_23 : decode cX15_isProblem 23 = .ok (.iconst 1, 1) := by decide +kernel
theorem dX15_isProblem_24 : decode cX15_isProblem 24 = .ok (.goto 4, 3) := by decide +kernel
theorem dX15_isProblem_27 : decode cX15_isProblem 27 = .ok (.iconst 0, 1) := by decide +kernel
theorem dX15_isProblem_28 : decode cX15_isProblem 28 = .ok (.ireturn, 1) := by decide +kernel
set_option maxRecDepth 20000 in
theorem moX15_isProblem_28 {o : Int32 × Hp} {h : Hp} {t0 : Int32} (hE : sX15_isProblem_28 h  t0 = some o) : Le h o.2 := by
  obtain ⟨g_1, hE⟩ := gd_e hE
  exact le_some2 hE
set_option maxRecDepth 20000 in
theorem moX15_isProblem_27 {o : Int32 × Hp} {h : Hp} (hE : sX15_isProblem_27 h  = some o) : Le h o.2 := by
  exact moX15_isProblem_28 hE
set_option maxRecDepth 20000 in
theorem moX15_isProblem {o : Int32 × Hp} {h : Hp} {x0 : Nat} (hE : sX15_isProblem h x0 = some o) : Le h o.2 := by
  rcases br_e hE with ⟨_, hE⟩ | ⟨_, hE⟩
  · exact moX15_isProblem_27 hE
  · obtain ⟨r_2, er_2, hE⟩ := cl_e hE
    obtain ⟨g_3, hE⟩ := gd_e hE
    rcases br_e hE with ⟨_, hE⟩ | ⟨_, hE⟩
    · exact moX15_isProblem_28 hE
    · exact moX15_isProblem_27 hE
set_option maxRecDepth 20000 in
theorem bX15_isProblem_28 {p : Program} {l : Launch} {e : Env} {s : State} {m : MethodId} {args : Array Value} {below : List Frame} {meth : Method} {c : Code} {X : Ec} {h0 : Hp} {o : Int32 × Hp} (C : Cx X p s m args meth c RX15 cX15_isProblem 1 (some .boolean) "isProblem") {h : Hp} {t0 : Int32} {H : Heap} {locs : List Loc} (hkm : Km h0 h) (hW : Wx X h H) (hZ : va_S (aA (eB X)) s.heap H locs) (ls : Array Slot) (hl : lv_has ls 1 []) (hE : sX15_isProblem_28 h  t0 = some o) : W p l e (rm 0 0) s m args below meth c H locs 0 0 (MQ below (QI X h0 o.1 o.2) args s 0 0 (aA (eB X))) (F0 m 28 ls [.int t0]) := by
  obtain ⟨g_1, hE⟩ := gd_e hE
  exact x_iret C rfl (narB g_1) hW hZ hkm hE dX15_isProblem_28
set_option maxRecDepth 20000 in
theorem bX15_isProblem_27 {p : Program} {l : Launch} {e : Env} {s : State} {m : MethodId} {args : Array Value} {below : List Frame} {meth : Method} {c : Code} {X : Ec} {h0 : Hp} {o : Int32 × Hp} (C : Cx X p s m args meth c RX15 cX15_isProblem 1 (some .boolean) "isProblem") {h : Hp} {H : Heap} {locs : List Loc} (hkm : Km h0 h) (hW : Wx X h H) (hZ : va_S (aA (eB X)) s.heap H locs) (ls : Array Slot) (hl : lv_has ls 1 []) (hE : sX15_isProblem_27 h  = some o) : W p l e (rm 0 0) s m args below meth c H locs 0 0 (MQ below (QI X h0 o.1 o.2) args s 0 0 (aA (eB X))) (F0 m 27 ls []) := by
  refine lv_iconst (v := (0 : Int32)) C.1 C.2.1 dX15_isProblem_27 (by decide) ?_
  exact bX15_isProblem_28 C hkm hW hZ _ (lv_sub hl [] rfl) hE
set_option maxRecDepth 20000 in
theorem ct_X15_isProblem (l : Launch) (X : Ec) {h : Hp} {x0 : Nat} {o : Int32 × Hp} (k_x0 : hK h x0 = 15) (hE : sX15_isProblem h x0 = some o) : MetI l yX15_isProblem cX15_isProblem 1 (some .boolean) 0 0 X [.ref x0] h o := by
  refine x_met (by decide) (Nat.le_of_ble_eq_true rfl) ?_
  intro p e s m below meth c ls C hl hW hZ
  have hl : lv_has ls 1 [(0, .ref x0)] := hl
  have hkm : Km h h := Km.rf h
  refine lv_aload_n C.1 C.2.1 dX15_isProblem_0 rfl (lv_at hl 0 rfl) ?_
  refine gf_X15_393 C hW k_x0 dX15_isProblem_1 ?_
  refine lv_if_le (tgt := 27) C.1 C.2.1 dX15_isProblem_4 (by decide) (fun c_1 => ?_) (fun c_1 => ?_)
  · have hE := br_p hE c_1
    exact bX15_isProblem_27 C hkm hW hZ _ (lv_sub hl [] rfl) hE
  · have hE := br_n hE c_1
    refine lv_aload_n C.1 C.2.1 dX15_isProblem_7 rfl (lv_at hl 0 rfl) ?_
    obtain ⟨r_2, er_2, hE⟩ := cl_e hE
    refine gf_X15_261 C hW k_x0 er_2 dX15_isProblem_8 (fun k_r_2 => ?_)
    refine lv_aload_n C.1 C.2.1 dX15_isProblem_11 rfl (lv_at hl 0 rfl) ?_
    refine gf_X15_847 C hW k_x0 dX15_isProblem_12 ?_
    obtain ⟨g_3, hE⟩ := gd_e hE
    refine y_iald C hW k_r_2 g_3 dX15_isProblem_15 ?_
    refine lv_aload_n C.1 C.2.1 dX15_isProblem_16 rfl (lv_at hl 0 rfl) ?_
    refine gf_X15_393 C hW k_x0 dX15_isProblem_17 ?_
    refine lv_icmp_ne (tgt := 27) C.1 C.2.1 dX15_isProblem_20 (by decide) (fun c_4 => ?_) (fun c_4 => ?_)
    · have hE := br_n hE c_4
      exact bX15_isProblem_27 C hkm hW hZ _ (lv_sub hl [] rfl) hE
    · have hE := br_p hE c_4
      refine lv_iconst (v := (1 : Int32)) C.1 C.2.1 dX15_isProblem_23 (by decide) ?_
      refine lv_goto (tgt := 28) C.1 C.2.1 dX15_isProblem_24 (by decide) ?_
      exact bX15_isProblem_28 C hkm hW hZ _ (lv_sub hl [] rfl) hE
set_option maxRecDepth 100000 in
theorem ms_224 : Cond.selects RX15 yX15_isProblem yX15_isProblem ∈ W0 := w0_in (List.mem_append_left _ (List.mem_of_getElem? (i := 224) rfl)) rfl
set_option maxRecDepth 100000 in
theorem m_2181 : Cond.fieldLink RX15 859 (TX15 70).1 (TX15 70).2.1 (TX15 70).2.2.1 ∈ W0 := w0_in (List.mem_append_right _ (List.mem_of_getElem? (i := 2181) rfl)) rfl
set_option maxRecDepth 100000 in
theorem m_2877 : Cond.methodLink RX15 862 yX15_isProblem ∈ W0 := w0_in (List.mem_append_right _ (List.mem_of_getElem? (i := 2877) rfl)) rfl
set_option maxRecDepth 100000 in
theorem m_2879 : Cond.instanceMethod yX15_isProblem ∈ W0 := w0_in (List.mem_append_right _ (List.mem_of_getElem? (i := 2879) rfl)) rfl
set_option maxRecDepth 100000 in
theorem m_2880 : Cond.code yX15_isProblem cX15_isProblem 1 (some .boolean) ∈ W0 := w0_in (List.mem_append_right _ (List.mem_of_getElem? (i := 2880) rfl)) rfl
section
variable {p : Program} {l : Launch} {e : Env} {R : Room} {s : State} {m : MethodId} {args : Array Value} {below : List Frame} {meth : Method} {c : Code} {H : Heap} {locs : List Loc} {cells slots : Nat} {Q : State → Prop}
variable {cc : ByteArray} {pc : Nat} {ls : Array Slot} {rest : List Value} {X : Ec} {h h1 : Hp} {nL : Nat} {rt : Option FieldType} {mn : String}
theorem gf_X15_859 {a : Nat} (C : Cx X p s m args meth c RX15 cc nL rt mn) (hW : Wx X h H) (ha : hK h a = 15) (hdg : decode cc pc = .ok (.getfield 859, 3)) (kk : W p l e R s m args below meth c H locs cells slots Q (F0 m (pc + 3) ls (.int (hI h a 70) :: rest))) : W p l e R s m args below meth c H locs cells slots Q (F0 m pc ls (.ref a :: rest)) :=
  y_geti C hW ha i_X15 (by decide) rfl (by decide) m_2181 rfl hdg kk
theorem gf_X15_371 {a r : Nat} (C : Cx X p s m args meth c RX15 cc nL rt mn) (hW : Wx X h H) (ha : hK h a = 15) (hr : hR h a 69 = some r) (hdg : decode cc pc = .ok (.getfield 371, 3)) (kk : hK h r = 17 → W p l e R s m args below meth c H locs cells slots Q (F0 m (pc + 3) ls (.ref r :: rest))) : W p l e R s m args below meth c H locs cells slots Q (F0 m pc ls (.ref a :: rest)) :=
  y_getr C hW ha i_X15 (by decide) rfl (by decide) m_2180 rfl rfl hr hdg kk
end
theorem cw_X15_862 : cwd RX15 862 yX15_isProblem cX15_isProblem 1 (some .boolean) false 0 := ⟨m_2880, m_2877, m_19, ⟨m_2879, ms_224⟩, by decide, by decide, by decide +kernel⟩
theorem dX15_key_0 : decode cX15_key 0 = .ok (.aload_n 0, 1) := by decide +kernel
theorem dX15_key_1 : decode cX15_key 1 = .ok (.invokevirtual 862, 3) := by decide +kernel
theorem dX15_key_4 : decode cX15_key 4 = .ok (.ifCond .eq 15, 3) := by decide +kernel
theorem dX15_key_7 : decode cX15_key 7 = .ok (.iload_n 1, 1) := by decide +kernel
theorem dX15_key_8 : decode cX15_key 8 = .ok (.ifCond .lt 11, 3) := by decide +kernel
theorem dX15_key_11 : decode cX15_key 11 = .ok (.iload_n 1, 1) := by decide +kernel
theorem dX15_key_12 : decode cX15_key 12 = .ok (.aload_n 0, 1) := by decide +kernel
theorem dX15_key_13 : decode cX15_key 13 = .ok (.getfield 859, 3) := by decide +kernel
theorem dX15_key_16 : decode cX15_key 16 = .ok (.if_icmp .lt 7, 3) := by decide +kernel
theorem dX15_key_19 : decode cX15_key 19 = .ok (.iconst (-1), 1) := by decide +kernel
theorem dX15_key_20 : decode cX15_key 20 = .ok (.goto 9, 3) := by decide +kernel
theorem dX15_key_23 : decode cX15_key 23 = .ok (.aload_n 0, 1) := by decide +kernel
theorem dX15_key_24 : decode cX15_key 24 = .ok (.getfield 371, 3) := by decide +kernel
theorem dX15_key_27 : decode cX15_key 27 = .ok (.iload_n 1, 1) := by decide +kernel
theorem dX15_key_28 : decode cX15_key 28 = .ok (.iaload, 1) := by decide +kernel
theorem dX15_key_29 : decode cX15_key 29 = .ok (.ireturn, 1) := by decide +kernel
set_option maxRecDepth 20000 in
theorem moX15_key_29 {o : Int32 × Hp} {h : Hp} {t0 : Int32} (hE : sX15_key_29 h  t0 = some o) : Le h o.2 := by
  exact le_some2 hE
set_option maxRecDepth 20000 in
theorem moX15_key_19 {o : Int32 × Hp} {h : Hp} (hE : sX15_key_19 h  = some o) : Le h o.2 := by
  exact moX15_key_29 hE
set_option maxRecDepth 20000 in
theorem moX15_key {o : Int32 × Hp} {h : Hp} {x0 : Nat} {x1 : Int32} (hE : sX15_key h x0 x1 = some o) : Le h o.2 := by
  obtain ⟨o_1, eo_1, hE⟩ := cl_e hE
  refine (moX15_isProblem eo_1).tr ?_
  rcases br_e hE with ⟨_, hE⟩ | ⟨_, hE⟩
  · exact moX15_key_19 hE
  · rcases br_e hE with ⟨_, hE⟩ | ⟨_, hE⟩
    · exact moX15_key_19 hE
    · rcases br_e hE with ⟨_, hE⟩ | ⟨_, hE⟩
      · obtain ⟨r_5, er_5, hE⟩ := cl_e hE
        obtain ⟨g_6, hE⟩ := gd_e hE
        exact moX15_key_29 hE
      · exact moX15_key_19 hE
set_option maxRecDepth 20000 in
theorem bX15_key_29 {p : Program} {l : Launch} {e : Env} {s : State} {m : MethodId} {args : Array Value} {below : List Frame} {meth : Method} {c : Code} {X : Ec} {h0 : Hp} {o : Int32 × Hp} (C : Cx X p s m args meth c RX15 cX15_key 2 (some .int) "key") {h : Hp} {t0 : Int32} {H : Heap} {locs : List Loc} (hkm : Km h0 h) (hW : Wx X h H) (hZ : va_S (aA (eB X)) s.heap H locs) (ls : Array Slot) (hl : lv_has ls 2 []) (hE : sX15_key_29 h  t0 = some o) : W p l e (rm 1 20) s m args below meth c H locs 0 0 (MQ below (QI X h0 o.1 o.2) args s 0 0 (aA (eB X))) (F0 m 29 ls [.int t0]) := by
  exact x_iret C rfl rfl hW hZ hkm hE dX15_key_29
set_option maxRecDepth 20000 in
theorem bX15_key_19 {p : Program} {l : Launch} {e : Env} {s : State} {m : MethodId} {args : Array Value} {below : List Frame} {meth : Method} {c : Code} {X : Ec} {h0 : Hp} {o : Int32 × Hp} (C : Cx X p s m args meth c RX15 cX15_key 2 (some .int) "key") {h : Hp} {H : Heap} {locs : List Loc} (hkm : Km h0 h) (hW : Wx X h H) (hZ : va_S (aA (eB X)) s.heap H locs) (ls : Array Slot) (hl : lv_has ls 2 []) (hE : sX15_key_19 h  = some o) : W p l e (rm 1 20) s m args below meth c H locs 0 0 (MQ below (QI X h0 o.1 o.2) args s 0 0 (aA (eB X))) (F0 m 19 ls []) := by
  refine lv_iconst (v := (-1 : Int32)) C.1 C.2.1 dX15_key_19 (by decide) ?_
  refine lv_goto (tgt := 29) C.1 C.2.1 dX15_key_20 (by decide) ?_
  exact bX15_key_29 C hkm hW hZ _ (lv_sub hl [] rfl) hE
set_option maxRecDepth 20000 in
theorem ct_X15_key (l : Launch) (X : Ec) {h : Hp} {x0 : Nat} {x1 : Int32} {o : Int32 × Hp} (k_x0 : hK h x0 = 15) (hE : sX15_key h x0 x1 = some o) : MetI l yX15_key cX15_key 2 (some .int) 1 20 X [.ref x0, .int x1] h o := by
  refine x_met (by decide) (Nat.le_of_ble_eq_true rfl) ?_
  intro p e s m below meth c ls C hl hW hZ
  have hl : lv_has ls 2 [(0, .ref x0), (1, .int x1)] := hl
  have hkm : Km h h := Km.rf h
  refine lv_aload_n C.1 C.2.1 dX15_key_0 rfl (lv_at hl 0 rfl) ?_
  obtain ⟨o_1, eo_1, hE⟩ := cl_e hE
  refine x_kI (o := o_1) (z_runV (As := []) (rest := []) C (ct_X15_isProblem l X k_x0 eo_1) cw_X15_862 hW hZ k_x0 (by decide) rfl rfl rfl hl.1 (Nat.le_of_ble_eq_true rfl) rfl dX15_key_1 ⟨Nat.le_of_ble_eq_true rfl, Nat.le_of_ble_eq_true rfl⟩ ⟨Nat.le_refl _, Nat.le_refl _⟩) hZ (fun _ _ hW km hZ => ?_)
  replace hkm := hkm.tr km
  replace k_x0 := km.at k_x0 (by decide)
  refine lv_if_eq (tgt := 19) C.1 C.2.1 dX15_key_4 (by decide) (fun c_2 => ?_) (fun c_2 => ?_)
  · have hE := br_p hE c_2
    exact bX15_key_19 C hkm hW hZ _ (lv_sub hl [] rfl) hE
  · have hE := br_n hE c_2
    refine lv_iload_n C.1 C.2.1 dX15_key_7 rfl (lv_at hl 1 rfl) ?_
    refine lv_if_lt (tgt := 19) C.1 C.2.1 dX15_key_8 (by decide) (fun c_3 => ?_) (fun c_3 => ?_)
    · have hE := br_p hE c_3
      exact bX15_key_19 C hkm hW hZ _ (lv_sub hl [] rfl) hE
    · have hE := br_n hE c_3
      refine lv_iload_n C.1 C.2.1 dX15_key_11 rfl (lv_at hl 1 rfl) ?_
      refine lv_aload_n C.1 C.2.1 dX15_key_12 rfl (lv_at hl 0 rfl) ?_
      refine gf_X15_859 C hW k_x0 dX15_key_13 ?_
      refine lv_icmp_lt (tgt := 23) C.1 C.2.1 dX15_key_16 (by decide) (fun c_4 => ?_) (fun c_4 => ?_)
      · have hE := br_p hE c_4
        refine lv_aload_n C.1 C.2.1 dX15_key_23 rfl (lv_at hl 0 rfl) ?_
        obtain ⟨r_5, er_5, hE⟩ := cl_e hE
        refine gf_X15_371 C hW k_x0 er_5 dX15_key_24 (fun k_r_5 => ?_)
        refine lv_iload_n C.1 C.2.1 dX15_key_27 rfl (lv_at hl 1 rfl) ?_
        obtain ⟨g_6, hE⟩ := gd_e hE
        refine y_iald C hW k_r_5 g_6 dX15_key_28 ?_
        exact bX15_key_29 C hkm hW hZ _ (lv_sub hl [] rfl) hE
      · have hE := br_n hE c_4
        exact bX15_key_19 C hkm hW hZ _ (lv_sub hl [] rfl) hE
