section
variable {p : Program} {l : Launch} {e : Env} {R : Room} {s : State} {m : MethodId} {args : Array Value} {below : List Frame} {meth : Method} {c : Code} {H : Heap} {locs : List Loc} {cells slots : Nat} {Q : State → Prop}
variable {cc : ByteArray} {pc : Nat} {ls : Array Slot} {rest : List Value} {X : Ec} {h h1 : Hp} {nL : Nat} {rt : Option FieldType} {mn : String}
theorem gf_X0_77 {a : Nat} (C : Cx X p s m args meth c RX0 cc nL rt mn) (hW : Wx X h H) (ha : hK h a = 0) (hdg : decode cc pc = .ok (.getfield 77, 3)) (kk : W p l e R s m args below meth c H locs cells slots Q (F0 m (pc + 3) ls (.int (hI h a 10) :: rest))) : W p l e R s m args below meth c H locs cells slots Q (F0 m pc ls (.ref a :: rest)) :=
  y_geti C hW ha i_X0 (by decide) rfl (by decide) m_468 rfl hdg kk
end
theorem dX0_nodeOfAll_0 : decode cX0_nodeOfAll 0 = .ok (.aload_n 0, 1) := by decide +kernel
theorem dX0_nodeOfAll_1 : decode cX0_nodeOfAll 1 = .ok (.getfield 77, 3) := by decide +kernel
theorem dX0_nodeOfAll_4 : decode cX0_nodeOfAll 4 = .ok (.ifCond .eq 14, 3) := by decide +kernel
theorem dX0_nodeOfAll_7 : decode cX0_nodeOfAll 7 = .ok (.aload_n 1, 1) := by decide +kernel
theorem dX0_nodeOfAll_8 : decode cX0_nodeOfAll 8 = .ok (.invokevirtual 157, 3) := by decide +kernel
theorem dX0_nodeOfAll_11 : decode cX0_nodeOfAll 11 = .ok (.invokestatic 233, 3) := by decide +kernel
theorem dX0_nodeOfAll_14 : decode cX0_nodeOfAll 14 = .ok (.iconst 5, 1) := by decide +kernel
theorem dX0_nodeOfAll_15 : decode cX0_nodeOfAll 15 = .ok (.if_icmp .le 5, 3) := by decide +kernel
theorem dX0_nodeOfAll_18 : decode cX0_nodeOfAll 18 = .ok (.iconst (-1), 1) := by decide +kernel
theorem dX0_nodeOfAll_19 : decode cX0_nodeOfAll 19 = .ok (.ireturn, 1) := by decide +kernel
theorem dX0_nodeOfAll_20 : decode cX0_nodeOfAll 20 = .ok (.aload_n 0, 1) := by decide +kernel
theorem dX0_nodeOfAll_21 : decode cX0_nodeOfAll 21 = .ok (.aload_n 1, 1) := by decide +kernel
theorem dX0_nodeOfAll_22 : decode cX0_nodeOfAll 22 = .ok (.iconst (-1), 1) := by decide +kernel
theorem dX0_nodeOfAll_23 : decode cX0_nodeOfAll 23 = .ok (.iconst (-1), 1) := by decide +kernel
theorem dX0_nodeOfAll_24 : decode cX0_nodeOfAll 24 = .ok (.invokevirtual 238, 3) := by decide +kernel
theorem dX0_nodeOfAll_27 : decode cX0_nodeOfAll 27 = .ok (.aload_n 0, 1) := by decide +kernel
theorem dX0_nodeOfAll_28 : decode cX0_nodeOfAll 28 = .ok (.aload_n 0, 1) := by decide +kernel
theorem dX0_nodeOfAll_29 : decode cX0_nodeOfAll 29 = .ok (.invokevirtual 242, 3) := by decide +kernel
theorem dX0_nodeOfAll_32 : decode cX0_nodeOfAll 32 = .ok (.invokevirtual 246, 3) := by decide +kernel
theorem dX0_nodeOfAll_35 : decode cX0_nodeOfAll 35 = .ok (.istore_n 2, 1) := by decide +kernel
theorem dX0_nodeOfAll_36 : decode cX0_nodeOfAll 36 = .ok (.iload_n 2, 1) := by decide +kernel
theorem dX0_nodeOfAll_37 : decode cX0_nodeOfAll 37 = .ok (.iconst (-1), 1) := by decide +kernel
theorem dX0_nodeOfAll_38 : decode cX0_nodeOfAll 38 = .ok (.if_icmp .ne 7, 3) := by decide +kernel
theorem dX0_nodeOfAll_41 : decode cX0_nodeOfAll 41 = .ok (.iconst (-1), 1) := by decide +kernel
theorem dX0_nodeOfAll_42 : decode cX0_nodeOfAll 42 = .ok (.goto 22, 3) := by decide +kernel
theorem dX0_nodeOfAll_45 : decode cX0_nodeOfAll 45 = .ok (.aload_n 0, 1) := by decide +kernel
theorem dX0_nodeOfAll_46 : decode cX0_nodeOfAll 46 = .ok (.getfield 22, 3) := by decide +kernel
theorem dX0_nodeOfAll_49 : decode cX0_nodeOfAll 49 = .ok (.iload_n 2, 1) := by decide +kernel
theorem dX0_nodeOfAll_50 : decode cX0_nodeOfAll 50 = .ok (.iaload, 1) := by decide +kernel
theorem dX0_nodeOfAll_51 : decode cX0_nodeOfAll 51 = .ok (.iconst 2, 1) := by decide +kernel
theorem dX0_nodeOfAll_52 : decode cX0_nodeOfAll 52 = .ok (.aload_n 0, 1) := by decide +kernel
theorem dX0_nodeOfAll_53 : decode cX0_nodeOfAll 53 = .ok (.iconst (-1), 1) := by decide +kernel
theorem dX0_nodeOfAll_54 : decode cX0_nodeOfAll 54 = .ok (.invokevirtual 249, 3) := by decide +kernel
theorem dX0_nodeOfAll_57 : decode cX0_nodeOfAll 57 = .ok (.imul, 1) := by decide +kernel
theorem dX0_nodeOfAll_58 : decode cX0_nodeOfAll 58 = .ok (.iadd, 1) := by decide +kernel
theorem dX0_nodeOfAll_59 : decode cX0_nodeOfAll 59 = .ok (.aload_n 1, 1) := by decide +kernel
theorem dX0_nodeOfAll_60 : decode cX0_nodeOfAll 60 = .ok (.getfield 184, 3) := by decide +kernel
theorem dX0_nodeOfAll_63 : decode cX0_nodeOfAll 63 = .ok (.iadd, 1) := by decide +kernel
theorem dX0_nodeOfAll_64 : decode cX0_nodeOfAll 64 = .ok (.ireturn, 1) := by decide +kernel
set_option maxRecDepth 20000 in
theorem moX0_nodeOfAll_18 {o : Int32 × Hp} {F : Nat} {h : Hp} (hE : sX0_nodeOfAll_18 F h  = some o) : Le h o.2 := by
  exact le_some2 hE
set_option maxRecDepth 20000 in
theorem moX0_nodeOfAll_64 {o : Int32 × Hp} {F : Nat} {h : Hp} {t0 : Int32} (hE : sX0_nodeOfAll_64 F h  t0 = some o) : Le h o.2 := by
  exact le_some2 hE
set_option maxRecDepth 20000 in
theorem moX0_nodeOfAll {o : Int32 × Hp} {F : Nat} {h : Hp} {x0 : Nat} {x1 : Nat} (hE : sX0_nodeOfAll F h x0 x1 = some o) : Le h o.2 := by
  rcases br_e hE with ⟨_, hE⟩ | ⟨_, hE⟩
  · exact moX0_nodeOfAll_18 hE
  · obtain ⟨o_2, eo_2, hE⟩ := cl_e hE
    refine (moX3_occupied eo_2).tr ?_
    obtain ⟨o_3, eo_3, hE⟩ := cl_e hE
    refine (moJ13_bitCount_95d88 eo_3).tr ?_
    rcases br_e hE with ⟨_, hE⟩ | ⟨_, hE⟩
    · obtain ⟨o_5, eo_5, hE⟩ := cl_e hE
      refine (moX0_gatherRow eo_5).tr ?_
      obtain ⟨o_6, eo_6, hE⟩ := cl_e hE
      refine (moX0_keyOfRow eo_6).tr ?_
      obtain ⟨o_7, eo_7, hE⟩ := cl_e hE
      refine (moX0_findSet eo_7).tr ?_
      rcases br_e hE with ⟨_, hE⟩ | ⟨_, hE⟩
      · exact moX0_nodeOfAll_64 hE
      · obtain ⟨r_9, er_9, hE⟩ := cl_e hE
        obtain ⟨g_10, hE⟩ := gd_e hE
        obtain ⟨o_11, eo_11, hE⟩ := cl_e hE
        refine (moX0_numberOf eo_11).tr ?_
        exact moX0_nodeOfAll_64 hE
    · exact moX0_nodeOfAll_18 hE
set_option maxRecDepth 20000 in
theorem bX0_nodeOfAll_18 {p : Program} {l : Launch} {e : Env} {s : State} {m : MethodId} {args : Array Value} {below : List Frame} {meth : Method} {c : Code} {X : Ec} {h0 : Hp} {o : Int32 × Hp} {F : Nat} (C : Cx X p s m args meth c RX0 cX0_nodeOfAll 3 (some .int) "nodeOfAll") {h : Hp} {H : Heap} {locs : List Loc} (hkm : Km h0 h) (hW : Wx X h H) (hZ : va_S (aA (eB X)) s.heap H locs) (ls : Array Slot) (hl : lv_has ls 3 []) (hE : sX0_nodeOfAll_18 F h  = some o) : W p l e (rm 2 50) s m args below meth c H locs 0 0 (MQ below (QI X h0 o.1 o.2) args s 0 0 (aA (eB X))) (F0 m 18 ls []) := by
  refine lv_iconst (v := (-1 : Int32)) C.1 C.2.1 dX0_nodeOfAll_18 (by decide) ?_
  exact x_iret C rfl rfl hW hZ hkm hE dX0_nodeOfAll_19
set_option maxRecDepth 20000 in
theorem bX0_nodeOfAll_64 {p : Program} {l : Launch} {e : Env} {s : State} {m : MethodId} {args : Array Value} {below : List Frame} {meth : Method} {c : Code} {X : Ec} {h0 : Hp} {o : Int32 × Hp} {F : Nat} (C : Cx X p s m args meth c RX0 cX0_nodeOfAll 3 (some .int) "nodeOfAll") {h : Hp} {t0 : Int32} {H : Heap} {locs : List Loc} (hkm : Km h0 h) (hW : Wx X h H) (hZ : va_S (aA (eB X)) s.heap H locs) (ls : Array Slot) (hl : lv_has ls 3 []) (hE : sX0_nodeOfAll_64 F h  t0 = some o) : W p l e (rm 2 50) s m args below meth c H locs 0 0 (MQ below (QI X h0 o.1 o.2) args s 0 0 (aA (eB X))) (F0 m 64 ls [.int t0]) := by
  exact x_iret C rfl rfl hW hZ hkm hE dX0_nodeOfAll_64
set_option maxRecDepth 20000 in
theorem ct_X0_nodeOfAll (l : Launch) (X : Ec) (F : Nat) {h : Hp} {x0 : Nat} {x1 : Nat} {o : Int32 × Hp} (k_x0 : hK h x0 = 0) (k_x1 : hK h x1 = 3) (hE : sX0_nodeOfAll F h x0 x1 = some o) : MetI l yX0_nodeOfAll cX0_nodeOfAll 3 (some .int) 2 50 X [.ref x0, .ref x1] h o := by
  refine x_met (by decide) (Nat.le_of_ble_eq_true rfl) ?_
  intro p e s m below meth c ls C hl hW hZ
  have hl : lv_has ls 3 [(0, .ref x0), (1, .ref x1)] := hl
  have hkm : Km h h := Km.rf h
  refine lv_aload_n C.1 C.2.1 dX0_nodeOfAll_0 rfl (lv_at hl 0 rfl) ?_
  refine gf_X0_77 C hW k_x0 dX0_nodeOfAll_1 ?_
  refine lv_if_eq (tgt := 18) C.1 C.2.1 dX0_nodeOfAll_4 (by decide) (fun c_1 => ?_) (fun c_1 => ?_)
  · have hE := br_p hE c_1
    exact bX0_nodeOfAll_18 C hkm hW hZ _ (lv_sub hl [] rfl) hE
  · have hE := br_n hE c_1
    refine lv_aload_n C.1 C.2.1 dX0_nodeOfAll_7 rfl (lv_at hl 1 rfl) ?_
    obtain ⟨o_2, eo_2, hE⟩ := cl_e hE
    refine x_kJ (o := o_2) (z_runV (As := []) (rest := []) C (ct_X3_occupied l X k_x1 eo_2) cw_X0_157 hW hZ k_x1 (by decide) rfl rfl rfl hl.1 (Nat.le_of_ble_eq_true rfl) rfl dX0_nodeOfAll_8 ⟨Nat.le_of_ble_eq_true rfl, Nat.le_of_ble_eq_true rfl⟩ ⟨Nat.le_refl _, Nat.le_refl _⟩) hZ (fun _ _ hW km hZ => ?_)
    replace hkm := hkm.tr km
    replace k_x0 := km.at k_x0 (by decide)
    replace k_x1 := km.at k_x1 (by decide)
    obtain ⟨o_3, eo_3, hE⟩ := cl_e hE
    refine x_kI (o := o_3) (z_runS (As := [.long o_2.1]) (rest := []) C (ct_J13_bitCount_95d88 l X eo_3) cw_X0_233 hW hZ rfl hl.1 (Nat.le_of_ble_eq_true rfl) rfl dX0_nodeOfAll_11 ⟨Nat.le_of_ble_eq_true rfl, Nat.le_of_ble_eq_true rfl⟩ ⟨Nat.le_refl _, Nat.le_refl _⟩) hZ (fun _ _ hW km hZ => ?_)
    replace hkm := hkm.tr km
    replace k_x0 := km.at k_x0 (by decide)
    replace k_x1 := km.at k_x1 (by decide)
    refine lv_iconst (v := (5 : Int32)) C.1 C.2.1 dX0_nodeOfAll_14 (by decide) ?_
    refine lv_icmp_le (tgt := 20) C.1 C.2.1 dX0_nodeOfAll_15 (by decide) (fun c_4 => ?_) (fun c_4 => ?_)
    · have hE := br_p hE c_4
      refine lv_aload_n C.1 C.2.1 dX0_nodeOfAll_20 rfl (lv_at hl 0 rfl) ?_
      refine lv_aload_n C.1 C.2.1 dX0_nodeOfAll_21 rfl (lv_at hl 1 rfl) ?_
      refine lv_iconst (v := (-1 : Int32)) C.1 C.2.1 dX0_nodeOfAll_22 (by decide) ?_
      refine lv_iconst (v := (-1 : Int32)) C.1 C.2.1 dX0_nodeOfAll_23 (by decide) ?_
      obtain ⟨o_5, eo_5, hE⟩ := cl_e hE
      refine x_kV (o := o_5) (z_runV (As := [.ref x1, .int (-1 : Int32), .int (-1 : Int32)]) (rest := []) C (ct_X0_gatherRow l X F k_x0 k_x1 eo_5) cw_X0_238 hW hZ k_x0 (by decide) rfl rfl rfl hl.1 (Nat.le_of_ble_eq_true rfl) rfl dX0_nodeOfAll_24 ⟨Nat.le_of_ble_eq_true rfl, Nat.le_of_ble_eq_true rfl⟩ ⟨Nat.le_refl _, Nat.le_refl _⟩) hZ (fun _ _ hW km hZ => ?_)
      replace hkm := hkm.tr km
      replace k_x0 := km.at k_x0 (by decide)
      replace k_x1 := km.at k_x1 (by decide)
      refine lv_aload_n C.1 C.2.1 dX0_nodeOfAll_27 rfl (lv_at hl 0 rfl) ?_
      refine lv_aload_n C.1 C.2.1 dX0_nodeOfAll_28 rfl (lv_at hl 0 rfl) ?_
      obtain ⟨o_6, eo_6, hE⟩ := cl_e hE
      refine x_kI (o := o_6) (z_runV (As := []) (rest := [.ref x0]) C (ct_X0_keyOfRow l X F k_x0 eo_6) cw_X0_242 hW hZ k_x0 (by decide) rfl rfl rfl hl.1 (Nat.le_of_ble_eq_true rfl) rfl dX0_nodeOfAll_29 ⟨Nat.le_of_ble_eq_true rfl, Nat.le_of_ble_eq_true rfl⟩ ⟨Nat.le_refl _, Nat.le_refl _⟩) hZ (fun _ _ hW km hZ => ?_)
      replace hkm := hkm.tr km
      replace k_x0 := km.at k_x0 (by decide)
      replace k_x1 := km.at k_x1 (by decide)
      obtain ⟨o_7, eo_7, hE⟩ := cl_e hE
      refine x_kI (o := o_7) (z_runV (As := [.int o_6.1]) (rest := []) C (ct_X0_findSet l X F k_x0 eo_7) cw_X0_246 hW hZ k_x0 (by decide) rfl rfl rfl hl.1 (Nat.le_of_ble_eq_true rfl) rfl dX0_nodeOfAll_32 ⟨Nat.le_of_ble_eq_true rfl, Nat.le_of_ble_eq_true rfl⟩ ⟨Nat.le_refl _, Nat.le_refl _⟩) hZ (fun _ _ hW km hZ => ?_)
      replace hkm := hkm.tr km
      replace k_x0 := km.at k_x0 (by decide)
      replace k_x1 := km.at k_x1 (by decide)
      refine lv_istore_n (lv' := [(2, .int o_7.1), (0, .ref x0), (1, .ref x1)]) C.1 C.2.1 dX0_nodeOfAll_35 rfl hl (by decide) rfl (fun ls hl => ?_)
      refine lv_iload_n C.1 C.2.1 dX0_nodeOfAll_36 rfl (lv_at hl 0 rfl) ?_
      refine lv_iconst (v := (-1 : Int32)) C.1 C.2.1 dX0_nodeOfAll_37 (by decide) ?_
      refine lv_icmp_ne (tgt := 45) C.1 C.2.1 dX0_nodeOfAll_38 (by decide) (fun c_8 => ?_) (fun c_8 => ?_)
      · have hE := br_n hE c_8
        refine lv_aload_n C.1 C.2.1 dX0_nodeOfAll_45 rfl (lv_at hl 1 rfl) ?_
        obtain ⟨r_9, er_9, hE⟩ := cl_e hE
        refine gf_X0_22 C hW k_x0 er_9 dX0_nodeOfAll_46 (fun k_r_9 => ?_)
        refine lv_iload_n C.1 C.2.1 dX0_nodeOfAll_49 rfl (lv_at hl 0 rfl) ?_
        obtain ⟨g_10, hE⟩ := gd_e hE
        refine y_iald C hW k_r_9 g_10 dX0_nodeOfAll_50 ?_
        refine lv_iconst (v := (2 : Int32)) C.1 C.2.1 dX0_nodeOfAll_51 (by decide) ?_
        refine lv_aload_n C.1 C.2.1 dX0_nodeOfAll_52 rfl (lv_at hl 1 rfl) ?_
        refine lv_iconst (v := (-1 : Int32)) C.1 C.2.1 dX0_nodeOfAll_53 (by decide) ?_
        obtain ⟨o_11, eo_11, hE⟩ := cl_e hE
        refine x_kI (o := o_11) (z_runV (As := [.int (-1 : Int32)]) (rest := [.int (2 : Int32), .int (hI o_7.2 r_9 o_7.1.toNatClampNeg)]) C (ct_X0_numberOf l X F k_x0 eo_11) cw_X0_249 hW hZ k_x0 (by decide) rfl rfl rfl hl.1 (Nat.le_of_ble_eq_true rfl) rfl dX0_nodeOfAll_54 ⟨Nat.le_of_ble_eq_true rfl, Nat.le_of_ble_eq_true rfl⟩ ⟨Nat.le_refl _, Nat.le_refl _⟩) hZ (fun _ _ hW km hZ => ?_)
        replace hkm := hkm.tr km
        replace k_x0 := km.at k_x0 (by decide)
        replace k_x1 := km.at k_x1 (by decide)
        refine lv_imul C.1 C.2.1 dX0_nodeOfAll_57 ?_
        refine lv_iadd C.1 C.2.1 dX0_nodeOfAll_58 ?_
        refine lv_aload_n C.1 C.2.1 dX0_nodeOfAll_59 rfl (lv_at hl 2 rfl) ?_
        refine gf_X0_184 C hW k_x1 dX0_nodeOfAll_60 ?_
        refine lv_iadd C.1 C.2.1 dX0_nodeOfAll_63 ?_
        exact bX0_nodeOfAll_64 C hkm hW hZ _ (lv_sub hl [] rfl) hE
      · have hE := br_p hE c_8
        refine lv_iconst (v := (-1 : Int32)) C.1 C.2.1 dX0_nodeOfAll_41 (by decide) ?_
        refine lv_goto (tgt := 64) C.1 C.2.1 dX0_nodeOfAll_42 (by decide) ?_
        exact bX0_nodeOfAll_64 C hkm hW hZ _ (lv_sub hl [] rfl) hE
    · have hE := br_n hE c_4
      exact bX0_nodeOfAll_18 C hkm hW hZ _ (lv_sub hl [] rfl) hE
theorem dX0_countWorth_0 : decode cX0_countWorth 0 = .ok (.aload_n 0, 1) := by decide +kernel
theorem dX0_countWorth_1 : decode cX0_countWorth 1 = .ok (.aload_n 0, 1) := by decide +kernel
theorem dX0_countWorth_2 : decode cX0_countWorth 2 = .ok (.getfield 88, 3) := by decide +kernel
theorem dX0_countWorth_5 : decode cX0_countWorth 5 = .ok (.invokevirtual 246, 3) := by decide +kernel
theorem dX0_countWorth_8 : decode cX0_countWorth 8 = .ok (.istore_n 3, 1) := by decide +kernel
theorem dX0_countWorth_9 : decode cX0_countWorth 9 = .ok (.iconst 0, 1) := by decide +kernel
theorem dX0_countWorth_10 : decode cX0_countWorth 10 = .ok (.istore 4, 2) := by decide +kernel
theorem dX0_countWorth_12 : decode cX0_countWorth 12 = .ok (.iload_n 3, 1) := by decide +kernel
theorem dX0_countWorth_13 : decode cX0_countWorth 13 = .ok (.iconst (-1), 1) := by decide +kernel
theorem dX0_countWorth_14 : decode cX0_countWorth 14 = .ok (.if_icmp .ne 7, 3) := by decide +kernel
theorem dX0_countWorth_17 : decode cX0_countWorth 17 = .ok (.iconst 0, 1) := by decide +kernel
theorem dX0_countWorth_18 : decode cX0_countWorth 18 = .ok (.goto 9, 3) := by decide +kernel
theorem dX0_countWorth_21 : decode cX0_countWorth 21 = .ok (.aload_n 0, 1) := by decide +kernel
theorem dX0_countWorth_22 : decode cX0_countWorth 22 = .ok (.getfield 22, 3) := by decide +kernel
theorem dX0_countWorth_25 : decode cX0_countWorth 25 = .ok (.iload_n 3, 1) := by decide +kernel
theorem dX0_countWorth_26 : decode cX0_countWorth 26 = .ok (.iaload, 1) := by decide +kernel
theorem dX0_countWorth_27 : decode cX0_countWorth 27 = .ok (.istore 5, 2) := by decide +kernel
theorem dX0_countWorth_29 : decode cX0_countWorth 29 = .ok (.iload_n 3, 1) := by decide +kernel
theorem dX0_countWorth_30 : decode cX0_countWorth 30 = .ok (.iconst (-1), 1) := by decide +kernel
theorem dX0_countWorth_31 : decode cX0_countWorth 31 = .ok (.if_icmp .eq 45, 3) := by decide +kernel
theorem dX0_countWorth_34 : decode cX0_countWorth 34 = .ok (.iload 5, 2) := by decide +kernel
theorem dX0_countWorth_36 : decode cX0_countWorth 36 = .ok (.aload_n 0, 1) := by decide +kernel
theorem dX0_countWorth_37 : decode cX0_countWorth 37 = .ok (.getfield 22, 3) := by decide +kernel
theorem dX0_countWorth_40 : decode cX0_countWorth 40 = .ok (.iload_n 3, 1) := by decide +kernel
theorem dX0_countWorth_41 : decode cX0_countWorth 41 = .ok (.iconst 1, 1) := by decide +kernel
theorem dX0_countWorth_42 : decode cX0_countWorth 42 = .ok (.iadd, 1) := by decide +kernel
theorem dX0_countWorth_43 : decode cX0_countWorth 43 = .ok (.iaload, 1) := by decide +kernel
theorem dX0_countWorth_44 : decode cX0_countWorth 44 = .ok (.if_icmp .ge 32, 3) := by decide +kernel
theorem dX0_countWorth_47 : decode cX0_countWorth 47 = .ok (.iload 4, 2) := by decide +kernel
theorem dX0_countWorth_49 : decode cX0_countWorth 49 = .ok (.aload_n 0, 1) := by decide +kernel
theorem dX0_countWorth_50 : decode cX0_countWorth 50 = .ok (.getfield 31, 3) := by decide +kernel
theorem dX0_countWorth_53 : decode cX0_countWorth 53 = .ok (.iload 5, 2) := by decide +kernel
theorem dX0_countWorth_55 : decode cX0_countWorth 55 = .ok (.iload_n 1, 1) := by decide +kernel
theorem dX0_countWorth_56 : decode cX0_countWorth 56 = .ok (.iadd, 1) := by decide +kernel
theorem dX0_countWorth_57 : decode cX0_countWorth 57 = .ok (.iaload, 1) := by decide +kernel
theorem dX0_countWorth_58 : decode cX0_countWorth 58 = .ok (.iload_n 2, 1) := by decide +kernel
theorem dX0_countWorth_59 : decode cX0_countWorth 59 = .ok (.if_icmp .ne 7, 3) := by decide +kernel
theorem dX0_countWorth_62 : decode cX0_countWorth 62 = .ok (.iconst 1, 1) := by decide +kernel
theorem dX0_countWorth_63 : decode cX0_countWorth 63 = .ok (.goto 4, 3) := by decide +kernel
theorem dX0_countWorth_66 : decode cX0_countWorth 66 = .ok (.iconst 0, 1) := by decide +kernel
theorem dX0_countWorth_67 : decode cX0_countWorth 67 = .ok (.iadd, 1) := by decide +kernel
theorem dX0_countWorth_68 : decode cX0_countWorth 68 = .ok (.istore 4, 2) := by decide +kernel
theorem dX0_countWorth_70 : decode cX0_countWorth 70 = .ok (.iinc 5 2, 3) := by decide +kernel
theorem dX0_countWorth_73 : decode cX0_countWorth 73 = .ok (.goto (-44), 3) := by decide +kernel
theorem dX0_countWorth_76 : decode cX0_countWorth 76 = .ok (.iload 4, 2) := by decide +kernel
theorem dX0_countWorth_78 : decode cX0_countWorth 78 = .ok (.ireturn, 1) := by decide +kernel
set_option maxRecDepth 20000 in
theorem moX0_countWorth_76 {o : Int32 × Hp} {F : Nat} {h : Hp} {x4 : Int32} (hE : sX0_countWorth_76 F h x4 = some o) : Le h o.2 := by
  exact le_some2 hE
set_option maxRecDepth 20000 in
theorem moX0_countWorth_67 {o : Int32 × Hp} {k_29 : Hp → Nat → Int32 → Int32 → Int32 → Int32 → Int32 → Option (Int32 × Hp)} {F : Nat} (mk_29 : ∀ (h : Hp) (x0 : Nat) (x1 : Int32) (x2 : Int32) (x3 : Int32) (x4 : Int32) (x5 : Int32), k_29 h x0 x1 x2 x3 x4 x5 = some o → Le h o.2) {h : Hp} {x0 : Nat} {x1 : Int32} {x2 : Int32} {x3 : Int32} {x5 : Int32} {t0 : Int32} {t1 : Int32} (hE : sX0_countWorth_67 F k_29 h x0 x1 x2 x3 x5 t0 t1 = some o) : Le h o.2 := by
  obtain ⟨v_1, ev_1, hE⟩ := nm_e2 hE
  obtain ⟨v_2, ev_2, hE⟩ := nm_e2 hE
  exact mk_29 _ _ _ _ _ _ _ hE
set_option maxRecDepth 20000 in
theorem moX0_countWorth_29 {o : Int32 × Hp} {F : Nat} : ∀ (f : Nat) {h : Hp} {x0 : Nat} {x1 : Int32} {x2 : Int32} {x3 : Int32} {x4 : Int32} {x5 : Int32}, sX0_countWorth_29 F f h x0 x1 x2 x3 x4 x5 = some o → Le h o.2 := by
  intro f
  induction f with
  | zero =>
    intro h x0 x1 x2 x3 x4 x5 hE
    rw [sX0_countWorth_29] at hE
    cases hE
  | succ f ih =>
    intro h x0 x1 x2 x3 x4 x5 hE
    rw [sX0_countWorth_29] at hE
    have mk_29 : ∀ (h : Hp) (x0 : Nat) (x1 : Int32) (x2 : Int32) (x3 : Int32) (x4 : Int32) (x5 : Int32), sX0_countWorth_29 F f h x0 x1 x2 x3 x4 x5 = some o → Le h o.2 := fun h x0 x1 x2 x3 x4 x5 hE => ih hE
    rcases br_e hE with ⟨_, hE⟩ | ⟨_, hE⟩
    · exact moX0_countWorth_76 hE
    · obtain ⟨r_2, er_2, hE⟩ := cl_e hE
      obtain ⟨g_3, hE⟩ := gd_e hE
      rcases br_e hE with ⟨_, hE⟩ | ⟨_, hE⟩
      · exact moX0_countWorth_76 hE
      · obtain ⟨r_5, er_5, hE⟩ := cl_e hE
        obtain ⟨g_6, hE⟩ := gd_e hE
        rcases br_e hE with ⟨_, hE⟩ | ⟨_, hE⟩
        · exact moX0_countWorth_67 mk_29 hE
        · exact moX0_countWorth_67 mk_29 hE
set_option maxRecDepth 20000 in
theorem moX0_countWorth_27 {o : Int32 × Hp} {F : Nat} {h : Hp} {x0 : Nat} {x1 : Int32} {x2 : Int32} {x3 : Int32} {x4 : Int32} {t0 : Int32} (hE : sX0_countWorth_27 F h x0 x1 x2 x3 x4 t0 = some o) : Le h o.2 := by
  exact moX0_countWorth_29 _ hE
set_option maxRecDepth 20000 in
theorem moX0_countWorth {o : Int32 × Hp} {F : Nat} {h : Hp} {x0 : Nat} {x1 : Int32} {x2 : Int32} (hE : sX0_countWorth F h x0 x1 x2 = some o) : Le h o.2 := by
  obtain ⟨o_1, eo_1, hE⟩ := cl_e hE
  refine (moX0_findSet eo_1).tr ?_
  rcases br_e hE with ⟨_, hE⟩ | ⟨_, hE⟩
  · exact moX0_countWorth_27 hE
  · obtain ⟨r_3, er_3, hE⟩ := cl_e hE
    obtain ⟨g_4, hE⟩ := gd_e hE
    exact moX0_countWorth_27 hE
set_option maxRecDepth 20000 in
theorem bX0_countWorth_76 {p : Program} {l : Launch} {e : Env} {s : State} {m : MethodId} {args : Array Value} {below : List Frame} {meth : Method} {c : Code} {X : Ec} {h0 : Hp} {o : Int32 × Hp} {F : Nat} (C : Cx X p s m args meth c RX0 cX0_countWorth 6 (some .int) "countWorth") {h : Hp} {x4 : Int32} {H : Heap} {locs : List Loc} (hkm : Km h0 h) (hW : Wx X h H) (hZ : va_S (aA (eB X)) s.heap H locs) (ls : Array Slot) (hl : lv_has ls 6 [(4, .int x4)]) (hE : sX0_countWorth_76 F h x4 = some o) : W p l e (rm 1 24) s m args below meth c H locs 0 0 (MQ below (QI X h0 o.1 o.2) args s 0 0 (aA (eB X))) (F0 m 76 ls []) := by
  refine lv_iload C.1 C.2.1 dX0_countWorth_76 (lv_at hl 0 rfl) ?_
  exact x_iret C rfl rfl hW hZ hkm hE dX0_countWorth_78
set_option maxRecDepth 20000 in
theorem bX0_countWorth_67 {p : Program} {l : Launch} {e : Env} {s : State} {m : MethodId} {args : Array Value} {below : List Frame} {meth : Method} {c : Code} {X : Ec} {h0 : Hp} {o : Int32 × Hp} {k_29 : Hp → Nat → Int32 → Int32 → Int32 → Int32 → Int32 → Option (Int32 × Hp)} {F : Nat} (C : Cx X p s m args meth c RX0 cX0_countWorth 6 (some .int) "countWorth") (hk_29 : ∀ (h : Hp) (x0 : Nat) (x1 : Int32) (x2 : Int32) (x3 : Int32) (x4 : Int32) (x5 : Int32) (H : Heap) (locs : List Loc), hK h x0 = 0 → Km h0 h → Wx X h H → va_S (aA (eB X)) s.heap H locs → ∀ (ls : Array Slot), lv_has ls 6 [(0, .ref x0), (1, .int x1), (2, .int x2), (3, .int x3), (4, .int x4), (5, .int x5)] → k_29 h x0 x1 x2 x3 x4 x5 = some o → W p l e (rm 1 24) s m args below meth c H locs 0 0 (MQ below (QI X h0 o.1 o.2) args s 0 0 (aA (eB X))) (F0 m 29 ls [])) {h : Hp} {x0 : Nat} {x1 : Int32} {x2 : Int32} {x3 : Int32} {x5 : Int32} {t0 : Int32} {t1 : Int32} {H : Heap} {locs : List Loc} (k_x0 : hK h x0 = 0) (hkm : Km h0 h) (hW : Wx X h H) (hZ : va_S (aA (eB X)) s.heap H locs) (ls : Array Slot) (hl : lv_has ls 6 [(0, .ref x0), (1, .int x1), (2, .int x2), (3, .int x3), (5, .int x5)]) (hE : sX0_countWorth_67 F k_29 h x0 x1 x2 x3 x5 t0 t1 = some o) : W p l e (rm 1 24) s m args below meth c H locs 0 0 (MQ below (QI X h0 o.1 o.2) args s 0 0 (aA (eB X))) (F0 m 67 ls [.int t0, .int t1]) := by
  refine lv_iadd C.1 C.2.1 dX0_countWorth_67 ?_
  obtain ⟨v_1, ev_1, hE⟩ := nm_e2 hE
  refine x_nmI ev_1 ?_
  refine lv_istore (lv' := [(4, .int v_1), (0, .ref x0), (1, .int x1), (2, .int x2), (3, .int x3), (5, .int x5)]) C.1 C.2.1 dX0_countWorth_68 hl (by decide) rfl (fun ls hl => ?_)
  obtain ⟨v_2, ev_2, hE⟩ := nm_e2 hE
  refine lv_iinc (v := v_2) (lv' := [(5, .int v_2), (4, .int v_1), (0, .ref x0), (1, .int x1), (2, .int x2), (3, .int x3)]) C.1 C.2.1 dX0_countWorth_70 hl (k := 5) rfl (by rw [ev_2]; rfl) (by decide) rfl (fun ls hl => ?_)
  refine lv_goto (tgt := 29) C.1 C.2.1 dX0_countWorth_73 (by decide) ?_
  exact hk_29 _ _ _ _ _ _ _ _ _ k_x0 hkm hW hZ _ (lv_sub hl [2, 3, 4, 5, 1, 0] rfl) hE
set_option maxRecDepth 20000 in
theorem bX0_countWorth_29 {p : Program} {l : Launch} {e : Env} {s : State} {m : MethodId} {args : Array Value} {below : List Frame} {meth : Method} {c : Code} {X : Ec} {h0 : Hp} {o : Int32 × Hp} {F : Nat} (C : Cx X p s m args meth c RX0 cX0_countWorth 6 (some .int) "countWorth") : ∀ (f : Nat) {h : Hp} {x0 : Nat} {x1 : Int32} {x2 : Int32} {x3 : Int32} {x4 : Int32} {x5 : Int32} {H : Heap} {locs : List Loc} (k_x0 : hK h x0 = 0), Km h0 h → Wx X h H → va_S (aA (eB X)) s.heap H locs → ∀ (ls : Array Slot), lv_has ls 6 [(0, .ref x0), (1, .int x1), (2, .int x2), (3, .int x3), (4, .int x4), (5, .int x5)] → sX0_countWorth_29 F f h x0 x1 x2 x3 x4 x5 = some o → W p l e (rm 1 24) s m args below meth c H locs 0 0 (MQ below (QI X h0 o.1 o.2) args s 0 0 (aA (eB X))) (F0 m 29 ls []) := by
  intro f
  induction f with
  | zero =>
    intro h x0 x1 x2 x3 x4 x5 H locs k_x0 hkm hW hZ ls hl hE
    rw [sX0_countWorth_29] at hE
    cases hE
  | succ f ih =>
    intro h x0 x1 x2 x3 x4 x5 H locs k_x0 hkm hW hZ ls hl hE
    rw [sX0_countWorth_29] at hE
    have hk_29 : ∀ (h : Hp) (x0 : Nat) (x1 : Int32) (x2 : Int32) (x3 : Int32) (x4 : Int32) (x5 : Int32) (H : Heap) (locs : List Loc), hK h x0 = 0 → Km h0 h → Wx X h H → va_S (aA (eB X)) s.heap H locs → ∀ (ls : Array Slot), lv_has ls 6 [(0, .ref x0), (1, .int x1), (2, .int x2), (3, .int x3), (4, .int x4), (5, .int x5)] → sX0_countWorth_29 F f h x0 x1 x2 x3 x4 x5 = some o → W p l e (rm 1 24) s m args below meth c H locs 0 0 (MQ below (QI X h0 o.1 o.2) args s 0 0 (aA (eB X))) (F0 m 29 ls []) := fun h x0 x1 x2 x3 x4 x5 H locs k_x0 a b c ls hl hE => ih k_x0 a b c ls hl hE
    refine lv_iload_n C.1 C.2.1 dX0_countWorth_29 rfl (lv_at hl 3 rfl) ?_
    refine lv_iconst (v := (-1 : Int32)) C.1 C.2.1 dX0_countWorth_30 (by decide) ?_
    refine lv_icmp_eq (tgt := 76) C.1 C.2.1 dX0_countWorth_31 (by decide) (fun c_1 => ?_) (fun c_1 => ?_)
    · have hE := br_p hE c_1
      exact bX0_countWorth_76 C hkm hW hZ _ (lv_sub hl [4] rfl) hE
    · have hE := br_n hE c_1
      refine lv_iload C.1 C.2.1 dX0_countWorth_34 (lv_at hl 5 rfl) ?_
      refine lv_aload_n C.1 C.2.1 dX0_countWorth_36 rfl (lv_at hl 0 rfl) ?_
      obtain ⟨r_2, er_2, hE⟩ := cl_e hE
      refine gf_X0_22 C hW k_x0 er_2 dX0_countWorth_37 (fun k_r_2 => ?_)
      refine lv_iload_n C.1 C.2.1 dX0_countWorth_40 rfl (lv_at hl 3 rfl) ?_
      refine lv_iconst (v := (1 : Int32)) C.1 C.2.1 dX0_countWorth_41 (by decide) ?_
      refine lv_iadd C.1 C.2.1 dX0_countWorth_42 ?_
      obtain ⟨g_3, hE⟩ := gd_e hE
      refine y_iald C hW k_r_2 g_3 dX0_countWorth_43 ?_
      refine lv_icmp_ge (tgt := 76) C.1 C.2.1 dX0_countWorth_44 (by decide) (fun c_4 => ?_) (fun c_4 => ?_)
      · have hE := br_p hE c_4
        exact bX0_countWorth_76 C hkm hW hZ _ (lv_sub hl [4] rfl) hE
      · have hE := br_n hE c_4
        refine lv_iload C.1 C.2.1 dX0_countWorth_47 (lv_at hl 4 rfl) ?_
        refine lv_aload_n C.1 C.2.1 dX0_countWorth_49 rfl (lv_at hl 0 rfl) ?_
        obtain ⟨r_5, er_5, hE⟩ := cl_e hE
        refine gf_X0_31 C hW k_x0 er_5 dX0_countWorth_50 (fun k_r_5 => ?_)
        refine lv_iload C.1 C.2.1 dX0_countWorth_53 (lv_at hl 5 rfl) ?_
        refine lv_iload_n C.1 C.2.1 dX0_countWorth_55 rfl (lv_at hl 1 rfl) ?_
        refine lv_iadd C.1 C.2.1 dX0_countWorth_56 ?_
        obtain ⟨g_6, hE⟩ := gd_e hE
        refine y_iald C hW k_r_5 g_6 dX0_countWorth_57 ?_
        refine lv_iload_n C.1 C.2.1 dX0_countWorth_58 rfl (lv_at hl 2 rfl) ?_
        refine lv_icmp_ne (tgt := 66) C.1 C.2.1 dX0_countWorth_59 (by decide) (fun c_7 => ?_) (fun c_7 => ?_)
        · have hE := br_n hE c_7
          refine lv_iconst (v := (0 : Int32)) C.1 C.2.1 dX0_countWorth_66 (by decide) ?_
          exact bX0_countWorth_67 C hk_29 k_x0 hkm hW hZ _ (lv_sub hl [0, 1, 2, 3, 5] rfl) hE
        · have hE := br_p hE c_7
          refine lv_iconst (v := (1 : Int32)) C.1 C.2.1 dX0_countWorth_62 (by decide) ?_
          refine lv_goto (tgt := 67) C.1 C.2.1 dX0_countWorth_63 (by decide) ?_
          exact bX0_countWorth_67 C hk_29 k_x0 hkm hW hZ _ (lv_sub hl [0, 1, 2, 3, 5] rfl) hE
set_option maxRecDepth 20000 in
theorem bX0_countWorth_27 {p : Program} {l : Launch} {e : Env} {s : State} {m : MethodId} {args : Array Value} {below : List Frame} {meth : Method} {c : Code} {X : Ec} {h0 : Hp} {o : Int32 × Hp} {F : Nat} (C : Cx X p s m args meth c RX0 cX0_countWorth 6 (some .int) "countWorth") {h : Hp} {x0 : Nat} {x1 : Int32} {x2 : Int32} {x3 : Int32} {x4 : Int32} {t0 : Int32} {H : Heap} {locs : List Loc} (k_x0 : hK h x0 = 0) (hkm : Km h0 h) (hW : Wx X h H) (hZ : va_S (aA (eB X)) s.heap H locs) (ls : Array Slot) (hl : lv_has ls 6 [(0, .ref x0), (1, .int x1), (2, .int x2), (3, .int x3), (4, .int x4)]) (hE : sX0_countWorth_27 F h x0 x1 x2 x3 x4 t0 = some o) : W p l e (rm 1 24) s m args below meth c H locs 0 0 (MQ below (QI X h0 o.1 o.2) args s 0 0 (aA (eB X))) (F0 m 27 ls [.int t0]) := by
  refine lv_istore (lv' := [(5, .int t0), (0, .ref x0), (1, .int x1), (2, .int x2), (3, .int x3), (4, .int x4)]) C.1 C.2.1 dX0_countWorth_27 hl (by decide) rfl (fun ls hl => ?_)
  exact bX0_countWorth_29 C F k_x0 hkm hW hZ _ (lv_sub hl [1, 2, 3, 4, 5, 0] rfl) hE
set_option maxRecDepth 20000 in
theorem ct_X0_countWorth (l : Launch) (X : Ec) (F : Nat) {h : Hp} {x0 : Nat} {x1 : Int32} {x2 : Int32} {o : Int32 × Hp} (k_x0 : hK h x0 = 0) (hE : sX0_countWorth F h x0 x1 x2 = some o) : MetI l yX0_countWorth cX0_countWorth 6 (some .int) 1 24 X [.ref x0, .int x1, .int x2] h o := by
  refine x_met (by decide) (Nat.le_of_ble_eq_true rfl) ?_
  intro p e s m below meth c ls C hl hW hZ
  have hl : lv_has ls 6 [(0, .ref x0), (1, .int x1), (2, .int x2)] := hl
  have hkm : Km h h := Km.rf h
  refine lv_aload_n C.1 C.2.1 dX0_countWorth_0 rfl (lv_at hl 0 rfl) ?_
  refine lv_aload_n C.1 C.2.1 dX0_countWorth_1 rfl (lv_at hl 0 rfl) ?_
  refine gf_X0_88 C hW k_x0 dX0_countWorth_2 ?_
  obtain ⟨o_1, eo_1, hE⟩ := cl_e hE
  refine x_kI (o := o_1) (z_runV (As := [.int (hI h x0 15)]) (rest := []) C (ct_X0_findSet l X F k_x0 eo_1) cw_X0_246 hW hZ k_x0 (by decide) rfl rfl rfl hl.1 (Nat.le_of_ble_eq_true rfl) rfl dX0_countWorth_5 ⟨Nat.le_of_ble_eq_true rfl, Nat.le_of_ble_eq_true rfl⟩ ⟨Nat.le_refl _, Nat.le_refl _⟩) hZ (fun _ _ hW km hZ => ?_)
  replace hkm := hkm.tr km
  replace k_x0 := km.at k_x0 (by decide)
  refine lv_istore_n (lv' := [(3, .int o_1.1), (0, .ref x0), (1, .int x1), (2, .int x2)]) C.1 C.2.1 dX0_countWorth_8 rfl hl (by decide) rfl (fun ls hl => ?_)
  refine lv_iconst (v := (0 : Int32)) C.1 C.2.1 dX0_countWorth_9 (by decide) ?_
  refine lv_istore (lv' := [(4, .int (0 : Int32)), (3, .int o_1.1), (0, .ref x0), (1, .int x1), (2, .int x2)]) C.1 C.2.1 dX0_countWorth_10 hl (by decide) rfl (fun ls hl => ?_)
  refine lv_iload_n C.1 C.2.1 dX0_countWorth_12 rfl (lv_at hl 1 rfl) ?_
  refine lv_iconst (v := (-1 : Int32)) C.1 C.2.1 dX0_countWorth_13 (by decide) ?_
  refine lv_icmp_ne (tgt := 21) C.1 C.2.1 dX0_countWorth_14 (by decide) (fun c_2 => ?_) (fun c_2 => ?_)
  · have hE := br_n hE c_2
    refine lv_aload_n C.1 C.2.1 dX0_countWorth_21 rfl (lv_at hl 2 rfl) ?_
    obtain ⟨r_3, er_3, hE⟩ := cl_e hE
    refine gf_X0_22 C hW k_x0 er_3 dX0_countWorth_22 (fun k_r_3 => ?_)
    refine lv_iload_n C.1 C.2.1 dX0_countWorth_25 rfl (lv_at hl 1 rfl) ?_
    obtain ⟨g_4, hE⟩ := gd_e hE
    refine y_iald C hW k_r_3 g_4 dX0_countWorth_26 ?_
    exact bX0_countWorth_27 C k_x0 hkm hW hZ _ (lv_sub hl [2, 3, 4, 1, 0] rfl) hE
  · have hE := br_p hE c_2
    refine lv_iconst (v := (0 : Int32)) C.1 C.2.1 dX0_countWorth_17 (by decide) ?_
    refine lv_goto (tgt := 27) C.1 C.2.1 dX0_countWorth_18 (by decide) ?_
    exact bX0_countWorth_27 C k_x0 hkm hW hZ _ (lv_sub hl [2, 3, 4, 1, 0] rfl) hE
