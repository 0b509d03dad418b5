section
variable {p : Program} {l : Launch} {e : Env} {R : Room} {s : State} {m : MethodId} {args : Array Value} {below : List Frame} {meth : Method} {c : Code} {H : Heap} {locs : List Loc} {cells slots : Nat} {Q : State → Prop}
variable {cc : ByteArray} {pc : Nat} {ls : Array Slot} {rest : List Value} {X : Ec} {h h1 : Hp} {nL : Nat} {rt : Option FieldType} {mn : String}
theorem gf_X5_18 {a r : Nat} (C : Cx X p s m args meth c RX5 cc nL rt mn) (hW : Wx X h H) (ha : hK h a = 5) (hr : hR h a 3 = some r) (hdg : decode cc pc = .ok (.getfield 18, 3)) (kk : hK h r = 3 → W p l e R s m args below meth c H locs cells slots Q (F0 m (pc + 3) ls (.ref r :: rest))) : W p l e R s m args below meth c H locs cells slots Q (F0 m pc ls (.ref a :: rest)) :=
  y_getr C hW ha i_X5 (by decide) rfl (by decide) m_348 rfl rfl hr hdg kk
end
theorem dX5_mayStand_0 : decode cX5_mayStand 0 = .ok (.aload_n 0, 1) := by decide +kernel
theorem dX5_mayStand_1 : decode cX5_mayStand 1 = .ok (.getfield 71, 3) := by decide +kernel
theorem dX5_mayStand_4 : decode cX5_mayStand 4 = .ok (.getfield 78, 3) := by decide +kernel
theorem dX5_mayStand_7 : decode cX5_mayStand 7 = .ok (.istore_n 1, 1) := by decide +kernel
theorem dX5_mayStand_8 : decode cX5_mayStand 8 = .ok (.iconst 1, 1) := by decide +kernel
theorem dX5_mayStand_9 : decode cX5_mayStand 9 = .ok (.iload_n 1, 1) := by decide +kernel
theorem dX5_mayStand_10 : decode cX5_mayStand 10 = .ok (.isub, 1) := by decide +kernel
theorem dX5_mayStand_11 : decode cX5_mayStand 11 = .ok (.istore_n 2, 1) := by decide +kernel
theorem dX5_mayStand_12 : decode cX5_mayStand 12 = .ok (.aload_n 0, 1) := by decide +kernel
theorem dX5_mayStand_13 : decode cX5_mayStand 13 = .ok (.getfield 18, 3) := by decide +kernel
theorem dX5_mayStand_16 : decode cX5_mayStand 16 = .ok (.getfield 60, 3) := by decide +kernel
theorem dX5_mayStand_19 : decode cX5_mayStand 19 = .ok (.iload_n 1, 1) := by decide +kernel
theorem dX5_mayStand_20 : decode cX5_mayStand 20 = .ok (.iaload, 1) := by decide +kernel
theorem dX5_mayStand_21 : decode cX5_mayStand 21 = .ok (.istore_n 3, 1) := by decide +kernel
theorem dX5_mayStand_22 : decode cX5_mayStand 22 = .ok (.aload_n 0, 1) := by decide +kernel
theorem dX5_mayStand_23 : decode cX5_mayStand 23 = .ok (.getfield 18, 3) := by decide +kernel
theorem dX5_mayStand_26 : decode cX5_mayStand 26 = .ok (.getfield 60, 3) := by decide +kernel
theorem dX5_mayStand_29 : decode cX5_mayStand 29 = .ok (.iload_n 2, 1) := by decide +kernel
theorem dX5_mayStand_30 : decode cX5_mayStand 30 = .ok (.iaload, 1) := by decide +kernel
theorem dX5_mayStand_31 : decode cX5_mayStand 31 = .ok (.istore 4, 2) := by decide +kernel
theorem dX5_mayStand_33 : decode cX5_mayStand 33 = .ok (.aload_n 0, 1) := by decide +kernel
theorem dX5_mayStand_34 : decode cX5_mayStand 34 = .ok (.getfield 71, 3) := by decide +kernel
theorem dX5_mayStand_37 : decode cX5_mayStand 37 = .ok (.getfield 60, 3) := by decide +kernel
theorem dX5_mayStand_40 : decode cX5_mayStand 40 = .ok (.iload_n 1, 1) := by decide +kernel
theorem dX5_mayStand_41 : decode cX5_mayStand 41 = .ok (.iaload, 1) := by decide +kernel
theorem dX5_mayStand_42 : decode cX5_mayStand 42 = .ok (.iconst (-1), 1) := by decide +kernel
theorem dX5_mayStand_43 : decode cX5_mayStand 43 = .ok (.if_icmp .eq 54, 3) := by decide +kernel
theorem dX5_mayStand_46 : decode cX5_mayStand 46 = .ok (.aload_n 0, 1) := by decide +kernel
theorem dX5_mayStand_47 : decode cX5_mayStand 47 = .ok (.getfield 71, 3) := by decide +kernel
theorem dX5_mayStand_50 : decode cX5_mayStand 50 = .ok (.getfield 60, 3) := by decide +kernel
theorem dX5_mayStand_53 : decode cX5_mayStand 53 = .ok (.iload_n 2, 1) := by decide +kernel
theorem dX5_mayStand_54 : decode cX5_mayStand 54 = .ok (.iaload, 1) := by decide +kernel
theorem dX5_mayStand_55 : decode cX5_mayStand 55 = .ok (.iconst (-1), 1) := by decide +kernel
theorem dX5_mayStand_56 : decode cX5_mayStand 56 = .ok (.if_icmp .eq 13, 3) := by decide +kernel
theorem dX5_mayStand_59 : decode cX5_mayStand 59 = .ok (.iload 4, 2) := by decide +kernel
theorem dX5_mayStand_61 : decode cX5_mayStand 61 = .ok (.iconst (-1), 1) := by decide +kernel
theorem dX5_mayStand_62 : decode cX5_mayStand 62 = .ok (.if_icmp .ne 7, 3) := by decide +kernel
theorem dX5_mayStand_65 : decode cX5_mayStand 65 = .ok (.iconst 1, 1) := by decide +kernel
theorem dX5_mayStand_66 : decode cX5_mayStand 66 = .ok (.goto 4, 3) := by decide +kernel
theorem dX5_mayStand_69 : decode cX5_mayStand 69 = .ok (.iconst 0, 1) := by decide +kernel
theorem dX5_mayStand_70 : decode cX5_mayStand 70 = .ok (.istore 5, 2) := by decide +kernel
theorem dX5_mayStand_72 : decode cX5_mayStand 72 = .ok (.iload_n 3, 1) := by decide +kernel
theorem dX5_mayStand_73 : decode cX5_mayStand 73 = .ok (.iconst (-1), 1) := by decide +kernel
theorem dX5_mayStand_74 : decode cX5_mayStand 74 = .ok (.if_icmp .eq 21, 3) := by decide +kernel
theorem dX5_mayStand_77 : decode cX5_mayStand 77 = .ok (.iload 5, 2) := by decide +kernel
theorem dX5_mayStand_79 : decode cX5_mayStand 79 = .ok (.ifCond .ne 18, 3) := by decide +kernel
theorem dX5_mayStand_82 : decode cX5_mayStand 82 = .ok (.aload_n 0, 1) := by decide +kernel
theorem dX5_mayStand_83 : decode cX5_mayStand 83 = .ok (.aload_n 0, 1) := by decide +kernel
theorem dX5_mayStand_84 : decode cX5_mayStand 84 = .ok (.getfield 18, 3) := by decide +kernel
theorem dX5_mayStand_87 : decode cX5_mayStand 87 = .ok (.iload_n 3, 1) := by decide +kernel
theorem dX5_mayStand_88 : decode cX5_mayStand 88 = .ok (.iload_n 2, 1) := by decide +kernel
theorem dX5_mayStand_89 : decode cX5_mayStand 89 = .ok (.invokevirtual 63, 3) := by decide +kernel
theorem dX5_mayStand_92 : decode cX5_mayStand 92 = .ok (.ifCond .eq 5, 3) := by decide +kernel
theorem dX5_mayStand_95 : decode cX5_mayStand 95 = .ok (.iconst 0, 1) := by decide +kernel
theorem dX5_mayStand_96 : decode cX5_mayStand 96 = .ok (.ireturn, 1) := by decide +kernel
theorem dX5_mayStand_97 : decode cX5_mayStand 97 = .ok (.aload_n 0, 1) := by decide +kernel
theorem dX5_mayStand_98 : decode cX5_mayStand 98 = .ok (.getfield 22, 3) := by decide +kernel
theorem dX5_mayStand_101 : decode cX5_mayStand 101 = .ok (.iconst 4, 1) := by decide +kernel
theorem dX5_mayStand_102 : decode cX5_mayStand 102 = .ok (.invokevirtual 104, 3) := by decide +kernel
theorem dX5_mayStand_105 : decode cX5_mayStand 105 = .ok (.ifCond .eq 23, 3) := by decide +kernel
theorem dX5_mayStand_108 : decode cX5_mayStand 108 = .ok (.iload 4, 2) := by decide +kernel
theorem dX5_mayStand_110 : decode cX5_mayStand 110 = .ok (.iconst (-1), 1) := by decide +kernel
theorem dX5_mayStand_111 : decode cX5_mayStand 111 = .ok (.if_icmp .eq 17, 3) := by decide +kernel
theorem dX5_mayStand_114 : decode cX5_mayStand 114 = .ok (.aload_n 0, 1) := by decide +kernel
theorem dX5_mayStand_115 : decode cX5_mayStand 115 = .ok (.aload_n 0, 1) := by decide +kernel
theorem dX5_mayStand_116 : decode cX5_mayStand 116 = .ok (.getfield 18, 3) := by decide +kernel
theorem dX5_mayStand_119 : decode cX5_mayStand 119 = .ok (.iload 4, 2) := by decide +kernel
theorem dX5_mayStand_121 : decode cX5_mayStand 121 = .ok (.iload_n 1, 1) := by decide +kernel
theorem dX5_mayStand_122 : decode cX5_mayStand 122 = .ok (.invokevirtual 63, 3) := by decide +kernel
theorem dX5_mayStand_125 : decode cX5_mayStand 125 = .ok (.ifCond .ne 7, 3) := by decide +kernel
theorem dX5_mayStand_128 : decode cX5_mayStand 128 = .ok (.iconst 1, 1) := by decide +kernel
theorem dX5_mayStand_129 : decode cX5_mayStand 129 = .ok (.goto 4, 3) := by decide +kernel
theorem dX5_mayStand_132 : decode cX5_mayStand 132 = .ok (.iconst 0, 1) := by decide +kernel
theorem dX5_mayStand_133 : decode cX5_mayStand 133 = .ok (.ireturn, 1) := by decide +kernel
set_option maxRecDepth 20000 in
theorem moX5_mayStand_133 {o : Int32 × Hp} {F : Nat} {h : Hp} {t0 : Int32} (hE : sX5_mayStand_133 F h  t0 = some o) : Le h o.2 := by
  obtain ⟨g_1, hE⟩ := gd_e hE
  exact le_some2 hE
set_option maxRecDepth 20000 in
theorem moX5_mayStand_128 {o : Int32 × Hp} {F : Nat} {h : Hp} (hE : sX5_mayStand_128 F h  = some o) : Le h o.2 := by
  exact moX5_mayStand_133 hE
set_option maxRecDepth 20000 in
theorem moX5_mayStand_97 {o : Int32 × Hp} {F : Nat} {h : Hp} {x0 : Nat} {x1 : Int32} {x4 : Int32} (hE : sX5_mayStand_97 F h x0 x1 x4 = some o) : Le h o.2 := by
  obtain ⟨r_1, er_1, hE⟩ := cl_e hE
  obtain ⟨o_2, eo_2, hE⟩ := cl_e hE
  refine (moX1_has eo_2).tr ?_
  rcases br_e hE with ⟨_, hE⟩ | ⟨_, hE⟩
  · exact moX5_mayStand_128 hE
  · rcases br_e hE with ⟨_, hE⟩ | ⟨_, hE⟩
    · exact moX5_mayStand_128 hE
    · obtain ⟨r_5, er_5, hE⟩ := cl_e hE
      obtain ⟨o_6, eo_6, hE⟩ := cl_e hE
      refine (moX5_isHit eo_6).tr ?_
      rcases br_e hE with ⟨_, hE⟩ | ⟨_, hE⟩
      · exact moX5_mayStand_128 hE
      · exact moX5_mayStand_133 hE
set_option maxRecDepth 20000 in
theorem moX5_mayStand_95 {o : Int32 × Hp} {F : Nat} {h : Hp} (hE : sX5_mayStand_95 F h  = some o) : Le h o.2 := by
  exact le_some2 hE
set_option maxRecDepth 20000 in
theorem moX5_mayStand_70 {o : Int32 × Hp} {F : Nat} {h : Hp} {x0 : Nat} {x1 : Int32} {x2 : Int32} {x3 : Int32} {x4 : Int32} {t0 : Int32} (hE : sX5_mayStand_70 F h x0 x1 x2 x3 x4 t0 = some o) : Le h o.2 := by
  rcases br_e hE with ⟨_, hE⟩ | ⟨_, hE⟩
  · exact moX5_mayStand_95 hE
  · rcases br_e hE with ⟨_, hE⟩ | ⟨_, hE⟩
    · obtain ⟨r_3, er_3, hE⟩ := cl_e hE
      obtain ⟨o_4, eo_4, hE⟩ := cl_e hE
      refine (moX5_isHit eo_4).tr ?_
      rcases br_e hE with ⟨_, hE⟩ | ⟨_, hE⟩
      · exact moX5_mayStand_97 hE
      · exact moX5_mayStand_95 hE
    · exact moX5_mayStand_97 hE
set_option maxRecDepth 20000 in
theorem moX5_mayStand_69 {o : Int32 × Hp} {F : Nat} {h : Hp} {x0 : Nat} {x1 : Int32} {x2 : Int32} {x3 : Int32} {x4 : Int32} (hE : sX5_mayStand_69 F h x0 x1 x2 x3 x4 = some o) : Le h o.2 := by
  exact moX5_mayStand_70 hE
set_option maxRecDepth 20000 in
theorem moX5_mayStand {o : Int32 × Hp} {F : Nat} {h : Hp} {x0 : Nat} (hE : sX5_mayStand F h x0 = some o) : Le h o.2 := by
  obtain ⟨r_1, er_1, hE⟩ := cl_e hE
  obtain ⟨v_2, ev_2, hE⟩ := nm_e2 hE
  obtain ⟨v_3, ev_3, hE⟩ := nm_e2 hE
  obtain ⟨r_4, er_4, hE⟩ := cl_e hE
  obtain ⟨r_5, er_5, hE⟩ := cl_e hE
  obtain ⟨g_6, hE⟩ := gd_e hE
  obtain ⟨v_7, ev_7, hE⟩ := nm_e2 hE
  obtain ⟨r_8, er_8, hE⟩ := cl_e hE
  obtain ⟨r_9, er_9, hE⟩ := cl_e hE
  obtain ⟨g_10, hE⟩ := gd_e hE
  obtain ⟨v_11, ev_11, hE⟩ := nm_e2 hE
  obtain ⟨r_12, er_12, hE⟩ := cl_e hE
  obtain ⟨r_13, er_13, hE⟩ := cl_e hE
  obtain ⟨g_14, hE⟩ := gd_e hE
  rcases br_e hE with ⟨_, hE⟩ | ⟨_, hE⟩
  · exact moX5_mayStand_97 hE
  · obtain ⟨r_16, er_16, hE⟩ := cl_e hE
    obtain ⟨r_17, er_17, hE⟩ := cl_e hE
    obtain ⟨g_18, hE⟩ := gd_e hE
    rcases br_e hE with ⟨_, hE⟩ | ⟨_, hE⟩
    · exact moX5_mayStand_69 hE
    · rcases br_e hE with ⟨_, hE⟩ | ⟨_, hE⟩
      · exact moX5_mayStand_70 hE
      · exact moX5_mayStand_69 hE
set_option maxRecDepth 20000 in
theorem bX5_mayStand_133 {p : Program} {l : Launch} {e : Env} {s : State} {m : MethodId} {args : Array Value} {below : List Frame} {meth : Method} {c : Code} {X : Ec} {h0 : Hp} {o : Int32 × Hp} {F : Nat} (C : Cx X p s m args meth c RX5 cX5_mayStand 6 (some .boolean) "mayStand") {h : Hp} {t0 : Int32} {H : Heap} {locs : List Loc} (hkm : Km h0 h) (hW : Wx X h H) (hZ : va_S (aA (eB X)) s.heap H locs) (ls : Array Slot) (hl : lv_has ls 6 []) (hE : sX5_mayStand_133 F h  t0 = some o) : W p l e (rm 1 38) s m args below meth c H locs 0 0 (MQ below (QI X h0 o.1 o.2) args s 0 0 (aA (eB X))) (F0 m 133 ls [.int t0]) := by
  obtain ⟨g_1, hE⟩ := gd_e hE
  exact x_iret C rfl (narB g_1) hW hZ hkm hE dX5_mayStand_133
set_option maxRecDepth 20000 in
theorem bX5_mayStand_128 {p : Program} {l : Launch} {e : Env} {s : State} {m : MethodId} {args : Array Value} {below : List Frame} {meth : Method} {c : Code} {X : Ec} {h0 : Hp} {o : Int32 × Hp} {F : Nat} (C : Cx X p s m args meth c RX5 cX5_mayStand 6 (some .boolean) "mayStand") {h : Hp} {H : Heap} {locs : List Loc} (hkm : Km h0 h) (hW : Wx X h H) (hZ : va_S (aA (eB X)) s.heap H locs) (ls : Array Slot) (hl : lv_has ls 6 []) (hE : sX5_mayStand_128 F h  = some o) : W p l e (rm 1 38) s m args below meth c H locs 0 0 (MQ below (QI X h0 o.1 o.2) args s 0 0 (aA (eB X))) (F0 m 128 ls []) := by
  refine lv_iconst (v := (1 : Int32)) C.1 C.2.1 dX5_mayStand_128 (by decide) ?_
  refine lv_goto (tgt := 133) C.1 C.2.1 dX5_mayStand_129 (by decide) ?_
  exact bX5_mayStand_133 C hkm hW hZ _ (lv_sub hl [] rfl) hE
set_option maxRecDepth 20000 in
theorem bX5_mayStand_97 {p : Program} {l : Launch} {e : Env} {s : State} {m : MethodId} {args : Array Value} {below : List Frame} {meth : Method} {c : Code} {X : Ec} {h0 : Hp} {o : Int32 × Hp} {F : Nat} (C : Cx X p s m args meth c RX5 cX5_mayStand 6 (some .boolean) "mayStand") {h : Hp} {x0 : Nat} {x1 : Int32} {x4 : Int32} {H : Heap} {locs : List Loc} (k_x0 : hK h x0 = 5) (hkm : Km h0 h) (hW : Wx X h H) (hZ : va_S (aA (eB X)) s.heap H locs) (ls : Array Slot) (hl : lv_has ls 6 [(0, .ref x0), (1, .int x1), (4, .int x4)]) (hE : sX5_mayStand_97 F h x0 x1 x4 = some o) : W p l e (rm 1 38) s m args below meth c H locs 0 0 (MQ below (QI X h0 o.1 o.2) args s 0 0 (aA (eB X))) (F0 m 97 ls []) := by
  refine lv_aload_n C.1 C.2.1 dX5_mayStand_97 rfl (lv_at hl 0 rfl) ?_
  obtain ⟨r_1, er_1, hE⟩ := cl_e hE
  refine gf_X5_22 C hW k_x0 er_1 dX5_mayStand_98 (fun k_r_1 => ?_)
  refine lv_iconst (v := (4 : Int32)) C.1 C.2.1 dX5_mayStand_101 (by decide) ?_
  obtain ⟨o_2, eo_2, hE⟩ := cl_e hE
  refine x_kI (o := o_2) (z_runV (As := [.int (4 : Int32)]) (rest := []) C (ct_X1_has l X k_r_1 eo_2) cw_X5_104 hW hZ k_r_1 (by decide) rfl rfl rfl hl.1 (Nat.le_of_ble_eq_true rfl) rfl dX5_mayStand_102 ⟨Nat.le_of_ble_eq_true rfl, Nat.le_of_ble_eq_true rfl⟩ ⟨Nat.le_refl _, Nat.le_refl _⟩) hZ (fun _ _ hW km hZ => ?_)
  replace hkm := hkm.tr km
  replace k_x0 := km.at k_x0 (by decide)
  refine lv_if_eq (tgt := 128) C.1 C.2.1 dX5_mayStand_105 (by decide) (fun c_3 => ?_) (fun c_3 => ?_)
  · have hE := br_p hE c_3
    exact bX5_mayStand_128 C hkm hW hZ _ (lv_sub hl [] rfl) hE
  · have hE := br_n hE c_3
    refine lv_iload C.1 C.2.1 dX5_mayStand_108 (lv_at hl 2 rfl) ?_
    refine lv_iconst (v := (-1 : Int32)) C.1 C.2.1 dX5_mayStand_110 (by decide) ?_
    refine lv_icmp_eq (tgt := 128) C.1 C.2.1 dX5_mayStand_111 (by decide) (fun c_4 => ?_) (fun c_4 => ?_)
    · have hE := br_p hE c_4
      exact bX5_mayStand_128 C hkm hW hZ _ (lv_sub hl [] rfl) hE
    · have hE := br_n hE c_4
      refine lv_aload_n C.1 C.2.1 dX5_mayStand_114 rfl (lv_at hl 0 rfl) ?_
      refine lv_aload_n C.1 C.2.1 dX5_mayStand_115 rfl (lv_at hl 0 rfl) ?_
      obtain ⟨r_5, er_5, hE⟩ := cl_e hE
      refine gf_X5_18 C hW k_x0 er_5 dX5_mayStand_116 (fun k_r_5 => ?_)
      refine lv_iload C.1 C.2.1 dX5_mayStand_119 (lv_at hl 2 rfl) ?_
      refine lv_iload_n C.1 C.2.1 dX5_mayStand_121 rfl (lv_at hl 1 rfl) ?_
      obtain ⟨o_6, eo_6, hE⟩ := cl_e hE
      refine x_kI (o := o_6) (z_runV (As := [.ref r_5, .int x4, .int x1]) (rest := []) C (ct_X5_isHit l X F k_x0 k_r_5 eo_6) cw_X5_63 hW hZ k_x0 (by decide) rfl rfl rfl hl.1 (Nat.le_of_ble_eq_true rfl) rfl dX5_mayStand_122 ⟨Nat.le_of_ble_eq_true rfl, Nat.le_of_ble_eq_true rfl⟩ ⟨Nat.le_refl _, Nat.le_refl _⟩) hZ (fun _ _ hW km hZ => ?_)
      replace hkm := hkm.tr km
      replace k_x0 := km.at k_x0 (by decide)
      refine lv_if_ne (tgt := 132) C.1 C.2.1 dX5_mayStand_125 (by decide) (fun c_7 => ?_) (fun c_7 => ?_)
      · have hE := br_n hE c_7
        refine lv_iconst (v := (0 : Int32)) C.1 C.2.1 dX5_mayStand_132 (by decide) ?_
        exact bX5_mayStand_133 C hkm hW hZ _ (lv_sub hl [] rfl) hE
      · have hE := br_p hE c_7
        exact bX5_mayStand_128 C hkm hW hZ _ (lv_sub hl [] rfl) hE
set_option maxRecDepth 20000 in
theorem bX5_mayStand_95 {p : Program} {l : Launch} {e : Env} {s : State} {m : MethodId} {args : Array Value} {below : List Frame} {meth : Method} {c : Code} {X : Ec} {h0 : Hp} {o : Int32 × Hp} {F : Nat} (C : Cx X p s m args meth c RX5 cX5_mayStand 6 (some .boolean) "mayStand") {h : Hp} {H : Heap} {locs : List Loc} (hkm : Km h0 h) (hW : Wx X h H) (hZ : va_S (aA (eB X)) s.heap H locs) (ls : Array Slot) (hl : lv_has ls 6 []) (hE : sX5_mayStand_95 F h  = some o) : W p l e (rm 1 38) s m args below meth c H locs 0 0 (MQ below (QI X h0 o.1 o.2) args s 0 0 (aA (eB X))) (F0 m 95 ls []) := by
  refine lv_iconst (v := (0 : Int32)) C.1 C.2.1 dX5_mayStand_95 (by decide) ?_
  exact x_iret C rfl (by decide) hW hZ hkm hE dX5_mayStand_96
set_option maxRecDepth 20000 in
theorem bX5_mayStand_70 {p : Program} {l : Launch} {e : Env} {s : State} {m : MethodId} {args : Array Value} {below : List Frame} {meth : Method} {c : Code} {X : Ec} {h0 : Hp} {o : Int32 × Hp} {F : Nat} (C : Cx X p s m args meth c RX5 cX5_mayStand 6 (some .boolean) "mayStand") {h : Hp} {x0 : Nat} {x1 : Int32} {x2 : Int32} {x3 : Int32} {x4 : Int32} {t0 : Int32} {H : Heap} {locs : List Loc} (k_x0 : hK h x0 = 5) (hkm : Km h0 h) (hW : Wx X h H) (hZ : va_S (aA (eB X)) s.heap H locs) (ls : Array Slot) (hl : lv_has ls 6 [(0, .ref x0), (1, .int x1), (2, .int x2), (3, .int x3), (4, .int x4)]) (hE : sX5_mayStand_70 F h x0 x1 x2 x3 x4 t0 = some o) : W p l e (rm 1 38) s m args below meth c H locs 0 0 (MQ below (QI X h0 o.1 o.2) args s 0 0 (aA (eB X))) (F0 m 70 ls [.int t0]) := by
  refine lv_istore (lv' := [(5, .int t0), (0, .ref x0), (1, .int x1), (2, .int x2), (3, .int x3), (4, .int x4)]) C.1 C.2.1 dX5_mayStand_70 hl (by decide) rfl (fun ls hl => ?_)
  refine lv_iload_n C.1 C.2.1 dX5_mayStand_72 rfl (lv_at hl 4 rfl) ?_
  refine lv_iconst (v := (-1 : Int32)) C.1 C.2.1 dX5_mayStand_73 (by decide) ?_
  refine lv_icmp_eq (tgt := 95) C.1 C.2.1 dX5_mayStand_74 (by decide) (fun c_1 => ?_) (fun c_1 => ?_)
  · have hE := br_p hE c_1
    exact bX5_mayStand_95 C hkm hW hZ _ (lv_sub hl [] rfl) hE
  · have hE := br_n hE c_1
    refine lv_iload C.1 C.2.1 dX5_mayStand_77 (lv_at hl 0 rfl) ?_
    refine lv_if_ne (tgt := 97) C.1 C.2.1 dX5_mayStand_79 (by decide) (fun c_2 => ?_) (fun c_2 => ?_)
    · have hE := br_n hE c_2
      exact bX5_mayStand_97 C k_x0 hkm hW hZ _ (lv_sub hl [1, 2, 5] rfl) hE
    · have hE := br_p hE c_2
      refine lv_aload_n C.1 C.2.1 dX5_mayStand_82 rfl (lv_at hl 1 rfl) ?_
      refine lv_aload_n C.1 C.2.1 dX5_mayStand_83 rfl (lv_at hl 1 rfl) ?_
      obtain ⟨r_3, er_3, hE⟩ := cl_e hE
      refine gf_X5_18 C hW k_x0 er_3 dX5_mayStand_84 (fun k_r_3 => ?_)
      refine lv_iload_n C.1 C.2.1 dX5_mayStand_87 rfl (lv_at hl 4 rfl) ?_
      refine lv_iload_n C.1 C.2.1 dX5_mayStand_88 rfl (lv_at hl 3 rfl) ?_
      obtain ⟨o_4, eo_4, hE⟩ := cl_e hE
      refine x_kI (o := o_4) (z_runV (As := [.ref r_3, .int x3, .int x2]) (rest := []) C (ct_X5_isHit l X F k_x0 k_r_3 eo_4) cw_X5_63 hW hZ k_x0 (by decide) rfl rfl rfl hl.1 (Nat.le_of_ble_eq_true rfl) rfl dX5_mayStand_89 ⟨Nat.le_of_ble_eq_true rfl, Nat.le_of_ble_eq_true rfl⟩ ⟨Nat.le_refl _, Nat.le_refl _⟩) hZ (fun _ _ hW km hZ => ?_)
      replace hkm := hkm.tr km
      replace k_x0 := km.at k_x0 (by decide)
      refine lv_if_eq (tgt := 97) C.1 C.2.1 dX5_mayStand_92 (by decide) (fun c_5 => ?_) (fun c_5 => ?_)
      · have hE := br_p hE c_5
        exact bX5_mayStand_97 C k_x0 hkm hW hZ _ (lv_sub hl [1, 2, 5] rfl) hE
      · have hE := br_n hE c_5
        exact bX5_mayStand_95 C hkm hW hZ _ (lv_sub hl [] rfl) hE
set_option maxRecDepth 20000 in
theorem bX5_mayStand_69 {p : Program} {l : Launch} {e : Env} {s : State} {m : MethodId} {args : Array Value} {below : List Frame} {meth : Method} {c : Code} {X : Ec} {h0 : Hp} {o : Int32 × Hp} {F : Nat} (C : Cx X p s m args meth c RX5 cX5_mayStand 6 (some .boolean) "mayStand") {h : Hp} {x0 : Nat} {x1 : Int32} {x2 : Int32} {x3 : Int32} {x4 : Int32} {H : Heap} {locs : List Loc} (k_x0 : hK h x0 = 5) (hkm : Km h0 h) (hW : Wx X h H) (hZ : va_S (aA (eB X)) s.heap H locs) (ls : Array Slot) (hl : lv_has ls 6 [(0, .ref x0), (1, .int x1), (2, .int x2), (3, .int x3), (4, .int x4)]) (hE : sX5_mayStand_69 F h x0 x1 x2 x3 x4 = some o) : W p l e (rm 1 38) s m args below meth c H locs 0 0 (MQ below (QI X h0 o.1 o.2) args s 0 0 (aA (eB X))) (F0 m 69 ls []) := by
  refine lv_iconst (v := (0 : Int32)) C.1 C.2.1 dX5_mayStand_69 (by decide) ?_
  exact bX5_mayStand_70 C k_x0 hkm hW hZ _ (lv_sub hl [0, 1, 2, 3, 4] rfl) hE
set_option maxRecDepth 20000 in
theorem ct_X5_mayStand (l : Launch) (X : Ec) (F : Nat) {h : Hp} {x0 : Nat} {o : Int32 × Hp} (k_x0 : hK h x0 = 5) (hE : sX5_mayStand F h x0 = some o) : MetI l yX5_mayStand cX5_mayStand 6 (some .boolean) 1 38 X [.ref x0] h o := by
  refine x_met (by decide) (Nat.le_of_ble_eq_true rfl) ?_
  intro p e s m below meth c ls C hl hW hZ
  have hl : lv_has ls 6 [(0, .ref x0)] := hl
  have hkm : Km h h := Km.rf h
  refine lv_aload_n C.1 C.2.1 dX5_mayStand_0 rfl (lv_at hl 0 rfl) ?_
  obtain ⟨r_1, er_1, hE⟩ := cl_e hE
  refine gf_X5_71 C hW k_x0 er_1 dX5_mayStand_1 (fun k_r_1 => ?_)
  refine gf_X5_78 C hW k_r_1 dX5_mayStand_4 ?_
  obtain ⟨v_2, ev_2, hE⟩ := nm_e2 hE
  refine x_nmI ev_2 ?_
  refine lv_istore_n (lv' := [(1, .int v_2), (0, .ref x0)]) C.1 C.2.1 dX5_mayStand_7 rfl hl (by decide) rfl (fun ls hl => ?_)
  refine lv_iconst (v := (1 : Int32)) C.1 C.2.1 dX5_mayStand_8 (by decide) ?_
  refine lv_iload_n C.1 C.2.1 dX5_mayStand_9 rfl (lv_at hl 0 rfl) ?_
  refine lv_isub C.1 C.2.1 dX5_mayStand_10 ?_
  obtain ⟨v_3, ev_3, hE⟩ := nm_e2 hE
  refine x_nmI ev_3 ?_
  refine lv_istore_n (lv' := [(2, .int v_3), (1, .int v_2), (0, .ref x0)]) C.1 C.2.1 dX5_mayStand_11 rfl hl (by decide) rfl (fun ls hl => ?_)
  refine lv_aload_n C.1 C.2.1 dX5_mayStand_12 rfl (lv_at hl 2 rfl) ?_
  obtain ⟨r_4, er_4, hE⟩ := cl_e hE
  refine gf_X5_18 C hW k_x0 er_4 dX5_mayStand_13 (fun k_r_4 => ?_)
  obtain ⟨r_5, er_5, hE⟩ := cl_e hE
  refine gf_X5_60 C hW k_r_4 er_5 dX5_mayStand_16 (fun k_r_5 => ?_)
  refine lv_iload_n C.1 C.2.1 dX5_mayStand_19 rfl (lv_at hl 1 rfl) ?_
  obtain ⟨g_6, hE⟩ := gd_e hE
  refine y_iald C hW k_r_5 g_6 dX5_mayStand_20 ?_
  obtain ⟨v_7, ev_7, hE⟩ := nm_e2 hE
  refine x_nmI ev_7 ?_
  refine lv_istore_n (lv' := [(3, .int v_7), (2, .int v_3), (1, .int v_2), (0, .ref x0)]) C.1 C.2.1 dX5_mayStand_21 rfl hl (by decide) rfl (fun ls hl => ?_)
  refine lv_aload_n C.1 C.2.1 dX5_mayStand_22 rfl (lv_at hl 3 rfl) ?_
  obtain ⟨r_8, er_8, hE⟩ := cl_e hE
  refine gf_X5_18 C hW k_x0 er_8 dX5_mayStand_23 (fun k_r_8 => ?_)
  obtain ⟨r_9, er_9, hE⟩ := cl_e hE
  refine gf_X5_60 C hW k_r_8 er_9 dX5_mayStand_26 (fun k_r_9 => ?_)
  refine lv_iload_n C.1 C.2.1 dX5_mayStand_29 rfl (lv_at hl 1 rfl) ?_
  obtain ⟨g_10, hE⟩ := gd_e hE
  refine y_iald C hW k_r_9 g_10 dX5_mayStand_30 ?_
  obtain ⟨v_11, ev_11, hE⟩ := nm_e2 hE
  refine x_nmI ev_11 ?_
  refine lv_istore (lv' := [(4, .int v_11), (3, .int v_7), (2, .int v_3), (1, .int v_2), (0, .ref x0)]) C.1 C.2.1 dX5_mayStand_31 hl (by decide) rfl (fun ls hl => ?_)
  refine lv_aload_n C.1 C.2.1 dX5_mayStand_33 rfl (lv_at hl 4 rfl) ?_
  obtain ⟨r_12, er_12, hE⟩ := cl_e hE
  refine gf_X5_71 C hW k_x0 er_12 dX5_mayStand_34 (fun k_r_12 => ?_)
  obtain ⟨r_13, er_13, hE⟩ := cl_e hE
  refine gf_X5_60 C hW k_r_12 er_13 dX5_mayStand_37 (fun k_r_13 => ?_)
  refine lv_iload_n C.1 C.2.1 dX5_mayStand_40 rfl (lv_at hl 3 rfl) ?_
  obtain ⟨g_14, hE⟩ := gd_e hE
  refine y_iald C hW k_r_13 g_14 dX5_mayStand_41 ?_
  refine lv_iconst (v := (-1 : Int32)) C.1 C.2.1 dX5_mayStand_42 (by decide) ?_
  refine lv_icmp_eq (tgt := 97) C.1 C.2.1 dX5_mayStand_43 (by decide) (fun c_15 => ?_) (fun c_15 => ?_)
  · have hE := br_p hE c_15
    exact bX5_mayStand_97 C k_x0 hkm hW hZ _ (lv_sub hl [4, 3, 0] rfl) hE
  · have hE := br_n hE c_15
    refine lv_aload_n C.1 C.2.1 dX5_mayStand_46 rfl (lv_at hl 4 rfl) ?_
    obtain ⟨r_16, er_16, hE⟩ := cl_e hE
    refine gf_X5_71 C hW k_x0 er_16 dX5_mayStand_47 (fun k_r_16 => ?_)
    obtain ⟨r_17, er_17, hE⟩ := cl_e hE
    refine gf_X5_60 C hW k_r_16 er_17 dX5_mayStand_50 (fun k_r_17 => ?_)
    refine lv_iload_n C.1 C.2.1 dX5_mayStand_53 rfl (lv_at hl 2 rfl) ?_
    obtain ⟨g_18, hE⟩ := gd_e hE
    refine y_iald C hW k_r_17 g_18 dX5_mayStand_54 ?_
    refine lv_iconst (v := (-1 : Int32)) C.1 C.2.1 dX5_mayStand_55 (by decide) ?_
    refine lv_icmp_eq (tgt := 69) C.1 C.2.1 dX5_mayStand_56 (by decide) (fun c_19 => ?_) (fun c_19 => ?_)
    · have hE := br_p hE c_19
      exact bX5_mayStand_69 C k_x0 hkm hW hZ _ (lv_sub hl [4, 3, 2, 1, 0] rfl) hE
    · have hE := br_n hE c_19
      refine lv_iload C.1 C.2.1 dX5_mayStand_59 (lv_at hl 0 rfl) ?_
      refine lv_iconst (v := (-1 : Int32)) C.1 C.2.1 dX5_mayStand_61 (by decide) ?_
      refine lv_icmp_ne (tgt := 69) C.1 C.2.1 dX5_mayStand_62 (by decide) (fun c_20 => ?_) (fun c_20 => ?_)
      · have hE := br_n hE c_20
        exact bX5_mayStand_69 C k_x0 hkm hW hZ _ (lv_sub hl [4, 3, 2, 1, 0] rfl) hE
      · have hE := br_p hE c_20
        refine lv_iconst (v := (1 : Int32)) C.1 C.2.1 dX5_mayStand_65 (by decide) ?_
        refine lv_goto (tgt := 70) C.1 C.2.1 dX5_mayStand_66 (by decide) ?_
        exact bX5_mayStand_70 C k_x0 hkm hW hZ _ (lv_sub hl [4, 3, 2, 1, 0] rfl) hE
set_option maxRecDepth 100000 in
theorem ms_64 : Cond.selects RX5 yX5_mayStand yX5_mayStand ∈ W0 := w0_in (List.mem_append_left _ (List.mem_of_getElem? (i := 64) rfl)) rfl
set_option maxRecDepth 100000 in
theorem ms_63 : Cond.selects RX5 yX5_blast yX5_blast ∈ W0 := w0_in (List.mem_append_left _ (List.mem_of_getElem? (i := 63) rfl)) rfl
set_option maxRecDepth 100000 in
theorem ms_62 : Cond.selects RX5 yX5_shift yX5_shift ∈ W0 := w0_in (List.mem_append_left _ (List.mem_of_getElem? (i := 62) rfl)) rfl
set_option maxRecDepth 100000 in
theorem ms_61 : Cond.selects RX5 yX5_isSafe yX5_isSafe ∈ W0 := w0_in (List.mem_append_left _ (List.mem_of_getElem? (i := 61) rfl)) rfl
set_option maxRecDepth 100000 in
theorem m_1219 : Cond.methodLink RX5 215 yX5_isSafe ∈ W0 := w0_in (List.mem_append_right _ (List.mem_of_getElem? (i := 1219) rfl)) rfl
set_option maxRecDepth 100000 in
theorem m_1221 : Cond.instanceMethod yX5_isSafe ∈ W0 := w0_in (List.mem_append_right _ (List.mem_of_getElem? (i := 1221) rfl)) rfl
set_option maxRecDepth 100000 in
theorem m_1222 : Cond.code yX5_isSafe cX5_isSafe 5 (some .boolean) ∈ W0 := w0_in (List.mem_append_right _ (List.mem_of_getElem? (i := 1222) rfl)) rfl
set_option maxRecDepth 100000 in
theorem m_1229 : Cond.methodLink RX5 218 yX3_copyFrom ∈ W0 := w0_in (List.mem_append_right _ (List.mem_of_getElem? (i := 1229) rfl)) rfl
set_option maxRecDepth 100000 in
theorem m_1230 : Cond.instanceMethod yX3_copyFrom ∈ W0 := w0_in (List.mem_append_right _ (List.mem_of_getElem? (i := 1230) rfl)) rfl
set_option maxRecDepth 100000 in
theorem m_1231 : Cond.selects RX3 yX3_copyFrom yX3_copyFrom ∈ W0 := w0_in (List.mem_append_right _ (List.mem_of_getElem? (i := 1231) rfl)) rfl
set_option maxRecDepth 100000 in
theorem m_1232 : Cond.code yX3_copyFrom cX3_copyFrom 3 none ∈ W0 := w0_in (List.mem_append_right _ (List.mem_of_getElem? (i := 1232) rfl)) rfl
set_option maxRecDepth 100000 in
theorem m_1236 : Cond.methodLink RX5 222 yX5_shift ∈ W0 := w0_in (List.mem_append_right _ (List.mem_of_getElem? (i := 1236) rfl)) rfl
set_option maxRecDepth 100000 in
theorem m_1238 : Cond.instanceMethod yX5_shift ∈ W0 := w0_in (List.mem_append_right _ (List.mem_of_getElem? (i := 1238) rfl)) rfl
set_option maxRecDepth 100000 in
theorem m_1239 : Cond.code yX5_shift cX5_shift 8 none ∈ W0 := w0_in (List.mem_append_right _ (List.mem_of_getElem? (i := 1239) rfl)) rfl
set_option maxRecDepth 100000 in
theorem m_1244 : Cond.methodLink RX5 226 yX5_blast ∈ W0 := w0_in (List.mem_append_right _ (List.mem_of_getElem? (i := 1244) rfl)) rfl
set_option maxRecDepth 100000 in
theorem m_1246 : Cond.instanceMethod yX5_blast ∈ W0 := w0_in (List.mem_append_right _ (List.mem_of_getElem? (i := 1246) rfl)) rfl
set_option maxRecDepth 100000 in
theorem m_1247 : Cond.code yX5_blast cX5_blast 8 none ∈ W0 := w0_in (List.mem_append_right _ (List.mem_of_getElem? (i := 1247) rfl)) rfl
set_option maxRecDepth 100000 in
theorem m_1248 : Cond.methodLink RX5 229 yX5_mayStand ∈ W0 := w0_in (List.mem_append_right _ (List.mem_of_getElem? (i := 1248) rfl)) rfl
set_option maxRecDepth 100000 in
theorem m_1250 : Cond.instanceMethod yX5_mayStand ∈ W0 := w0_in (List.mem_append_right _ (List.mem_of_getElem? (i := 1250) rfl)) rfl
set_option maxRecDepth 100000 in
theorem m_1251 : Cond.code yX5_mayStand cX5_mayStand 6 (some .boolean) ∈ W0 := w0_in (List.mem_append_right _ (List.mem_of_getElem? (i := 1251) rfl)) rfl
section
variable {p : Program} {l : Launch} {e : Env} {R : Room} {s : State} {m : MethodId} {args : Array Value} {below : List Frame} {meth : Method} {c : Code} {H : Heap} {locs : List Loc} {cells slots : Nat} {Q : State → Prop}
variable {cc : ByteArray} {pc : Nat} {ls : Array Slot} {rest : List Value} {X : Ec} {h h1 : Hp} {nL : Nat} {rt : Option FieldType} {mn : String}
theorem gf_X5_116 {a : Nat} (C : Cx X p s m args meth c RX5 cc nL rt mn) (hW : Wx X h H) (ha : hK h a = 5) (hdg : decode cc pc = .ok (.getfield 116, 3)) (kk : W p l e R s m args below meth c H locs cells slots Q (F0 m (pc + 3) ls (.int (hI h a 7) :: rest))) : W p l e R s m args below meth c H locs cells slots Q (F0 m pc ls (.ref a :: rest)) :=
  y_geti C hW ha i_X5 (by decide) rfl (by decide) m_352 rfl hdg kk
end
theorem cw_X5_215 : cwd RX5 215 yX5_isSafe cX5_isSafe 5 (some .boolean) false 1 := ⟨m_1222, m_1219, m_7, ⟨m_1221, ms_61⟩, by decide, by decide, by decide +kernel⟩
theorem cw_X5_218 : cwd RX5 218 yX3_copyFrom cX3_copyFrom 3 none false 1 := ⟨m_1232, m_1229, m_8, ⟨m_1230, m_1231⟩, by decide, by decide, by decide +kernel⟩
theorem cw_X5_222 : cwd RX5 222 yX5_shift cX5_shift 8 none false 2 := ⟨m_1239, m_1236, m_7, ⟨m_1238, ms_62⟩, by decide, by decide, by decide +kernel⟩
theorem cw_X5_226 : cwd RX5 226 yX5_blast cX5_blast 8 none false 2 := ⟨m_1247, m_1244, m_7, ⟨m_1246, ms_63⟩, by decide, by decide, by decide +kernel⟩
theorem cw_X5_229 : cwd RX5 229 yX5_mayStand cX5_mayStand 6 (some .boolean) false 0 := ⟨m_1251, m_1248, m_7, ⟨m_1250, ms_64⟩, by decide, by decide, by decide +kernel⟩
theorem dX5_keepLawful_0 : decode cX5_keepLawful 0 = .ok (.iload_n 1, 1) := by decide +kernel
theorem dX5_keepLawful_1 : decode cX5_keepLawful 1 = .ok (.istore_n 2, 1) := by decide +kernel
theorem dX5_keepLawful_2 : decode cX5_keepLawful 2 = .ok (.iload_n 1, 1) := by decide +kernel
theorem dX5_keepLawful_3 : decode cX5_keepLawful 3 = .ok (.istore_n 3, 1) := by decide +kernel
theorem dX5_keepLawful_4 : decode cX5_keepLawful 4 = .ok (.iload_n 3, 1) := by decide +kernel
theorem dX5_keepLawful_5 : decode cX5_keepLawful 5 = .ok (.aload_n 0, 1) := by decide +kernel
theorem dX5_keepLawful_6 : decode cX5_keepLawful 6 = .ok (.getfield 82, 3) := by decide +kernel
theorem dX5_keepLawful_9 : decode cX5_keepLawful 9 = .ok (.if_icmp .ge 108, 3) := by decide +kernel
theorem dX5_keepLawful_12 : decode cX5_keepLawful 12 = .ok (.aload_n 0, 1) := by decide +kernel
theorem dX5_keepLawful_13 : decode cX5_keepLawful 13 = .ok (.getfield 123, 3) := by decide +kernel
theorem dX5_keepLawful_16 : decode cX5_keepLawful 16 = .ok (.iload_n 3, 1) := by decide +kernel
theorem dX5_keepLawful_17 : decode cX5_keepLawful 17 = .ok (.iaload, 1) := by decide +kernel
theorem dX5_keepLawful_18 : decode cX5_keepLawful 18 = .ok (.istore 4, 2) := by decide +kernel
theorem dX5_keepLawful_20 : decode cX5_keepLawful 20 = .ok (.aload_n 0, 1) := by decide +kernel
theorem dX5_keepLawful_21 : decode cX5_keepLawful 21 = .ok (.iload 4, 2) := by decide +kernel
theorem dX5_keepLawful_23 : decode cX5_keepLawful 23 = .ok (.invokevirtual 215, 3) := by decide +kernel
theorem dX5_keepLawful_26 : decode cX5_keepLawful 26 = .ok (.istore 5, 2) := by decide +kernel
theorem dX5_keepLawful_28 : decode cX5_keepLawful 28 = .ok (.iload 5, 2) := by decide +kernel
theorem dX5_keepLawful_30 : decode cX5_keepLawful 30 = .ok (.ifCond .ne 40, 3) := by decide +kernel
theorem dX5_keepLawful_33 : decode cX5_keepLawful 33 = .ok (.aload_n 0, 1) := by decide +kernel
theorem dX5_keepLawful_34 : decode cX5_keepLawful 34 = .ok (.getfield 18, 3) := by decide +kernel
theorem dX5_keepLawful_37 : decode cX5_keepLawful 37 = .ok (.aload_n 0, 1) := by decide +kernel
theorem dX5_keepLawful_38 : decode cX5_keepLawful 38 = .ok (.getfield 71, 3) := by decide +kernel
theorem dX5_keepLawful_41 : decode cX5_keepLawful 41 = .ok (.invokevirtual 218, 3) := by decide +kernel
theorem dX5_keepLawful_44 : decode cX5_keepLawful 44 = .ok (.aload_n 0, 1) := by decide +kernel
theorem dX5_keepLawful_45 : decode cX5_keepLawful 45 = .ok (.aload_n 0, 1) := by decide +kernel
theorem dX5_keepLawful_46 : decode cX5_keepLawful 46 = .ok (.getfield 18, 3) := by decide +kernel
theorem dX5_keepLawful_49 : decode cX5_keepLawful 49 = .ok (.iload 4, 2) := by decide +kernel
theorem dX5_keepLawful_51 : decode cX5_keepLawful 51 = .ok (.invokevirtual 222, 3) := by decide +kernel
theorem dX5_keepLawful_54 : decode cX5_keepLawful 54 = .ok (.aload_n 0, 1) := by decide +kernel
theorem dX5_keepLawful_55 : decode cX5_keepLawful 55 = .ok (.aload_n 0, 1) := by decide +kernel
theorem dX5_keepLawful_56 : decode cX5_keepLawful 56 = .ok (.getfield 18, 3) := by decide +kernel
theorem dX5_keepLawful_59 : decode cX5_keepLawful 59 = .ok (.iload 4, 2) := by decide +kernel
theorem dX5_keepLawful_61 : decode cX5_keepLawful 61 = .ok (.invokevirtual 226, 3) := by decide +kernel
theorem dX5_keepLawful_64 : decode cX5_keepLawful 64 = .ok (.aload_n 0, 1) := by decide +kernel
theorem dX5_keepLawful_65 : decode cX5_keepLawful 65 = .ok (.invokevirtual 229, 3) := by decide +kernel
theorem dX5_keepLawful_68 : decode cX5_keepLawful 68 = .ok (.istore 5, 2) := by decide +kernel
theorem dX5_keepLawful_70 : decode cX5_keepLawful 70 = .ok (.iload 5, 2) := by decide +kernel
theorem dX5_keepLawful_72 : decode cX5_keepLawful 72 = .ok (.ifCond .eq 39, 3) := by decide +kernel
theorem dX5_keepLawful_75 : decode cX5_keepLawful 75 = .ok (.aload_n 0, 1) := by decide +kernel
theorem dX5_keepLawful_76 : decode cX5_keepLawful 76 = .ok (.getfield 123, 3) := by decide +kernel
theorem dX5_keepLawful_79 : decode cX5_keepLawful 79 = .ok (.iload_n 2, 1) := by decide +kernel
theorem dX5_keepLawful_80 : decode cX5_keepLawful 80 = .ok (.iload 4, 2) := by decide +kernel
theorem dX5_keepLawful_82 : decode cX5_keepLawful 82 = .ok (.iastore, 1) := by decide +kernel
theorem dX5_keepLawful_83 : decode cX5_keepLawful 83 = .ok (.iinc 2 1, 3) := by decide +kernel
theorem dX5_keepLawful_86 : decode cX5_keepLawful 86 = .ok (.aload_n 0, 1) := by decide +kernel
theorem dX5_keepLawful_87 : decode cX5_keepLawful 87 = .ok (.aload_n 0, 1) := by decide +kernel
theorem dX5_keepLawful_88 : decode cX5_keepLawful 88 = .ok (.getfield 116, 3) := by decide +kernel
theorem dX5_keepLawful_91 : decode cX5_keepLawful 91 = .ok (.ifCond .ne 12, 3) := by decide +kernel
theorem dX5_keepLawful_94 : decode cX5_keepLawful 94 = .ok (.iload 4, 2) := by decide +kernel
theorem dX5_keepLawful_96 : decode cX5_keepLawful 96 = .ok (.invokestatic 181, 3) := by decide +kernel
theorem dX5_keepLawful_99 : decode cX5_keepLawful 99 = .ok (.iconst (-1), 1) := by decide +kernel
theorem dX5_keepLawful_100 : decode cX5_keepLawful 100 = .ok (.if_icmp .eq 7, 3) := by decide +kernel
theorem dX5_keepLawful_103 : decode cX5_keepLawful 103 = .ok (.iconst 1, 1) := by decide +kernel
theorem dX5_keepLawful_104 : decode cX5_keepLawful 104 = .ok (.goto 4, 3) := by decide +kernel
theorem dX5_keepLawful_107 : decode cX5_keepLawful 107 = .ok (.iconst 0, 1) := by decide +kernel
theorem dX5_keepLawful_108 : decode cX5_keepLawful 108 = .ok (.putfield 116, 3) := by decide +kernel
theorem dX5_keepLawful_111 : decode cX5_keepLawful 111 = .ok (.iinc 3 1, 3) := by decide +kernel
theorem dX5_keepLawful_114 : decode cX5_keepLawful 114 = .ok (.goto (-110), 3) := by decide +kernel
theorem dX5_keepLawful_117 : decode cX5_keepLawful 117 = .ok (.aload_n 0, 1) := by decide +kernel
theorem dX5_keepLawful_118 : decode cX5_keepLawful 118 = .ok (.iload_n 2, 1) := by decide +kernel
theorem dX5_keepLawful_119 : decode cX5_keepLawful 119 = .ok (.putfield 82, 3) := by decide +kernel
theorem dX5_keepLawful_122 : decode cX5_keepLawful 122 = .ok (.return_, 1) := by decide +kernel
set_option maxRecDepth 20000 in
theorem moX5_keepLawful_111 {o : Hp} {k_4 : Hp → Nat → Int32 → Int32 → Option (Hp)} {F : Nat} (mk_4 : ∀ (h : Hp) (x0 : Nat) (x2 : Int32) (x3 : Int32), k_4 h x0 x2 x3 = some o → Le h o) {h : Hp} {x0 : Nat} {x2 : Int32} {x3 : Int32} (hE : sX5_keepLawful_111 F k_4 h x0 x2 x3 = some o) : Le h o := by
  obtain ⟨v_1, ev_1, hE⟩ := nm_e2 hE
  exact mk_4 _ _ _ _ hE
set_option maxRecDepth 20000 in
theorem moX5_keepLawful_108 {o : Hp} {k_4 : Hp → Nat → Int32 → Int32 → Option (Hp)} {F : Nat} (mk_4 : ∀ (h : Hp) (x0 : Nat) (x2 : Int32) (x3 : Int32), k_4 h x0 x2 x3 = some o → Le h o) {h : Hp} {x0 : Nat} {x2 : Int32} {x3 : Int32} {t0 : Int32} {t1 : Nat} (hE : sX5_keepLawful_108 F k_4 h x0 x2 x3 t0 t1 = some o) : Le h o := by
  obtain ⟨g_1, hE⟩ := gd_e hE
  obtain ⟨h_2, eh_2, hE⟩ := nm_e2 hE
  refine (le_I eh_2).tr ?_
  exact moX5_keepLawful_111 mk_4 hE
set_option maxRecDepth 20000 in
theorem moX5_keepLawful_103 {o : Hp} {k_4 : Hp → Nat → Int32 → Int32 → Option (Hp)} {F : Nat} (mk_4 : ∀ (h : Hp) (x0 : Nat) (x2 : Int32) (x3 : Int32), k_4 h x0 x2 x3 = some o → Le h o) {h : Hp} {x0 : Nat} {x2 : Int32} {x3 : Int32} {t0 : Nat} (hE : sX5_keepLawful_103 F k_4 h x0 x2 x3 t0 = some o) : Le h o := by
  exact moX5_keepLawful_108 mk_4 hE
set_option maxRecDepth 20000 in
theorem moX5_keepLawful_70 {o : Hp} {k_4 : Hp → Nat → Int32 → Int32 → Option (Hp)} {F : Nat} (mk_4 : ∀ (h : Hp) (x0 : Nat) (x2 : Int32) (x3 : Int32), k_4 h x0 x2 x3 = some o → Le h o) {h : Hp} {x0 : Nat} {x2 : Int32} {x3 : Int32} {x4 : Int32} {x5 : Int32} (hE : sX5_keepLawful_70 F k_4 h x0 x2 x3 x4 x5 = some o) : Le h o := by
  rcases br_e hE with ⟨_, hE⟩ | ⟨_, hE⟩
  · exact moX5_keepLawful_111 mk_4 hE
  · obtain ⟨r_2, er_2, hE⟩ := cl_e hE
    obtain ⟨g_3, hE⟩ := gd_e hE
    obtain ⟨h_4, eh_4, hE⟩ := nm_e2 hE
    refine (le_I eh_4).tr ?_
    obtain ⟨v_5, ev_5, hE⟩ := nm_e2 hE
    rcases br_e hE with ⟨_, hE⟩ | ⟨_, hE⟩
    · obtain ⟨o_7, eo_7, hE⟩ := cl_e hE
      refine (moX5_takenBy eo_7).tr ?_
      rcases br_e hE with ⟨_, hE⟩ | ⟨_, hE⟩
      · exact moX5_keepLawful_108 mk_4 hE
      · exact moX5_keepLawful_103 mk_4 hE
    · exact moX5_keepLawful_103 mk_4 hE
set_option maxRecDepth 20000 in
theorem moX5_keepLawful_4 {o : Hp} {F : Nat} : ∀ (f : Nat) {h : Hp} {x0 : Nat} {x2 : Int32} {x3 : Int32}, sX5_keepLawful_4 F f h x0 x2 x3 = some o → Le h o := by
  intro f
  induction f with
  | zero =>
    intro h x0 x2 x3 hE
    rw [sX5_keepLawful_4] at hE
    cases hE
  | succ f ih =>
    intro h x0 x2 x3 hE
    rw [sX5_keepLawful_4] at hE
    have mk_4 : ∀ (h : Hp) (x0 : Nat) (x2 : Int32) (x3 : Int32), sX5_keepLawful_4 F f h x0 x2 x3 = some o → Le h o := fun h x0 x2 x3 hE => ih hE
    rcases br_e hE with ⟨_, hE⟩ | ⟨_, hE⟩
    · obtain ⟨h_2, eh_2, hE⟩ := nm_e2 hE
      refine (le_I eh_2).tr ?_
      exact le_some1 hE
    · obtain ⟨r_3, er_3, hE⟩ := cl_e hE
      obtain ⟨g_4, hE⟩ := gd_e hE
      obtain ⟨v_5, ev_5, hE⟩ := nm_e2 hE
      obtain ⟨o_6, eo_6, hE⟩ := cl_e hE
      refine (moX5_isSafe eo_6).tr ?_
      rcases br_e hE with ⟨_, hE⟩ | ⟨_, hE⟩
      · obtain ⟨r_8, er_8, hE⟩ := cl_e hE
        obtain ⟨r_9, er_9, hE⟩ := cl_e hE
        obtain ⟨o_10, eo_10, hE⟩ := cl_e hE
        refine (moX3_copyFrom eo_10).tr ?_
        obtain ⟨r_11, er_11, hE⟩ := cl_e hE
        obtain ⟨o_12, eo_12, hE⟩ := cl_e hE
        refine (moX5_shift eo_12).tr ?_
        obtain ⟨r_13, er_13, hE⟩ := cl_e hE
        obtain ⟨o_14, eo_14, hE⟩ := cl_e hE
        refine (moX5_blast eo_14).tr ?_
        obtain ⟨o_15, eo_15, hE⟩ := cl_e hE
        refine (moX5_mayStand eo_15).tr ?_
        exact moX5_keepLawful_70 mk_4 hE
      · exact moX5_keepLawful_70 mk_4 hE
set_option maxRecDepth 20000 in
theorem moX5_keepLawful {o : Hp} {F : Nat} {h : Hp} {x0 : Nat} {x1 : Int32} (hE : sX5_keepLawful F h x0 x1 = some o) : Le h o := by
  exact moX5_keepLawful_4 _ hE
set_option maxRecDepth 20000 in
theorem bX5_keepLawful_111 {p : Program} {l : Launch} {e : Env} {s : State} {m : MethodId} {args : Array Value} {below : List Frame} {meth : Method} {c : Code} {X : Ec} {h0 : Hp} {o : Hp} {k_4 : Hp → Nat → Int32 → Int32 → Option (Hp)} {F : Nat} (C : Cx X p s m args meth c RX5 cX5_keepLawful 6 none "keepLawful") (hk_4 : ∀ (h : Hp) (x0 : Nat) (x2 : Int32) (x3 : Int32) (H : Heap) (locs : List Loc), hK h x0 = 5 → Km h0 h → Wx X h H → va_S (aA (eB X)) s.heap H locs → ∀ (ls : Array Slot), lv_has ls 6 [(0, .ref x0), (2, .int x2), (3, .int x3)] → k_4 h x0 x2 x3 = some o → W p l e (rm 2 86) s m args below meth c H locs 0 0 (MQ below (QV X h0 o) args s 0 0 (aA (eB X))) (F0 m 4 ls [])) {h : Hp} {x0 : Nat} {x2 : Int32} {x3 : Int32} {H : Heap} {locs : List Loc} (k_x0 : hK h x0 = 5) (hkm : Km h0 h) (hW : Wx X h H) (hZ : va_S (aA (eB X)) s.heap H locs) (ls : Array Slot) (hl : lv_has ls 6 [(0, .ref x0), (2, .int x2), (3, .int x3)]) (hE : sX5_keepLawful_111 F k_4 h x0 x2 x3 = some o) : W p l e (rm 2 86) s m args below meth c H locs 0 0 (MQ below (QV X h0 o) args s 0 0 (aA (eB X))) (F0 m 111 ls []) := by
  obtain ⟨v_1, ev_1, hE⟩ := nm_e2 hE
  refine lv_iinc (v := v_1) (lv' := [(3, .int v_1), (0, .ref x0), (2, .int x2)]) C.1 C.2.1 dX5_keepLawful_111 hl (k := 2) rfl (by rw [ev_1]; rfl) (by decide) rfl (fun ls hl => ?_)
  refine lv_goto (tgt := 4) C.1 C.2.1 dX5_keepLawful_114 (by decide) ?_
  exact hk_4 _ _ _ _ _ _ k_x0 hkm hW hZ _ (lv_sub hl [1, 2, 0] rfl) hE
set_option maxRecDepth 20000 in
theorem bX5_keepLawful_108 {p : Program} {l : Launch} {e : Env} {s : State} {m : MethodId} {args : Array Value} {below : List Frame} {meth : Method} {c : Code} {X : Ec} {h0 : Hp} {o : Hp} {k_4 : Hp → Nat → Int32 → Int32 → Option (Hp)} {F : Nat} (C : Cx X p s m args meth c RX5 cX5_keepLawful 6 none "keepLawful") (hk_4 : ∀ (h : Hp) (x0 : Nat) (x2 : Int32) (x3 : Int32) (H : Heap) (locs : List Loc), hK h x0 = 5 → Km h0 h → Wx X h H → va_S (aA (eB X)) s.heap H locs → ∀ (ls : Array Slot), lv_has ls 6 [(0, .ref x0), (2, .int x2), (3, .int x3)] → k_4 h x0 x2 x3 = some o → W p l e (rm 2 86) s m args below meth c H locs 0 0 (MQ below (QV X h0 o) args s 0 0 (aA (eB X))) (F0 m 4 ls [])) {h : Hp} {x0 : Nat} {x2 : Int32} {x3 : Int32} {t0 : Int32} {t1 : Nat} {H : Heap} {locs : List Loc} (k_x0 : hK h x0 = 5) (k_t1 : hK h t1 = 5) (hkm : Km h0 h) (hW : Wx X h H) (hZ : va_S (aA (eB X)) s.heap H locs) (ls : Array Slot) (hl : lv_has ls 6 [(0, .ref x0), (2, .int x2), (3, .int x3)]) (hE : sX5_keepLawful_108 F k_4 h x0 x2 x3 t0 t1 = some o) : W p l e (rm 2 86) s m args below meth c H locs 0 0 (MQ below (QV X h0 o) args s 0 0 (aA (eB X))) (F0 m 108 ls [.int t0, .ref t1]) := by
  obtain ⟨g_1, hE⟩ := gd_e hE
  obtain ⟨h_2, eh_2, hE⟩ := nm_e2 hE
  refine pf_X5_116 C hW hZ k_t1 (narB g_1) eh_2 dX5_keepLawful_108 (fun _ _ hW km hZ => ?_)
  replace hkm := hkm.tr km
  replace k_x0 := km.at k_x0 (by decide)
  exact bX5_keepLawful_111 C hk_4 k_x0 hkm hW hZ _ (lv_sub hl [0, 1, 2] rfl) hE
set_option maxRecDepth 20000 in
theorem bX5_keepLawful_103 {p : Program} {l : Launch} {e : Env} {s : State} {m : MethodId} {args : Array Value} {below : List Frame} {meth : Method} {c : Code} {X : Ec} {h0 : Hp} {o : Hp} {k_4 : Hp → Nat → Int32 → Int32 → Option (Hp)} {F : Nat} (C : Cx X p s m args meth c RX5 cX5_keepLawful 6 none "keepLawful") (hk_4 : ∀ (h : Hp) (x0 : Nat) (x2 : Int32) (x3 : Int32) (H : Heap) (locs : List Loc), hK h x0 = 5 → Km h0 h → Wx X h H → va_S (aA (eB X)) s.heap H locs → ∀ (ls : Array Slot), lv_has ls 6 [(0, .ref x0), (2, .int x2), (3, .int x3)] → k_4 h x0 x2 x3 = some o → W p l e (rm 2 86) s m args below meth c H locs 0 0 (MQ below (QV X h0 o) args s 0 0 (aA (eB X))) (F0 m 4 ls [])) {h : Hp} {x0 : Nat} {x2 : Int32} {x3 : Int32} {t0 : Nat} {H : Heap} {locs : List Loc} (k_x0 : hK h x0 = 5) (k_t0 : hK h t0 = 5) (hkm : Km h0 h) (hW : Wx X h H) (hZ : va_S (aA (eB X)) s.heap H locs) (ls : Array Slot) (hl : lv_has ls 6 [(0, .ref x0), (2, .int x2), (3, .int x3)]) (hE : sX5_keepLawful_103 F k_4 h x0 x2 x3 t0 = some o) : W p l e (rm 2 86) s m args below meth c H locs 0 0 (MQ below (QV X h0 o) args s 0 0 (aA (eB X))) (F0 m 103 ls [.ref t0]) := by
  refine lv_iconst (v := (1 : Int32)) C.1 C.2.1 dX5_keepLawful_103 (by decide) ?_
  refine lv_goto (tgt := 108) C.1 C.2.1 dX5_keepLawful_104 (by decide) ?_
  exact bX5_keepLawful_108 C hk_4 k_x0 k_t0 hkm hW hZ _ (lv_sub hl [0, 1, 2] rfl) hE
set_option maxRecDepth 20000 in
theorem bX5_keepLawful_70 {p : Program} {l : Launch} {e : Env} {s : State} {m : MethodId} {args : Array Value} {below : List Frame} {meth : Method} {c : Code} {X : Ec} {h0 : Hp} {o : Hp} {k_4 : Hp → Nat → Int32 → Int32 → Option (Hp)} {F : Nat} (C : Cx X p s m args meth c RX5 cX5_keepLawful 6 none "keepLawful") (hk_4 : ∀ (h : Hp) (x0 : Nat) (x2 : Int32) (x3 : Int32) (H : Heap) (locs : List Loc), hK h x0 = 5 → Km h0 h → Wx X h H → va_S (aA (eB X)) s.heap H locs → ∀ (ls : Array Slot), lv_has ls 6 [(0, .ref x0), (2, .int x2), (3, .int x3)] → k_4 h x0 x2 x3 = some o → W p l e (rm 2 86) s m args below meth c H locs 0 0 (MQ below (QV X h0 o) args s 0 0 (aA (eB X))) (F0 m 4 ls [])) {h : Hp} {x0 : Nat} {x2 : Int32} {x3 : Int32} {x4 : Int32} {x5 : Int32} {H : Heap} {locs : List Loc} (k_x0 : hK h x0 = 5) (hkm : Km h0 h) (hW : Wx X h H) (hZ : va_S (aA (eB X)) s.heap H locs) (ls : Array Slot) (hl : lv_has ls 6 [(0, .ref x0), (2, .int x2), (3, .int x3), (4, .int x4), (5, .int x5)]) (hE : sX5_keepLawful_70 F k_4 h x0 x2 x3 x4 x5 = some o) : W p l e (rm 2 86) s m args below meth c H locs 0 0 (MQ below (QV X h0 o) args s 0 0 (aA (eB X))) (F0 m 70 ls []) := by
  refine lv_iload C.1 C.2.1 dX5_keepLawful_70 (lv_at hl 4 rfl) ?_
  refine lv_if_eq (tgt := 111) C.1 C.2.1 dX5_keepLawful_72 (by decide) (fun c_1 => ?_) (fun c_1 => ?_)
  · have hE := br_p hE c_1
    exact bX5_keepLawful_111 C hk_4 k_x0 hkm hW hZ _ (lv_sub hl [0, 1, 2] rfl) hE
  · have hE := br_n hE c_1
    refine lv_aload_n C.1 C.2.1 dX5_keepLawful_75 rfl (lv_at hl 0 rfl) ?_
    obtain ⟨r_2, er_2, hE⟩ := cl_e hE
    refine gf_X5_123 C hW k_x0 er_2 dX5_keepLawful_76 (fun k_r_2 => ?_)
    refine lv_iload_n C.1 C.2.1 dX5_keepLawful_79 rfl (lv_at hl 1 rfl) ?_
    refine lv_iload C.1 C.2.1 dX5_keepLawful_80 (lv_at hl 3 rfl) ?_
    obtain ⟨g_3, hE⟩ := gd_e hE
    obtain ⟨h_4, eh_4, hE⟩ := nm_e2 hE
    refine y_iast C hW hZ k_r_2 g_3 eh_4 dX5_keepLawful_82 (fun _ _ hW km hZ => ?_)
    replace hkm := hkm.tr km
    replace k_x0 := km.at k_x0 (by decide)
    obtain ⟨v_5, ev_5, hE⟩ := nm_e2 hE
    refine lv_iinc (v := v_5) (lv' := [(2, .int v_5), (0, .ref x0), (3, .int x3), (4, .int x4), (5, .int x5)]) C.1 C.2.1 dX5_keepLawful_83 hl (k := 1) rfl (by rw [ev_5]; rfl) (by decide) rfl (fun ls hl => ?_)
    refine lv_aload_n C.1 C.2.1 dX5_keepLawful_86 rfl (lv_at hl 1 rfl) ?_
    refine lv_aload_n C.1 C.2.1 dX5_keepLawful_87 rfl (lv_at hl 1 rfl) ?_
    refine gf_X5_116 C hW k_x0 dX5_keepLawful_88 ?_
    refine lv_if_ne (tgt := 103) C.1 C.2.1 dX5_keepLawful_91 (by decide) (fun c_6 => ?_) (fun c_6 => ?_)
    · have hE := br_n hE c_6
      exact bX5_keepLawful_103 C hk_4 k_x0 k_x0 hkm hW hZ _ (lv_sub hl [1, 0, 2] rfl) hE
    · have hE := br_p hE c_6
      refine lv_iload C.1 C.2.1 dX5_keepLawful_94 (lv_at hl 3 rfl) ?_
      obtain ⟨o_7, eo_7, hE⟩ := cl_e hE
      refine x_kI (o := o_7) (z_runS (As := [.int x4]) (rest := [.ref x0]) C (ct_X5_takenBy l X eo_7) cw_X5_181 hW hZ rfl hl.1 (Nat.le_of_ble_eq_true rfl) rfl dX5_keepLawful_96 ⟨Nat.le_of_ble_eq_true rfl, Nat.le_of_ble_eq_true rfl⟩ ⟨Nat.le_refl _, Nat.le_refl _⟩) hZ (fun _ _ hW km hZ => ?_)
      replace hkm := hkm.tr km
      replace k_x0 := km.at k_x0 (by decide)
      refine lv_iconst (v := (-1 : Int32)) C.1 C.2.1 dX5_keepLawful_99 (by decide) ?_
      refine lv_icmp_eq (tgt := 107) C.1 C.2.1 dX5_keepLawful_100 (by decide) (fun c_8 => ?_) (fun c_8 => ?_)
      · have hE := br_p hE c_8
        refine lv_iconst (v := (0 : Int32)) C.1 C.2.1 dX5_keepLawful_107 (by decide) ?_
        exact bX5_keepLawful_108 C hk_4 k_x0 k_x0 hkm hW hZ _ (lv_sub hl [1, 0, 2] rfl) hE
      · have hE := br_n hE c_8
        exact bX5_keepLawful_103 C hk_4 k_x0 k_x0 hkm hW hZ _ (lv_sub hl [1, 0, 2] rfl) hE
set_option maxRecDepth 20000 in
theorem bX5_keepLawful_4 {p : Program} {l : Launch} {e : Env} {s : State} {m : MethodId} {args : Array Value} {below : List Frame} {meth : Method} {c : Code} {X : Ec} {h0 : Hp} {o : Hp} {F : Nat} (C : Cx X p s m args meth c RX5 cX5_keepLawful 6 none "keepLawful") : ∀ (f : Nat) {h : Hp} {x0 : Nat} {x2 : Int32} {x3 : Int32} {H : Heap} {locs : List Loc} (k_x0 : hK h x0 = 5), Km h0 h → Wx X h H → va_S (aA (eB X)) s.heap H locs → ∀ (ls : Array Slot), lv_has ls 6 [(0, .ref x0), (2, .int x2), (3, .int x3)] → sX5_keepLawful_4 F f h x0 x2 x3 = some o → W p l e (rm 2 86) s m args below meth c H locs 0 0 (MQ below (QV X h0 o) args s 0 0 (aA (eB X))) (F0 m 4 ls []) := by
  intro f
  induction f with
  | zero =>
    intro h x0 x2 x3 H locs k_x0 hkm hW hZ ls hl hE
    rw [sX5_keepLawful_4] at hE
    cases hE
  | succ f ih =>
    intro h x0 x2 x3 H locs k_x0 hkm hW hZ ls hl hE
    rw [sX5_keepLawful_4] at hE
    have hk_4 : ∀ (h : Hp) (x0 : Nat) (x2 : Int32) (x3 : Int32) (H : Heap) (locs : List Loc), hK h x0 = 5 → Km h0 h → Wx X h H → va_S (aA (eB X)) s.heap H locs → ∀ (ls : Array Slot), lv_has ls 6 [(0, .ref x0), (2, .int x2), (3, .int x3)] → sX5_keepLawful_4 F f h x0 x2 x3 = some o → W p l e (rm 2 86) s m args below meth c H locs 0 0 (MQ below (QV X h0 o) args s 0 0 (aA (eB X))) (F0 m 4 ls []) := fun h x0 x2 x3 H locs k_x0 a b c ls hl hE => ih k_x0 a b c ls hl hE
    refine lv_iload_n C.1 C.2.1 dX5_keepLawful_4 rfl (lv_at hl 2 rfl) ?_
    refine lv_aload_n C.1 C.2.1 dX5_keepLawful_5 rfl (lv_at hl 0 rfl) ?_
    refine gf_X5_82 C hW k_x0 dX5_keepLawful_6 ?_
    refine lv_icmp_ge (tgt := 117) C.1 C.2.1 dX5_keepLawful_9 (by decide) (fun c_1 => ?_) (fun c_1 => ?_)
    · have hE := br_p hE c_1
      refine lv_aload_n C.1 C.2.1 dX5_keepLawful_117 rfl (lv_at hl 0 rfl) ?_
      refine lv_iload_n C.1 C.2.1 dX5_keepLawful_118 rfl (lv_at hl 1 rfl) ?_
      obtain ⟨h_2, eh_2, hE⟩ := nm_e2 hE
      refine pf_X5_82 C hW hZ k_x0 eh_2 dX5_keepLawful_119 (fun _ _ hW km hZ => ?_)
      replace hkm := hkm.tr km
      replace k_x0 := km.at k_x0 (by decide)
      exact x_vret C rfl hW hZ hkm hE dX5_keepLawful_122
    · have hE := br_n hE c_1
      refine lv_aload_n C.1 C.2.1 dX5_keepLawful_12 rfl (lv_at hl 0 rfl) ?_
      obtain ⟨r_3, er_3, hE⟩ := cl_e hE
      refine gf_X5_123 C hW k_x0 er_3 dX5_keepLawful_13 (fun k_r_3 => ?_)
      refine lv_iload_n C.1 C.2.1 dX5_keepLawful_16 rfl (lv_at hl 2 rfl) ?_
      obtain ⟨g_4, hE⟩ := gd_e hE
      refine y_iald C hW k_r_3 g_4 dX5_keepLawful_17 ?_
      obtain ⟨v_5, ev_5, hE⟩ := nm_e2 hE
      refine x_nmI ev_5 ?_
      refine lv_istore (lv' := [(4, .int v_5), (0, .ref x0), (2, .int x2), (3, .int x3)]) C.1 C.2.1 dX5_keepLawful_18 hl (by decide) rfl (fun ls hl => ?_)
      refine lv_aload_n C.1 C.2.1 dX5_keepLawful_20 rfl (lv_at hl 1 rfl) ?_
      refine lv_iload C.1 C.2.1 dX5_keepLawful_21 (lv_at hl 0 rfl) ?_
      obtain ⟨o_6, eo_6, hE⟩ := cl_e hE
      refine x_kI (o := o_6) (z_runV (As := [.int v_5]) (rest := []) C (ct_X5_isSafe l X k_x0 eo_6) cw_X5_215 hW hZ k_x0 (by decide) rfl rfl rfl hl.1 (Nat.le_of_ble_eq_true rfl) rfl dX5_keepLawful_23 ⟨Nat.le_of_ble_eq_true rfl, Nat.le_of_ble_eq_true rfl⟩ ⟨Nat.le_refl _, Nat.le_refl _⟩) hZ (fun _ _ hW km hZ => ?_)
      replace hkm := hkm.tr km
      replace k_x0 := km.at k_x0 (by decide)
      refine lv_istore (lv' := [(5, .int o_6.1), (4, .int v_5), (0, .ref x0), (2, .int x2), (3, .int x3)]) C.1 C.2.1 dX5_keepLawful_26 hl (by decide) rfl (fun ls hl => ?_)
      refine lv_iload C.1 C.2.1 dX5_keepLawful_28 (lv_at hl 0 rfl) ?_
      refine lv_if_ne (tgt := 70) C.1 C.2.1 dX5_keepLawful_30 (by decide) (fun c_7 => ?_) (fun c_7 => ?_)
      · have hE := br_n hE c_7
        exact bX5_keepLawful_70 C hk_4 k_x0 hkm hW hZ _ (lv_sub hl [2, 3, 4, 1, 0] rfl) hE
      · have hE := br_p hE c_7
        refine lv_aload_n C.1 C.2.1 dX5_keepLawful_33 rfl (lv_at hl 2 rfl) ?_
        obtain ⟨r_8, er_8, hE⟩ := cl_e hE
        refine gf_X5_18 C hW k_x0 er_8 dX5_keepLawful_34 (fun k_r_8 => ?_)
        refine lv_aload_n C.1 C.2.1 dX5_keepLawful_37 rfl (lv_at hl 2 rfl) ?_
        obtain ⟨r_9, er_9, hE⟩ := cl_e hE
        refine gf_X5_71 C hW k_x0 er_9 dX5_keepLawful_38 (fun k_r_9 => ?_)
        obtain ⟨o_10, eo_10, hE⟩ := cl_e hE
        refine x_kV (o := o_10) (z_runV (As := [.ref r_9]) (rest := []) C (ct_X3_copyFrom l X F k_r_8 k_r_9 eo_10) cw_X5_218 hW hZ k_r_8 (by decide) rfl rfl rfl hl.1 (Nat.le_of_ble_eq_true rfl) rfl dX5_keepLawful_41 ⟨Nat.le_of_ble_eq_true rfl, Nat.le_of_ble_eq_true rfl⟩ ⟨Nat.le_refl _, Nat.le_refl _⟩) hZ (fun _ _ hW km hZ => ?_)
        replace hkm := hkm.tr km
        replace k_x0 := km.at k_x0 (by decide)
        refine lv_aload_n C.1 C.2.1 dX5_keepLawful_44 rfl (lv_at hl 2 rfl) ?_
        refine lv_aload_n C.1 C.2.1 dX5_keepLawful_45 rfl (lv_at hl 2 rfl) ?_
        obtain ⟨r_11, er_11, hE⟩ := cl_e hE
        refine gf_X5_18 C hW k_x0 er_11 dX5_keepLawful_46 (fun k_r_11 => ?_)
        refine lv_iload C.1 C.2.1 dX5_keepLawful_49 (lv_at hl 1 rfl) ?_
        obtain ⟨o_12, eo_12, hE⟩ := cl_e hE
        refine x_kV (o := o_12) (z_runV (As := [.ref r_11, .int v_5]) (rest := []) C (ct_X5_shift l X F k_x0 k_r_11 eo_12) cw_X5_222 hW hZ k_x0 (by decide) rfl rfl rfl hl.1 (Nat.le_of_ble_eq_true rfl) rfl dX5_keepLawful_51 ⟨Nat.le_of_ble_eq_true rfl, Nat.le_of_ble_eq_true rfl⟩ ⟨Nat.le_refl _, Nat.le_refl _⟩) hZ (fun _ _ hW km hZ => ?_)
        replace hkm := hkm.tr km
        replace k_x0 := km.at k_x0 (by decide)
        refine lv_aload_n C.1 C.2.1 dX5_keepLawful_54 rfl (lv_at hl 2 rfl) ?_
        refine lv_aload_n C.1 C.2.1 dX5_keepLawful_55 rfl (lv_at hl 2 rfl) ?_
        obtain ⟨r_13, er_13, hE⟩ := cl_e hE
        refine gf_X5_18 C hW k_x0 er_13 dX5_keepLawful_56 (fun k_r_13 => ?_)
        refine lv_iload C.1 C.2.1 dX5_keepLawful_59 (lv_at hl 1 rfl) ?_
        obtain ⟨o_14, eo_14, hE⟩ := cl_e hE
        refine x_kV (o := o_14) (z_runV (As := [.ref r_13, .int v_5]) (rest := []) C (ct_X5_blast l X F k_x0 k_r_13 eo_14) cw_X5_226 hW hZ k_x0 (by decide) rfl rfl rfl hl.1 (Nat.le_of_ble_eq_true rfl) rfl dX5_keepLawful_61 ⟨Nat.le_of_ble_eq_true rfl, Nat.le_of_ble_eq_true rfl⟩ ⟨Nat.le_refl _, Nat.le_refl _⟩) hZ (fun _ _ hW km hZ => ?_)
        replace hkm := hkm.tr km
        replace k_x0 := km.at k_x0 (by decide)
        refine lv_aload_n C.1 C.2.1 dX5_keepLawful_64 rfl (lv_at hl 2 rfl) ?_
        obtain ⟨o_15, eo_15, hE⟩ := cl_e hE
        refine x_kI (o := o_15) (z_runV (As := []) (rest := []) C (ct_X5_mayStand l X F k_x0 eo_15) cw_X5_229 hW hZ k_x0 (by decide) rfl rfl rfl hl.1 (Nat.le_of_ble_eq_true rfl) rfl dX5_keepLawful_65 ⟨Nat.le_of_ble_eq_true rfl, Nat.le_of_ble_eq_true rfl⟩ ⟨Nat.le_refl _, Nat.le_refl _⟩) hZ (fun _ _ hW km hZ => ?_)
        replace hkm := hkm.tr km
        replace k_x0 := km.at k_x0 (by decide)
        refine lv_istore (lv' := [(5, .int o_15.1), (4, .int v_5), (0, .ref x0), (2, .int x2), (3, .int x3)]) C.1 C.2.1 dX5_keepLawful_68 hl (by decide) rfl (fun ls hl => ?_)
        exact bX5_keepLawful_70 C hk_4 k_x0 hkm hW hZ _ (lv_sub hl [2, 3, 4, 1, 0] rfl) hE
set_option maxRecDepth 20000 in
theorem ct_X5_keepLawful (l : Launch) (X : Ec) (F : Nat) {h : Hp} {x0 : Nat} {x1 : Int32} {o : Hp} (k_x0 : hK h x0 = 5) (hE : sX5_keepLawful F h x0 x1 = some o) : MetV l yX5_keepLawful cX5_keepLawful 6 none 2 86 X [.ref x0, .int x1] h o := by
  refine x_met (by decide) (Nat.le_of_ble_eq_true rfl) ?_
  intro p e s m below meth c ls C hl hW hZ
  have hl : lv_has ls 6 [(0, .ref x0), (1, .int x1)] := hl
  have hkm : Km h h := Km.rf h
  refine lv_iload_n C.1 C.2.1 dX5_keepLawful_0 rfl (lv_at hl 1 rfl) ?_
  refine lv_istore_n (lv' := [(2, .int x1), (0, .ref x0), (1, .int x1)]) C.1 C.2.1 dX5_keepLawful_1 rfl hl (by decide) rfl (fun ls hl => ?_)
  refine lv_iload_n C.1 C.2.1 dX5_keepLawful_2 rfl (lv_at hl 2 rfl) ?_
  refine lv_istore_n (lv' := [(3, .int x1), (2, .int x1), (0, .ref x0), (1, .int x1)]) C.1 C.2.1 dX5_keepLawful_3 rfl hl (by decide) rfl (fun ls hl => ?_)
  exact bX5_keepLawful_4 C F k_x0 hkm hW hZ _ (lv_sub hl [2, 1, 0] rfl) hE
set_option maxRecDepth 100000 in
theorem m_84 : Cond.fieldLink RX5 206 (TX1 3).1 (TX1 3).2.1 (TX1 3).2.2.1 ∈ W0 := w0_in (List.mem_append_right _ (List.mem_of_getElem? (i := 84) rfl)) rfl
section
variable {p : Program} {l : Launch} {e : Env} {R : Room} {s : State} {m : MethodId} {args : Array Value} {below : List Frame} {meth : Method} {c : Code} {H : Heap} {locs : List Loc} {cells slots : Nat} {Q : State → Prop}
variable {cc : ByteArray} {pc : Nat} {ls : Array Slot} {rest : List Value} {X : Ec} {h h1 : Hp} {nL : Nat} {rt : Option FieldType} {mn : String}
theorem gf_X5_206 {a : Nat} (C : Cx X p s m args meth c RX5 cc nL rt mn) (hW : Wx X h H) (ha : hK h a = 1) (hdg : decode cc pc = .ok (.getfield 206, 3)) (kk : W p l e R s m args below meth c H locs cells slots Q (F0 m (pc + 3) ls (.int (hI h a 3) :: rest))) : W p l e R s m args below meth c H locs cells slots Q (F0 m pc ls (.ref a :: rest)) :=
  y_geti C hW ha i_X1 (by decide) rfl (by decide) m_84 rfl hdg kk
end
theorem dX5_addDrops_0 : decode cX5_addDrops 0 = .ok (.aload_n 0, 1) := by decide +kernel
theorem dX5_addDrops_1 : decode cX5_addDrops 1 = .ok (.getfield 71, 3) := by decide +kernel
theorem dX5_addDrops_4 : decode cX5_addDrops 4 = .ok (.getfield 42, 3) := by decide +kernel
theorem dX5_addDrops_7 : decode cX5_addDrops 7 = .ok (.iload_n 1, 1) := by decide +kernel
theorem dX5_addDrops_8 : decode cX5_addDrops 8 = .ok (.baload, 1) := by decide +kernel
theorem dX5_addDrops_9 : decode cX5_addDrops 9 = .ok (.iconst (-1), 1) := by decide +kernel
theorem dX5_addDrops_10 : decode cX5_addDrops 10 = .ok (.if_icmp .eq 4, 3) := by decide +kernel
theorem dX5_addDrops_13 : decode cX5_addDrops 13 = .ok (.return_, 1) := by decide +kernel
theorem dX5_addDrops_14 : decode cX5_addDrops 14 = .ok (.aload_n 0, 1) := by decide +kernel
theorem dX5_addDrops_15 : decode cX5_addDrops 15 = .ok (.getfield 22, 3) := by decide +kernel
theorem dX5_addDrops_18 : decode cX5_addDrops 18 = .ok (.iload_n 1, 1) := by decide +kernel
theorem dX5_addDrops_19 : decode cX5_addDrops 19 = .ok (.iconst 0, 1) := by decide +kernel
theorem dX5_addDrops_20 : decode cX5_addDrops 20 = .ok (.invokevirtual 187, 3) := by decide +kernel
theorem dX5_addDrops_23 : decode cX5_addDrops 23 = .ok (.ifCond .ne 15, 3) := by decide +kernel
theorem dX5_addDrops_26 : decode cX5_addDrops 26 = .ok (.aload_n 0, 1) := by decide +kernel
theorem dX5_addDrops_27 : decode cX5_addDrops 27 = .ok (.getfield 22, 3) := by decide +kernel
theorem dX5_addDrops_30 : decode cX5_addDrops 30 = .ok (.iload_n 1, 1) := by decide +kernel
theorem dX5_addDrops_31 : decode cX5_addDrops 31 = .ok (.iconst 1, 1) := by decide +kernel
theorem dX5_addDrops_32 : decode cX5_addDrops 32 = .ok (.invokevirtual 187, 3) := by decide +kernel
theorem dX5_addDrops_35 : decode cX5_addDrops 35 = .ok (.ifCond .eq 7, 3) := by decide +kernel
theorem dX5_addDrops_38 : decode cX5_addDrops 38 = .ok (.iconst 1, 1) := by decide +kernel
theorem dX5_addDrops_39 : decode cX5_addDrops 39 = .ok (.goto 4, 3) := by decide +kernel
theorem dX5_addDrops_42 : decode cX5_addDrops 42 = .ok (.iconst 0, 1) := by decide +kernel
theorem dX5_addDrops_43 : decode cX5_addDrops 43 = .ok (.istore_n 2, 1) := by decide +kernel
theorem dX5_addDrops_44 : decode cX5_addDrops 44 = .ok (.iconst 0, 1) := by decide +kernel
theorem dX5_addDrops_45 : decode cX5_addDrops 45 = .ok (.istore_n 3, 1) := by decide +kernel
theorem dX5_addDrops_46 : decode cX5_addDrops 46 = .ok (.iload_n 3, 1) := by decide +kernel
theorem dX5_addDrops_47 : decode cX5_addDrops 47 = .ok (.aload_n 0, 1) := by decide +kernel
theorem dX5_addDrops_48 : decode cX5_addDrops 48 = .ok (.getfield 22, 3) := by decide +kernel
theorem dX5_addDrops_51 : decode cX5_addDrops 51 = .ok (.getfield 206, 3) := by decide +kernel
theorem dX5_addDrops_54 : decode cX5_addDrops 54 = .ok (.if_icmp .ge 53, 3) := by decide +kernel
theorem dX5_addDrops_57 : decode cX5_addDrops 57 = .ok (.aload_n 0, 1) := by decide +kernel
theorem dX5_addDrops_58 : decode cX5_addDrops 58 = .ok (.getfield 71, 3) := by decide +kernel
theorem dX5_addDrops_61 : decode cX5_addDrops 61 = .ok (.aload_n 0, 1) := by decide +kernel
theorem dX5_addDrops_62 : decode cX5_addDrops 62 = .ok (.getfield 71, 3) := by decide +kernel
theorem dX5_addDrops_65 : decode cX5_addDrops 65 = .ok (.getfield 78, 3) := by decide +kernel
theorem dX5_addDrops_68 : decode cX5_addDrops 68 = .ok (.iload_n 3, 1) := by decide +kernel
theorem dX5_addDrops_69 : decode cX5_addDrops 69 = .ok (.invokevirtual 209, 3) := by decide +kernel
theorem dX5_addDrops_72 : decode cX5_addDrops 72 = .ok (.ifCond .le 29, 3) := by decide +kernel
theorem dX5_addDrops_75 : decode cX5_addDrops 75 = .ok (.iload_n 2, 1) := by decide +kernel
theorem dX5_addDrops_76 : decode cX5_addDrops 76 = .ok (.ifCond .eq 14, 3) := by decide +kernel
theorem dX5_addDrops_79 : decode cX5_addDrops 79 = .ok (.aload_n 0, 1) := by decide +kernel
theorem dX5_addDrops_80 : decode cX5_addDrops 80 = .ok (.getfield 22, 3) := by decide +kernel
theorem dX5_addDrops_83 : decode cX5_addDrops 83 = .ok (.iload_n 3, 1) := by decide +kernel
theorem dX5_addDrops_84 : decode cX5_addDrops 84 = .ok (.invokevirtual 212, 3) := by decide +kernel
theorem dX5_addDrops_87 : decode cX5_addDrops 87 = .ok (.ifCond .ne 14, 3) := by decide +kernel
theorem dX5_addDrops_90 : decode cX5_addDrops 90 = .ok (.aload_n 0, 1) := by decide +kernel
theorem dX5_addDrops_91 : decode cX5_addDrops 91 = .ok (.iconst 0, 1) := by decide +kernel
theorem dX5_addDrops_92 : decode cX5_addDrops 92 = .ok (.iload_n 1, 1) := by decide +kernel
theorem dX5_addDrops_93 : decode cX5_addDrops 93 = .ok (.iload_n 3, 1) := by decide +kernel
theorem dX5_addDrops_94 : decode cX5_addDrops 94 = .ok (.iconst 3, 1) := by decide +kernel
theorem dX5_addDrops_95 : decode cX5_addDrops 95 = .ok (.invokestatic 176, 3) := by decide +kernel
theorem dX5_addDrops_98 : decode cX5_addDrops 98 = .ok (.invokevirtual 170, 3) := by decide +kernel
theorem dX5_addDrops_101 : decode cX5_addDrops 101 = .ok (.iinc 3 1, 3) := by decide +kernel
theorem dX5_addDrops_104 : decode cX5_addDrops 104 = .ok (.goto (-58), 3) := by decide +kernel
theorem dX5_addDrops_107 : decode cX5_addDrops 107 = .ok (.return_, 1) := by decide +kernel
set_option maxRecDepth 20000 in
theorem moX5_addDrops_101 {o : Hp} {k_46 : Hp → Nat → Int32 → Int32 → Int32 → Option (Hp)} {F : Nat} (mk_46 : ∀ (h : Hp) (x0 : Nat) (x1 : Int32) (x2 : Int32) (x3 : Int32), k_46 h x0 x1 x2 x3 = some o → Le h o) {h : Hp} {x0 : Nat} {x1 : Int32} {x2 : Int32} {x3 : Int32} (hE : sX5_addDrops_101 F k_46 h x0 x1 x2 x3 = some o) : Le h o := by
  obtain ⟨v_1, ev_1, hE⟩ := nm_e2 hE
  exact mk_46 _ _ _ _ _ hE
set_option maxRecDepth 20000 in
theorem moX5_addDrops_90 {o : Hp} {k_46 : Hp → Nat → Int32 → Int32 → Int32 → Option (Hp)} {F : Nat} (mk_46 : ∀ (h : Hp) (x0 : Nat) (x1 : Int32) (x2 : Int32) (x3 : Int32), k_46 h x0 x1 x2 x3 = some o → Le h o) {h : Hp} {x0 : Nat} {x1 : Int32} {x2 : Int32} {x3 : Int32} (hE : sX5_addDrops_90 F k_46 h x0 x1 x2 x3 = some o) : Le h o := by
  obtain ⟨o_1, eo_1, hE⟩ := cl_e hE
  refine (moX5_plainMove eo_1).tr ?_
  obtain ⟨o_2, eo_2, hE⟩ := cl_e hE
  refine (moX5_addMove eo_2).tr ?_
  exact moX5_addDrops_101 mk_46 hE
set_option maxRecDepth 20000 in
theorem moX5_addDrops_46 {o : Hp} {F : Nat} : ∀ (f : Nat) {h : Hp} {x0 : Nat} {x1 : Int32} {x2 : Int32} {x3 : Int32}, sX5_addDrops_46 F f h x0 x1 x2 x3 = some o → Le h o := by
  intro f
  induction f with
  | zero =>
    intro h x0 x1 x2 x3 hE
    rw [sX5_addDrops_46] at hE
    cases hE
  | succ f ih =>
    intro h x0 x1 x2 x3 hE
    rw [sX5_addDrops_46] at hE
    have mk_46 : ∀ (h : Hp) (x0 : Nat) (x1 : Int32) (x2 : Int32) (x3 : Int32), sX5_addDrops_46 F f h x0 x1 x2 x3 = some o → Le h o := fun h x0 x1 x2 x3 hE => ih hE
    obtain ⟨r_1, er_1, hE⟩ := cl_e hE
    rcases br_e hE with ⟨_, hE⟩ | ⟨_, hE⟩
    · exact le_some1 hE
    · obtain ⟨r_3, er_3, hE⟩ := cl_e hE
      obtain ⟨r_4, er_4, hE⟩ := cl_e hE
      obtain ⟨o_5, eo_5, hE⟩ := cl_e hE
      refine (moX3_inHand eo_5).tr ?_
      rcases br_e hE with ⟨_, hE⟩ | ⟨_, hE⟩
      · exact moX5_addDrops_101 mk_46 hE
      · rcases br_e hE with ⟨_, hE⟩ | ⟨_, hE⟩
        · exact moX5_addDrops_90 mk_46 hE
        · obtain ⟨r_8, er_8, hE⟩ := cl_e hE
          obtain ⟨o_9, eo_9, hE⟩ := cl_e hE
          refine (moX1_becomesOthers eo_9).tr ?_
          rcases br_e hE with ⟨_, hE⟩ | ⟨_, hE⟩
          · exact moX5_addDrops_90 mk_46 hE
          · exact moX5_addDrops_101 mk_46 hE
set_option maxRecDepth 20000 in
theorem moX5_addDrops_43 {o : Hp} {F : Nat} {h : Hp} {x0 : Nat} {x1 : Int32} {t0 : Int32} (hE : sX5_addDrops_43 F h x0 x1 t0 = some o) : Le h o := by
  exact moX5_addDrops_46 _ hE
set_option maxRecDepth 20000 in
theorem moX5_addDrops_38 {o : Hp} {F : Nat} {h : Hp} {x0 : Nat} {x1 : Int32} (hE : sX5_addDrops_38 F h x0 x1 = some o) : Le h o := by
  exact moX5_addDrops_43 hE
set_option maxRecDepth 20000 in
theorem moX5_addDrops {o : Hp} {F : Nat} {h : Hp} {x0 : Nat} {x1 : Int32} (hE : sX5_addDrops F h x0 x1 = some o) : Le h o := by
  obtain ⟨r_1, er_1, hE⟩ := cl_e hE
  obtain ⟨r_2, er_2, hE⟩ := cl_e hE
  obtain ⟨g_3, hE⟩ := gd_e hE
  rcases br_e hE with ⟨_, hE⟩ | ⟨_, hE⟩
  · obtain ⟨r_5, er_5, hE⟩ := cl_e hE
    obtain ⟨o_6, eo_6, hE⟩ := cl_e hE
    refine (moX1_isLast eo_6).tr ?_
    rcases br_e hE with ⟨_, hE⟩ | ⟨_, hE⟩
    · obtain ⟨r_8, er_8, hE⟩ := cl_e hE
      obtain ⟨o_9, eo_9, hE⟩ := cl_e hE
      refine (moX1_isLast eo_9).tr ?_
      rcases br_e hE with ⟨_, hE⟩ | ⟨_, hE⟩
      · exact moX5_addDrops_43 hE
      · exact moX5_addDrops_38 hE
    · exact moX5_addDrops_38 hE
  · exact le_some1 hE
set_option maxRecDepth 20000 in
theorem bX5_addDrops_101 {p : Program} {l : Launch} {e : Env} {s : State} {m : MethodId} {args : Array Value} {below : List Frame} {meth : Method} {c : Code} {X : Ec} {h0 : Hp} {o : Hp} {k_46 : Hp → Nat → Int32 → Int32 → Int32 → Option (Hp)} {F : Nat} (C : Cx X p s m args meth c RX5 cX5_addDrops 4 none "addDrops") (hk_46 : ∀ (h : Hp) (x0 : Nat) (x1 : Int32) (x2 : Int32) (x3 : Int32) (H : Heap) (locs : List Loc), hK h x0 = 5 → Km h0 h → Wx X h H → va_S (aA (eB X)) s.heap H locs → ∀ (ls : Array Slot), lv_has ls 4 [(0, .ref x0), (1, .int x1), (2, .int x2), (3, .int x3)] → k_46 h x0 x1 x2 x3 = some o → W p l e (rm 1 23) s m args below meth c H locs 0 0 (MQ below (QV X h0 o) args s 0 0 (aA (eB X))) (F0 m 46 ls [])) {h : Hp} {x0 : Nat} {x1 : Int32} {x2 : Int32} {x3 : Int32} {H : Heap} {locs : List Loc} (k_x0 : hK h x0 = 5) (hkm : Km h0 h) (hW : Wx X h H) (hZ : va_S (aA (eB X)) s.heap H locs) (ls : Array Slot) (hl : lv_has ls 4 [(0, .ref x0), (1, .int x1), (2, .int x2), (3, .int x3)]) (hE : sX5_addDrops_101 F k_46 h x0 x1 x2 x3 = some o) : W p l e (rm 1 23) s m args below meth c H locs 0 0 (MQ below (QV X h0 o) args s 0 0 (aA (eB X))) (F0 m 101 ls []) := by
  obtain ⟨v_1, ev_1, hE⟩ := nm_e2 hE
  refine lv_iinc (v := v_1) (lv' := [(3, .int v_1), (0, .ref x0), (1, .int x1), (2, .int x2)]) C.1 C.2.1 dX5_addDrops_101 hl (k := 3) rfl (by rw [ev_1]; rfl) (by decide) rfl (fun ls hl => ?_)
  refine lv_goto (tgt := 46) C.1 C.2.1 dX5_addDrops_104 (by decide) ?_
  exact hk_46 _ _ _ _ _ _ _ k_x0 hkm hW hZ _ (lv_sub hl [1, 2, 3, 0] rfl) hE
set_option maxRecDepth 20000 in
theorem bX5_addDrops_90 {p : Program} {l : Launch} {e : Env} {s : State} {m : MethodId} {args : Array Value} {below : List Frame} {meth : Method} {c : Code} {X : Ec} {h0 : Hp} {o : Hp} {k_46 : Hp → Nat → Int32 → Int32 → Int32 → Option (Hp)} {F : Nat} (C : Cx X p s m args meth c RX5 cX5_addDrops 4 none "addDrops") (hk_46 : ∀ (h : Hp) (x0 : Nat) (x1 : Int32) (x2 : Int32) (x3 : Int32) (H : Heap) (locs : List Loc), hK h x0 = 5 → Km h0 h → Wx X h H → va_S (aA (eB X)) s.heap H locs → ∀ (ls : Array Slot), lv_has ls 4 [(0, .ref x0), (1, .int x1), (2, .int x2), (3, .int x3)] → k_46 h x0 x1 x2 x3 = some o → W p l e (rm 1 23) s m args below meth c H locs 0 0 (MQ below (QV X h0 o) args s 0 0 (aA (eB X))) (F0 m 46 ls [])) {h : Hp} {x0 : Nat} {x1 : Int32} {x2 : Int32} {x3 : Int32} {H : Heap} {locs : List Loc} (k_x0 : hK h x0 = 5) (hkm : Km h0 h) (hW : Wx X h H) (hZ : va_S (aA (eB X)) s.heap H locs) (ls : Array Slot) (hl : lv_has ls 4 [(0, .ref x0), (1, .int x1), (2, .int x2), (3, .int x3)]) (hE : sX5_addDrops_90 F k_46 h x0 x1 x2 x3 = some o) : W p l e (rm 1 23) s m args below meth c H locs 0 0 (MQ below (QV X h0 o) args s 0 0 (aA (eB X))) (F0 m 90 ls []) := by
  refine lv_aload_n C.1 C.2.1 dX5_addDrops_90 rfl (lv_at hl 0 rfl) ?_
  refine lv_iconst (v := (0 : Int32)) C.1 C.2.1 dX5_addDrops_91 (by decide) ?_
  refine lv_iload_n C.1 C.2.1 dX5_addDrops_92 rfl (lv_at hl 1 rfl) ?_
  refine lv_iload_n C.1 C.2.1 dX5_addDrops_93 rfl (lv_at hl 3 rfl) ?_
  refine lv_iconst (v := (3 : Int32)) C.1 C.2.1 dX5_addDrops_94 (by decide) ?_
  obtain ⟨o_1, eo_1, hE⟩ := cl_e hE
  refine x_kI (o := o_1) (z_runS (As := [.int (0 : Int32), .int x1, .int x3, .int (3 : Int32)]) (rest := [.ref x0]) C (ct_X5_plainMove l X eo_1) cw_X5_176 hW hZ rfl hl.1 (Nat.le_of_ble_eq_true rfl) rfl dX5_addDrops_95 ⟨Nat.le_of_ble_eq_true rfl, Nat.le_of_ble_eq_true rfl⟩ ⟨Nat.le_refl _, Nat.le_refl _⟩) hZ (fun _ _ hW km hZ => ?_)
  replace hkm := hkm.tr km
  replace k_x0 := km.at k_x0 (by decide)
  obtain ⟨o_2, eo_2, hE⟩ := cl_e hE
  refine x_kV (o := o_2) (z_runV (As := [.int o_1.1]) (rest := []) C (ct_X5_addMove l X k_x0 eo_2) cw_X5_170 hW hZ k_x0 (by decide) rfl rfl rfl hl.1 (Nat.le_of_ble_eq_true rfl) rfl dX5_addDrops_98 ⟨Nat.le_of_ble_eq_true rfl, Nat.le_of_ble_eq_true rfl⟩ ⟨Nat.le_refl _, Nat.le_refl _⟩) hZ (fun _ _ hW km hZ => ?_)
  replace hkm := hkm.tr km
  replace k_x0 := km.at k_x0 (by decide)
  exact bX5_addDrops_101 C hk_46 k_x0 hkm hW hZ _ (lv_sub hl [0, 1, 2, 3] rfl) hE
set_option maxRecDepth 20000 in
theorem bX5_addDrops_46 {p : Program} {l : Launch} {e : Env} {s : State} {m : MethodId} {args : Array Value} {below : List Frame} {meth : Method} {c : Code} {X : Ec} {h0 : Hp} {o : Hp} {F : Nat} (C : Cx X p s m args meth c RX5 cX5_addDrops 4 none "addDrops") : ∀ (f : Nat) {h : Hp} {x0 : Nat} {x1 : Int32} {x2 : Int32} {x3 : Int32} {H : Heap} {locs : List Loc} (k_x0 : hK h x0 = 5), Km h0 h → Wx X h H → va_S (aA (eB X)) s.heap H locs → ∀ (ls : Array Slot), lv_has ls 4 [(0, .ref x0), (1, .int x1), (2, .int x2), (3, .int x3)] → sX5_addDrops_46 F f h x0 x1 x2 x3 = some o → W p l e (rm 1 23) s m args below meth c H locs 0 0 (MQ below (QV X h0 o) args s 0 0 (aA (eB X))) (F0 m 46 ls []) := by
  intro f
  induction f with
  | zero =>
    intro h x0 x1 x2 x3 H locs k_x0 hkm hW hZ ls hl hE
    rw [sX5_addDrops_46] at hE
    cases hE
  | succ f ih =>
    intro h x0 x1 x2 x3 H locs k_x0 hkm hW hZ ls hl hE
    rw [sX5_addDrops_46] at hE
    have hk_46 : ∀ (h : Hp) (x0 : Nat) (x1 : Int32) (x2 : Int32) (x3 : Int32) (H : Heap) (locs : List Loc), hK h x0 = 5 → Km h0 h → Wx X h H → va_S (aA (eB X)) s.heap H locs → ∀ (ls : Array Slot), lv_has ls 4 [(0, .ref x0), (1, .int x1), (2, .int x2), (3, .int x3)] → sX5_addDrops_46 F f h x0 x1 x2 x3 = some o → W p l e (rm 1 23) s m args below meth c H locs 0 0 (MQ below (QV X h0 o) args s 0 0 (aA (eB X))) (F0 m 46 ls []) := fun h x0 x1 x2 x3 H locs k_x0 a b c ls hl hE => ih k_x0 a b c ls hl hE
    refine lv_iload_n C.1 C.2.1 dX5_addDrops_46 rfl (lv_at hl 3 rfl) ?_
    refine lv_aload_n C.1 C.2.1 dX5_addDrops_47 rfl (lv_at hl 0 rfl) ?_
    obtain ⟨r_1, er_1, hE⟩ := cl_e hE
    refine gf_X5_22 C hW k_x0 er_1 dX5_addDrops_48 (fun k_r_1 => ?_)
    refine gf_X5_206 C hW k_r_1 dX5_addDrops_51 ?_
    refine lv_icmp_ge (tgt := 107) C.1 C.2.1 dX5_addDrops_54 (by decide) (fun c_2 => ?_) (fun c_2 => ?_)
    · have hE := br_p hE c_2
      exact x_vret C rfl hW hZ hkm hE dX5_addDrops_107
    · have hE := br_n hE c_2
      refine lv_aload_n C.1 C.2.1 dX5_addDrops_57 rfl (lv_at hl 0 rfl) ?_
      obtain ⟨r_3, er_3, hE⟩ := cl_e hE
      refine gf_X5_71 C hW k_x0 er_3 dX5_addDrops_58 (fun k_r_3 => ?_)
      refine lv_aload_n C.1 C.2.1 dX5_addDrops_61 rfl (lv_at hl 0 rfl) ?_
      obtain ⟨r_4, er_4, hE⟩ := cl_e hE
      refine gf_X5_71 C hW k_x0 er_4 dX5_addDrops_62 (fun k_r_4 => ?_)
      refine gf_X5_78 C hW k_r_4 dX5_addDrops_65 ?_
      refine lv_iload_n C.1 C.2.1 dX5_addDrops_68 rfl (lv_at hl 3 rfl) ?_
      obtain ⟨o_5, eo_5, hE⟩ := cl_e hE
      refine x_kI (o := o_5) (z_runV (As := [.int (hI h r_4 5), .int x3]) (rest := []) C (ct_X3_inHand l X k_r_3 eo_5) cw_X5_209 hW hZ k_r_3 (by decide) rfl rfl rfl hl.1 (Nat.le_of_ble_eq_true rfl) rfl dX5_addDrops_69 ⟨Nat.le_of_ble_eq_true rfl, Nat.le_of_ble_eq_true rfl⟩ ⟨Nat.le_refl _, Nat.le_refl _⟩) hZ (fun _ _ hW km hZ => ?_)
      replace hkm := hkm.tr km
      replace k_x0 := km.at k_x0 (by decide)
      refine lv_if_le (tgt := 101) C.1 C.2.1 dX5_addDrops_72 (by decide) (fun c_6 => ?_) (fun c_6 => ?_)
      · have hE := br_p hE c_6
        exact bX5_addDrops_101 C hk_46 k_x0 hkm hW hZ _ (lv_sub hl [0, 1, 2, 3] rfl) hE
      · have hE := br_n hE c_6
        refine lv_iload_n C.1 C.2.1 dX5_addDrops_75 rfl (lv_at hl 2 rfl) ?_
        refine lv_if_eq (tgt := 90) C.1 C.2.1 dX5_addDrops_76 (by decide) (fun c_7 => ?_) (fun c_7 => ?_)
        · have hE := br_p hE c_7
          exact bX5_addDrops_90 C hk_46 k_x0 hkm hW hZ _ (lv_sub hl [0, 1, 2, 3] rfl) hE
        · have hE := br_n hE c_7
          refine lv_aload_n C.1 C.2.1 dX5_addDrops_79 rfl (lv_at hl 0 rfl) ?_
          obtain ⟨r_8, er_8, hE⟩ := cl_e hE
          refine gf_X5_22 C hW k_x0 er_8 dX5_addDrops_80 (fun k_r_8 => ?_)
          refine lv_iload_n C.1 C.2.1 dX5_addDrops_83 rfl (lv_at hl 3 rfl) ?_
          obtain ⟨o_9, eo_9, hE⟩ := cl_e hE
          refine x_kI (o := o_9) (z_runV (As := [.int x3]) (rest := []) C (ct_X1_becomesOthers l X k_r_8 eo_9) cw_X5_212 hW hZ k_r_8 (by decide) rfl rfl rfl hl.1 (Nat.le_of_ble_eq_true rfl) rfl dX5_addDrops_84 ⟨Nat.le_of_ble_eq_true rfl, Nat.le_of_ble_eq_true rfl⟩ ⟨Nat.le_refl _, Nat.le_refl _⟩) hZ (fun _ _ hW km hZ => ?_)
          replace hkm := hkm.tr km
          replace k_x0 := km.at k_x0 (by decide)
          refine lv_if_ne (tgt := 101) C.1 C.2.1 dX5_addDrops_87 (by decide) (fun c_10 => ?_) (fun c_10 => ?_)
          · have hE := br_n hE c_10
            exact bX5_addDrops_101 C hk_46 k_x0 hkm hW hZ _ (lv_sub hl [0, 1, 2, 3] rfl) hE
          · have hE := br_p hE c_10
            exact bX5_addDrops_90 C hk_46 k_x0 hkm hW hZ _ (lv_sub hl [0, 1, 2, 3] rfl) hE
set_option maxRecDepth 20000 in
theorem bX5_addDrops_43 {p : Program} {l : Launch} {e : Env} {s : State} {m : MethodId} {args : Array Value} {below : List Frame} {meth : Method} {c : Code} {X : Ec} {h0 : Hp} {o : Hp} {F : Nat} (C : Cx X p s m args meth c RX5 cX5_addDrops 4 none "addDrops") {h : Hp} {x0 : Nat} {x1 : Int32} {t0 : Int32} {H : Heap} {locs : List Loc} (k_x0 : hK h x0 = 5) (hkm : Km h0 h) (hW : Wx X h H) (hZ : va_S (aA (eB X)) s.heap H locs) (ls : Array Slot) (hl : lv_has ls 4 [(0, .ref x0), (1, .int x1)]) (hE : sX5_addDrops_43 F h x0 x1 t0 = some o) : W p l e (rm 1 23) s m args below meth c H locs 0 0 (MQ below (QV X h0 o) args s 0 0 (aA (eB X))) (F0 m 43 ls [.int t0]) := by
  refine lv_istore_n (lv' := [(2, .int t0), (0, .ref x0), (1, .int x1)]) C.1 C.2.1 dX5_addDrops_43 rfl hl (by decide) rfl (fun ls hl => ?_)
  refine lv_iconst (v := (0 : Int32)) C.1 C.2.1 dX5_addDrops_44 (by decide) ?_
  refine lv_istore_n (lv' := [(3, .int (0 : Int32)), (2, .int t0), (0, .ref x0), (1, .int x1)]) C.1 C.2.1 dX5_addDrops_45 rfl hl (by decide) rfl (fun ls hl => ?_)
  exact bX5_addDrops_46 C F k_x0 hkm hW hZ _ (lv_sub hl [2, 3, 1, 0] rfl) hE
set_option maxRecDepth 20000 in
theorem bX5_addDrops_38 {p : Program} {l : Launch} {e : Env} {s : State} {m : MethodId} {args : Array Value} {below : List Frame} {meth : Method} {c : Code} {X : Ec} {h0 : Hp} {o : Hp} {F : Nat} (C : Cx X p s m args meth c RX5 cX5_addDrops 4 none "addDrops") {h : Hp} {x0 : Nat} {x1 : Int32} {H : Heap} {locs : List Loc} (k_x0 : hK h x0 = 5) (hkm : Km h0 h) (hW : Wx X h H) (hZ : va_S (aA (eB X)) s.heap H locs) (ls : Array Slot) (hl : lv_has ls 4 [(0, .ref x0), (1, .int x1)]) (hE : sX5_addDrops_38 F h x0 x1 = some o) : W p l e (rm 1 23) s m args below meth c H locs 0 0 (MQ below (QV X h0 o) args s 0 0 (aA (eB X))) (F0 m 38 ls []) := by
  refine lv_iconst (v := (1 : Int32)) C.1 C.2.1 dX5_addDrops_38 (by decide) ?_
  refine lv_goto (tgt := 43) C.1 C.2.1 dX5_addDrops_39 (by decide) ?_
  exact bX5_addDrops_43 C k_x0 hkm hW hZ _ (lv_sub hl [0, 1] rfl) hE
set_option maxRecDepth 20000 in
theorem ct_X5_addDrops (l : Launch) (X : Ec) (F : Nat) {h : Hp} {x0 : Nat} {x1 : Int32} {o : Hp} (k_x0 : hK h x0 = 5) (hE : sX5_addDrops F h x0 x1 = some o) : MetV l yX5_addDrops cX5_addDrops 4 none 1 23 X [.ref x0, .int x1] h o := by
  refine x_met (by decide) (Nat.le_of_ble_eq_true rfl) ?_
  intro p e s m below meth c ls C hl hW hZ
  have hl : lv_has ls 4 [(0, .ref x0), (1, .int x1)] := hl
  have hkm : Km h h := Km.rf h
  refine lv_aload_n C.1 C.2.1 dX5_addDrops_0 rfl (lv_at hl 0 rfl) ?_
  obtain ⟨r_1, er_1, hE⟩ := cl_e hE
  refine gf_X5_71 C hW k_x0 er_1 dX5_addDrops_1 (fun k_r_1 => ?_)
  obtain ⟨r_2, er_2, hE⟩ := cl_e hE
  refine gf_X5_42 C hW k_r_1 er_2 dX5_addDrops_4 (fun k_r_2 => ?_)
  refine lv_iload_n C.1 C.2.1 dX5_addDrops_7 rfl (lv_at hl 1 rfl) ?_
  obtain ⟨g_3, hE⟩ := gd_e hE
  refine y_bald C hW k_r_2 g_3 dX5_addDrops_8 ?_
  refine lv_iconst (v := (-1 : Int32)) C.1 C.2.1 dX5_addDrops_9 (by decide) ?_
  refine lv_icmp_eq (tgt := 14) C.1 C.2.1 dX5_addDrops_10 (by decide) (fun c_4 => ?_) (fun c_4 => ?_)
  · have hE := br_p hE c_4
    refine lv_aload_n C.1 C.2.1 dX5_addDrops_14 rfl (lv_at hl 0 rfl) ?_
    obtain ⟨r_5, er_5, hE⟩ := cl_e hE
    refine gf_X5_22 C hW k_x0 er_5 dX5_addDrops_15 (fun k_r_5 => ?_)
    refine lv_iload_n C.1 C.2.1 dX5_addDrops_18 rfl (lv_at hl 1 rfl) ?_
    refine lv_iconst (v := (0 : Int32)) C.1 C.2.1 dX5_addDrops_19 (by decide) ?_
    obtain ⟨o_6, eo_6, hE⟩ := cl_e hE
    refine x_kI (o := o_6) (z_runV (As := [.int x1, .int (0 : Int32)]) (rest := []) C (ct_X1_isLast l X k_r_5 eo_6) cw_X5_187 hW hZ k_r_5 (by decide) rfl rfl rfl hl.1 (Nat.le_of_ble_eq_true rfl) rfl dX5_addDrops_20 ⟨Nat.le_of_ble_eq_true rfl, Nat.le_of_ble_eq_true rfl⟩ ⟨Nat.le_refl _, Nat.le_refl _⟩) hZ (fun _ _ hW km hZ => ?_)
    replace hkm := hkm.tr km
    replace k_x0 := km.at k_x0 (by decide)
    refine lv_if_ne (tgt := 38) C.1 C.2.1 dX5_addDrops_23 (by decide) (fun c_7 => ?_) (fun c_7 => ?_)
    · have hE := br_n hE c_7
      exact bX5_addDrops_38 C k_x0 hkm hW hZ _ (lv_sub hl [0, 1] rfl) hE
    · have hE := br_p hE c_7
      refine lv_aload_n C.1 C.2.1 dX5_addDrops_26 rfl (lv_at hl 0 rfl) ?_
      obtain ⟨r_8, er_8, hE⟩ := cl_e hE
      refine gf_X5_22 C hW k_x0 er_8 dX5_addDrops_27 (fun k_r_8 => ?_)
      refine lv_iload_n C.1 C.2.1 dX5_addDrops_30 rfl (lv_at hl 1 rfl) ?_
      refine lv_iconst (v := (1 : Int32)) C.1 C.2.1 dX5_addDrops_31 (by decide) ?_
      obtain ⟨o_9, eo_9, hE⟩ := cl_e hE
      refine x_kI (o := o_9) (z_runV (As := [.int x1, .int (1 : Int32)]) (rest := []) C (ct_X1_isLast l X k_r_8 eo_9) cw_X5_187 hW hZ k_r_8 (by decide) rfl rfl rfl hl.1 (Nat.le_of_ble_eq_true rfl) rfl dX5_addDrops_32 ⟨Nat.le_of_ble_eq_true rfl, Nat.le_of_ble_eq_true rfl⟩ ⟨Nat.le_refl _, Nat.le_refl _⟩) hZ (fun _ _ hW km hZ => ?_)
      replace hkm := hkm.tr km
      replace k_x0 := km.at k_x0 (by decide)
      refine lv_if_eq (tgt := 42) C.1 C.2.1 dX5_addDrops_35 (by decide) (fun c_10 => ?_) (fun c_10 => ?_)
      · have hE := br_p hE c_10
        refine lv_iconst (v := (0 : Int32)) C.1 C.2.1 dX5_addDrops_42 (by decide) ?_
        exact bX5_addDrops_43 C k_x0 hkm hW hZ _ (lv_sub hl [0, 1] rfl) hE
      · have hE := br_n hE c_10
        exact bX5_addDrops_38 C k_x0 hkm hW hZ _ (lv_sub hl [0, 1] rfl) hE
  · have hE := br_n hE c_4
    exact x_vret C rfl hW hZ hkm hE dX5_addDrops_13
theorem dX5_keepTakes_0 : decode cX5_keepTakes 0 = .ok (.iconst 0, 1) := by decide +kernel
theorem dX5_keepTakes_1 : decode cX5_keepTakes 1 = .ok (.istore_n 1, 1) := by decide +kernel
theorem dX5_keepTakes_2 : decode cX5_keepTakes 2 = .ok (.iconst 0, 1) := by decide +kernel
theorem dX5_keepTakes_3 : decode cX5_keepTakes 3 = .ok (.istore_n 2, 1) := by decide +kernel
theorem dX5_keepTakes_4 : decode cX5_keepTakes 4 = .ok (.iload_n 2, 1) := by decide +kernel
theorem dX5_keepTakes_5 : decode cX5_keepTakes 5 = .ok (.aload_n 0, 1) := by decide +kernel
theorem dX5_keepTakes_6 : decode cX5_keepTakes 6 = .ok (.getfield 82, 3) := by decide +kernel
theorem dX5_keepTakes_9 : decode cX5_keepTakes 9 = .ok (.if_icmp .ge 37, 3) := by decide +kernel
theorem dX5_keepTakes_12 : decode cX5_keepTakes 12 = .ok (.aload_n 0, 1) := by decide +kernel
theorem dX5_keepTakes_13 : decode cX5_keepTakes 13 = .ok (.getfield 123, 3) := by decide +kernel
theorem dX5_keepTakes_16 : decode cX5_keepTakes 16 = .ok (.iload_n 2, 1) := by decide +kernel
theorem dX5_keepTakes_17 : decode cX5_keepTakes 17 = .ok (.iaload, 1) := by decide +kernel
theorem dX5_keepTakes_18 : decode cX5_keepTakes 18 = .ok (.invokestatic 181, 3) := by decide +kernel
theorem dX5_keepTakes_21 : decode cX5_keepTakes 21 = .ok (.iconst (-1), 1) := by decide +kernel
theorem dX5_keepTakes_22 : decode cX5_keepTakes 22 = .ok (.if_icmp .eq 18, 3) := by decide +kernel
theorem dX5_keepTakes_25 : decode cX5_keepTakes 25 = .ok (.aload_n 0, 1) := by decide +kernel
theorem dX5_keepTakes_26 : decode cX5_keepTakes 26 = .ok (.getfield 123, 3) := by decide +kernel
theorem dX5_keepTakes_29 : decode cX5_keepTakes 29 = .ok (.iload_n 1, 1) := by decide +kernel
theorem dX5_keepTakes_30 : decode cX5_keepTakes 30 = .ok (.aload_n 0, 1) := by decide +kernel
theorem dX5_keepTakes_31 : decode cX5_keepTakes 31 = .ok (.getfield 123, 3) := by decide +kernel
theorem dX5_keepTakes_34 : decode cX5_keepTakes 34 = .ok (.iload_n 2, 1) := by decide +kernel
theorem dX5_keepTakes_35 : decode cX5_keepTakes 35 = .ok (.iaload, 1) := by decide +kernel
theorem dX5_keepTakes_36 : decode cX5_keepTakes 36 = .ok (.iastore, 1) := by decide +kernel
theorem dX5_keepTakes_37 : decode cX5_keepTakes 37 = .ok (.iinc 1 1, 3) := by decide +kernel
theorem dX5_keepTakes_40 : decode cX5_keepTakes 40 = .ok (.iinc 2 1, 3) := by decide +kernel
theorem dX5_keepTakes_43 : decode cX5_keepTakes 43 = .ok (.goto (-39), 3) := by decide +kernel
theorem dX5_keepTakes_46 : decode cX5_keepTakes 46 = .ok (.aload_n 0, 1) := by decide +kernel
theorem dX5_keepTakes_47 : decode cX5_keepTakes 47 = .ok (.iload_n 1, 1) := by decide +kernel
theorem dX5_keepTakes_48 : decode cX5_keepTakes 48 = .ok (.putfield 82, 3) := by decide +kernel
theorem dX5_keepTakes_51 : decode cX5_keepTakes 51 = .ok (.return_, 1) := by decide +kernel
set_option maxRecDepth 20000 in
theorem moX5_keepTakes_40 {o : Hp} {k_4 : Hp → Nat → Int32 → Int32 → Option (Hp)} {F : Nat} (mk_4 : ∀ (h : Hp) (x0 : Nat) (x1 : Int32) (x2 : Int32), k_4 h x0 x1 x2 = some o → Le h o) {h : Hp} {x0 : Nat} {x1 : Int32} {x2 : Int32} (hE : sX5_keepTakes_40 F k_4 h x0 x1 x2 = some o) : Le h o := by
  obtain ⟨v_1, ev_1, hE⟩ := nm_e2 hE
  exact mk_4 _ _ _ _ hE
set_option maxRecDepth 20000 in
theorem moX5_keepTakes_4 {o : Hp} {F : Nat} : ∀ (f : Nat) {h : Hp} {x0 : Nat} {x1 : Int32} {x2 : Int32}, sX5_keepTakes_4 F f h x0 x1 x2 = some o → Le h o := by
  intro f
  induction f with
  | zero =>
    intro h x0 x1 x2 hE
    rw [sX5_keepTakes_4] at hE
    cases hE
  | succ f ih =>
    intro h x0 x1 x2 hE
    rw [sX5_keepTakes_4] at hE
    have mk_4 : ∀ (h : Hp) (x0 : Nat) (x1 : Int32) (x2 : Int32), sX5_keepTakes_4 F f h x0 x1 x2 = some o → Le h o := fun h x0 x1 x2 hE => ih hE
    rcases br_e hE with ⟨_, hE⟩ | ⟨_, hE⟩
    · obtain ⟨h_2, eh_2, hE⟩ := nm_e2 hE
      refine (le_I eh_2).tr ?_
      exact le_some1 hE
    · obtain ⟨r_3, er_3, hE⟩ := cl_e hE
      obtain ⟨g_4, hE⟩ := gd_e hE
      obtain ⟨o_5, eo_5, hE⟩ := cl_e hE
      refine (moX5_takenBy eo_5).tr ?_
      rcases br_e hE with ⟨_, hE⟩ | ⟨_, hE⟩
      · exact moX5_keepTakes_40 mk_4 hE
      · obtain ⟨r_7, er_7, hE⟩ := cl_e hE
        obtain ⟨r_8, er_8, hE⟩ := cl_e hE
        obtain ⟨g_9, hE⟩ := gd_e hE
        obtain ⟨g_10, hE⟩ := gd_e hE
        obtain ⟨h_11, eh_11, hE⟩ := nm_e2 hE
        refine (le_I eh_11).tr ?_
        obtain ⟨v_12, ev_12, hE⟩ := nm_e2 hE
        exact moX5_keepTakes_40 mk_4 hE
set_option maxRecDepth 20000 in
theorem moX5_keepTakes {o : Hp} {F : Nat} {h : Hp} {x0 : Nat} (hE : sX5_keepTakes F h x0 = some o) : Le h o := by
  exact moX5_keepTakes_4 _ hE
set_option maxRecDepth 20000 in
theorem bX5_keepTakes_40 {p : Program} {l : Launch} {e : Env} {s : State} {m : MethodId} {args : Array Value} {below : List Frame} {meth : Method} {c : Code} {X : Ec} {h0 : Hp} {o : Hp} {k_4 : Hp → Nat → Int32 → Int32 → Option (Hp)} {F : Nat} (C : Cx X p s m args meth c RX5 cX5_keepTakes 3 none "keepTakes") (hk_4 : ∀ (h : Hp) (x0 : Nat) (x1 : Int32) (x2 : Int32) (H : Heap) (locs : List Loc), hK h x0 = 5 → Km h0 h → Wx X h H → va_S (aA (eB X)) s.heap H locs → ∀ (ls : Array Slot), lv_has ls 3 [(0, .ref x0), (1, .int x1), (2, .int x2)] → k_4 h x0 x1 x2 = some o → W p l e (rm 1 21) s m args below meth c H locs 0 0 (MQ below (QV X h0 o) args s 0 0 (aA (eB X))) (F0 m 4 ls [])) {h : Hp} {x0 : Nat} {x1 : Int32} {x2 : Int32} {H : Heap} {locs : List Loc} (k_x0 : hK h x0 = 5) (hkm : Km h0 h) (hW : Wx X h H) (hZ : va_S (aA (eB X)) s.heap H locs) (ls : Array Slot) (hl : lv_has ls 3 [(0, .ref x0), (1, .int x1), (2, .int x2)]) (hE : sX5_keepTakes_40 F k_4 h x0 x1 x2 = some o) : W p l e (rm 1 21) s m args below meth c H locs 0 0 (MQ below (QV X h0 o) args s 0 0 (aA (eB X))) (F0 m 40 ls []) := by
  obtain ⟨v_1, ev_1, hE⟩ := nm_e2 hE
  refine lv_iinc (v := v_1) (lv' := [(2, .int v_1), (0, .ref x0), (1, .int x1)]) C.1 C.2.1 dX5_keepTakes_40 hl (k := 2) rfl (by rw [ev_1]; rfl) (by decide) rfl (fun ls hl => ?_)
  refine lv_goto (tgt := 4) C.1 C.2.1 dX5_keepTakes_43 (by decide) ?_
  exact hk_4 _ _ _ _ _ _ k_x0 hkm hW hZ _ (lv_sub hl [1, 2, 0] rfl) hE
set_option maxRecDepth 20000 in
theorem bX5_keepTakes_4 {p : Program} {l : Launch} {e : Env} {s : State} {m : MethodId} {args : Array Value} {below : List Frame} {meth : Method} {c : Code} {X : Ec} {h0 : Hp} {o : Hp} {F : Nat} (C : Cx X p s m args meth c RX5 cX5_keepTakes 3 none "keepTakes") : ∀ (f : Nat) {h : Hp} {x0 : Nat} {x1 : Int32} {x2 : Int32} {H : Heap} {locs : List Loc} (k_x0 : hK h x0 = 5), Km h0 h → Wx X h H → va_S (aA (eB X)) s.heap H locs → ∀ (ls : Array Slot), lv_has ls 3 [(0, .ref x0), (1, .int x1), (2, .int x2)] → sX5_keepTakes_4 F f h x0 x1 x2 = some o → W p l e (rm 1 21) s m args below meth c H locs 0 0 (MQ below (QV X h0 o) args s 0 0 (aA (eB X))) (F0 m 4 ls []) := by
  intro f
  induction f with
  | zero =>
    intro h x0 x1 x2 H locs k_x0 hkm hW hZ ls hl hE
    rw [sX5_keepTakes_4] at hE
    cases hE
  | succ f ih =>
    intro h x0 x1 x2 H locs k_x0 hkm hW hZ ls hl hE
    rw [sX5_keepTakes_4] at hE
    have hk_4 : ∀ (h : Hp) (x0 : Nat) (x1 : Int32) (x2 : Int32) (H : Heap) (locs : List Loc), hK h x0 = 5 → Km h0 h → Wx X h H → va_S (aA (eB X)) s.heap H locs → ∀ (ls : Array Slot), lv_has ls 3 [(0, .ref x0), (1, .int x1), (2, .int x2)] → sX5_keepTakes_4 F f h x0 x1 x2 = some o → W p l e (rm 1 21) s m args below meth c H locs 0 0 (MQ below (QV X h0 o) args s 0 0 (aA (eB X))) (F0 m 4 ls []) := fun h x0 x1 x2 H locs k_x0 a b c ls hl hE => ih k_x0 a b c ls hl hE
    refine lv_iload_n C.1 C.2.1 dX5_keepTakes_4 rfl (lv_at hl 2 rfl) ?_
    refine lv_aload_n C.1 C.2.1 dX5_keepTakes_5 rfl (lv_at hl 0 rfl) ?_
    refine gf_X5_82 C hW k_x0 dX5_keepTakes_6 ?_
    refine lv_icmp_ge (tgt := 46) C.1 C.2.1 dX5_keepTakes_9 (by decide) (fun c_1 => ?_) (fun c_1 => ?_)
    · have hE := br_p hE c_1
      refine lv_aload_n C.1 C.2.1 dX5_keepTakes_46 rfl (lv_at hl 0 rfl) ?_
      refine lv_iload_n C.1 C.2.1 dX5_keepTakes_47 rfl (lv_at hl 1 rfl) ?_
      obtain ⟨h_2, eh_2, hE⟩ := nm_e2 hE
      refine pf_X5_82 C hW hZ k_x0 eh_2 dX5_keepTakes_48 (fun _ _ hW km hZ => ?_)
      replace hkm := hkm.tr km
      replace k_x0 := km.at k_x0 (by decide)
      exact x_vret C rfl hW hZ hkm hE dX5_keepTakes_51
    · have hE := br_n hE c_1
      refine lv_aload_n C.1 C.2.1 dX5_keepTakes_12 rfl (lv_at hl 0 rfl) ?_
      obtain ⟨r_3, er_3, hE⟩ := cl_e hE
      refine gf_X5_123 C hW k_x0 er_3 dX5_keepTakes_13 (fun k_r_3 => ?_)
      refine lv_iload_n C.1 C.2.1 dX5_keepTakes_16 rfl (lv_at hl 2 rfl) ?_
      obtain ⟨g_4, hE⟩ := gd_e hE
      refine y_iald C hW k_r_3 g_4 dX5_keepTakes_17 ?_
      obtain ⟨o_5, eo_5, hE⟩ := cl_e hE
      refine x_kI (o := o_5) (z_runS (As := [.int (hI h r_3 x2.toNatClampNeg)]) (rest := []) C (ct_X5_takenBy l X eo_5) cw_X5_181 hW hZ rfl hl.1 (Nat.le_of_ble_eq_true rfl) rfl dX5_keepTakes_18 ⟨Nat.le_of_ble_eq_true rfl, Nat.le_of_ble_eq_true rfl⟩ ⟨Nat.le_refl _, Nat.le_refl _⟩) hZ (fun _ _ hW km hZ => ?_)
      replace hkm := hkm.tr km
      replace k_x0 := km.at k_x0 (by decide)
      refine lv_iconst (v := (-1 : Int32)) C.1 C.2.1 dX5_keepTakes_21 (by decide) ?_
      refine lv_icmp_eq (tgt := 40) C.1 C.2.1 dX5_keepTakes_22 (by decide) (fun c_6 => ?_) (fun c_6 => ?_)
      · have hE := br_p hE c_6
        exact bX5_keepTakes_40 C hk_4 k_x0 hkm hW hZ _ (lv_sub hl [0, 1, 2] rfl) hE
      · have hE := br_n hE c_6
        refine lv_aload_n C.1 C.2.1 dX5_keepTakes_25 rfl (lv_at hl 0 rfl) ?_
        obtain ⟨r_7, er_7, hE⟩ := cl_e hE
        refine gf_X5_123 C hW k_x0 er_7 dX5_keepTakes_26 (fun k_r_7 => ?_)
        refine lv_iload_n C.1 C.2.1 dX5_keepTakes_29 rfl (lv_at hl 1 rfl) ?_
        refine lv_aload_n C.1 C.2.1 dX5_keepTakes_30 rfl (lv_at hl 0 rfl) ?_
        obtain ⟨r_8, er_8, hE⟩ := cl_e hE
        refine gf_X5_123 C hW k_x0 er_8 dX5_keepTakes_31 (fun k_r_8 => ?_)
        refine lv_iload_n C.1 C.2.1 dX5_keepTakes_34 rfl (lv_at hl 2 rfl) ?_
        obtain ⟨g_9, hE⟩ := gd_e hE
        refine y_iald C hW k_r_8 g_9 dX5_keepTakes_35 ?_
        obtain ⟨g_10, hE⟩ := gd_e hE
        obtain ⟨h_11, eh_11, hE⟩ := nm_e2 hE
        refine y_iast C hW hZ k_r_7 g_10 eh_11 dX5_keepTakes_36 (fun _ _ hW km hZ => ?_)
        replace hkm := hkm.tr km
        replace k_x0 := km.at k_x0 (by decide)
        obtain ⟨v_12, ev_12, hE⟩ := nm_e2 hE
        refine lv_iinc (v := v_12) (lv' := [(1, .int v_12), (0, .ref x0), (2, .int x2)]) C.1 C.2.1 dX5_keepTakes_37 hl (k := 1) rfl (by rw [ev_12]; rfl) (by decide) rfl (fun ls hl => ?_)
        exact bX5_keepTakes_40 C hk_4 k_x0 hkm hW hZ _ (lv_sub hl [1, 0, 2] rfl) hE
set_option maxRecDepth 20000 in
theorem ct_X5_keepTakes (l : Launch) (X : Ec) (F : Nat) {h : Hp} {x0 : Nat} {o : Hp} (k_x0 : hK h x0 = 5) (hE : sX5_keepTakes F h x0 = some o) : MetV l yX5_keepTakes cX5_keepTakes 3 none 1 21 X [.ref x0] h o := by
  refine x_met (by decide) (Nat.le_of_ble_eq_true rfl) ?_
  intro p e s m below meth c ls C hl hW hZ
  have hl : lv_has ls 3 [(0, .ref x0)] := hl
  have hkm : Km h h := Km.rf h
  refine lv_iconst (v := (0 : Int32)) C.1 C.2.1 dX5_keepTakes_0 (by decide) ?_
  refine lv_istore_n (lv' := [(1, .int (0 : Int32)), (0, .ref x0)]) C.1 C.2.1 dX5_keepTakes_1 rfl hl (by decide) rfl (fun ls hl => ?_)
  refine lv_iconst (v := (0 : Int32)) C.1 C.2.1 dX5_keepTakes_2 (by decide) ?_
  refine lv_istore_n (lv' := [(2, .int (0 : Int32)), (1, .int (0 : Int32)), (0, .ref x0)]) C.1 C.2.1 dX5_keepTakes_3 rfl hl (by decide) rfl (fun ls hl => ?_)
  exact bX5_keepTakes_4 C F k_x0 hkm hW hZ _ (lv_sub hl [2, 1, 0] rfl) hE
set_option maxRecDepth 100000 in
theorem ms_66 : Cond.selects RX5 yX5_keepTakes yX5_keepTakes ∈ W0 := w0_in (List.mem_append_left _ (List.mem_of_getElem? (i := 66) rfl)) rfl
set_option maxRecDepth 100000 in
theorem ms_65 : Cond.selects RX5 yX5_addDrops yX5_addDrops ∈ W0 := w0_in (List.mem_append_left _ (List.mem_of_getElem? (i := 65) rfl)) rfl
set_option maxRecDepth 100000 in
theorem ms_60 : Cond.selects RX5 yX5_keepLawful yX5_keepLawful ∈ W0 := w0_in (List.mem_append_left _ (List.mem_of_getElem? (i := 60) rfl)) rfl
set_option maxRecDepth 100000 in
theorem ms_58 : Cond.selects RX5 yX5_addCastling yX5_addCastling ∈ W0 := w0_in (List.mem_append_left _ (List.mem_of_getElem? (i := 58) rfl)) rfl
set_option maxRecDepth 100000 in
theorem ms_53 : Cond.selects RX5 yX5_addSteps yX5_addSteps ∈ W0 := w0_in (List.mem_append_left _ (List.mem_of_getElem? (i := 53) rfl)) rfl
set_option maxRecDepth 100000 in
theorem ms_49 : Cond.selects RX5 yX5_begin yX5_begin ∈ W0 := w0_in (List.mem_append_left _ (List.mem_of_getElem? (i := 49) rfl)) rfl
set_option maxRecDepth 100000 in
theorem m_1141 : Cond.methodLink RX5 67 yX5_begin ∈ W0 := w0_in (List.mem_append_right _ (List.mem_of_getElem? (i := 1141) rfl)) rfl
set_option maxRecDepth 100000 in
theorem m_1143 : Cond.instanceMethod yX5_begin ∈ W0 := w0_in (List.mem_append_right _ (List.mem_of_getElem? (i := 1143) rfl)) rfl
set_option maxRecDepth 100000 in
theorem m_1144 : Cond.code yX5_begin cX5_begin 3 none ∈ W0 := w0_in (List.mem_append_right _ (List.mem_of_getElem? (i := 1144) rfl)) rfl
set_option maxRecDepth 100000 in
theorem m_1153 : Cond.methodLink RX5 74 yX5_earlyEnd ∈ W0 := w0_in (List.mem_append_right _ (List.mem_of_getElem? (i := 1153) rfl)) rfl
set_option maxRecDepth 100000 in
theorem m_1154 : Cond.instanceMethod yX5_earlyEnd ∈ W0 := w0_in (List.mem_append_right _ (List.mem_of_getElem? (i := 1154) rfl)) rfl
set_option maxRecDepth 100000 in
theorem m_1155 : Cond.selects RX5 yX5_earlyEnd yX5_earlyEnd ∈ W0 := w0_in (List.mem_append_right _ (List.mem_of_getElem? (i := 1155) rfl)) rfl
set_option maxRecDepth 100000 in
theorem m_1156 : Cond.code yX5_earlyEnd cX5_earlyEnd 2 (some .int) ∈ W0 := w0_in (List.mem_append_right _ (List.mem_of_getElem? (i := 1156) rfl)) rfl
set_option maxRecDepth 100000 in
theorem m_1165 : Cond.methodLink RX5 89 yX5_addSteps ∈ W0 := w0_in (List.mem_append_right _ (List.mem_of_getElem? (i := 1165) rfl)) rfl
set_option maxRecDepth 100000 in
theorem m_1167 : Cond.instanceMethod yX5_addSteps ∈ W0 := w0_in (List.mem_append_right _ (List.mem_of_getElem? (i := 1167) rfl)) rfl
set_option maxRecDepth 100000 in
theorem m_1168 : Cond.code yX5_addSteps cX5_addSteps 10 none ∈ W0 := w0_in (List.mem_append_right _ (List.mem_of_getElem? (i := 1168) rfl)) rfl
set_option maxRecDepth 100000 in
theorem m_1204 : Cond.methodLink RX5 97 yX5_addCastling ∈ W0 := w0_in (List.mem_append_right _ (List.mem_of_getElem? (i := 1204) rfl)) rfl
set_option maxRecDepth 100000 in
theorem m_1206 : Cond.instanceMethod yX5_addCastling ∈ W0 := w0_in (List.mem_append_right _ (List.mem_of_getElem? (i := 1206) rfl)) rfl
set_option maxRecDepth 100000 in
theorem m_1207 : Cond.code yX5_addCastling cX5_addCastling 8 none ∈ W0 := w0_in (List.mem_append_right _ (List.mem_of_getElem? (i := 1207) rfl)) rfl
set_option maxRecDepth 100000 in
theorem m_1215 : Cond.methodLink RX5 101 yX5_keepLawful ∈ W0 := w0_in (List.mem_append_right _ (List.mem_of_getElem? (i := 1215) rfl)) rfl
set_option maxRecDepth 100000 in
theorem m_1217 : Cond.instanceMethod yX5_keepLawful ∈ W0 := w0_in (List.mem_append_right _ (List.mem_of_getElem? (i := 1217) rfl)) rfl
set_option maxRecDepth 100000 in
theorem m_1218 : Cond.code yX5_keepLawful cX5_keepLawful 6 none ∈ W0 := w0_in (List.mem_append_right _ (List.mem_of_getElem? (i := 1218) rfl)) rfl
set_option maxRecDepth 100000 in
theorem m_1252 : Cond.methodLink RX5 113 yX5_addDrops ∈ W0 := w0_in (List.mem_append_right _ (List.mem_of_getElem? (i := 1252) rfl)) rfl
set_option maxRecDepth 100000 in
theorem m_1254 : Cond.instanceMethod yX5_addDrops ∈ W0 := w0_in (List.mem_append_right _ (List.mem_of_getElem? (i := 1254) rfl)) rfl
set_option maxRecDepth 100000 in
theorem m_1255 : Cond.code yX5_addDrops cX5_addDrops 4 none ∈ W0 := w0_in (List.mem_append_right _ (List.mem_of_getElem? (i := 1255) rfl)) rfl
set_option maxRecDepth 100000 in
theorem m_1256 : Cond.methodLink RX5 120 yX5_keepTakes ∈ W0 := w0_in (List.mem_append_right _ (List.mem_of_getElem? (i := 1256) rfl)) rfl
set_option maxRecDepth 100000 in
theorem m_1258 : Cond.instanceMethod yX5_keepTakes ∈ W0 := w0_in (List.mem_append_right _ (List.mem_of_getElem? (i := 1258) rfl)) rfl
set_option maxRecDepth 100000 in
theorem m_1259 : Cond.code yX5_keepTakes cX5_keepTakes 3 none ∈ W0 := w0_in (List.mem_append_right _ (List.mem_of_getElem? (i := 1259) rfl)) rfl
theorem cw_X5_120 : cwd RX5 120 yX5_keepTakes cX5_keepTakes 3 none false 0 := ⟨m_1259, m_1256, m_7, ⟨m_1258, ms_66⟩, by decide, by decide, by decide +kernel⟩
theorem cw_X5_113 : cwd RX5 113 yX5_addDrops cX5_addDrops 4 none false 1 := ⟨m_1255, m_1252, m_7, ⟨m_1254, ms_65⟩, by decide, by decide, by decide +kernel⟩
theorem cw_X5_101 : cwd RX5 101 yX5_keepLawful cX5_keepLawful 6 none false 1 := ⟨m_1218, m_1215, m_7, ⟨m_1217, ms_60⟩, by decide, by decide, by decide +kernel⟩
theorem cw_X5_89 : cwd RX5 89 yX5_addSteps cX5_addSteps 10 none false 1 := ⟨m_1168, m_1165, m_7, ⟨m_1167, ms_53⟩, by decide, by decide, by decide +kernel⟩
theorem cw_X5_97 : cwd RX5 97 yX5_addCastling cX5_addCastling 8 none false 3 := ⟨m_1207, m_1204, m_7, ⟨m_1206, ms_58⟩, by decide, by decide, by decide +kernel⟩
theorem cw_X5_67 : cwd RX5 67 yX5_begin cX5_begin 3 none false 2 := ⟨m_1144, m_1141, m_7, ⟨m_1143, ms_49⟩, by decide, by decide, by decide +kernel⟩
theorem cw_X5_74 : cwd RX5 74 yX5_earlyEnd cX5_earlyEnd 2 (some .int) false 1 := ⟨m_1156, m_1153, m_7, ⟨m_1154, m_1155⟩, by decide, by decide, by decide +kernel⟩
theorem dX5_collect_0 : decode cX5_collect 0 = .ok (.aload_n 0, 1) := by decide +kernel
theorem dX5_collect_1 : decode cX5_collect 1 = .ok (.aload_n 1, 1) := by decide +kernel
theorem dX5_collect_2 : decode cX5_collect 2 = .ok (.aload_n 2, 1) := by decide +kernel
theorem dX5_collect_3 : decode cX5_collect 3 = .ok (.invokevirtual 67, 3) := by decide +kernel
theorem dX5_collect_6 : decode cX5_collect 6 = .ok (.aload_n 0, 1) := by decide +kernel
theorem dX5_collect_7 : decode cX5_collect 7 = .ok (.aload_n 0, 1) := by decide +kernel
theorem dX5_collect_8 : decode cX5_collect 8 = .ok (.getfield 71, 3) := by decide +kernel
theorem dX5_collect_11 : decode cX5_collect 11 = .ok (.invokevirtual 74, 3) := by decide +kernel
theorem dX5_collect_14 : decode cX5_collect 14 = .ok (.ifCond .eq 5, 3) := by decide +kernel
theorem dX5_collect_17 : decode cX5_collect 17 = .ok (.iconst 0, 1) := by decide +kernel
theorem dX5_collect_18 : decode cX5_collect 18 = .ok (.ireturn, 1) := by decide +kernel
theorem dX5_collect_19 : decode cX5_collect 19 = .ok (.aload_n 0, 1) := by decide +kernel
theorem dX5_collect_20 : decode cX5_collect 20 = .ok (.getfield 71, 3) := by decide +kernel
theorem dX5_collect_23 : decode cX5_collect 23 = .ok (.getfield 33, 3) := by decide +kernel
theorem dX5_collect_26 : decode cX5_collect 26 = .ok (.aload_n 0, 1) := by decide +kernel
theorem dX5_collect_27 : decode cX5_collect 27 = .ok (.getfield 71, 3) := by decide +kernel
theorem dX5_collect_30 : decode cX5_collect 30 = .ok (.getfield 78, 3) := by decide +kernel
theorem dX5_collect_33 : decode cX5_collect 33 = .ok (.laload, 1) := by decide +kernel
theorem dX5_collect_34 : decode cX5_collect 34 = .ok (.lstore 4, 2) := by decide +kernel
theorem dX5_collect_36 : decode cX5_collect 36 = .ok (.iconst 0, 1) := by decide +kernel
theorem dX5_collect_37 : decode cX5_collect 37 = .ok (.istore 6, 2) := by decide +kernel
theorem dX5_collect_39 : decode cX5_collect 39 = .ok (.iload 6, 2) := by decide +kernel
theorem dX5_collect_41 : decode cX5_collect 41 = .ok (.bipush 64, 2) := by decide +kernel
theorem dX5_collect_43 : decode cX5_collect 43 = .ok (.if_icmp .ge 108, 3) := by decide +kernel
theorem dX5_collect_46 : decode cX5_collect 46 = .ok (.lload 4, 2) := by decide +kernel
theorem dX5_collect_48 : decode cX5_collect 48 = .ok (.lconst 0, 1) := by decide +kernel
theorem dX5_collect_49 : decode cX5_collect 49 = .ok (.lcmp, 1) := by decide +kernel
theorem dX5_collect_50 : decode cX5_collect 50 = .ok (.ifCond .eq 101, 3) := by decide +kernel
theorem dX5_collect_53 : decode cX5_collect 53 = .ok (.aload_n 0, 1) := by decide +kernel
theorem dX5_collect_54 : decode cX5_collect 54 = .ok (.getfield 82, 3) := by decide +kernel
theorem dX5_collect_57 : decode cX5_collect 57 = .ok (.iload_n 3, 1) := by decide +kernel
theorem dX5_collect_58 : decode cX5_collect 58 = .ok (.if_icmp .ge 93, 3) := by decide +kernel
theorem dX5_collect_61 : decode cX5_collect 61 = .ok (.lload 4, 2) := by decide +kernel
theorem dX5_collect_63 : decode cX5_collect 63 = .ok (.invokestatic 85, 3) := by decide +kernel
theorem dX5_collect_66 : decode cX5_collect 66 = .ok (.istore 7, 2) := by decide +kernel
theorem dX5_collect_68 : decode cX5_collect 68 = .ok (.lload 4, 2) := by decide +kernel
theorem dX5_collect_70 : decode cX5_collect 70 = .ok (.lload 4, 2) := by decide +kernel
theorem dX5_collect_72 : decode cX5_collect 72 = .ok (.lconst 1, 1) := by decide +kernel
theorem dX5_collect_73 : decode cX5_collect 73 = .ok (.lsub, 1) := by decide +kernel
theorem dX5_collect_74 : decode cX5_collect 74 = .ok (.land, 1) := by decide +kernel
theorem dX5_collect_75 : decode cX5_collect 75 = .ok (.lstore 4, 2) := by decide +kernel
theorem dX5_collect_77 : decode cX5_collect 77 = .ok (.aload_n 0, 1) := by decide +kernel
theorem dX5_collect_78 : decode cX5_collect 78 = .ok (.getfield 82, 3) := by decide +kernel
theorem dX5_collect_81 : decode cX5_collect 81 = .ok (.istore 8, 2) := by decide +kernel
theorem dX5_collect_83 : decode cX5_collect 83 = .ok (.aload_n 0, 1) := by decide +kernel
theorem dX5_collect_84 : decode cX5_collect 84 = .ok (.iload 7, 2) := by decide +kernel
theorem dX5_collect_86 : decode cX5_collect 86 = .ok (.invokevirtual 89, 3) := by decide +kernel
theorem dX5_collect_89 : decode cX5_collect 89 = .ok (.iload 7, 2) := by decide +kernel
theorem dX5_collect_91 : decode cX5_collect 91 = .ok (.aload_n 0, 1) := by decide +kernel
theorem dX5_collect_92 : decode cX5_collect 92 = .ok (.getfield 71, 3) := by decide +kernel
theorem dX5_collect_95 : decode cX5_collect 95 = .ok (.getfield 60, 3) := by decide +kernel
theorem dX5_collect_98 : decode cX5_collect 98 = .ok (.aload_n 0, 1) := by decide +kernel
theorem dX5_collect_99 : decode cX5_collect 99 = .ok (.getfield 71, 3) := by decide +kernel
theorem dX5_collect_102 : decode cX5_collect 102 = .ok (.getfield 78, 3) := by decide +kernel
theorem dX5_collect_105 : decode cX5_collect 105 = .ok (.iaload, 1) := by decide +kernel
theorem dX5_collect_106 : decode cX5_collect 106 = .ok (.if_icmp .ne 33, 3) := by decide +kernel
theorem dX5_collect_109 : decode cX5_collect 109 = .ok (.aload_n 0, 1) := by decide +kernel
theorem dX5_collect_110 : decode cX5_collect 110 = .ok (.getfield 71, 3) := by decide +kernel
theorem dX5_collect_113 : decode cX5_collect 113 = .ok (.getfield 93, 3) := by decide +kernel
theorem dX5_collect_116 : decode cX5_collect 116 = .ok (.lconst 0, 1) := by decide +kernel
theorem dX5_collect_117 : decode cX5_collect 117 = .ok (.lcmp, 1) := by decide +kernel
theorem dX5_collect_118 : decode cX5_collect 118 = .ok (.ifCond .eq 21, 3) := by decide +kernel
theorem dX5_collect_121 : decode cX5_collect 121 = .ok (.aload_n 0, 1) := by decide +kernel
theorem dX5_collect_122 : decode cX5_collect 122 = .ok (.iload 7, 2) := by decide +kernel
theorem dX5_collect_124 : decode cX5_collect 124 = .ok (.iconst (-1), 1) := by decide +kernel
theorem dX5_collect_125 : decode cX5_collect 125 = .ok (.iload 8, 2) := by decide +kernel
theorem dX5_collect_127 : decode cX5_collect 127 = .ok (.invokevirtual 97, 3) := by decide +kernel
theorem dX5_collect_130 : decode cX5_collect 130 = .ok (.aload_n 0, 1) := by decide +kernel
theorem dX5_collect_131 : decode cX5_collect 131 = .ok (.iload 7, 2) := by decide +kernel
theorem dX5_collect_133 : decode cX5_collect 133 = .ok (.iconst 1, 1) := by decide +kernel
theorem dX5_collect_134 : decode cX5_collect 134 = .ok (.iload 8, 2) := by decide +kernel
theorem dX5_collect_136 : decode cX5_collect 136 = .ok (.invokevirtual 97, 3) := by decide +kernel
theorem dX5_collect_139 : decode cX5_collect 139 = .ok (.aload_n 0, 1) := by decide +kernel
theorem dX5_collect_140 : decode cX5_collect 140 = .ok (.iload 8, 2) := by decide +kernel
theorem dX5_collect_142 : decode cX5_collect 142 = .ok (.invokevirtual 101, 3) := by decide +kernel
theorem dX5_collect_145 : decode cX5_collect 145 = .ok (.iinc 6 1, 3) := by decide +kernel
theorem dX5_collect_148 : decode cX5_collect 148 = .ok (.goto (-109), 3) := by decide +kernel
theorem dX5_collect_151 : decode cX5_collect 151 = .ok (.aload_n 0, 1) := by decide +kernel
theorem dX5_collect_152 : decode cX5_collect 152 = .ok (.getfield 22, 3) := by decide +kernel
theorem dX5_collect_155 : decode cX5_collect 155 = .ok (.iconst 1, 1) := by decide +kernel
theorem dX5_collect_156 : decode cX5_collect 156 = .ok (.invokevirtual 104, 3) := by decide +kernel
theorem dX5_collect_159 : decode cX5_collect 159 = .ok (.ifCond .eq 13, 3) := by decide +kernel
theorem dX5_collect_162 : decode cX5_collect 162 = .ok (.aload_n 0, 1) := by decide +kernel
theorem dX5_collect_163 : decode cX5_collect 163 = .ok (.getfield 22, 3) := by decide +kernel
theorem dX5_collect_166 : decode cX5_collect 166 = .ok (.getfield 110, 3) := by decide +kernel
theorem dX5_collect_169 : decode cX5_collect 169 = .ok (.goto 4, 3) := by decide +kernel
theorem dX5_collect_172 : decode cX5_collect 172 = .ok (.iconst 0, 1) := by decide +kernel
theorem dX5_collect_173 : decode cX5_collect 173 = .ok (.istore 6, 2) := by decide +kernel
theorem dX5_collect_175 : decode cX5_collect 175 = .ok (.iconst 0, 1) := by decide +kernel
theorem dX5_collect_176 : decode cX5_collect 176 = .ok (.istore 7, 2) := by decide +kernel
theorem dX5_collect_178 : decode cX5_collect 178 = .ok (.iload 7, 2) := by decide +kernel
theorem dX5_collect_180 : decode cX5_collect 180 = .ok (.iload 6, 2) := by decide +kernel
theorem dX5_collect_182 : decode cX5_collect 182 = .ok (.if_icmp .ge 35, 3) := by decide +kernel
theorem dX5_collect_185 : decode cX5_collect 185 = .ok (.aload_n 0, 1) := by decide +kernel
theorem dX5_collect_186 : decode cX5_collect 186 = .ok (.getfield 82, 3) := by decide +kernel
theorem dX5_collect_189 : decode cX5_collect 189 = .ok (.iload_n 3, 1) := by decide +kernel
theorem dX5_collect_190 : decode cX5_collect 190 = .ok (.if_icmp .ge 27, 3) := by decide +kernel
theorem dX5_collect_193 : decode cX5_collect 193 = .ok (.aload_n 0, 1) := by decide +kernel
theorem dX5_collect_194 : decode cX5_collect 194 = .ok (.getfield 82, 3) := by decide +kernel
theorem dX5_collect_197 : decode cX5_collect 197 = .ok (.istore 8, 2) := by decide +kernel
theorem dX5_collect_199 : decode cX5_collect 199 = .ok (.aload_n 0, 1) := by decide +kernel
theorem dX5_collect_200 : decode cX5_collect 200 = .ok (.iload 7, 2) := by decide +kernel
theorem dX5_collect_202 : decode cX5_collect 202 = .ok (.invokevirtual 113, 3) := by decide +kernel
theorem dX5_collect_205 : decode cX5_collect 205 = .ok (.aload_n 0, 1) := by decide +kernel
theorem dX5_collect_206 : decode cX5_collect 206 = .ok (.iload 8, 2) := by decide +kernel
theorem dX5_collect_208 : decode cX5_collect 208 = .ok (.invokevirtual 101, 3) := by decide +kernel
theorem dX5_collect_211 : decode cX5_collect 211 = .ok (.iinc 7 1, 3) := by decide +kernel
theorem dX5_collect_214 : decode cX5_collect 214 = .ok (.goto (-36), 3) := by decide +kernel
theorem dX5_collect_217 : decode cX5_collect 217 = .ok (.aload_n 0, 1) := by decide +kernel
theorem dX5_collect_218 : decode cX5_collect 218 = .ok (.getfield 22, 3) := by decide +kernel
theorem dX5_collect_221 : decode cX5_collect 221 = .ok (.iconst 2, 1) := by decide +kernel
theorem dX5_collect_222 : decode cX5_collect 222 = .ok (.invokevirtual 104, 3) := by decide +kernel
theorem dX5_collect_225 : decode cX5_collect 225 = .ok (.ifCond .eq 14, 3) := by decide +kernel
theorem dX5_collect_228 : decode cX5_collect 228 = .ok (.aload_n 0, 1) := by decide +kernel
theorem dX5_collect_229 : decode cX5_collect 229 = .ok (.getfield 116, 3) := by decide +kernel
theorem dX5_collect_232 : decode cX5_collect 232 = .ok (.ifCond .eq 7, 3) := by decide +kernel
theorem dX5_collect_235 : decode cX5_collect 235 = .ok (.aload_n 0, 1) := by decide +kernel
theorem dX5_collect_236 : decode cX5_collect 236 = .ok (.invokevirtual 120, 3) := by decide +kernel
theorem dX5_collect_239 : decode cX5_collect 239 = .ok (.aload_n 0, 1) := by decide +kernel
theorem dX5_collect_240 : decode cX5_collect 240 = .ok (.getfield 82, 3) := by decide +kernel
theorem dX5_collect_243 : decode cX5_collect 243 = .ok (.ireturn, 1) := by decide +kernel
set_option maxRecDepth 20000 in
theorem moX5_collect_239 {o : Int32 × Hp} {F : Nat} {h : Hp} {x0 : Nat} (hE : sX5_collect_239 F h x0 = some o) : Le h o.2 := by
  exact le_some2 hE
set_option maxRecDepth 20000 in
theorem moX5_collect_217 {o : Int32 × Hp} {F : Nat} {h : Hp} {x0 : Nat} (hE : sX5_collect_217 F h x0 = some o) : Le h o.2 := by
  obtain ⟨r_1, er_1, hE⟩ := cl_e hE
  obtain ⟨o_2, eo_2, hE⟩ := cl_e hE
  refine (moX1_has eo_2).tr ?_
  rcases br_e hE with ⟨_, hE⟩ | ⟨_, hE⟩
  · exact moX5_collect_239 hE
  · rcases br_e hE with ⟨_, hE⟩ | ⟨_, hE⟩
    · exact moX5_collect_239 hE
    · obtain ⟨o_5, eo_5, hE⟩ := cl_e hE
      refine (moX5_keepTakes eo_5).tr ?_
      exact moX5_collect_239 hE
set_option maxRecDepth 20000 in
theorem moX5_collect_178 {o : Int32 × Hp} {F : Nat} : ∀ (f : Nat) {h : Hp} {x0 : Nat} {x3 : Int32} {x6 : Int32} {x7 : Int32}, sX5_collect_178 F f h x0 x3 x6 x7 = some o → Le h o.2 := by
  intro f
  induction f with
  | zero =>
    intro h x0 x3 x6 x7 hE
    rw [sX5_collect_178] at hE
    cases hE
  | succ f ih =>
    intro h x0 x3 x6 x7 hE
    rw [sX5_collect_178] at hE
    have mk_178 : ∀ (h : Hp) (x0 : Nat) (x3 : Int32) (x6 : Int32) (x7 : Int32), sX5_collect_178 F f h x0 x3 x6 x7 = some o → Le h o.2 := fun h x0 x3 x6 x7 hE => ih hE
    rcases br_e hE with ⟨_, hE⟩ | ⟨_, hE⟩
    · exact moX5_collect_217 hE
    · rcases br_e hE with ⟨_, hE⟩ | ⟨_, hE⟩
      · exact moX5_collect_217 hE
      · obtain ⟨v_3, ev_3, hE⟩ := nm_e2 hE
        obtain ⟨o_4, eo_4, hE⟩ := cl_e hE
        refine (moX5_addDrops eo_4).tr ?_
        obtain ⟨o_5, eo_5, hE⟩ := cl_e hE
        refine (moX5_keepLawful eo_5).tr ?_
        obtain ⟨v_6, ev_6, hE⟩ := nm_e2 hE
        exact mk_178 _ _ _ _ _ hE
set_option maxRecDepth 20000 in
theorem moX5_collect_173 {o : Int32 × Hp} {F : Nat} {h : Hp} {x0 : Nat} {x3 : Int32} {t0 : Int32} (hE : sX5_collect_173 F h x0 x3 t0 = some o) : Le h o.2 := by
  exact moX5_collect_178 _ hE
set_option maxRecDepth 20000 in
theorem moX5_collect_151 {o : Int32 × Hp} {F : Nat} {h : Hp} {x0 : Nat} {x3 : Int32} (hE : sX5_collect_151 F h x0 x3 = some o) : Le h o.2 := by
  obtain ⟨r_1, er_1, hE⟩ := cl_e hE
  obtain ⟨o_2, eo_2, hE⟩ := cl_e hE
  refine (moX1_has eo_2).tr ?_
  rcases br_e hE with ⟨_, hE⟩ | ⟨_, hE⟩
  · exact moX5_collect_173 hE
  · obtain ⟨r_4, er_4, hE⟩ := cl_e hE
    exact moX5_collect_173 hE
set_option maxRecDepth 20000 in
theorem moX5_collect_139 {o : Int32 × Hp} {k_39 : Hp → Nat → Int32 → Int64 → Int32 → Option (Int32 × Hp)} {F : Nat} (mk_39 : ∀ (h : Hp) (x0 : Nat) (x3 : Int32) (x4 : Int64) (x6 : Int32), k_39 h x0 x3 x4 x6 = some o → Le h o.2) {h : Hp} {x0 : Nat} {x3 : Int32} {x4 : Int64} {x6 : Int32} {x8 : Int32} (hE : sX5_collect_139 F k_39 h x0 x3 x4 x6 x8 = some o) : Le h o.2 := by
  obtain ⟨o_1, eo_1, hE⟩ := cl_e hE
  refine (moX5_keepLawful eo_1).tr ?_
  obtain ⟨v_2, ev_2, hE⟩ := nm_e2 hE
  exact mk_39 _ _ _ _ _ hE
set_option maxRecDepth 20000 in
theorem moX5_collect_39 {o : Int32 × Hp} {F : Nat} : ∀ (f : Nat) {h : Hp} {x0 : Nat} {x3 : Int32} {x4 : Int64} {x6 : Int32}, sX5_collect_39 F f h x0 x3 x4 x6 = some o → Le h o.2 := by
  intro f
  induction f with
  | zero =>
    intro h x0 x3 x4 x6 hE
    rw [sX5_collect_39] at hE
    cases hE
  | succ f ih =>
    intro h x0 x3 x4 x6 hE
    rw [sX5_collect_39] at hE
    have mk_39 : ∀ (h : Hp) (x0 : Nat) (x3 : Int32) (x4 : Int64) (x6 : Int32), sX5_collect_39 F f h x0 x3 x4 x6 = some o → Le h o.2 := fun h x0 x3 x4 x6 hE => ih hE
    rcases br_e hE with ⟨_, hE⟩ | ⟨_, hE⟩
    · exact moX5_collect_151 hE
    · rcases br_e hE with ⟨_, hE⟩ | ⟨_, hE⟩
      · exact moX5_collect_151 hE
      · rcases br_e hE with ⟨_, hE⟩ | ⟨_, hE⟩
        · exact moX5_collect_151 hE
        · obtain ⟨o_4, eo_4, hE⟩ := cl_e hE
          refine (moX11_lowest eo_4).tr ?_
          obtain ⟨v_5, ev_5, hE⟩ := nm_e2 hE
          obtain ⟨v_6, ev_6, hE⟩ := nm_e2 hE
          obtain ⟨o_7, eo_7, hE⟩ := cl_e hE
          refine (moX5_addSteps eo_7).tr ?_
          obtain ⟨r_8, er_8, hE⟩ := cl_e hE
          obtain ⟨r_9, er_9, hE⟩ := cl_e hE
          obtain ⟨r_10, er_10, hE⟩ := cl_e hE
          obtain ⟨g_11, hE⟩ := gd_e hE
          rcases br_e hE with ⟨_, hE⟩ | ⟨_, hE⟩
          · obtain ⟨r_13, er_13, hE⟩ := cl_e hE
            rcases br_e hE with ⟨_, hE⟩ | ⟨_, hE⟩
            · exact moX5_collect_139 mk_39 hE
            · obtain ⟨o_15, eo_15, hE⟩ := cl_e hE
              refine (moX5_addCastling eo_15).tr ?_
              obtain ⟨o_16, eo_16, hE⟩ := cl_e hE
              refine (moX5_addCastling eo_16).tr ?_
              exact moX5_collect_139 mk_39 hE
          · exact moX5_collect_139 mk_39 hE
set_option maxRecDepth 20000 in
theorem moX5_collect {o : Int32 × Hp} {F : Nat} {h : Hp} {x0 : Nat} {x1 : Nat} {x2 : Nat} {x3 : Int32} (hE : sX5_collect F h x0 x1 x2 x3 = some o) : Le h o.2 := by
  obtain ⟨o_1, eo_1, hE⟩ := cl_e hE
  refine (moX5_begin eo_1).tr ?_
  obtain ⟨r_2, er_2, hE⟩ := cl_e hE
  obtain ⟨o_3, eo_3, hE⟩ := cl_e hE
  refine (moX5_earlyEnd eo_3).tr ?_
  rcases br_e hE with ⟨_, hE⟩ | ⟨_, hE⟩
  · obtain ⟨r_5, er_5, hE⟩ := cl_e hE
    obtain ⟨r_6, er_6, hE⟩ := cl_e hE
    obtain ⟨r_7, er_7, hE⟩ := cl_e hE
    obtain ⟨g_8, hE⟩ := gd_e hE
    obtain ⟨v_9, ev_9, hE⟩ := nm_e2 hE
    exact moX5_collect_39 _ hE
  · exact le_some2 hE
set_option maxRecDepth 20000 in
theorem bX5_collect_239 {p : Program} {l : Launch} {e : Env} {s : State} {m : MethodId} {args : Array Value} {below : List Frame} {meth : Method} {c : Code} {X : Ec} {h0 : Hp} {o : Int32 × Hp} {F : Nat} (C : Cx X p s m args meth c RX5 cX5_collect 9 (some .int) "collect") {h : Hp} {x0 : Nat} {H : Heap} {locs : List Loc} (k_x0 : hK h x0 = 5) (hkm : Km h0 h) (hW : Wx X h H) (hZ : va_S (aA (eB X)) s.heap H locs) (ls : Array Slot) (hl : lv_has ls 9 [(0, .ref x0)]) (hE : sX5_collect_239 F h x0 = some o) : W p l e (rm 3 111) s m args below meth c H locs 0 0 (MQ below (QI X h0 o.1 o.2) args s 0 0 (aA (eB X))) (F0 m 239 ls []) := by
  refine lv_aload_n C.1 C.2.1 dX5_collect_239 rfl (lv_at hl 0 rfl) ?_
  refine gf_X5_82 C hW k_x0 dX5_collect_240 ?_
  exact x_iret C rfl rfl hW hZ hkm hE dX5_collect_243
set_option maxRecDepth 20000 in
theorem bX5_collect_217 {p : Program} {l : Launch} {e : Env} {s : State} {m : MethodId} {args : Array Value} {below : List Frame} {meth : Method} {c : Code} {X : Ec} {h0 : Hp} {o : Int32 × Hp} {F : Nat} (C : Cx X p s m args meth c RX5 cX5_collect 9 (some .int) "collect") {h : Hp} {x0 : Nat} {H : Heap} {locs : List Loc} (k_x0 : hK h x0 = 5) (hkm : Km h0 h) (hW : Wx X h H) (hZ : va_S (aA (eB X)) s.heap H locs) (ls : Array Slot) (hl : lv_has ls 9 [(0, .ref x0)]) (hE : sX5_collect_217 F h x0 = some o) : W p l e (rm 3 111) s m args below meth c H locs 0 0 (MQ below (QI X h0 o.1 o.2) args s 0 0 (aA (eB X))) (F0 m 217 ls []) := by
  refine lv_aload_n C.1 C.2.1 dX5_collect_217 rfl (lv_at hl 0 rfl) ?_
  obtain ⟨r_1, er_1, hE⟩ := cl_e hE
  refine gf_X5_22 C hW k_x0 er_1 dX5_collect_218 (fun k_r_1 => ?_)
  refine lv_iconst (v := (2 : Int32)) C.1 C.2.1 dX5_collect_221 (by decide) ?_
  obtain ⟨o_2, eo_2, hE⟩ := cl_e hE
  refine x_kI (o := o_2) (z_runV (As := [.int (2 : Int32)]) (rest := []) C (ct_X1_has l X k_r_1 eo_2) cw_X5_104 hW hZ k_r_1 (by decide) rfl rfl rfl hl.1 (Nat.le_of_ble_eq_true rfl) rfl dX5_collect_222 ⟨Nat.le_of_ble_eq_true rfl, Nat.le_of_ble_eq_true rfl⟩ ⟨Nat.le_refl _, Nat.le_refl _⟩) hZ (fun _ _ hW km hZ => ?_)
  replace hkm := hkm.tr km
  replace k_x0 := km.at k_x0 (by decide)
  refine lv_if_eq (tgt := 239) C.1 C.2.1 dX5_collect_225 (by decide) (fun c_3 => ?_) (fun c_3 => ?_)
  · have hE := br_p hE c_3
    exact bX5_collect_239 C k_x0 hkm hW hZ _ (lv_sub hl [0] rfl) hE
  · have hE := br_n hE c_3
    refine lv_aload_n C.1 C.2.1 dX5_collect_228 rfl (lv_at hl 0 rfl) ?_
    refine gf_X5_116 C hW k_x0 dX5_collect_229 ?_
    refine lv_if_eq (tgt := 239) C.1 C.2.1 dX5_collect_232 (by decide) (fun c_4 => ?_) (fun c_4 => ?_)
    · have hE := br_p hE c_4
      exact bX5_collect_239 C k_x0 hkm hW hZ _ (lv_sub hl [0] rfl) hE
    · have hE := br_n hE c_4
      refine lv_aload_n C.1 C.2.1 dX5_collect_235 rfl (lv_at hl 0 rfl) ?_
      obtain ⟨o_5, eo_5, hE⟩ := cl_e hE
      refine x_kV (o := o_5) (z_runV (As := []) (rest := []) C (ct_X5_keepTakes l X F k_x0 eo_5) cw_X5_120 hW hZ k_x0 (by decide) rfl rfl rfl hl.1 (Nat.le_of_ble_eq_true rfl) rfl dX5_collect_236 ⟨Nat.le_of_ble_eq_true rfl, Nat.le_of_ble_eq_true rfl⟩ ⟨Nat.le_refl _, Nat.le_refl _⟩) hZ (fun _ _ hW km hZ => ?_)
      replace hkm := hkm.tr km
      replace k_x0 := km.at k_x0 (by decide)
      exact bX5_collect_239 C k_x0 hkm hW hZ _ (lv_sub hl [0] rfl) hE
set_option maxRecDepth 20000 in
theorem bX5_collect_178 {p : Program} {l : Launch} {e : Env} {s : State} {m : MethodId} {args : Array Value} {below : List Frame} {meth : Method} {c : Code} {X : Ec} {h0 : Hp} {o : Int32 × Hp} {F : Nat} (C : Cx X p s m args meth c RX5 cX5_collect 9 (some .int) "collect") : ∀ (f : Nat) {h : Hp} {x0 : Nat} {x3 : Int32} {x6 : Int32} {x7 : Int32} {H : Heap} {locs : List Loc} (k_x0 : hK h x0 = 5), Km h0 h → Wx X h H → va_S (aA (eB X)) s.heap H locs → ∀ (ls : Array Slot), lv_has ls 9 [(0, .ref x0), (3, .int x3), (6, .int x6), (7, .int x7)] → sX5_collect_178 F f h x0 x3 x6 x7 = some o → W p l e (rm 3 111) s m args below meth c H locs 0 0 (MQ below (QI X h0 o.1 o.2) args s 0 0 (aA (eB X))) (F0 m 178 ls []) := by
  intro f
  induction f with
  | zero =>
    intro h x0 x3 x6 x7 H locs k_x0 hkm hW hZ ls hl hE
    rw [sX5_collect_178] at hE
    cases hE
  | succ f ih =>
    intro h x0 x3 x6 x7 H locs k_x0 hkm hW hZ ls hl hE
    rw [sX5_collect_178] at hE
    have hk_178 : ∀ (h : Hp) (x0 : Nat) (x3 : Int32) (x6 : Int32) (x7 : Int32) (H : Heap) (locs : List Loc), hK h x0 = 5 → Km h0 h → Wx X h H → va_S (aA (eB X)) s.heap H locs → ∀ (ls : Array Slot), lv_has ls 9 [(0, .ref x0), (3, .int x3), (6, .int x6), (7, .int x7)] → sX5_collect_178 F f h x0 x3 x6 x7 = some o → W p l e (rm 3 111) s m args below meth c H locs 0 0 (MQ below (QI X h0 o.1 o.2) args s 0 0 (aA (eB X))) (F0 m 178 ls []) := fun h x0 x3 x6 x7 H locs k_x0 a b c ls hl hE => ih k_x0 a b c ls hl hE
    refine lv_iload C.1 C.2.1 dX5_collect_178 (lv_at hl 3 rfl) ?_
    refine lv_iload C.1 C.2.1 dX5_collect_180 (lv_at hl 2 rfl) ?_
    refine lv_icmp_ge (tgt := 217) C.1 C.2.1 dX5_collect_182 (by decide) (fun c_1 => ?_) (fun c_1 => ?_)
    · have hE := br_p hE c_1
      exact bX5_collect_217 C k_x0 hkm hW hZ _ (lv_sub hl [0] rfl) hE
    · have hE := br_n hE c_1
      refine lv_aload_n C.1 C.2.1 dX5_collect_185 rfl (lv_at hl 0 rfl) ?_
      refine gf_X5_82 C hW k_x0 dX5_collect_186 ?_
      refine lv_iload_n C.1 C.2.1 dX5_collect_189 rfl (lv_at hl 1 rfl) ?_
      refine lv_icmp_ge (tgt := 217) C.1 C.2.1 dX5_collect_190 (by decide) (fun c_2 => ?_) (fun c_2 => ?_)
      · have hE := br_p hE c_2
        exact bX5_collect_217 C k_x0 hkm hW hZ _ (lv_sub hl [0] rfl) hE
      · have hE := br_n hE c_2
        refine lv_aload_n C.1 C.2.1 dX5_collect_193 rfl (lv_at hl 0 rfl) ?_
        refine gf_X5_82 C hW k_x0 dX5_collect_194 ?_
        obtain ⟨v_3, ev_3, hE⟩ := nm_e2 hE
        refine x_nmI ev_3 ?_
        refine lv_istore (lv' := [(8, .int v_3), (0, .ref x0), (3, .int x3), (6, .int x6), (7, .int x7)]) C.1 C.2.1 dX5_collect_197 hl (by decide) rfl (fun ls hl => ?_)
        refine lv_aload_n C.1 C.2.1 dX5_collect_199 rfl (lv_at hl 1 rfl) ?_
        refine lv_iload C.1 C.2.1 dX5_collect_200 (lv_at hl 4 rfl) ?_
        obtain ⟨o_4, eo_4, hE⟩ := cl_e hE
        refine x_kV (o := o_4) (z_runV (As := [.int x7]) (rest := []) C (ct_X5_addDrops l X F k_x0 eo_4) cw_X5_113 hW hZ k_x0 (by decide) rfl rfl rfl hl.1 (Nat.le_of_ble_eq_true rfl) rfl dX5_collect_202 ⟨Nat.le_of_ble_eq_true rfl, Nat.le_of_ble_eq_true rfl⟩ ⟨Nat.le_refl _, Nat.le_refl _⟩) hZ (fun _ _ hW km hZ => ?_)
        replace hkm := hkm.tr km
        replace k_x0 := km.at k_x0 (by decide)
        refine lv_aload_n C.1 C.2.1 dX5_collect_205 rfl (lv_at hl 1 rfl) ?_
        refine lv_iload C.1 C.2.1 dX5_collect_206 (lv_at hl 0 rfl) ?_
        obtain ⟨o_5, eo_5, hE⟩ := cl_e hE
        refine x_kV (o := o_5) (z_runV (As := [.int v_3]) (rest := []) C (ct_X5_keepLawful l X F k_x0 eo_5) cw_X5_101 hW hZ k_x0 (by decide) rfl rfl rfl hl.1 (Nat.le_of_ble_eq_true rfl) rfl dX5_collect_208 ⟨Nat.le_of_ble_eq_true rfl, Nat.le_of_ble_eq_true rfl⟩ ⟨Nat.le_refl _, Nat.le_refl _⟩) hZ (fun _ _ hW km hZ => ?_)
        replace hkm := hkm.tr km
        replace k_x0 := km.at k_x0 (by decide)
        obtain ⟨v_6, ev_6, hE⟩ := nm_e2 hE
        refine lv_iinc (v := v_6) (lv' := [(7, .int v_6), (8, .int v_3), (0, .ref x0), (3, .int x3), (6, .int x6)]) C.1 C.2.1 dX5_collect_211 hl (k := 4) rfl (by rw [ev_6]; rfl) (by decide) rfl (fun ls hl => ?_)
        refine lv_goto (tgt := 178) C.1 C.2.1 dX5_collect_214 (by decide) ?_
        exact hk_178 _ _ _ _ _ _ _ k_x0 hkm hW hZ _ (lv_sub hl [2, 3, 4, 0] rfl) hE
set_option maxRecDepth 20000 in
theorem bX5_collect_173 {p : Program} {l : Launch} {e : Env} {s : State} {m : MethodId} {args : Array Value} {below : List Frame} {meth : Method} {c : Code} {X : Ec} {h0 : Hp} {o : Int32 × Hp} {F : Nat} (C : Cx X p s m args meth c RX5 cX5_collect 9 (some .int) "collect") {h : Hp} {x0 : Nat} {x3 : Int32} {t0 : Int32} {H : Heap} {locs : List Loc} (k_x0 : hK h x0 = 5) (hkm : Km h0 h) (hW : Wx X h H) (hZ : va_S (aA (eB X)) s.heap H locs) (ls : Array Slot) (hl : lv_has ls 9 [(0, .ref x0), (3, .int x3)]) (hE : sX5_collect_173 F h x0 x3 t0 = some o) : W p l e (rm 3 111) s m args below meth c H locs 0 0 (MQ below (QI X h0 o.1 o.2) args s 0 0 (aA (eB X))) (F0 m 173 ls [.int t0]) := by
  refine lv_istore (lv' := [(6, .int t0), (0, .ref x0), (3, .int x3)]) C.1 C.2.1 dX5_collect_173 hl (by decide) rfl (fun ls hl => ?_)
  refine lv_iconst (v := (0 : Int32)) C.1 C.2.1 dX5_collect_175 (by decide) ?_
  refine lv_istore (lv' := [(7, .int (0 : Int32)), (6, .int t0), (0, .ref x0), (3, .int x3)]) C.1 C.2.1 dX5_collect_176 hl (by decide) rfl (fun ls hl => ?_)
  exact bX5_collect_178 C F k_x0 hkm hW hZ _ (lv_sub hl [2, 3, 1, 0] rfl) hE
set_option maxRecDepth 20000 in
theorem bX5_collect_151 {p : Program} {l : Launch} {e : Env} {s : State} {m : MethodId} {args : Array Value} {below : List Frame} {meth : Method} {c : Code} {X : Ec} {h0 : Hp} {o : Int32 × Hp} {F : Nat} (C : Cx X p s m args meth c RX5 cX5_collect 9 (some .int) "collect") {h : Hp} {x0 : Nat} {x3 : Int32} {H : Heap} {locs : List Loc} (k_x0 : hK h x0 = 5) (hkm : Km h0 h) (hW : Wx X h H) (hZ : va_S (aA (eB X)) s.heap H locs) (ls : Array Slot) (hl : lv_has ls 9 [(0, .ref x0), (3, .int x3)]) (hE : sX5_collect_151 F h x0 x3 = some o) : W p l e (rm 3 111) s m args below meth c H locs 0 0 (MQ below (QI X h0 o.1 o.2) args s 0 0 (aA (eB X))) (F0 m 151 ls []) := by
  refine lv_aload_n C.1 C.2.1 dX5_collect_151 rfl (lv_at hl 0 rfl) ?_
  obtain ⟨r_1, er_1, hE⟩ := cl_e hE
  refine gf_X5_22 C hW k_x0 er_1 dX5_collect_152 (fun k_r_1 => ?_)
  refine lv_iconst (v := (1 : Int32)) C.1 C.2.1 dX5_collect_155 (by decide) ?_
  obtain ⟨o_2, eo_2, hE⟩ := cl_e hE
  refine x_kI (o := o_2) (z_runV (As := [.int (1 : Int32)]) (rest := []) C (ct_X1_has l X k_r_1 eo_2) cw_X5_104 hW hZ k_r_1 (by decide) rfl rfl rfl hl.1 (Nat.le_of_ble_eq_true rfl) rfl dX5_collect_156 ⟨Nat.le_of_ble_eq_true rfl, Nat.le_of_ble_eq_true rfl⟩ ⟨Nat.le_refl _, Nat.le_refl _⟩) hZ (fun _ _ hW km hZ => ?_)
  replace hkm := hkm.tr km
  replace k_x0 := km.at k_x0 (by decide)
  refine lv_if_eq (tgt := 172) C.1 C.2.1 dX5_collect_159 (by decide) (fun c_3 => ?_) (fun c_3 => ?_)
  · have hE := br_p hE c_3
    refine lv_iconst (v := (0 : Int32)) C.1 C.2.1 dX5_collect_172 (by decide) ?_
    exact bX5_collect_173 C k_x0 hkm hW hZ _ (lv_sub hl [0, 1] rfl) hE
  · have hE := br_n hE c_3
    refine lv_aload_n C.1 C.2.1 dX5_collect_162 rfl (lv_at hl 0 rfl) ?_
    obtain ⟨r_4, er_4, hE⟩ := cl_e hE
    refine gf_X5_22 C hW k_x0 er_4 dX5_collect_163 (fun k_r_4 => ?_)
    refine gf_X5_110 C hW k_r_4 dX5_collect_166 ?_
    refine lv_goto (tgt := 173) C.1 C.2.1 dX5_collect_169 (by decide) ?_
    exact bX5_collect_173 C k_x0 hkm hW hZ _ (lv_sub hl [0, 1] rfl) hE
set_option maxRecDepth 20000 in
theorem bX5_collect_139 {p : Program} {l : Launch} {e : Env} {s : State} {m : MethodId} {args : Array Value} {below : List Frame} {meth : Method} {c : Code} {X : Ec} {h0 : Hp} {o : Int32 × Hp} {k_39 : Hp → Nat → Int32 → Int64 → Int32 → Option (Int32 × Hp)} {F : Nat} (C : Cx X p s m args meth c RX5 cX5_collect 9 (some .int) "collect") (hk_39 : ∀ (h : Hp) (x0 : Nat) (x3 : Int32) (x4 : Int64) (x6 : Int32) (H : Heap) (locs : List Loc), hK h x0 = 5 → Km h0 h → Wx X h H → va_S (aA (eB X)) s.heap H locs → ∀ (ls : Array Slot), lv_has ls 9 [(0, .ref x0), (3, .int x3), (4, .long x4), (6, .int x6)] → k_39 h x0 x3 x4 x6 = some o → W p l e (rm 3 111) s m args below meth c H locs 0 0 (MQ below (QI X h0 o.1 o.2) args s 0 0 (aA (eB X))) (F0 m 39 ls [])) {h : Hp} {x0 : Nat} {x3 : Int32} {x4 : Int64} {x6 : Int32} {x8 : Int32} {H : Heap} {locs : List Loc} (k_x0 : hK h x0 = 5) (hkm : Km h0 h) (hW : Wx X h H) (hZ : va_S (aA (eB X)) s.heap H locs) (ls : Array Slot) (hl : lv_has ls 9 [(0, .ref x0), (3, .int x3), (4, .long x4), (6, .int x6), (8, .int x8)]) (hE : sX5_collect_139 F k_39 h x0 x3 x4 x6 x8 = some o) : W p l e (rm 3 111) s m args below meth c H locs 0 0 (MQ below (QI X h0 o.1 o.2) args s 0 0 (aA (eB X))) (F0 m 139 ls []) := by
  refine lv_aload_n C.1 C.2.1 dX5_collect_139 rfl (lv_at hl 0 rfl) ?_
  refine lv_iload C.1 C.2.1 dX5_collect_140 (lv_at hl 4 rfl) ?_
  obtain ⟨o_1, eo_1, hE⟩ := cl_e hE
  refine x_kV (o := o_1) (z_runV (As := [.int x8]) (rest := []) C (ct_X5_keepLawful l X F k_x0 eo_1) cw_X5_101 hW hZ k_x0 (by decide) rfl rfl rfl hl.1 (Nat.le_of_ble_eq_true rfl) rfl dX5_collect_142 ⟨Nat.le_of_ble_eq_true rfl, Nat.le_of_ble_eq_true rfl⟩ ⟨Nat.le_refl _, Nat.le_refl _⟩) hZ (fun _ _ hW km hZ => ?_)
  replace hkm := hkm.tr km
  replace k_x0 := km.at k_x0 (by decide)
  obtain ⟨v_2, ev_2, hE⟩ := nm_e2 hE
  refine lv_iinc (v := v_2) (lv' := [(6, .int v_2), (0, .ref x0), (3, .int x3), (4, .long x4), (8, .int x8)]) C.1 C.2.1 dX5_collect_145 hl (k := 3) rfl (by rw [ev_2]; rfl) (by decide) rfl (fun ls hl => ?_)
  refine lv_goto (tgt := 39) C.1 C.2.1 dX5_collect_148 (by decide) ?_
  exact hk_39 _ _ _ _ _ _ _ k_x0 hkm hW hZ _ (lv_sub hl [1, 2, 3, 0] rfl) hE
set_option maxRecDepth 20000 in
theorem bX5_collect_39 {p : Program} {l : Launch} {e : Env} {s : State} {m : MethodId} {args : Array Value} {below : List Frame} {meth : Method} {c : Code} {X : Ec} {h0 : Hp} {o : Int32 × Hp} {F : Nat} (C : Cx X p s m args meth c RX5 cX5_collect 9 (some .int) "collect") : ∀ (f : Nat) {h : Hp} {x0 : Nat} {x3 : Int32} {x4 : Int64} {x6 : Int32} {H : Heap} {locs : List Loc} (k_x0 : hK h x0 = 5), Km h0 h → Wx X h H → va_S (aA (eB X)) s.heap H locs → ∀ (ls : Array Slot), lv_has ls 9 [(0, .ref x0), (3, .int x3), (4, .long x4), (6, .int x6)] → sX5_collect_39 F f h x0 x3 x4 x6 = some o → W p l e (rm 3 111) s m args below meth c H locs 0 0 (MQ below (QI X h0 o.1 o.2) args s 0 0 (aA (eB X))) (F0 m 39 ls []) := by
  intro f
  induction f with
  | zero =>
    intro h x0 x3 x4 x6 H locs k_x0 hkm hW hZ ls hl hE
    rw [sX5_collect_39] at hE
    cases hE
  | succ f ih =>
    intro h x0 x3 x4 x6 H locs k_x0 hkm hW hZ ls hl hE
    rw [sX5_collect_39] at hE
    have hk_39 : ∀ (h : Hp) (x0 : Nat) (x3 : Int32) (x4 : Int64) (x6 : Int32) (H : Heap) (locs : List Loc), hK h x0 = 5 → Km h0 h → Wx X h H → va_S (aA (eB X)) s.heap H locs → ∀ (ls : Array Slot), lv_has ls 9 [(0, .ref x0), (3, .int x3), (4, .long x4), (6, .int x6)] → sX5_collect_39 F f h x0 x3 x4 x6 = some o → W p l e (rm 3 111) s m args below meth c H locs 0 0 (MQ below (QI X h0 o.1 o.2) args s 0 0 (aA (eB X))) (F0 m 39 ls []) := fun h x0 x3 x4 x6 H locs k_x0 a b c ls hl hE => ih k_x0 a b c ls hl hE
    refine lv_iload C.1 C.2.1 dX5_collect_39 (lv_at hl 3 rfl) ?_
    refine lv_bipush (v := (64 : Int32)) C.1 C.2.1 dX5_collect_41 (by decide) ?_
    refine lv_icmp_ge (tgt := 151) C.1 C.2.1 dX5_collect_43 (by decide) (fun c_1 => ?_) (fun c_1 => ?_)
    · have hE := br_p hE c_1
      exact bX5_collect_151 C k_x0 hkm hW hZ _ (lv_sub hl [0, 1] rfl) hE
    · have hE := br_n hE c_1
      refine lv_lload C.1 C.2.1 dX5_collect_46 (lv_at hl 2 rfl) ?_
      refine lv_lconst (v := (0 : Int64)) C.1 C.2.1 dX5_collect_48 (by decide) ?_
      refine W.lcmp C.1 C.2.1 dX5_collect_49 ?_
      refine lv_if_eq (tgt := 151) C.1 C.2.1 dX5_collect_50 (by decide) (fun c_2 => ?_) (fun c_2 => ?_)
      · have hE := br_p hE c_2
        exact bX5_collect_151 C k_x0 hkm hW hZ _ (lv_sub hl [0, 1] rfl) hE
      · have hE := br_n hE c_2
        refine lv_aload_n C.1 C.2.1 dX5_collect_53 rfl (lv_at hl 0 rfl) ?_
        refine gf_X5_82 C hW k_x0 dX5_collect_54 ?_
        refine lv_iload_n C.1 C.2.1 dX5_collect_57 rfl (lv_at hl 1 rfl) ?_
        refine lv_icmp_ge (tgt := 151) C.1 C.2.1 dX5_collect_58 (by decide) (fun c_3 => ?_) (fun c_3 => ?_)
        · have hE := br_p hE c_3
          exact bX5_collect_151 C k_x0 hkm hW hZ _ (lv_sub hl [0, 1] rfl) hE
        · have hE := br_n hE c_3
          refine lv_lload C.1 C.2.1 dX5_collect_61 (lv_at hl 2 rfl) ?_
          obtain ⟨o_4, eo_4, hE⟩ := cl_e hE
          refine x_kI (o := o_4) (x_runSN (As := [.long x4]) (rest := []) C (ct_X11_lowest l X eo_4) cn_X5_85 hW hZ rfl hl.1 (Nat.le_of_ble_eq_true rfl) rfl dX5_collect_63 ⟨Nat.le_of_ble_eq_true rfl, Nat.le_of_ble_eq_true rfl⟩ ⟨Nat.le_refl _, Nat.le_refl _⟩) hZ (fun _ _ hW km hZ => ?_)
          replace hkm := hkm.tr km
          replace k_x0 := km.at k_x0 (by decide)
          refine lv_istore (lv' := [(7, .int o_4.1), (0, .ref x0), (3, .int x3), (4, .long x4), (6, .int x6)]) C.1 C.2.1 dX5_collect_66 hl (by decide) rfl (fun ls hl => ?_)
          refine lv_lload C.1 C.2.1 dX5_collect_68 (lv_at hl 3 rfl) ?_
          refine lv_lload C.1 C.2.1 dX5_collect_70 (lv_at hl 3 rfl) ?_
          refine lv_lconst (v := (1 : Int64)) C.1 C.2.1 dX5_collect_72 (by decide) ?_
          refine lv_lsub C.1 C.2.1 dX5_collect_73 ?_
          refine lv_land C.1 C.2.1 dX5_collect_74 ?_
          obtain ⟨v_5, ev_5, hE⟩ := nm_e2 hE
          refine x_nmJ ev_5 ?_
          refine lv_lstore (lv' := [(4, .long v_5), (7, .int o_4.1), (0, .ref x0), (3, .int x3), (6, .int x6)]) C.1 C.2.1 dX5_collect_75 hl (by decide) rfl (fun ls hl => ?_)
          refine lv_aload_n C.1 C.2.1 dX5_collect_77 rfl (lv_at hl 2 rfl) ?_
          refine gf_X5_82 C hW k_x0 dX5_collect_78 ?_
          obtain ⟨v_6, ev_6, hE⟩ := nm_e2 hE
          refine x_nmI ev_6 ?_
          refine lv_istore (lv' := [(8, .int v_6), (4, .long v_5), (7, .int o_4.1), (0, .ref x0), (3, .int x3), (6, .int x6)]) C.1 C.2.1 dX5_collect_81 hl (by decide) rfl (fun ls hl => ?_)
          refine lv_aload_n C.1 C.2.1 dX5_collect_83 rfl (lv_at hl 3 rfl) ?_
          refine lv_iload C.1 C.2.1 dX5_collect_84 (lv_at hl 2 rfl) ?_
          obtain ⟨o_7, eo_7, hE⟩ := cl_e hE
          refine x_kV (o := o_7) (z_runV (As := [.int o_4.1]) (rest := []) C (ct_X5_addSteps l X F k_x0 eo_7) cw_X5_89 hW hZ k_x0 (by decide) rfl rfl rfl hl.1 (Nat.le_of_ble_eq_true rfl) rfl dX5_collect_86 ⟨Nat.le_of_ble_eq_true rfl, Nat.le_of_ble_eq_true rfl⟩ ⟨Nat.le_refl _, Nat.le_refl _⟩) hZ (fun _ _ hW km hZ => ?_)
          replace hkm := hkm.tr km
          replace k_x0 := km.at k_x0 (by decide)
          refine lv_iload C.1 C.2.1 dX5_collect_89 (lv_at hl 2 rfl) ?_
          refine lv_aload_n C.1 C.2.1 dX5_collect_91 rfl (lv_at hl 3 rfl) ?_
          obtain ⟨r_8, er_8, hE⟩ := cl_e hE
          refine gf_X5_71 C hW k_x0 er_8 dX5_collect_92 (fun k_r_8 => ?_)
          obtain ⟨r_9, er_9, hE⟩ := cl_e hE
          refine gf_X5_60 C hW k_r_8 er_9 dX5_collect_95 (fun k_r_9 => ?_)
          refine lv_aload_n C.1 C.2.1 dX5_collect_98 rfl (lv_at hl 3 rfl) ?_
          obtain ⟨r_10, er_10, hE⟩ := cl_e hE
          refine gf_X5_71 C hW k_x0 er_10 dX5_collect_99 (fun k_r_10 => ?_)
          refine gf_X5_78 C hW k_r_10 dX5_collect_102 ?_
          obtain ⟨g_11, hE⟩ := gd_e hE
          refine y_iald C hW k_r_9 g_11 dX5_collect_105 ?_
          refine lv_icmp_ne (tgt := 139) C.1 C.2.1 dX5_collect_106 (by decide) (fun c_12 => ?_) (fun c_12 => ?_)
          · have hE := br_n hE c_12
            exact bX5_collect_139 C hk_39 k_x0 hkm hW hZ _ (lv_sub hl [3, 4, 1, 5, 0] rfl) hE
          · have hE := br_p hE c_12
            refine lv_aload_n C.1 C.2.1 dX5_collect_109 rfl (lv_at hl 3 rfl) ?_
            obtain ⟨r_13, er_13, hE⟩ := cl_e hE
            refine gf_X5_71 C hW k_x0 er_13 dX5_collect_110 (fun k_r_13 => ?_)
            refine gf_X5_93 C hW k_r_13 dX5_collect_113 ?_
            refine lv_lconst (v := (0 : Int64)) C.1 C.2.1 dX5_collect_116 (by decide) ?_
            refine W.lcmp C.1 C.2.1 dX5_collect_117 ?_
            refine lv_if_eq (tgt := 139) C.1 C.2.1 dX5_collect_118 (by decide) (fun c_14 => ?_) (fun c_14 => ?_)
            · have hE := br_p hE c_14
              exact bX5_collect_139 C hk_39 k_x0 hkm hW hZ _ (lv_sub hl [3, 4, 1, 5, 0] rfl) hE
            · have hE := br_n hE c_14
              refine lv_aload_n C.1 C.2.1 dX5_collect_121 rfl (lv_at hl 3 rfl) ?_
              refine lv_iload C.1 C.2.1 dX5_collect_122 (lv_at hl 2 rfl) ?_
              refine lv_iconst (v := (-1 : Int32)) C.1 C.2.1 dX5_collect_124 (by decide) ?_
              refine lv_iload C.1 C.2.1 dX5_collect_125 (lv_at hl 0 rfl) ?_
              obtain ⟨o_15, eo_15, hE⟩ := cl_e hE
              refine x_kV (o := o_15) (z_runV (As := [.int o_4.1, .int (-1 : Int32), .int v_6]) (rest := []) C (ct_X5_addCastling l X F k_x0 eo_15) cw_X5_97 hW hZ k_x0 (by decide) rfl rfl rfl hl.1 (Nat.le_of_ble_eq_true rfl) rfl dX5_collect_127 ⟨Nat.le_of_ble_eq_true rfl, Nat.le_of_ble_eq_true rfl⟩ ⟨Nat.le_refl _, Nat.le_refl _⟩) hZ (fun _ _ hW km hZ => ?_)
              replace hkm := hkm.tr km
              replace k_x0 := km.at k_x0 (by decide)
              refine lv_aload_n C.1 C.2.1 dX5_collect_130 rfl (lv_at hl 3 rfl) ?_
              refine lv_iload C.1 C.2.1 dX5_collect_131 (lv_at hl 2 rfl) ?_
              refine lv_iconst (v := (1 : Int32)) C.1 C.2.1 dX5_collect_133 (by decide) ?_
              refine lv_iload C.1 C.2.1 dX5_collect_134 (lv_at hl 0 rfl) ?_
              obtain ⟨o_16, eo_16, hE⟩ := cl_e hE
              refine x_kV (o := o_16) (z_runV (As := [.int o_4.1, .int (1 : Int32), .int v_6]) (rest := []) C (ct_X5_addCastling l X F k_x0 eo_16) cw_X5_97 hW hZ k_x0 (by decide) rfl rfl rfl hl.1 (Nat.le_of_ble_eq_true rfl) rfl dX5_collect_136 ⟨Nat.le_of_ble_eq_true rfl, Nat.le_of_ble_eq_true rfl⟩ ⟨Nat.le_refl _, Nat.le_refl _⟩) hZ (fun _ _ hW km hZ => ?_)
              replace hkm := hkm.tr km
              replace k_x0 := km.at k_x0 (by decide)
              exact bX5_collect_139 C hk_39 k_x0 hkm hW hZ _ (lv_sub hl [3, 4, 1, 5, 0] rfl) hE
set_option maxRecDepth 20000 in
theorem ct_X5_collect (l : Launch) (X : Ec) (F : Nat) {h : Hp} {x0 : Nat} {x1 : Nat} {x2 : Nat} {x3 : Int32} {o : Int32 × Hp} (k_x0 : hK h x0 = 5) (k_x1 : hK h x1 = 3) (k_x2 : hK h x2 = 17) (hE : sX5_collect F h x0 x1 x2 x3 = some o) : MetI l yX5_collect cX5_collect 9 (some .int) 3 111 X [.ref x0, .ref x1, .ref x2, .int x3] h o := by
  refine x_met (by decide) (Nat.le_of_ble_eq_true rfl) ?_
  intro p e s m below meth c ls C hl hW hZ
  have hl : lv_has ls 9 [(0, .ref x0), (1, .ref x1), (2, .ref x2), (3, .int x3)] := hl
  have hkm : Km h h := Km.rf h
  refine lv_aload_n C.1 C.2.1 dX5_collect_0 rfl (lv_at hl 0 rfl) ?_
  refine lv_aload_n C.1 C.2.1 dX5_collect_1 rfl (lv_at hl 1 rfl) ?_
  refine lv_aload_n C.1 C.2.1 dX5_collect_2 rfl (lv_at hl 2 rfl) ?_
  obtain ⟨o_1, eo_1, hE⟩ := cl_e hE
  refine x_kV (o := o_1) (z_runV (As := [.ref x1, .ref x2]) (rest := []) C (ct_X5_begin l X F k_x0 k_x1 k_x2 eo_1) cw_X5_67 hW hZ k_x0 (by decide) rfl rfl rfl hl.1 (Nat.le_of_ble_eq_true rfl) rfl dX5_collect_3 ⟨Nat.le_of_ble_eq_true rfl, Nat.le_of_ble_eq_true rfl⟩ ⟨Nat.le_refl _, Nat.le_refl _⟩) hZ (fun _ _ hW km hZ => ?_)
  replace hkm := hkm.tr km
  replace k_x0 := km.at k_x0 (by decide)
  replace k_x1 := km.at k_x1 (by decide)
  replace k_x2 := km.at k_x2 (by decide)
  refine lv_aload_n C.1 C.2.1 dX5_collect_6 rfl (lv_at hl 0 rfl) ?_
  refine lv_aload_n C.1 C.2.1 dX5_collect_7 rfl (lv_at hl 0 rfl) ?_
  obtain ⟨r_2, er_2, hE⟩ := cl_e hE
  refine gf_X5_71 C hW k_x0 er_2 dX5_collect_8 (fun k_r_2 => ?_)
  obtain ⟨o_3, eo_3, hE⟩ := cl_e hE
  refine x_kI (o := o_3) (z_runV (As := [.ref r_2]) (rest := []) C (ct_X5_earlyEnd l X k_x0 k_r_2 eo_3) cw_X5_74 hW hZ k_x0 (by decide) rfl rfl rfl hl.1 (Nat.le_of_ble_eq_true rfl) rfl dX5_collect_11 ⟨Nat.le_of_ble_eq_true rfl, Nat.le_of_ble_eq_true rfl⟩ ⟨Nat.le_refl _, Nat.le_refl _⟩) hZ (fun _ _ hW km hZ => ?_)
  replace hkm := hkm.tr km
  replace k_x0 := km.at k_x0 (by decide)
  replace k_x1 := km.at k_x1 (by decide)
  replace k_x2 := km.at k_x2 (by decide)
  refine lv_if_eq (tgt := 19) C.1 C.2.1 dX5_collect_14 (by decide) (fun c_4 => ?_) (fun c_4 => ?_)
  · have hE := br_p hE c_4
    refine lv_aload_n C.1 C.2.1 dX5_collect_19 rfl (lv_at hl 0 rfl) ?_
    obtain ⟨r_5, er_5, hE⟩ := cl_e hE
    refine gf_X5_71 C hW k_x0 er_5 dX5_collect_20 (fun k_r_5 => ?_)
    obtain ⟨r_6, er_6, hE⟩ := cl_e hE
    refine gf_X5_33 C hW k_r_5 er_6 dX5_collect_23 (fun k_r_6 => ?_)
    refine lv_aload_n C.1 C.2.1 dX5_collect_26 rfl (lv_at hl 0 rfl) ?_
    obtain ⟨r_7, er_7, hE⟩ := cl_e hE
    refine gf_X5_71 C hW k_x0 er_7 dX5_collect_27 (fun k_r_7 => ?_)
    refine gf_X5_78 C hW k_r_7 dX5_collect_30 ?_
    obtain ⟨g_8, hE⟩ := gd_e hE
    refine y_lald C hW k_r_6 g_8 dX5_collect_33 ?_
    obtain ⟨v_9, ev_9, hE⟩ := nm_e2 hE
    refine x_nmJ ev_9 ?_
    refine lv_lstore (lv' := [(4, .long v_9), (0, .ref x0), (1, .ref x1), (2, .ref x2), (3, .int x3)]) C.1 C.2.1 dX5_collect_34 hl (by decide) rfl (fun ls hl => ?_)
    refine lv_iconst (v := (0 : Int32)) C.1 C.2.1 dX5_collect_36 (by decide) ?_
    refine lv_istore (lv' := [(6, .int (0 : Int32)), (4, .long v_9), (0, .ref x0), (1, .ref x1), (2, .ref x2), (3, .int x3)]) C.1 C.2.1 dX5_collect_37 hl (by decide) rfl (fun ls hl => ?_)
    exact bX5_collect_39 C F k_x0 hkm hW hZ _ (lv_sub hl [2, 5, 1, 0] rfl) hE
  · have hE := br_n hE c_4
    refine lv_iconst (v := (0 : Int32)) C.1 C.2.1 dX5_collect_17 (by decide) ?_
    exact x_iret C rfl rfl hW hZ hkm hE dX5_collect_18
