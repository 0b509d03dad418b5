section
variable {p : Program} {l : Launch} {e : Env} {R : Room} {s : State} {m : MethodId} {args : Array Value} {below : List Frame} {meth : Method} {c : Code} {H : Heap} {locs : List Loc} {cells slots : Nat} {Q : State → Prop}
variable {cc : ByteArray} {pc : Nat} {ls : Array Slot} {rest : List Value} {X : Ec} {h h1 : Hp} {nL : Nat} {rt : Option FieldType} {mn : String}
theorem gf_X11_114 {a r : Nat} (C : Cx X p s m args meth c RX11 cc nL rt mn) (hW : Wx X h H) (ha : hK h a = 11) (hr : hR h a 16 = some r) (hdg : decode cc pc = .ok (.getfield 114, 3)) (kk : hK h r = 17 → W p l e R s m args below meth c H locs cells slots Q (F0 m (pc + 3) ls (.ref r :: rest))) : W p l e R s m args below meth c H locs cells slots Q (F0 m pc ls (.ref a :: rest)) :=
  y_getr C hW ha i_X11 (by decide) rfl (by decide) m_845 rfl rfl hr hdg kk
end
theorem dX11_played_0 : decode cX11_played 0 = .ok (.iload_n 1, 1) := by decide +kernel
theorem dX11_played_1 : decode cX11_played 1 = .ok (.invokestatic 318, 3) := by decide +kernel
theorem dX11_played_4 : decode cX11_played 4 = .ok (.ifCond .ne 6, 3) := by decide +kernel
theorem dX11_played_7 : decode cX11_played 7 = .ok (.bipush (-101), 2) := by decide +kernel
theorem dX11_played_9 : decode cX11_played 9 = .ok (.ireturn, 1) := by decide +kernel
theorem dX11_played_10 : decode cX11_played 10 = .ok (.iload_n 2, 1) := by decide +kernel
theorem dX11_played_11 : decode cX11_played 11 = .ok (.ifCond .lt 28, 3) := by decide +kernel
theorem dX11_played_14 : decode cX11_played 14 = .ok (.iload_n 2, 1) := by decide +kernel
theorem dX11_played_15 : decode cX11_played 15 = .ok (.aload_n 0, 1) := by decide +kernel
theorem dX11_played_16 : decode cX11_played 16 = .ok (.getfield 117, 3) := by decide +kernel
theorem dX11_played_19 : decode cX11_played 19 = .ok (.iload_n 1, 1) := by decide +kernel
theorem dX11_played_20 : decode cX11_played 20 = .ok (.iaload, 1) := by decide +kernel
theorem dX11_played_21 : decode cX11_played 21 = .ok (.if_icmp .ge 18, 3) := by decide +kernel
theorem dX11_played_24 : decode cX11_played 24 = .ok (.aload_n 0, 1) := by decide +kernel
theorem dX11_played_25 : decode cX11_played 25 = .ok (.getfield 114, 3) := by decide +kernel
theorem dX11_played_28 : decode cX11_played 28 = .ok (.iload_n 1, 1) := by decide +kernel
theorem dX11_played_29 : decode cX11_played 29 = .ok (.sipush 301, 3) := by decide +kernel
theorem dX11_played_32 : decode cX11_played 32 = .ok (.imul, 1) := by decide +kernel
theorem dX11_played_33 : decode cX11_played 33 = .ok (.iload_n 2, 1) := by decide +kernel
theorem dX11_played_34 : decode cX11_played 34 = .ok (.iadd, 1) := by decide +kernel
theorem dX11_played_35 : decode cX11_played 35 = .ok (.iaload, 1) := by decide +kernel
theorem dX11_played_36 : decode cX11_played 36 = .ok (.goto 5, 3) := by decide +kernel
theorem dX11_played_39 : decode cX11_played 39 = .ok (.bipush (-102), 2) := by decide +kernel
theorem dX11_played_41 : decode cX11_played 41 = .ok (.ireturn, 1) := by decide +kernel
set_option maxRecDepth 20000 in
theorem moX11_played_41 {o : Int32 × Hp} {h : Hp} {t0 : Int32} (hE : sX11_played_41 h  t0 = some o) : Le h o.2 := by
  exact le_some2 hE
set_option maxRecDepth 20000 in
theorem moX11_played_39 {o : Int32 × Hp} {h : Hp} (hE : sX11_played_39 h  = some o) : Le h o.2 := by
  exact moX11_played_41 hE
set_option maxRecDepth 20000 in
theorem moX11_played {o : Int32 × Hp} {h : Hp} {x0 : Nat} {x1 : Int32} {x2 : Int32} (hE : sX11_played h x0 x1 x2 = some o) : Le h o.2 := by
  obtain ⟨o_1, eo_1, hE⟩ := cl_e hE
  refine (moX11_isGame eo_1).tr ?_
  rcases br_e hE with ⟨_, hE⟩ | ⟨_, hE⟩
  · exact le_some2 hE
  · rcases br_e hE with ⟨_, hE⟩ | ⟨_, hE⟩
    · exact moX11_played_39 hE
    · obtain ⟨r_4, er_4, hE⟩ := cl_e hE
      obtain ⟨g_5, hE⟩ := gd_e hE
      rcases br_e hE with ⟨_, hE⟩ | ⟨_, hE⟩
      · exact moX11_played_39 hE
      · obtain ⟨r_7, er_7, hE⟩ := cl_e hE
        obtain ⟨g_8, hE⟩ := gd_e hE
        exact moX11_played_41 hE
set_option maxRecDepth 20000 in
theorem bX11_played_41 {p : Program} {l : Launch} {e : Env} {s : State} {m : MethodId} {args : Array Value} {below : List Frame} {meth : Method} {c : Code} {X : Ec} {h0 : Hp} {o : Int32 × Hp} (C : Cx X p s m args meth c RX11 cX11_played 3 (some .int) "played") {h : Hp} {t0 : Int32} {H : Heap} {locs : List Loc} (hkm : Km h0 h) (hW : Wx X h H) (hZ : va_S (aA (eB X)) s.heap H locs) (ls : Array Slot) (hl : lv_has ls 3 []) (hE : sX11_played_41 h  t0 = some o) : W p l e (rm 1 20) s m args below meth c H locs 0 0 (MQ below (QI X h0 o.1 o.2) args s 0 0 (aA (eB X))) (F0 m 41 ls [.int t0]) := by
  exact x_iret C rfl rfl hW hZ hkm hE dX11_played_41
set_option maxRecDepth 20000 in
theorem bX11_played_39 {p : Program} {l : Launch} {e : Env} {s : State} {m : MethodId} {args : Array Value} {below : List Frame} {meth : Method} {c : Code} {X : Ec} {h0 : Hp} {o : Int32 × Hp} (C : Cx X p s m args meth c RX11 cX11_played 3 (some .int) "played") {h : Hp} {H : Heap} {locs : List Loc} (hkm : Km h0 h) (hW : Wx X h H) (hZ : va_S (aA (eB X)) s.heap H locs) (ls : Array Slot) (hl : lv_has ls 3 []) (hE : sX11_played_39 h  = some o) : W p l e (rm 1 20) s m args below meth c H locs 0 0 (MQ below (QI X h0 o.1 o.2) args s 0 0 (aA (eB X))) (F0 m 39 ls []) := by
  refine lv_bipush (v := (-102 : Int32)) C.1 C.2.1 dX11_played_39 (by decide) ?_
  exact bX11_played_41 C hkm hW hZ _ (lv_sub hl [] rfl) hE
set_option maxRecDepth 20000 in
theorem ct_X11_played (l : Launch) (X : Ec) {h : Hp} {x0 : Nat} {x1 : Int32} {x2 : Int32} {o : Int32 × Hp} (k_x0 : hK h x0 = 11) (hE : sX11_played h x0 x1 x2 = some o) : MetI l yX11_played cX11_played 3 (some .int) 1 20 X [.ref x0, .int x1, .int x2] h o := by
  refine x_met (by decide) (Nat.le_of_ble_eq_true rfl) ?_
  intro p e s m below meth c ls C hl hW hZ
  have hl : lv_has ls 3 [(0, .ref x0), (1, .int x1), (2, .int x2)] := hl
  have hkm : Km h h := Km.rf h
  refine lv_iload_n C.1 C.2.1 dX11_played_0 rfl (lv_at hl 1 rfl) ?_
  obtain ⟨o_1, eo_1, hE⟩ := cl_e hE
  refine x_kI (o := o_1) (z_runS (As := [.int x1]) (rest := []) C (ct_X11_isGame l X eo_1) cw_X11_318 hW hZ rfl hl.1 (Nat.le_of_ble_eq_true rfl) rfl dX11_played_1 ⟨Nat.le_of_ble_eq_true rfl, Nat.le_of_ble_eq_true rfl⟩ ⟨Nat.le_refl _, Nat.le_refl _⟩) hZ (fun _ _ hW km hZ => ?_)
  replace hkm := hkm.tr km
  replace k_x0 := km.at k_x0 (by decide)
  refine lv_if_ne (tgt := 10) C.1 C.2.1 dX11_played_4 (by decide) (fun c_2 => ?_) (fun c_2 => ?_)
  · have hE := br_n hE c_2
    refine lv_iload_n C.1 C.2.1 dX11_played_10 rfl (lv_at hl 2 rfl) ?_
    refine lv_if_lt (tgt := 39) C.1 C.2.1 dX11_played_11 (by decide) (fun c_3 => ?_) (fun c_3 => ?_)
    · have hE := br_p hE c_3
      exact bX11_played_39 C hkm hW hZ _ (lv_sub hl [] rfl) hE
    · have hE := br_n hE c_3
      refine lv_iload_n C.1 C.2.1 dX11_played_14 rfl (lv_at hl 2 rfl) ?_
      refine lv_aload_n C.1 C.2.1 dX11_played_15 rfl (lv_at hl 0 rfl) ?_
      obtain ⟨r_4, er_4, hE⟩ := cl_e hE
      refine gf_X11_117 C hW k_x0 er_4 dX11_played_16 (fun k_r_4 => ?_)
      refine lv_iload_n C.1 C.2.1 dX11_played_19 rfl (lv_at hl 1 rfl) ?_
      obtain ⟨g_5, hE⟩ := gd_e hE
      refine y_iald C hW k_r_4 g_5 dX11_played_20 ?_
      refine lv_icmp_ge (tgt := 39) C.1 C.2.1 dX11_played_21 (by decide) (fun c_6 => ?_) (fun c_6 => ?_)
      · have hE := br_p hE c_6
        exact bX11_played_39 C hkm hW hZ _ (lv_sub hl [] rfl) hE
      · have hE := br_n hE c_6
        refine lv_aload_n C.1 C.2.1 dX11_played_24 rfl (lv_at hl 0 rfl) ?_
        obtain ⟨r_7, er_7, hE⟩ := cl_e hE
        refine gf_X11_114 C hW k_x0 er_7 dX11_played_25 (fun k_r_7 => ?_)
        refine lv_iload_n C.1 C.2.1 dX11_played_28 rfl (lv_at hl 1 rfl) ?_
        refine lv_sipush (v := (301 : Int32)) C.1 C.2.1 dX11_played_29 (by decide) ?_
        refine lv_imul C.1 C.2.1 dX11_played_32 ?_
        refine lv_iload_n C.1 C.2.1 dX11_played_33 rfl (lv_at hl 2 rfl) ?_
        refine lv_iadd C.1 C.2.1 dX11_played_34 ?_
        obtain ⟨g_8, hE⟩ := gd_e hE
        refine y_iald C hW k_r_7 g_8 dX11_played_35 ?_
        refine lv_goto (tgt := 41) C.1 C.2.1 dX11_played_36 (by decide) ?_
        exact bX11_played_41 C hkm hW hZ _ (lv_sub hl [] rfl) hE
  · have hE := br_p hE c_2
    refine lv_bipush (v := (-101 : Int32)) C.1 C.2.1 dX11_played_7 (by decide) ?_
    exact x_iret C rfl rfl hW hZ hkm hE dX11_played_9
theorem dX11_now_0 : decode cX11_now 0 = .ok (.iload_n 1, 1) := by decide +kernel
theorem dX11_now_1 : decode cX11_now 1 = .ok (.invokestatic 318, 3) := by decide +kernel
theorem dX11_now_4 : decode cX11_now 4 = .ok (.ifCond .ne 6, 3) := by decide +kernel
theorem dX11_now_7 : decode cX11_now 7 = .ok (.bipush (-101), 2) := by decide +kernel
theorem dX11_now_9 : decode cX11_now 9 = .ok (.ireturn, 1) := by decide +kernel
theorem dX11_now_10 : decode cX11_now 10 = .ok (.aload_n 0, 1) := by decide +kernel
theorem dX11_now_11 : decode cX11_now 11 = .ok (.getfield 117, 3) := by decide +kernel
theorem dX11_now_14 : decode cX11_now 14 = .ok (.iload_n 1, 1) := by decide +kernel
theorem dX11_now_15 : decode cX11_now 15 = .ok (.iaload, 1) := by decide +kernel
theorem dX11_now_16 : decode cX11_now 16 = .ok (.iconst (-1), 1) := by decide +kernel
theorem dX11_now_17 : decode cX11_now 17 = .ok (.if_icmp .ne 6, 3) := by decide +kernel
theorem dX11_now_20 : decode cX11_now 20 = .ok (.bipush (-102), 2) := by decide +kernel
theorem dX11_now_22 : decode cX11_now 22 = .ok (.ireturn, 1) := by decide +kernel
theorem dX11_now_23 : decode cX11_now 23 = .ok (.aload_n 0, 1) := by decide +kernel
theorem dX11_now_24 : decode cX11_now 24 = .ok (.invokevirtual 183, 3) := by decide +kernel
theorem dX11_now_27 : decode cX11_now 27 = .ok (.istore_n 2, 1) := by decide +kernel
theorem dX11_now_28 : decode cX11_now 28 = .ok (.iload_n 2, 1) := by decide +kernel
theorem dX11_now_29 : decode cX11_now 29 = .ok (.iconst (-1), 1) := by decide +kernel
theorem dX11_now_30 : decode cX11_now 30 = .ok (.if_icmp .ne 6, 3) := by decide +kernel
theorem dX11_now_33 : decode cX11_now 33 = .ok (.bipush (-104), 2) := by decide +kernel
theorem dX11_now_35 : decode cX11_now 35 = .ok (.ireturn, 1) := by decide +kernel
theorem dX11_now_36 : decode cX11_now 36 = .ok (.aload_n 0, 1) := by decide +kernel
theorem dX11_now_37 : decode cX11_now 37 = .ok (.iload_n 2, 1) := by decide +kernel
theorem dX11_now_38 : decode cX11_now 38 = .ok (.aload_n 0, 1) := by decide +kernel
theorem dX11_now_39 : decode cX11_now 39 = .ok (.iload_n 1, 1) := by decide +kernel
theorem dX11_now_40 : decode cX11_now 40 = .ok (.aload_n 0, 1) := by decide +kernel
theorem dX11_now_41 : decode cX11_now 41 = .ok (.getfield 117, 3) := by decide +kernel
theorem dX11_now_44 : decode cX11_now 44 = .ok (.iload_n 1, 1) := by decide +kernel
theorem dX11_now_45 : decode cX11_now 45 = .ok (.iaload, 1) := by decide +kernel
theorem dX11_now_46 : decode cX11_now 46 = .ok (.invokevirtual 321, 3) := by decide +kernel
set_option maxRecDepth 20000 in
theorem moX11_now_27 {o : Int32 × Hp} {F : Nat} {h : Hp} {x0 : Nat} {x1 : Int32} {t0 : Int32} (hE : sX11_now_27 F h x0 x1 t0 = some o) : Le h o.2 := by
  rcases br_e hE with ⟨_, hE⟩ | ⟨_, hE⟩
  · exact le_some2 hE
  · obtain ⟨r_2, er_2, hE⟩ := cl_e hE
    obtain ⟨g_3, hE⟩ := gd_e hE
    cases hE
set_option maxRecDepth 20000 in
theorem moX11_now_4 {o : Int32 × Hp} {F : Nat} {h : Hp} {x0 : Nat} {x1 : Int32} {t0 : Int32} (hE : sX11_now_4 F h x0 x1 t0 = some o) : Le h o.2 := by
  rcases br_e hE with ⟨_, hE⟩ | ⟨_, hE⟩
  · exact le_some2 hE
  · obtain ⟨r_2, er_2, hE⟩ := cl_e hE
    obtain ⟨g_3, hE⟩ := gd_e hE
    rcases br_e hE with ⟨_, hE⟩ | ⟨_, hE⟩
    · exact le_some2 hE
    · obtain ⟨o_5, eo_5, hE⟩ := cl_e hE
      refine (moX11_freePlace eo_5).tr ?_
      exact moX11_now_27 hE
set_option maxRecDepth 20000 in
theorem moX11_now {o : Int32 × Hp} {F : Nat} {h : Hp} {x0 : Nat} {x1 : Int32} (hE : sX11_now F h x0 x1 = some o) : Le h o.2 := by
  obtain ⟨o_1, eo_1, hE⟩ := cl_e hE
  refine (moX11_isGame eo_1).tr ?_
  exact moX11_now_4 hE
set_option maxRecDepth 20000 in
theorem bX11_now_27 {p : Program} {l : Launch} {e : Env} {s : State} {m : MethodId} {args : Array Value} {below : List Frame} {meth : Method} {c : Code} {X : Ec} {h0 : Hp} {o : Int32 × Hp} {F : Nat} (C : Cx X p s m args meth c RX11 cX11_now 3 (some .int) "now") {h : Hp} {x0 : Nat} {x1 : Int32} {t0 : Int32} {H : Heap} {locs : List Loc} (k_x0 : hK h x0 = 11) (hkl : Kl h0 h) (hW : Wx X h H) (hZ : va_S (aA (eB X)) s.heap H locs) (ls : Array Slot) (hl : lv_has ls 3 [(0, .ref x0), (1, .int x1)]) (hE : sX11_now_27 F h x0 x1 t0 = some o) : W p l e (rmA 1 21 h0 o.2) s m args below meth c H locs (hS h - hS h0) (hL h - hL h0) (MQ below (QIA X h0 o.1 o.2) args s (hS o.2 - hS h0) (hL o.2 - hL h0) (aA (eB X))) (F0 m 27 ls [.int t0]) := by
  refine lv_istore_n (lv' := [(2, .int t0), (0, .ref x0), (1, .int x1)]) C.1 C.2.1 dX11_now_27 rfl hl (by decide) rfl (fun ls hl => ?_)
  refine lv_iload_n C.1 C.2.1 dX11_now_28 rfl (lv_at hl 0 rfl) ?_
  refine lv_iconst (v := (-1 : Int32)) C.1 C.2.1 dX11_now_29 (by decide) ?_
  refine lv_icmp_ne (tgt := 36) C.1 C.2.1 dX11_now_30 (by decide) (fun c_1 => ?_) (fun c_1 => ?_)
  · have hE := br_n hE c_1
    refine lv_aload_n C.1 C.2.1 dX11_now_36 rfl (lv_at hl 1 rfl) ?_
    refine lv_iload_n C.1 C.2.1 dX11_now_37 rfl (lv_at hl 0 rfl) ?_
    refine lv_aload_n C.1 C.2.1 dX11_now_38 rfl (lv_at hl 1 rfl) ?_
    refine lv_iload_n C.1 C.2.1 dX11_now_39 rfl (lv_at hl 2 rfl) ?_
    refine lv_aload_n C.1 C.2.1 dX11_now_40 rfl (lv_at hl 1 rfl) ?_
    obtain ⟨r_2, er_2, hE⟩ := cl_e hE
    refine gf_X11_117 C hW k_x0 er_2 dX11_now_41 (fun k_r_2 => ?_)
    refine lv_iload_n C.1 C.2.1 dX11_now_44 rfl (lv_at hl 2 rfl) ?_
    obtain ⟨g_3, hE⟩ := gd_e hE
    refine y_iald C hW k_r_2 g_3 dX11_now_45 ?_
    cases hE
  · have hE := br_p hE c_1
    refine lv_bipush (v := (-104 : Int32)) C.1 C.2.1 dX11_now_33 (by decide) ?_
    exact x_iretA C rfl rfl hW hZ hkl hE dX11_now_35
set_option maxRecDepth 20000 in
theorem bX11_now_4 {p : Program} {l : Launch} {e : Env} {s : State} {m : MethodId} {args : Array Value} {below : List Frame} {meth : Method} {c : Code} {X : Ec} {h0 : Hp} {o : Int32 × Hp} {F : Nat} (C : Cx X p s m args meth c RX11 cX11_now 3 (some .int) "now") {h : Hp} {x0 : Nat} {x1 : Int32} {t0 : Int32} {H : Heap} {locs : List Loc} (k_x0 : hK h x0 = 11) (hkl : Kl h0 h) (hW : Wx X h H) (hZ : va_S (aA (eB X)) s.heap H locs) (ls : Array Slot) (hl : lv_has ls 3 [(0, .ref x0), (1, .int x1)]) (hE : sX11_now_4 F h x0 x1 t0 = some o) : W p l e (rmA 1 21 h0 o.2) s m args below meth c H locs (hS h - hS h0) (hL h - hL h0) (MQ below (QIA X h0 o.1 o.2) args s (hS o.2 - hS h0) (hL o.2 - hL h0) (aA (eB X))) (F0 m 4 ls [.int t0]) := by
  refine lv_if_ne (tgt := 10) C.1 C.2.1 dX11_now_4 (by decide) (fun c_1 => ?_) (fun c_1 => ?_)
  · have hE := br_n hE c_1
    refine lv_aload_n C.1 C.2.1 dX11_now_10 rfl (lv_at hl 0 rfl) ?_
    obtain ⟨r_2, er_2, hE⟩ := cl_e hE
    refine gf_X11_117 C hW k_x0 er_2 dX11_now_11 (fun k_r_2 => ?_)
    refine lv_iload_n C.1 C.2.1 dX11_now_14 rfl (lv_at hl 1 rfl) ?_
    obtain ⟨g_3, hE⟩ := gd_e hE
    refine y_iald C hW k_r_2 g_3 dX11_now_15 ?_
    refine lv_iconst (v := (-1 : Int32)) C.1 C.2.1 dX11_now_16 (by decide) ?_
    refine lv_icmp_ne (tgt := 23) C.1 C.2.1 dX11_now_17 (by decide) (fun c_4 => ?_) (fun c_4 => ?_)
    · have hE := br_n hE c_4
      refine lv_aload_n C.1 C.2.1 dX11_now_23 rfl (lv_at hl 0 rfl) ?_
      obtain ⟨o_5, eo_5, hE⟩ := cl_e hE
      have m1 := moX11_freePlace eo_5
      have m2 := moX11_now_27 hE
      refine x_kI (o := o_5) (z_runV (As := []) (rest := []) C (ct_X11_freePlace l X F k_x0 eo_5) cw_X11_183 hW hZ k_x0 (by decide) rfl rfl rfl hl.1 (Nat.le_of_ble_eq_true rfl) rfl dX11_now_24 ⟨Nat.le_of_ble_eq_true rfl, Nat.le_of_ble_eq_true rfl⟩ (rm_ok0 hkl m1 m2)) hZ (fun _ _ hW km hZ => ?_)
      replace hkl := hkl.tr km.l
      refine x_wc km ?_
      replace k_x0 := km.at k_x0 (by decide)
      exact bX11_now_27 C k_x0 hkl hW hZ _ (lv_sub hl [0, 1] rfl) hE
    · have hE := br_p hE c_4
      refine lv_bipush (v := (-102 : Int32)) C.1 C.2.1 dX11_now_20 (by decide) ?_
      exact x_iretA C rfl rfl hW hZ hkl hE dX11_now_22
  · have hE := br_p hE c_1
    refine lv_bipush (v := (-101 : Int32)) C.1 C.2.1 dX11_now_7 (by decide) ?_
    exact x_iretA C rfl rfl hW hZ hkl hE dX11_now_9
set_option maxRecDepth 20000 in
theorem ct_X11_now (l : Launch) (X : Ec) (F : Nat) {h : Hp} {x0 : Nat} {x1 : Int32} {o : Int32 × Hp} (k_x0 : hK h x0 = 11) (hE : sX11_now F h x0 x1 = some o) : MetIA l yX11_now cX11_now 3 (some .int) 1 21 X [.ref x0, .int x1] h o := by
  refine x_metA (oh := o.2) (by decide) (Nat.le_of_ble_eq_true rfl) ?_
  intro p e s m below meth c ls C hl hW hZ
  have hl : lv_has ls 3 [(0, .ref x0), (1, .int x1)] := hl
  have hkl : Kl h h := Kl.rf h
  refine lv_iload_n C.1 C.2.1 dX11_now_0 rfl (lv_at hl 1 rfl) ?_
  obtain ⟨o_1, eo_1, hE⟩ := cl_e hE
  have m1 := moX11_isGame eo_1
  have m2 := moX11_now_4 hE
  refine x_kI (o := o_1) (z_runS (As := [.int x1]) (rest := []) C (ct_X11_isGame l X eo_1) cw_X11_318 hW hZ rfl hl.1 (Nat.le_of_ble_eq_true rfl) rfl dX11_now_1 ⟨Nat.le_of_ble_eq_true rfl, Nat.le_of_ble_eq_true rfl⟩ (rm_ok0 hkl m1 m2)) hZ (fun _ _ hW km hZ => ?_)
  replace hkl := hkl.tr km.l
  refine x_wc km ?_
  replace k_x0 := km.at k_x0 (by decide)
  exact bX11_now_4 C k_x0 hkl hW hZ _ (lv_sub hl [0, 1] rfl) hE
theorem dX11_book_0 : decode cX11_book 0 = .ok (.aload_n 0, 1) := by decide +kernel
theorem dX11_book_1 : decode cX11_book 1 = .ok (.iload_n 1, 1) := by decide +kernel
theorem dX11_book_2 : decode cX11_book 2 = .ok (.invokevirtual 193, 3) := by decide +kernel
theorem dX11_book_5 : decode cX11_book 5 = .ok (.ifCond .eq 21, 3) := by decide +kernel
theorem dX11_book_8 : decode cX11_book 8 = .ok (.iload_n 2, 1) := by decide +kernel
theorem dX11_book_9 : decode cX11_book 9 = .ok (.iconst (-1), 1) := by decide +kernel
theorem dX11_book_10 : decode cX11_book 10 = .ok (.if_icmp .eq 19, 3) := by decide +kernel
theorem dX11_book_13 : decode cX11_book 13 = .ok (.iload_n 2, 1) := by decide +kernel
theorem dX11_book_14 : decode cX11_book 14 = .ok (.ifCond .lt 12, 3) := by decide +kernel
theorem dX11_book_17 : decode cX11_book 17 = .ok (.iload_n 2, 1) := by decide +kernel
theorem dX11_book_18 : decode cX11_book 18 = .ok (.aload_n 0, 1) := by decide +kernel
theorem dX11_book_19 : decode cX11_book 19 = .ok (.iload_n 1, 1) := by decide +kernel
theorem dX11_book_20 : decode cX11_book 20 = .ok (.invokevirtual 254, 3) := by decide +kernel
theorem dX11_book_23 : decode cX11_book 23 = .ok (.if_icmp .lt 6, 3) := by decide +kernel
theorem dX11_book_26 : decode cX11_book 26 = .ok (.bipush (-102), 2) := by decide +kernel
theorem dX11_book_28 : decode cX11_book 28 = .ok (.ireturn, 1) := by decide +kernel
theorem dX11_book_29 : decode cX11_book 29 = .ok (.iconst 0, 1) := by decide +kernel
theorem dX11_book_30 : decode cX11_book 30 = .ok (.istore_n 3, 1) := by decide +kernel
theorem dX11_book_31 : decode cX11_book 31 = .ok (.iconst 0, 1) := by decide +kernel
theorem dX11_book_32 : decode cX11_book 32 = .ok (.istore 4, 2) := by decide +kernel
theorem dX11_book_34 : decode cX11_book 34 = .ok (.iload 4, 2) := by decide +kernel
theorem dX11_book_36 : decode cX11_book 36 = .ok (.bipush 8, 2) := by decide +kernel
theorem dX11_book_38 : decode cX11_book 38 = .ok (.if_icmp .ge 25, 3) := by decide +kernel
theorem dX11_book_41 : decode cX11_book 41 = .ok (.iload_n 3, 1) := by decide +kernel
theorem dX11_book_42 : decode cX11_book 42 = .ok (.aload_n 0, 1) := by decide +kernel
theorem dX11_book_43 : decode cX11_book 43 = .ok (.iload 4, 2) := by decide +kernel
theorem dX11_book_45 : decode cX11_book 45 = .ok (.aload_n 0, 1) := by decide +kernel
theorem dX11_book_46 : decode cX11_book 46 = .ok (.getfield 103, 3) := by decide +kernel
theorem dX11_book_49 : decode cX11_book 49 = .ok (.iload_n 1, 1) := by decide +kernel
theorem dX11_book_50 : decode cX11_book 50 = .ok (.aaload, 1) := by decide +kernel
theorem dX11_book_63 : decode cX11_book 63 = .ok (.iload_n 3, 1) := by decide +kernel
theorem dX11_book_64 : decode cX11_book 64 = .ok (.ireturn, 1) := by decide +kernel
set_option maxRecDepth 20000 in
theorem moX11_book_26 {o : Int32 × Hp} {F : Nat} {h : Hp} (hE : sX11_book_26 F h  = some o) : Le h o.2 := by
  exact le_some2 hE
set_option maxRecDepth 20000 in
theorem moX11_book_34 {o : Int32 × Hp} {F : Nat} : ∀ (f : Nat) {h : Hp} {x0 : Nat} {x1 : Int32} {x2 : Int32} {x3 : Int32} {x4 : Int32}, sX11_book_34 F f h x0 x1 x2 x3 x4 = some o → Le h o.2 := by
  intro f
  induction f with
  | zero =>
    intro h x0 x1 x2 x3 x4 hE
    rw [sX11_book_34] at hE
    cases hE
  | succ f ih =>
    intro h x0 x1 x2 x3 x4 hE
    rw [sX11_book_34] at hE
    have mk_34 : ∀ (h : Hp) (x0 : Nat) (x1 : Int32) (x2 : Int32) (x3 : Int32) (x4 : Int32), sX11_book_34 F f h x0 x1 x2 x3 x4 = some o → Le h o.2 := fun h x0 x1 x2 x3 x4 hE => ih hE
    rcases br_e hE with ⟨_, hE⟩ | ⟨_, hE⟩
    · exact le_some2 hE
    · obtain ⟨r_2, er_2, hE⟩ := cl_e hE
      cases hE
set_option maxRecDepth 20000 in
theorem moX11_book_29 {o : Int32 × Hp} {F : Nat} {h : Hp} {x0 : Nat} {x1 : Int32} {x2 : Int32} (hE : sX11_book_29 F h x0 x1 x2 = some o) : Le h o.2 := by
  exact moX11_book_34 _ hE
set_option maxRecDepth 20000 in
theorem moX11_book_23 {o : Int32 × Hp} {F : Nat} {h : Hp} {x0 : Nat} {x1 : Int32} {x2 : Int32} {t0 : Int32} {t1 : Int32} (hE : sX11_book_23 F h x0 x1 x2 t0 t1 = some o) : Le h o.2 := by
  rcases br_e hE with ⟨_, hE⟩ | ⟨_, hE⟩
  · exact moX11_book_29 hE
  · exact moX11_book_26 hE
set_option maxRecDepth 20000 in
theorem moX11_book_5 {o : Int32 × Hp} {F : Nat} {h : Hp} {x0 : Nat} {x1 : Int32} {x2 : Int32} {t0 : Int32} (hE : sX11_book_5 F h x0 x1 x2 t0 = some o) : Le h o.2 := by
  rcases br_e hE with ⟨_, hE⟩ | ⟨_, hE⟩
  · exact moX11_book_26 hE
  · rcases br_e hE with ⟨_, hE⟩ | ⟨_, hE⟩
    · exact moX11_book_29 hE
    · rcases br_e hE with ⟨_, hE⟩ | ⟨_, hE⟩
      · exact moX11_book_26 hE
      · obtain ⟨o_4, eo_4, hE⟩ := cl_e hE
        refine (moX11_listMoves eo_4).tr ?_
        exact moX11_book_23 hE
set_option maxRecDepth 20000 in
theorem moX11_book {o : Int32 × Hp} {F : Nat} {h : Hp} {x0 : Nat} {x1 : Int32} {x2 : Int32} (hE : sX11_book F h x0 x1 x2 = some o) : Le h o.2 := by
  obtain ⟨o_1, eo_1, hE⟩ := cl_e hE
  refine (moX11_isPlace eo_1).tr ?_
  exact moX11_book_5 hE
set_option maxRecDepth 20000 in
theorem bX11_book_26 {p : Program} {l : Launch} {e : Env} {s : State} {m : MethodId} {args : Array Value} {below : List Frame} {meth : Method} {c : Code} {X : Ec} {h0 : Hp} {o : Int32 × Hp} {F : Nat} (C : Cx X p s m args meth c RX11 cX11_book 5 (some .int) "book") {h : Hp} {H : Heap} {locs : List Loc} (hkl : Kl h0 h) (hW : Wx X h H) (hZ : va_S (aA (eB X)) s.heap H locs) (ls : Array Slot) (hl : lv_has ls 5 []) (hE : sX11_book_26 F h  = some o) : W p l e (rmA 2 42 h0 o.2) s m args below meth c H locs (hS h - hS h0) (hL h - hL h0) (MQ below (QIA X h0 o.1 o.2) args s (hS o.2 - hS h0) (hL o.2 - hL h0) (aA (eB X))) (F0 m 26 ls []) := by
  refine lv_bipush (v := (-102 : Int32)) C.1 C.2.1 dX11_book_26 (by decide) ?_
  exact x_iretA C rfl rfl hW hZ hkl hE dX11_book_28
set_option maxRecDepth 20000 in
theorem bX11_book_34 {p : Program} {l : Launch} {e : Env} {s : State} {m : MethodId} {args : Array Value} {below : List Frame} {meth : Method} {c : Code} {X : Ec} {h0 : Hp} {o : Int32 × Hp} {F : Nat} (C : Cx X p s m args meth c RX11 cX11_book 5 (some .int) "book") : ∀ (f : Nat) {h : Hp} {x0 : Nat} {x1 : Int32} {x2 : Int32} {x3 : Int32} {x4 : Int32} {H : Heap} {locs : List Loc} (k_x0 : hK h x0 = 11), Kl h0 h → Wx X h H → va_S (aA (eB X)) s.heap H locs → ∀ (ls : Array Slot), lv_has ls 5 [(0, .ref x0), (1, .int x1), (2, .int x2), (3, .int x3), (4, .int x4)] → sX11_book_34 F f h x0 x1 x2 x3 x4 = some o → W p l e (rmA 2 42 h0 o.2) s m args below meth c H locs (hS h - hS h0) (hL h - hL h0) (MQ below (QIA X h0 o.1 o.2) args s (hS o.2 - hS h0) (hL o.2 - hL h0) (aA (eB X))) (F0 m 34 ls []) := by
  intro f
  induction f with
  | zero =>
    intro h x0 x1 x2 x3 x4 H locs k_x0 hkl hW hZ ls hl hE
    rw [sX11_book_34] at hE
    cases hE
  | succ f ih =>
    intro h x0 x1 x2 x3 x4 H locs k_x0 hkl hW hZ ls hl hE
    rw [sX11_book_34] at hE
    have mk_34 : ∀ (h : Hp) (x0 : Nat) (x1 : Int32) (x2 : Int32) (x3 : Int32) (x4 : Int32), sX11_book_34 F f h x0 x1 x2 x3 x4 = some o → Le h o.2 := fun h x0 x1 x2 x3 x4 hE => moX11_book_34 _ hE
    have hk_34 : ∀ (h : Hp) (x0 : Nat) (x1 : Int32) (x2 : Int32) (x3 : Int32) (x4 : Int32) (H : Heap) (locs : List Loc), hK h x0 = 11 → Kl h0 h → Wx X h H → va_S (aA (eB X)) s.heap H locs → ∀ (ls : Array Slot), lv_has ls 5 [(0, .ref x0), (1, .int x1), (2, .int x2), (3, .int x3), (4, .int x4)] → sX11_book_34 F f h x0 x1 x2 x3 x4 = some o → W p l e (rmA 2 42 h0 o.2) s m args below meth c H locs (hS h - hS h0) (hL h - hL h0) (MQ below (QIA X h0 o.1 o.2) args s (hS o.2 - hS h0) (hL o.2 - hL h0) (aA (eB X))) (F0 m 34 ls []) := fun h x0 x1 x2 x3 x4 H locs k_x0 a b c ls hl hE => ih k_x0 a b c ls hl hE
    refine lv_iload C.1 C.2.1 dX11_book_34 (lv_at hl 4 rfl) ?_
    refine lv_bipush (v := (8 : Int32)) C.1 C.2.1 dX11_book_36 (by decide) ?_
    refine lv_icmp_ge (tgt := 63) C.1 C.2.1 dX11_book_38 (by decide) (fun c_1 => ?_) (fun c_1 => ?_)
    · have hE := br_p hE c_1
      refine lv_iload_n C.1 C.2.1 dX11_book_63 rfl (lv_at hl 3 rfl) ?_
      exact x_iretA C rfl rfl hW hZ hkl hE dX11_book_64
    · have hE := br_n hE c_1
      refine lv_iload_n C.1 C.2.1 dX11_book_41 rfl (lv_at hl 3 rfl) ?_
      refine lv_aload_n C.1 C.2.1 dX11_book_42 rfl (lv_at hl 0 rfl) ?_
      refine lv_iload C.1 C.2.1 dX11_book_43 (lv_at hl 4 rfl) ?_
      refine lv_aload_n C.1 C.2.1 dX11_book_45 rfl (lv_at hl 0 rfl) ?_
      obtain ⟨r_2, er_2, hE⟩ := cl_e hE
      refine gf_X11_103 C hW k_x0 er_2 dX11_book_46 (fun k_r_2 => ?_)
      refine lv_iload_n C.1 C.2.1 dX11_book_49 rfl (lv_at hl 1 rfl) ?_
      cases hE
set_option maxRecDepth 20000 in
theorem bX11_book_29 {p : Program} {l : Launch} {e : Env} {s : State} {m : MethodId} {args : Array Value} {below : List Frame} {meth : Method} {c : Code} {X : Ec} {h0 : Hp} {o : Int32 × Hp} {F : Nat} (C : Cx X p s m args meth c RX11 cX11_book 5 (some .int) "book") {h : Hp} {x0 : Nat} {x1 : Int32} {x2 : Int32} {H : Heap} {locs : List Loc} (k_x0 : hK h x0 = 11) (hkl : Kl h0 h) (hW : Wx X h H) (hZ : va_S (aA (eB X)) s.heap H locs) (ls : Array Slot) (hl : lv_has ls 5 [(0, .ref x0), (1, .int x1), (2, .int x2)]) (hE : sX11_book_29 F h x0 x1 x2 = some o) : W p l e (rmA 2 42 h0 o.2) s m args below meth c H locs (hS h - hS h0) (hL h - hL h0) (MQ below (QIA X h0 o.1 o.2) args s (hS o.2 - hS h0) (hL o.2 - hL h0) (aA (eB X))) (F0 m 29 ls []) := by
  refine lv_iconst (v := (0 : Int32)) C.1 C.2.1 dX11_book_29 (by decide) ?_
  refine lv_istore_n (lv' := [(3, .int (0 : Int32)), (0, .ref x0), (1, .int x1), (2, .int x2)]) C.1 C.2.1 dX11_book_30 rfl hl (by decide) rfl (fun ls hl => ?_)
  refine lv_iconst (v := (0 : Int32)) C.1 C.2.1 dX11_book_31 (by decide) ?_
  refine lv_istore (lv' := [(4, .int (0 : Int32)), (3, .int (0 : Int32)), (0, .ref x0), (1, .int x1), (2, .int x2)]) C.1 C.2.1 dX11_book_32 hl (by decide) rfl (fun ls hl => ?_)
  exact bX11_book_34 C F k_x0 hkl hW hZ _ (lv_sub hl [2, 3, 4, 1, 0] rfl) hE
set_option maxRecDepth 20000 in
theorem bX11_book_23 {p : Program} {l : Launch} {e : Env} {s : State} {m : MethodId} {args : Array Value} {below : List Frame} {meth : Method} {c : Code} {X : Ec} {h0 : Hp} {o : Int32 × Hp} {F : Nat} (C : Cx X p s m args meth c RX11 cX11_book 5 (some .int) "book") {h : Hp} {x0 : Nat} {x1 : Int32} {x2 : Int32} {t0 : Int32} {t1 : Int32} {H : Heap} {locs : List Loc} (k_x0 : hK h x0 = 11) (hkl : Kl h0 h) (hW : Wx X h H) (hZ : va_S (aA (eB X)) s.heap H locs) (ls : Array Slot) (hl : lv_has ls 5 [(0, .ref x0), (1, .int x1), (2, .int x2)]) (hE : sX11_book_23 F h x0 x1 x2 t0 t1 = some o) : W p l e (rmA 2 42 h0 o.2) s m args below meth c H locs (hS h - hS h0) (hL h - hL h0) (MQ below (QIA X h0 o.1 o.2) args s (hS o.2 - hS h0) (hL o.2 - hL h0) (aA (eB X))) (F0 m 23 ls [.int t0, .int t1]) := by
  refine lv_icmp_lt (tgt := 29) C.1 C.2.1 dX11_book_23 (by decide) (fun c_1 => ?_) (fun c_1 => ?_)
  · have hE := br_p hE c_1
    exact bX11_book_29 C k_x0 hkl hW hZ _ (lv_sub hl [0, 1, 2] rfl) hE
  · have hE := br_n hE c_1
    exact bX11_book_26 C hkl hW hZ _ (lv_sub hl [] rfl) hE
set_option maxRecDepth 20000 in
theorem bX11_book_5 {p : Program} {l : Launch} {e : Env} {s : State} {m : MethodId} {args : Array Value} {below : List Frame} {meth : Method} {c : Code} {X : Ec} {h0 : Hp} {o : Int32 × Hp} {F : Nat} (C : Cx X p s m args meth c RX11 cX11_book 5 (some .int) "book") {h : Hp} {x0 : Nat} {x1 : Int32} {x2 : Int32} {t0 : Int32} {H : Heap} {locs : List Loc} (k_x0 : hK h x0 = 11) (hkl : Kl h0 h) (hW : Wx X h H) (hZ : va_S (aA (eB X)) s.heap H locs) (ls : Array Slot) (hl : lv_has ls 5 [(0, .ref x0), (1, .int x1), (2, .int x2)]) (hE : sX11_book_5 F h x0 x1 x2 t0 = some o) : W p l e (rmA 2 42 h0 o.2) s m args below meth c H locs (hS h - hS h0) (hL h - hL h0) (MQ below (QIA X h0 o.1 o.2) args s (hS o.2 - hS h0) (hL o.2 - hL h0) (aA (eB X))) (F0 m 5 ls [.int t0]) := by
  refine lv_if_eq (tgt := 26) C.1 C.2.1 dX11_book_5 (by decide) (fun c_1 => ?_) (fun c_1 => ?_)
  · have hE := br_p hE c_1
    exact bX11_book_26 C hkl hW hZ _ (lv_sub hl [] rfl) hE
  · have hE := br_n hE c_1
    refine lv_iload_n C.1 C.2.1 dX11_book_8 rfl (lv_at hl 2 rfl) ?_
    refine lv_iconst (v := (-1 : Int32)) C.1 C.2.1 dX11_book_9 (by decide) ?_
    refine lv_icmp_eq (tgt := 29) C.1 C.2.1 dX11_book_10 (by decide) (fun c_2 => ?_) (fun c_2 => ?_)
    · have hE := br_p hE c_2
      exact bX11_book_29 C k_x0 hkl hW hZ _ (lv_sub hl [0, 1, 2] rfl) hE
    · have hE := br_n hE c_2
      refine lv_iload_n C.1 C.2.1 dX11_book_13 rfl (lv_at hl 2 rfl) ?_
      refine lv_if_lt (tgt := 26) C.1 C.2.1 dX11_book_14 (by decide) (fun c_3 => ?_) (fun c_3 => ?_)
      · have hE := br_p hE c_3
        exact bX11_book_26 C hkl hW hZ _ (lv_sub hl [] rfl) hE
      · have hE := br_n hE c_3
        refine lv_iload_n C.1 C.2.1 dX11_book_17 rfl (lv_at hl 2 rfl) ?_
        refine lv_aload_n C.1 C.2.1 dX11_book_18 rfl (lv_at hl 0 rfl) ?_
        refine lv_iload_n C.1 C.2.1 dX11_book_19 rfl (lv_at hl 1 rfl) ?_
        obtain ⟨o_4, eo_4, hE⟩ := cl_e hE
        have m1 := moX11_listMoves eo_4
        have m2 := moX11_book_23 hE
        refine x_kI (o := o_4) (z_runV (As := [.int x1]) (rest := [.int x2]) C (ct_X11_listMoves l X k_x0 eo_4) cw_X11_254 hW hZ k_x0 (by decide) rfl rfl rfl hl.1 (Nat.le_of_ble_eq_true rfl) rfl dX11_book_20 ⟨Nat.le_of_ble_eq_true rfl, Nat.le_of_ble_eq_true rfl⟩ (rm_ok0 hkl m1 m2)) hZ (fun _ _ hW km hZ => ?_)
        replace hkl := hkl.tr km.l
        refine x_wc km ?_
        replace k_x0 := km.at k_x0 (by decide)
        exact bX11_book_23 C k_x0 hkl hW hZ _ (lv_sub hl [0, 1, 2] rfl) hE
set_option maxRecDepth 20000 in
theorem ct_X11_book (l : Launch) (X : Ec) (F : Nat) {h : Hp} {x0 : Nat} {x1 : Int32} {x2 : Int32} {o : Int32 × Hp} (k_x0 : hK h x0 = 11) (hE : sX11_book F h x0 x1 x2 = some o) : MetIA l yX11_book cX11_book 5 (some .int) 2 42 X [.ref x0, .int x1, .int x2] h o := by
  refine x_metA (oh := o.2) (by decide) (Nat.le_of_ble_eq_true rfl) ?_
  intro p e s m below meth c ls C hl hW hZ
  have hl : lv_has ls 5 [(0, .ref x0), (1, .int x1), (2, .int x2)] := hl
  have hkl : Kl h h := Kl.rf h
  refine lv_aload_n C.1 C.2.1 dX11_book_0 rfl (lv_at hl 0 rfl) ?_
  refine lv_iload_n C.1 C.2.1 dX11_book_1 rfl (lv_at hl 1 rfl) ?_
  obtain ⟨o_1, eo_1, hE⟩ := cl_e hE
  have m1 := moX11_isPlace eo_1
  have m2 := moX11_book_5 hE
  refine x_kI (o := o_1) (z_runV (As := [.int x1]) (rest := []) C (ct_X11_isPlace l X k_x0 eo_1) cw_X11_193 hW hZ k_x0 (by decide) rfl rfl rfl hl.1 (Nat.le_of_ble_eq_true rfl) rfl dX11_book_2 ⟨Nat.le_of_ble_eq_true rfl, Nat.le_of_ble_eq_true rfl⟩ (rm_ok0 hkl m1 m2)) hZ (fun _ _ hW km hZ => ?_)
  replace hkl := hkl.tr km.l
  refine x_wc km ?_
  replace k_x0 := km.at k_x0 (by decide)
  exact bX11_book_5 C k_x0 hkl hW hZ _ (lv_sub hl [0, 1, 2] rfl) hE
theorem dX11_sees_0 : decode cX11_sees 0 = .ok (.aload_n 0, 1) := by decide +kernel
theorem dX11_sees_1 : decode cX11_sees 1 = .ok (.iload_n 3, 1) := by decide +kernel
theorem dX11_sees_2 : decode cX11_sees 2 = .ok (.invokevirtual 208, 3) := by decide +kernel
theorem dX11_sees_5 : decode cX11_sees 5 = .ok (.ifCond .eq 10, 3) := by decide +kernel
theorem dX11_sees_8 : decode cX11_sees 8 = .ok (.iload_n 2, 1) := by decide +kernel
theorem dX11_sees_9 : decode cX11_sees 9 = .ok (.invokestatic 247, 3) := by decide +kernel
theorem dX11_sees_12 : decode cX11_sees 12 = .ok (.ifCond .ne 6, 3) := by decide +kernel
theorem dX11_sees_15 : decode cX11_sees 15 = .ok (.bipush (-101), 2) := by decide +kernel
theorem dX11_sees_17 : decode cX11_sees 17 = .ok (.ireturn, 1) := by decide +kernel
theorem dX11_sees_18 : decode cX11_sees 18 = .ok (.aload_n 0, 1) := by decide +kernel
theorem dX11_sees_19 : decode cX11_sees 19 = .ok (.iload_n 1, 1) := by decide +kernel
theorem dX11_sees_20 : decode cX11_sees 20 = .ok (.invokevirtual 193, 3) := by decide +kernel
theorem dX11_sees_23 : decode cX11_sees 23 = .ok (.ifCond .ne 6, 3) := by decide +kernel
theorem dX11_sees_26 : decode cX11_sees 26 = .ok (.bipush (-102), 2) := by decide +kernel
theorem dX11_sees_28 : decode cX11_sees 28 = .ok (.ireturn, 1) := by decide +kernel
theorem dX11_sees_29 : decode cX11_sees 29 = .ok (.aload_n 0, 1) := by decide +kernel
theorem dX11_sees_30 : decode cX11_sees 30 = .ok (.getfield 50, 3) := by decide +kernel
theorem dX11_sees_33 : decode cX11_sees 33 = .ok (.aload_n 0, 1) := by decide +kernel
theorem dX11_sees_34 : decode cX11_sees 34 = .ok (.getfield 103, 3) := by decide +kernel
theorem dX11_sees_37 : decode cX11_sees 37 = .ok (.iload_n 1, 1) := by decide +kernel
theorem dX11_sees_38 : decode cX11_sees 38 = .ok (.aaload, 1) := by decide +kernel
set_option maxRecDepth 20000 in
theorem moX11_sees_15 {o : Int32 × Hp} {h : Hp} (hE : sX11_sees_15 h  = some o) : Le h o.2 := by
  exact le_some2 hE
set_option maxRecDepth 20000 in
theorem moX11_sees {o : Int32 × Hp} {h : Hp} {x0 : Nat} {x1 : Int32} {x2 : Int32} {x3 : Int32} (hE : sX11_sees h x0 x1 x2 x3 = some o) : Le h o.2 := by
  obtain ⟨o_1, eo_1, hE⟩ := cl_e hE
  refine (moX11_isSquare eo_1).tr ?_
  rcases br_e hE with ⟨_, hE⟩ | ⟨_, hE⟩
  · exact moX11_sees_15 hE
  · obtain ⟨o_3, eo_3, hE⟩ := cl_e hE
    refine (moX11_isSide eo_3).tr ?_
    rcases br_e hE with ⟨_, hE⟩ | ⟨_, hE⟩
    · exact moX11_sees_15 hE
    · obtain ⟨o_5, eo_5, hE⟩ := cl_e hE
      refine (moX11_isPlace eo_5).tr ?_
      rcases br_e hE with ⟨_, hE⟩ | ⟨_, hE⟩
      · exact le_some2 hE
      · obtain ⟨r_7, er_7, hE⟩ := cl_e hE
        obtain ⟨r_8, er_8, hE⟩ := cl_e hE
        cases hE
set_option maxRecDepth 20000 in
theorem bX11_sees_15 {p : Program} {l : Launch} {e : Env} {s : State} {m : MethodId} {args : Array Value} {below : List Frame} {meth : Method} {c : Code} {X : Ec} {h0 : Hp} {o : Int32 × Hp} (C : Cx X p s m args meth c RX11 cX11_sees 4 (some .int) "sees") {h : Hp} {H : Heap} {locs : List Loc} (hkm : Km h0 h) (hW : Wx X h H) (hZ : va_S (aA (eB X)) s.heap H locs) (ls : Array Slot) (hl : lv_has ls 4 []) (hE : sX11_sees_15 h  = some o) : W p l e (rm 1 21) s m args below meth c H locs 0 0 (MQ below (QI X h0 o.1 o.2) args s 0 0 (aA (eB X))) (F0 m 15 ls []) := by
  refine lv_bipush (v := (-101 : Int32)) C.1 C.2.1 dX11_sees_15 (by decide) ?_
  exact x_iret C rfl rfl hW hZ hkm hE dX11_sees_17
set_option maxRecDepth 20000 in
theorem ct_X11_sees (l : Launch) (X : Ec) {h : Hp} {x0 : Nat} {x1 : Int32} {x2 : Int32} {x3 : Int32} {o : Int32 × Hp} (k_x0 : hK h x0 = 11) (hE : sX11_sees h x0 x1 x2 x3 = some o) : MetI l yX11_sees cX11_sees 4 (some .int) 1 21 X [.ref x0, .int x1, .int x2, .int x3] h o := by
  refine x_met (by decide) (Nat.le_of_ble_eq_true rfl) ?_
  intro p e s m below meth c ls C hl hW hZ
  have hl : lv_has ls 4 [(0, .ref x0), (1, .int x1), (2, .int x2), (3, .int x3)] := hl
  have hkm : Km h h := Km.rf h
  refine lv_aload_n C.1 C.2.1 dX11_sees_0 rfl (lv_at hl 0 rfl) ?_
  refine lv_iload_n C.1 C.2.1 dX11_sees_1 rfl (lv_at hl 3 rfl) ?_
  obtain ⟨o_1, eo_1, hE⟩ := cl_e hE
  refine x_kI (o := o_1) (z_runV (As := [.int x3]) (rest := []) C (ct_X11_isSquare l X k_x0 eo_1) cw_X11_208 hW hZ k_x0 (by decide) rfl rfl rfl hl.1 (Nat.le_of_ble_eq_true rfl) rfl dX11_sees_2 ⟨Nat.le_of_ble_eq_true rfl, Nat.le_of_ble_eq_true rfl⟩ ⟨Nat.le_refl _, Nat.le_refl _⟩) hZ (fun _ _ hW km hZ => ?_)
  replace hkm := hkm.tr km
  replace k_x0 := km.at k_x0 (by decide)
  refine lv_if_eq (tgt := 15) C.1 C.2.1 dX11_sees_5 (by decide) (fun c_2 => ?_) (fun c_2 => ?_)
  · have hE := br_p hE c_2
    exact bX11_sees_15 C hkm hW hZ _ (lv_sub hl [] rfl) hE
  · have hE := br_n hE c_2
    refine lv_iload_n C.1 C.2.1 dX11_sees_8 rfl (lv_at hl 2 rfl) ?_
    obtain ⟨o_3, eo_3, hE⟩ := cl_e hE
    refine x_kI (o := o_3) (z_runS (As := [.int x2]) (rest := []) C (ct_X11_isSide l X eo_3) cw_X11_247 hW hZ rfl hl.1 (Nat.le_of_ble_eq_true rfl) rfl dX11_sees_9 ⟨Nat.le_of_ble_eq_true rfl, Nat.le_of_ble_eq_true rfl⟩ ⟨Nat.le_refl _, Nat.le_refl _⟩) hZ (fun _ _ hW km hZ => ?_)
    replace hkm := hkm.tr km
    replace k_x0 := km.at k_x0 (by decide)
    refine lv_if_ne (tgt := 18) C.1 C.2.1 dX11_sees_12 (by decide) (fun c_4 => ?_) (fun c_4 => ?_)
    · have hE := br_n hE c_4
      refine lv_aload_n C.1 C.2.1 dX11_sees_18 rfl (lv_at hl 0 rfl) ?_
      refine lv_iload_n C.1 C.2.1 dX11_sees_19 rfl (lv_at hl 1 rfl) ?_
      obtain ⟨o_5, eo_5, hE⟩ := cl_e hE
      refine x_kI (o := o_5) (z_runV (As := [.int x1]) (rest := []) C (ct_X11_isPlace l X k_x0 eo_5) cw_X11_193 hW hZ k_x0 (by decide) rfl rfl rfl hl.1 (Nat.le_of_ble_eq_true rfl) rfl dX11_sees_20 ⟨Nat.le_of_ble_eq_true rfl, Nat.le_of_ble_eq_true rfl⟩ ⟨Nat.le_refl _, Nat.le_refl _⟩) hZ (fun _ _ hW km hZ => ?_)
      replace hkm := hkm.tr km
      replace k_x0 := km.at k_x0 (by decide)
      refine lv_if_ne (tgt := 29) C.1 C.2.1 dX11_sees_23 (by decide) (fun c_6 => ?_) (fun c_6 => ?_)
      · have hE := br_n hE c_6
        refine lv_aload_n C.1 C.2.1 dX11_sees_29 rfl (lv_at hl 0 rfl) ?_
        obtain ⟨r_7, er_7, hE⟩ := cl_e hE
        refine gf_X11_50 C hW k_x0 er_7 dX11_sees_30 (fun k_r_7 => ?_)
        refine lv_aload_n C.1 C.2.1 dX11_sees_33 rfl (lv_at hl 0 rfl) ?_
        obtain ⟨r_8, er_8, hE⟩ := cl_e hE
        refine gf_X11_103 C hW k_x0 er_8 dX11_sees_34 (fun k_r_8 => ?_)
        refine lv_iload_n C.1 C.2.1 dX11_sees_37 rfl (lv_at hl 1 rfl) ?_
        cases hE
      · have hE := br_p hE c_6
        refine lv_bipush (v := (-102 : Int32)) C.1 C.2.1 dX11_sees_26 (by decide) ?_
        exact x_iret C rfl rfl hW hZ hkm hE dX11_sees_28
    · have hE := br_p hE c_4
      exact bX11_sees_15 C hkm hW hZ _ (lv_sub hl [] rfl) hE
theorem dX11_view_0 : decode cX11_view 0 = .ok (.iload_n 2, 1) := by decide +kernel
theorem dX11_view_1 : decode cX11_view 1 = .ok (.invokestatic 247, 3) := by decide +kernel
theorem dX11_view_4 : decode cX11_view 4 = .ok (.ifCond .ne 6, 3) := by decide +kernel
theorem dX11_view_7 : decode cX11_view 7 = .ok (.bipush (-101), 2) := by decide +kernel
theorem dX11_view_9 : decode cX11_view 9 = .ok (.ireturn, 1) := by decide +kernel
theorem dX11_view_10 : decode cX11_view 10 = .ok (.aload_n 0, 1) := by decide +kernel
theorem dX11_view_11 : decode cX11_view 11 = .ok (.iload_n 1, 1) := by decide +kernel
theorem dX11_view_12 : decode cX11_view 12 = .ok (.invokevirtual 193, 3) := by decide +kernel
theorem dX11_view_15 : decode cX11_view 15 = .ok (.ifCond .ne 6, 3) := by decide +kernel
theorem dX11_view_18 : decode cX11_view 18 = .ok (.bipush (-102), 2) := by decide +kernel
theorem dX11_view_20 : decode cX11_view 20 = .ok (.ireturn, 1) := by decide +kernel
theorem dX11_view_21 : decode cX11_view 21 = .ok (.aload_n 0, 1) := by decide +kernel
theorem dX11_view_22 : decode cX11_view 22 = .ok (.getfield 18, 3) := by decide +kernel
theorem dX11_view_25 : decode cX11_view 25 = .ok (.invokevirtual 144, 3) := by decide +kernel
theorem dX11_view_28 : decode cX11_view 28 = .ok (.aload_n 0, 1) := by decide +kernel
theorem dX11_view_29 : decode cX11_view 29 = .ok (.getfield 59, 3) := by decide +kernel
theorem dX11_view_32 : decode cX11_view 32 = .ok (.aload_n 0, 1) := by decide +kernel
theorem dX11_view_33 : decode cX11_view 33 = .ok (.getfield 103, 3) := by decide +kernel
theorem dX11_view_36 : decode cX11_view 36 = .ok (.iload_n 1, 1) := by decide +kernel
theorem dX11_view_37 : decode cX11_view 37 = .ok (.aaload, 1) := by decide +kernel
set_option maxRecDepth 20000 in
theorem moX11_view {o : Int32 × Hp} {h : Hp} {x0 : Nat} {x1 : Int32} {x2 : Int32} (hE : sX11_view h x0 x1 x2 = some o) : Le h o.2 := by
  obtain ⟨o_1, eo_1, hE⟩ := cl_e hE
  refine (moX11_isSide eo_1).tr ?_
  rcases br_e hE with ⟨_, hE⟩ | ⟨_, hE⟩
  · exact le_some2 hE
  · obtain ⟨o_3, eo_3, hE⟩ := cl_e hE
    refine (moX11_isPlace eo_3).tr ?_
    rcases br_e hE with ⟨_, hE⟩ | ⟨_, hE⟩
    · exact le_some2 hE
    · obtain ⟨r_5, er_5, hE⟩ := cl_e hE
      obtain ⟨o_6, eo_6, hE⟩ := cl_e hE
      refine (moX9_clear eo_6).tr ?_
      obtain ⟨r_7, er_7, hE⟩ := cl_e hE
      obtain ⟨r_8, er_8, hE⟩ := cl_e hE
      cases hE
set_option maxRecDepth 20000 in
theorem ct_X11_view (l : Launch) (X : Ec) {h : Hp} {x0 : Nat} {x1 : Int32} {x2 : Int32} {o : Int32 × Hp} (k_x0 : hK h x0 = 11) (hE : sX11_view h x0 x1 x2 = some o) : MetI l yX11_view cX11_view 3 (some .int) 1 21 X [.ref x0, .int x1, .int x2] h o := by
  refine x_met (by decide) (Nat.le_of_ble_eq_true rfl) ?_
  intro p e s m below meth c ls C hl hW hZ
  have hl : lv_has ls 3 [(0, .ref x0), (1, .int x1), (2, .int x2)] := hl
  have hkm : Km h h := Km.rf h
  refine lv_iload_n C.1 C.2.1 dX11_view_0 rfl (lv_at hl 2 rfl) ?_
  obtain ⟨o_1, eo_1, hE⟩ := cl_e hE
  refine x_kI (o := o_1) (z_runS (As := [.int x2]) (rest := []) C (ct_X11_isSide l X eo_1) cw_X11_247 hW hZ rfl hl.1 (Nat.le_of_ble_eq_true rfl) rfl dX11_view_1 ⟨Nat.le_of_ble_eq_true rfl, Nat.le_of_ble_eq_true rfl⟩ ⟨Nat.le_refl _, Nat.le_refl _⟩) hZ (fun _ _ hW km hZ => ?_)
  replace hkm := hkm.tr km
  replace k_x0 := km.at k_x0 (by decide)
  refine lv_if_ne (tgt := 10) C.1 C.2.1 dX11_view_4 (by decide) (fun c_2 => ?_) (fun c_2 => ?_)
  · have hE := br_n hE c_2
    refine lv_aload_n C.1 C.2.1 dX11_view_10 rfl (lv_at hl 0 rfl) ?_
    refine lv_iload_n C.1 C.2.1 dX11_view_11 rfl (lv_at hl 1 rfl) ?_
    obtain ⟨o_3, eo_3, hE⟩ := cl_e hE
    refine x_kI (o := o_3) (z_runV (As := [.int x1]) (rest := []) C (ct_X11_isPlace l X k_x0 eo_3) cw_X11_193 hW hZ k_x0 (by decide) rfl rfl rfl hl.1 (Nat.le_of_ble_eq_true rfl) rfl dX11_view_12 ⟨Nat.le_of_ble_eq_true rfl, Nat.le_of_ble_eq_true rfl⟩ ⟨Nat.le_refl _, Nat.le_refl _⟩) hZ (fun _ _ hW km hZ => ?_)
    replace hkm := hkm.tr km
    replace k_x0 := km.at k_x0 (by decide)
    refine lv_if_ne (tgt := 21) C.1 C.2.1 dX11_view_15 (by decide) (fun c_4 => ?_) (fun c_4 => ?_)
    · have hE := br_n hE c_4
      refine lv_aload_n C.1 C.2.1 dX11_view_21 rfl (lv_at hl 0 rfl) ?_
      obtain ⟨r_5, er_5, hE⟩ := cl_e hE
      refine gf_X11_18 C hW k_x0 er_5 dX11_view_22 (fun k_r_5 => ?_)
      obtain ⟨o_6, eo_6, hE⟩ := cl_e hE
      refine x_kV (o := o_6) (z_runV (As := []) (rest := []) C (ct_X9_clear l X k_r_5 eo_6) cw_X11_144 hW hZ k_r_5 (by decide) rfl rfl rfl hl.1 (Nat.le_of_ble_eq_true rfl) rfl dX11_view_25 ⟨Nat.le_of_ble_eq_true rfl, Nat.le_of_ble_eq_true rfl⟩ ⟨Nat.le_refl _, Nat.le_refl _⟩) hZ (fun _ _ hW km hZ => ?_)
      replace hkm := hkm.tr km
      replace k_x0 := km.at k_x0 (by decide)
      refine lv_aload_n C.1 C.2.1 dX11_view_28 rfl (lv_at hl 0 rfl) ?_
      obtain ⟨r_7, er_7, hE⟩ := cl_e hE
      refine gf_X11_59 C hW k_x0 er_7 dX11_view_29 (fun k_r_7 => ?_)
      refine lv_aload_n C.1 C.2.1 dX11_view_32 rfl (lv_at hl 0 rfl) ?_
      obtain ⟨r_8, er_8, hE⟩ := cl_e hE
      refine gf_X11_103 C hW k_x0 er_8 dX11_view_33 (fun k_r_8 => ?_)
      refine lv_iload_n C.1 C.2.1 dX11_view_36 rfl (lv_at hl 1 rfl) ?_
      cases hE
    · have hE := br_p hE c_4
      refine lv_bipush (v := (-102 : Int32)) C.1 C.2.1 dX11_view_18 (by decide) ?_
      exact x_iret C rfl rfl hW hZ hkm hE dX11_view_20
  · have hE := br_p hE c_2
    refine lv_bipush (v := (-101 : Int32)) C.1 C.2.1 dX11_view_7 (by decide) ?_
    exact x_iret C rfl rfl hW hZ hkm hE dX11_view_9
set_option maxRecDepth 100000 in
theorem m_1516 : Cond.methodLink RX11 345 yX1_isPlain ∈ W0 := w0_in (List.mem_append_right _ (List.mem_of_getElem? (i := 1516) rfl)) rfl
set_option maxRecDepth 100000 in
theorem m_1517 : Cond.instanceMethod yX1_isPlain ∈ W0 := w0_in (List.mem_append_right _ (List.mem_of_getElem? (i := 1517) rfl)) rfl
set_option maxRecDepth 100000 in
theorem m_1518 : Cond.selects RX1 yX1_isPlain yX1_isPlain ∈ W0 := w0_in (List.mem_append_right _ (List.mem_of_getElem? (i := 1518) rfl)) rfl
set_option maxRecDepth 100000 in
theorem m_1519 : Cond.code yX1_isPlain cX1_isPlain 1 (some .boolean) ∈ W0 := w0_in (List.mem_append_right _ (List.mem_of_getElem? (i := 1519) rfl)) rfl
section
variable {p : Program} {l : Launch} {e : Env} {R : Room} {s : State} {m : MethodId} {args : Array Value} {below : List Frame} {meth : Method} {c : Code} {H : Heap} {locs : List Loc} {cells slots : Nat} {Q : State → Prop}
variable {cc : ByteArray} {pc : Nat} {ls : Array Slot} {rest : List Value} {X : Ec} {h h1 : Hp} {nL : Nat} {rt : Option FieldType} {mn : String}
theorem gf_X11_77 {a r : Nat} (C : Cx X p s m args meth c RX11 cc nL rt mn) (hW : Wx X h H) (ha : hK h a = 11) (hr : hR h a 9 = some r) (hdg : decode cc pc = .ok (.getfield 77, 3)) (kk : hK h r = 6 → W p l e R s m args below meth c H locs cells slots Q (F0 m (pc + 3) ls (.ref r :: rest))) : W p l e R s m args below meth c H locs cells slots Q (F0 m pc ls (.ref a :: rest)) :=
  y_getr C hW ha i_X11 (by decide) rfl (by decide) m_838 rfl rfl hr hdg kk
end
theorem cw_X11_345 : cwd RX11 345 yX1_isPlain cX1_isPlain 1 (some .boolean) false 0 := ⟨m_1519, m_1516, m_4, ⟨m_1517, m_1518⟩, by decide, by decide, by decide +kernel⟩
theorem dX11_before_0 : decode cX11_before 0 = .ok (.aload_n 0, 1) := by decide +kernel
theorem dX11_before_1 : decode cX11_before 1 = .ok (.iload_n 1, 1) := by decide +kernel
theorem dX11_before_2 : decode cX11_before 2 = .ok (.invokevirtual 193, 3) := by decide +kernel
theorem dX11_before_5 : decode cX11_before 5 = .ok (.ifCond .ne 6, 3) := by decide +kernel
theorem dX11_before_8 : decode cX11_before 8 = .ok (.bipush (-102), 2) := by decide +kernel
theorem dX11_before_10 : decode cX11_before 10 = .ok (.ireturn, 1) := by decide +kernel
theorem dX11_before_11 : decode cX11_before 11 = .ok (.aload_n 0, 1) := by decide +kernel
theorem dX11_before_12 : decode cX11_before 12 = .ok (.getfield 24, 3) := by decide +kernel
theorem dX11_before_15 : decode cX11_before 15 = .ok (.invokevirtual 345, 3) := by decide +kernel
theorem dX11_before_18 : decode cX11_before 18 = .ok (.ifCond .ne 6, 3) := by decide +kernel
theorem dX11_before_21 : decode cX11_before 21 = .ok (.bipush (-103), 2) := by decide +kernel
theorem dX11_before_23 : decode cX11_before 23 = .ok (.ireturn, 1) := by decide +kernel
theorem dX11_before_24 : decode cX11_before 24 = .ok (.aload_n 0, 1) := by decide +kernel
theorem dX11_before_25 : decode cX11_before 25 = .ok (.getfield 77, 3) := by decide +kernel
theorem dX11_before_28 : decode cX11_before 28 = .ok (.aload_n 0, 1) := by decide +kernel
theorem dX11_before_29 : decode cX11_before 29 = .ok (.getfield 103, 3) := by decide +kernel
theorem dX11_before_32 : decode cX11_before 32 = .ok (.iload_n 1, 1) := by decide +kernel
theorem dX11_before_33 : decode cX11_before 33 = .ok (.aaload, 1) := by decide +kernel
set_option maxRecDepth 20000 in
theorem moX11_before {o : Int32 × Hp} {h : Hp} {x0 : Nat} {x1 : Int32} (hE : sX11_before h x0 x1 = some o) : Le h o.2 := by
  obtain ⟨o_1, eo_1, hE⟩ := cl_e hE
  refine (moX11_isPlace eo_1).tr ?_
  rcases br_e hE with ⟨_, hE⟩ | ⟨_, hE⟩
  · exact le_some2 hE
  · obtain ⟨r_3, er_3, hE⟩ := cl_e hE
    obtain ⟨o_4, eo_4, hE⟩ := cl_e hE
    refine (moX1_isPlain eo_4).tr ?_
    rcases br_e hE with ⟨_, hE⟩ | ⟨_, hE⟩
    · exact le_some2 hE
    · obtain ⟨r_6, er_6, hE⟩ := cl_e hE
      obtain ⟨r_7, er_7, hE⟩ := cl_e hE
      cases hE
set_option maxRecDepth 20000 in
theorem ct_X11_before (l : Launch) (X : Ec) {h : Hp} {x0 : Nat} {x1 : Int32} {o : Int32 × Hp} (k_x0 : hK h x0 = 11) (hE : sX11_before h x0 x1 = some o) : MetI l yX11_before cX11_before 2 (some .int) 2 41 X [.ref x0, .int x1] h o := by
  refine x_met (by decide) (Nat.le_of_ble_eq_true rfl) ?_
  intro p e s m below meth c ls C hl hW hZ
  have hl : lv_has ls 2 [(0, .ref x0), (1, .int x1)] := hl
  have hkm : Km h h := Km.rf h
  refine lv_aload_n C.1 C.2.1 dX11_before_0 rfl (lv_at hl 0 rfl) ?_
  refine lv_iload_n C.1 C.2.1 dX11_before_1 rfl (lv_at hl 1 rfl) ?_
  obtain ⟨o_1, eo_1, hE⟩ := cl_e hE
  refine x_kI (o := o_1) (z_runV (As := [.int x1]) (rest := []) C (ct_X11_isPlace l X k_x0 eo_1) cw_X11_193 hW hZ k_x0 (by decide) rfl rfl rfl hl.1 (Nat.le_of_ble_eq_true rfl) rfl dX11_before_2 ⟨Nat.le_of_ble_eq_true rfl, Nat.le_of_ble_eq_true rfl⟩ ⟨Nat.le_refl _, Nat.le_refl _⟩) hZ (fun _ _ hW km hZ => ?_)
  replace hkm := hkm.tr km
  replace k_x0 := km.at k_x0 (by decide)
  refine lv_if_ne (tgt := 11) C.1 C.2.1 dX11_before_5 (by decide) (fun c_2 => ?_) (fun c_2 => ?_)
  · have hE := br_n hE c_2
    refine lv_aload_n C.1 C.2.1 dX11_before_11 rfl (lv_at hl 0 rfl) ?_
    obtain ⟨r_3, er_3, hE⟩ := cl_e hE
    refine gf_X11_24 C hW k_x0 er_3 dX11_before_12 (fun k_r_3 => ?_)
    obtain ⟨o_4, eo_4, hE⟩ := cl_e hE
    refine x_kI (o := o_4) (z_runV (As := []) (rest := []) C (ct_X1_isPlain l X k_r_3 eo_4) cw_X11_345 hW hZ k_r_3 (by decide) rfl rfl rfl hl.1 (Nat.le_of_ble_eq_true rfl) rfl dX11_before_15 ⟨Nat.le_of_ble_eq_true rfl, Nat.le_of_ble_eq_true rfl⟩ ⟨Nat.le_refl _, Nat.le_refl _⟩) hZ (fun _ _ hW km hZ => ?_)
    replace hkm := hkm.tr km
    replace k_x0 := km.at k_x0 (by decide)
    refine lv_if_ne (tgt := 24) C.1 C.2.1 dX11_before_18 (by decide) (fun c_5 => ?_) (fun c_5 => ?_)
    · have hE := br_n hE c_5
      refine lv_aload_n C.1 C.2.1 dX11_before_24 rfl (lv_at hl 0 rfl) ?_
      obtain ⟨r_6, er_6, hE⟩ := cl_e hE
      refine gf_X11_77 C hW k_x0 er_6 dX11_before_25 (fun k_r_6 => ?_)
      refine lv_aload_n C.1 C.2.1 dX11_before_28 rfl (lv_at hl 0 rfl) ?_
      obtain ⟨r_7, er_7, hE⟩ := cl_e hE
      refine gf_X11_103 C hW k_x0 er_7 dX11_before_29 (fun k_r_7 => ?_)
      refine lv_iload_n C.1 C.2.1 dX11_before_32 rfl (lv_at hl 1 rfl) ?_
      cases hE
    · have hE := br_p hE c_5
      refine lv_bipush (v := (-103 : Int32)) C.1 C.2.1 dX11_before_21 (by decide) ?_
      exact x_iret C rfl rfl hW hZ hkm hE dX11_before_23
  · have hE := br_p hE c_2
    refine lv_bipush (v := (-102 : Int32)) C.1 C.2.1 dX11_before_8 (by decide) ?_
    exact x_iret C rfl rfl hW hZ hkm hE dX11_before_10
set_option maxRecDepth 100000 in
theorem m_430 : Cond.fieldLink RX11 352 (TX6 6).1 (TX6 6).2.1 (TX6 6).2.2.1 ∈ W0 := w0_in (List.mem_append_right _ (List.mem_of_getElem? (i := 430) rfl)) rfl
section
variable {p : Program} {l : Launch} {e : Env} {R : Room} {s : State} {m : MethodId} {args : Array Value} {below : List Frame} {meth : Method} {c : Code} {H : Heap} {locs : List Loc} {cells slots : Nat} {Q : State → Prop}
variable {cc : ByteArray} {pc : Nat} {ls : Array Slot} {rest : List Value} {X : Ec} {h h1 : Hp} {nL : Nat} {rt : Option FieldType} {mn : String}
theorem gf_X11_352 {a : Nat} (C : Cx X p s m args meth c RX11 cc nL rt mn) (hW : Wx X h H) (ha : hK h a = 6) (hdg : decode cc pc = .ok (.getfield 352, 3)) (kk : W p l e R s m args below meth c H locs cells slots Q (F0 m (pc + 3) ls (.int (hI h a 6) :: rest))) : W p l e R s m args below meth c H locs cells slots Q (F0 m pc ls (.ref a :: rest)) :=
  y_geti C hW ha i_X6 (by decide) rfl (by decide) m_430 rfl hdg kk
end
theorem dX11_beforeAt_0 : decode cX11_beforeAt 0 = .ok (.iload_n 1, 1) := by decide +kernel
theorem dX11_beforeAt_1 : decode cX11_beforeAt 1 = .ok (.ifCond .lt 14, 3) := by decide +kernel
theorem dX11_beforeAt_4 : decode cX11_beforeAt 4 = .ok (.iload_n 1, 1) := by decide +kernel
theorem dX11_beforeAt_5 : decode cX11_beforeAt 5 = .ok (.aload_n 0, 1) := by decide +kernel
theorem dX11_beforeAt_6 : decode cX11_beforeAt 6 = .ok (.getfield 77, 3) := by decide +kernel
theorem dX11_beforeAt_9 : decode cX11_beforeAt 9 = .ok (.getfield 352, 3) := by decide +kernel
theorem dX11_beforeAt_12 : decode cX11_beforeAt 12 = .ok (.if_icmp .lt 6, 3) := by decide +kernel
theorem dX11_beforeAt_15 : decode cX11_beforeAt 15 = .ok (.bipush (-102), 2) := by decide +kernel
theorem dX11_beforeAt_17 : decode cX11_beforeAt 17 = .ok (.ireturn, 1) := by decide +kernel
theorem dX11_beforeAt_18 : decode cX11_beforeAt 18 = .ok (.aload_n 0, 1) := by decide +kernel
theorem dX11_beforeAt_19 : decode cX11_beforeAt 19 = .ok (.invokevirtual 183, 3) := by decide +kernel
theorem dX11_beforeAt_22 : decode cX11_beforeAt 22 = .ok (.istore_n 2, 1) := by decide +kernel
theorem dX11_beforeAt_23 : decode cX11_beforeAt 23 = .ok (.iload_n 2, 1) := by decide +kernel
theorem dX11_beforeAt_24 : decode cX11_beforeAt 24 = .ok (.iconst (-1), 1) := by decide +kernel
theorem dX11_beforeAt_25 : decode cX11_beforeAt 25 = .ok (.if_icmp .ne 6, 3) := by decide +kernel
theorem dX11_beforeAt_28 : decode cX11_beforeAt 28 = .ok (.bipush (-104), 2) := by decide +kernel
theorem dX11_beforeAt_30 : decode cX11_beforeAt 30 = .ok (.ireturn, 1) := by decide +kernel
theorem dX11_beforeAt_31 : decode cX11_beforeAt 31 = .ok (.aload_n 0, 1) := by decide +kernel
theorem dX11_beforeAt_32 : decode cX11_beforeAt 32 = .ok (.getfield 107, 3) := by decide +kernel
theorem dX11_beforeAt_35 : decode cX11_beforeAt 35 = .ok (.iload_n 2, 1) := by decide +kernel
theorem dX11_beforeAt_36 : decode cX11_beforeAt 36 = .ok (.iconst 1, 1) := by decide +kernel
theorem dX11_beforeAt_37 : decode cX11_beforeAt 37 = .ok (.bastore, 1) := by decide +kernel
theorem dX11_beforeAt_38 : decode cX11_beforeAt 38 = .ok (.aload_n 0, 1) := by decide +kernel
theorem dX11_beforeAt_39 : decode cX11_beforeAt 39 = .ok (.getfield 77, 3) := by decide +kernel
theorem dX11_beforeAt_42 : decode cX11_beforeAt 42 = .ok (.aload_n 0, 1) := by decide +kernel
theorem dX11_beforeAt_43 : decode cX11_beforeAt 43 = .ok (.getfield 103, 3) := by decide +kernel
theorem dX11_beforeAt_46 : decode cX11_beforeAt 46 = .ok (.iload_n 2, 1) := by decide +kernel
theorem dX11_beforeAt_47 : decode cX11_beforeAt 47 = .ok (.aaload, 1) := by decide +kernel
set_option maxRecDepth 20000 in
theorem moX11_beforeAt_15 {o : Int32 × Hp} {F : Nat} {h : Hp} (hE : sX11_beforeAt_15 F h  = some o) : Le h o.2 := by
  exact le_some2 hE
set_option maxRecDepth 20000 in
theorem moX11_beforeAt {o : Int32 × Hp} {F : Nat} {h : Hp} {x0 : Nat} {x1 : Int32} (hE : sX11_beforeAt F h x0 x1 = some o) : Le h o.2 := by
  rcases br_e hE with ⟨_, hE⟩ | ⟨_, hE⟩
  · exact moX11_beforeAt_15 hE
  · obtain ⟨r_2, er_2, hE⟩ := cl_e hE
    rcases br_e hE with ⟨_, hE⟩ | ⟨_, hE⟩
    · obtain ⟨o_4, eo_4, hE⟩ := cl_e hE
      refine (moX11_freePlace eo_4).tr ?_
      rcases br_e hE with ⟨_, hE⟩ | ⟨_, hE⟩
      · exact le_some2 hE
      · obtain ⟨r_6, er_6, hE⟩ := cl_e hE
        obtain ⟨g_7, hE⟩ := gd_e hE
        obtain ⟨h_8, eh_8, hE⟩ := nm_e2 hE
        refine (le_I eh_8).tr ?_
        obtain ⟨r_9, er_9, hE⟩ := cl_e hE
        obtain ⟨r_10, er_10, hE⟩ := cl_e hE
        cases hE
    · exact moX11_beforeAt_15 hE
set_option maxRecDepth 20000 in
theorem bX11_beforeAt_15 {p : Program} {l : Launch} {e : Env} {s : State} {m : MethodId} {args : Array Value} {below : List Frame} {meth : Method} {c : Code} {X : Ec} {h0 : Hp} {o : Int32 × Hp} {F : Nat} (C : Cx X p s m args meth c RX11 cX11_beforeAt 3 (some .int) "beforeAt") {h : Hp} {H : Heap} {locs : List Loc} (hkm : Km h0 h) (hW : Wx X h H) (hZ : va_S (aA (eB X)) s.heap H locs) (ls : Array Slot) (hl : lv_has ls 3 []) (hE : sX11_beforeAt_15 F h  = some o) : W p l e (rm 1 21) s m args below meth c H locs 0 0 (MQ below (QI X h0 o.1 o.2) args s 0 0 (aA (eB X))) (F0 m 15 ls []) := by
  refine lv_bipush (v := (-102 : Int32)) C.1 C.2.1 dX11_beforeAt_15 (by decide) ?_
  exact x_iret C rfl rfl hW hZ hkm hE dX11_beforeAt_17
set_option maxRecDepth 20000 in
theorem ct_X11_beforeAt (l : Launch) (X : Ec) (F : Nat) {h : Hp} {x0 : Nat} {x1 : Int32} {o : Int32 × Hp} (k_x0 : hK h x0 = 11) (hE : sX11_beforeAt F h x0 x1 = some o) : MetI l yX11_beforeAt cX11_beforeAt 3 (some .int) 1 21 X [.ref x0, .int x1] h o := by
  refine x_met (by decide) (Nat.le_of_ble_eq_true rfl) ?_
  intro p e s m below meth c ls C hl hW hZ
  have hl : lv_has ls 3 [(0, .ref x0), (1, .int x1)] := hl
  have hkm : Km h h := Km.rf h
  refine lv_iload_n C.1 C.2.1 dX11_beforeAt_0 rfl (lv_at hl 1 rfl) ?_
  refine lv_if_lt (tgt := 15) C.1 C.2.1 dX11_beforeAt_1 (by decide) (fun c_1 => ?_) (fun c_1 => ?_)
  · have hE := br_p hE c_1
    exact bX11_beforeAt_15 C hkm hW hZ _ (lv_sub hl [] rfl) hE
  · have hE := br_n hE c_1
    refine lv_iload_n C.1 C.2.1 dX11_beforeAt_4 rfl (lv_at hl 1 rfl) ?_
    refine lv_aload_n C.1 C.2.1 dX11_beforeAt_5 rfl (lv_at hl 0 rfl) ?_
    obtain ⟨r_2, er_2, hE⟩ := cl_e hE
    refine gf_X11_77 C hW k_x0 er_2 dX11_beforeAt_6 (fun k_r_2 => ?_)
    refine gf_X11_352 C hW k_r_2 dX11_beforeAt_9 ?_
    refine lv_icmp_lt (tgt := 18) C.1 C.2.1 dX11_beforeAt_12 (by decide) (fun c_3 => ?_) (fun c_3 => ?_)
    · have hE := br_p hE c_3
      refine lv_aload_n C.1 C.2.1 dX11_beforeAt_18 rfl (lv_at hl 0 rfl) ?_
      obtain ⟨o_4, eo_4, hE⟩ := cl_e hE
      refine x_kI (o := o_4) (z_runV (As := []) (rest := []) C (ct_X11_freePlace l X F k_x0 eo_4) cw_X11_183 hW hZ k_x0 (by decide) rfl rfl rfl hl.1 (Nat.le_of_ble_eq_true rfl) rfl dX11_beforeAt_19 ⟨Nat.le_of_ble_eq_true rfl, Nat.le_of_ble_eq_true rfl⟩ ⟨Nat.le_refl _, Nat.le_refl _⟩) hZ (fun _ _ hW km hZ => ?_)
      replace hkm := hkm.tr km
      replace k_x0 := km.at k_x0 (by decide)
      refine lv_istore_n (lv' := [(2, .int o_4.1), (0, .ref x0), (1, .int x1)]) C.1 C.2.1 dX11_beforeAt_22 rfl hl (by decide) rfl (fun ls hl => ?_)
      refine lv_iload_n C.1 C.2.1 dX11_beforeAt_23 rfl (lv_at hl 0 rfl) ?_
      refine lv_iconst (v := (-1 : Int32)) C.1 C.2.1 dX11_beforeAt_24 (by decide) ?_
      refine lv_icmp_ne (tgt := 31) C.1 C.2.1 dX11_beforeAt_25 (by decide) (fun c_5 => ?_) (fun c_5 => ?_)
      · have hE := br_n hE c_5
        refine lv_aload_n C.1 C.2.1 dX11_beforeAt_31 rfl (lv_at hl 1 rfl) ?_
        obtain ⟨r_6, er_6, hE⟩ := cl_e hE
        refine gf_X11_107 C hW k_x0 er_6 dX11_beforeAt_32 (fun k_r_6 => ?_)
        refine lv_iload_n C.1 C.2.1 dX11_beforeAt_35 rfl (lv_at hl 0 rfl) ?_
        refine lv_iconst (v := (1 : Int32)) C.1 C.2.1 dX11_beforeAt_36 (by decide) ?_
        obtain ⟨g_7, hE⟩ := gd_e hE
        obtain ⟨h_8, eh_8, hE⟩ := nm_e2 hE
        refine y_zast C hW hZ k_r_6 g_7 eh_8 dX11_beforeAt_37 (fun _ _ hW km hZ => ?_)
        replace hkm := hkm.tr km
        replace k_x0 := km.at k_x0 (by decide)
        refine lv_aload_n C.1 C.2.1 dX11_beforeAt_38 rfl (lv_at hl 1 rfl) ?_
        obtain ⟨r_9, er_9, hE⟩ := cl_e hE
        refine gf_X11_77 C hW k_x0 er_9 dX11_beforeAt_39 (fun k_r_9 => ?_)
        refine lv_aload_n C.1 C.2.1 dX11_beforeAt_42 rfl (lv_at hl 1 rfl) ?_
        obtain ⟨r_10, er_10, hE⟩ := cl_e hE
        refine gf_X11_103 C hW k_x0 er_10 dX11_beforeAt_43 (fun k_r_10 => ?_)
        refine lv_iload_n C.1 C.2.1 dX11_beforeAt_46 rfl (lv_at hl 0 rfl) ?_
        cases hE
      · have hE := br_p hE c_5
        refine lv_bipush (v := (-104 : Int32)) C.1 C.2.1 dX11_beforeAt_28 (by decide) ?_
        exact x_iret C rfl rfl hW hZ hkm hE dX11_beforeAt_30
    · have hE := br_n hE c_3
      exact bX11_beforeAt_15 C hkm hW hZ _ (lv_sub hl [] rfl) hE
set_option maxRecDepth 100000 in
theorem m_1595 : Cond.methodLink RX11 358 yX1_hasCatch ∈ W0 := w0_in (List.mem_append_right _ (List.mem_of_getElem? (i := 1595) rfl)) rfl
set_option maxRecDepth 100000 in
theorem m_1596 : Cond.instanceMethod yX1_hasCatch ∈ W0 := w0_in (List.mem_append_right _ (List.mem_of_getElem? (i := 1596) rfl)) rfl
set_option maxRecDepth 100000 in
theorem m_1597 : Cond.selects RX1 yX1_hasCatch yX1_hasCatch ∈ W0 := w0_in (List.mem_append_right _ (List.mem_of_getElem? (i := 1597) rfl)) rfl
set_option maxRecDepth 100000 in
theorem m_1598 : Cond.code yX1_hasCatch cX1_hasCatch 3 (some .boolean) ∈ W0 := w0_in (List.mem_append_right _ (List.mem_of_getElem? (i := 1598) rfl)) rfl
section
variable {p : Program} {l : Launch} {e : Env} {R : Room} {s : State} {m : MethodId} {args : Array Value} {below : List Frame} {meth : Method} {c : Code} {H : Heap} {locs : List Loc} {cells slots : Nat} {Q : State → Prop}
variable {cc : ByteArray} {pc : Nat} {ls : Array Slot} {rest : List Value} {X : Ec} {h h1 : Hp} {nL : Nat} {rt : Option FieldType} {mn : String}
theorem gf_X11_84 {a r : Nat} (C : Cx X p s m args meth c RX11 cc nL rt mn) (hW : Wx X h H) (ha : hK h a = 11) (hr : hR h a 10 = some r) (hdg : decode cc pc = .ok (.getfield 84, 3)) (kk : hK h r = 0 → W p l e R s m args below meth c H locs cells slots Q (F0 m (pc + 3) ls (.ref r :: rest))) : W p l e R s m args below meth c H locs cells slots Q (F0 m pc ls (.ref a :: rest)) :=
  y_getr C hW ha i_X11 (by decide) rfl (by decide) m_839 rfl rfl hr hdg kk
end
theorem cw_X11_358 : cwd RX11 358 yX1_hasCatch cX1_hasCatch 3 (some .boolean) false 0 := ⟨m_1598, m_1595, m_4, ⟨m_1596, m_1597⟩, by decide, by decide, by decide +kernel⟩
theorem dX11_solve_0 : decode cX11_solve 0 = .ok (.bipush (-103), 2) := by decide +kernel
theorem dX11_solve_2 : decode cX11_solve 2 = .ok (.istore_n 1, 1) := by decide +kernel
theorem dX11_solve_3 : decode cX11_solve 3 = .ok (.aload_n 0, 1) := by decide +kernel
theorem dX11_solve_4 : decode cX11_solve 4 = .ok (.getfield 24, 3) := by decide +kernel
theorem dX11_solve_7 : decode cX11_solve 7 = .ok (.invokevirtual 345, 3) := by decide +kernel
theorem dX11_solve_10 : decode cX11_solve 10 = .ok (.ifCond .eq 61, 3) := by decide +kernel
theorem dX11_solve_13 : decode cX11_solve 13 = .ok (.aload_n 0, 1) := by decide +kernel
theorem dX11_solve_14 : decode cX11_solve 14 = .ok (.getfield 24, 3) := by decide +kernel
theorem dX11_solve_17 : decode cX11_solve 17 = .ok (.invokevirtual 358, 3) := by decide +kernel
theorem dX11_solve_20 : decode cX11_solve 20 = .ok (.ifCond .ne 51, 3) := by decide +kernel
theorem dX11_solve_23 : decode cX11_solve 23 = .ok (.aload_n 0, 1) := by decide +kernel
theorem dX11_solve_24 : decode cX11_solve 24 = .ok (.getfield 84, 3) := by decide +kernel
theorem dX11_solve_27 : decode cX11_solve 27 = .ok (.aload_n 0, 1) := by decide +kernel
theorem dX11_solve_28 : decode cX11_solve 28 = .ok (.getfield 14, 3) := by decide +kernel
theorem dX11_solve_31 : decode cX11_solve 31 = .ok (.invokevirtual 361, 3) := by decide +kernel
theorem dX11_solve_71 : decode cX11_solve 71 = .ok (.aload_n 0, 1) := by decide +kernel
theorem dX11_solve_72 : decode cX11_solve 72 = .ok (.getfield 14, 3) := by decide +kernel
theorem dX11_solve_75 : decode cX11_solve 75 = .ok (.invokevirtual 144, 3) := by decide +kernel
theorem dX11_solve_78 : decode cX11_solve 78 = .ok (.iload_n 1, 1) := by decide +kernel
theorem dX11_solve_79 : decode cX11_solve 79 = .ok (.ireturn, 1) := by decide +kernel
set_option maxRecDepth 20000 in
theorem moX11_solve_78 {o : Int32 × Hp} {F : Nat} {h : Hp} {x1 : Int32} (hE : sX11_solve_78 F h x1 = some o) : Le h o.2 := by
  exact le_some2 hE
set_option maxRecDepth 20000 in
theorem moX11_solve_71 {o : Int32 × Hp} {F : Nat} {h : Hp} {x0 : Nat} {x1 : Int32} (hE : sX11_solve_71 F h x0 x1 = some o) : Le h o.2 := by
  obtain ⟨r_1, er_1, hE⟩ := cl_e hE
  obtain ⟨o_2, eo_2, hE⟩ := cl_e hE
  refine (moX9_clear eo_2).tr ?_
  exact moX11_solve_78 hE
set_option maxRecDepth 20000 in
theorem moX11_solve_20 {o : Int32 × Hp} {F : Nat} {h : Hp} {x0 : Nat} {x1 : Int32} {t0 : Int32} (hE : sX11_solve_20 F h x0 x1 t0 = some o) : Le h o.2 := by
  rcases br_e hE with ⟨_, hE⟩ | ⟨_, hE⟩
  · obtain ⟨r_2, er_2, hE⟩ := cl_e hE
    obtain ⟨r_3, er_3, hE⟩ := cl_e hE
    cases hE
  · exact moX11_solve_71 hE
set_option maxRecDepth 20000 in
theorem moX11_solve_10 {o : Int32 × Hp} {F : Nat} {h : Hp} {x0 : Nat} {x1 : Int32} {t0 : Int32} (hE : sX11_solve_10 F h x0 x1 t0 = some o) : Le h o.2 := by
  rcases br_e hE with ⟨_, hE⟩ | ⟨_, hE⟩
  · exact moX11_solve_71 hE
  · obtain ⟨r_2, er_2, hE⟩ := cl_e hE
    obtain ⟨o_3, eo_3, hE⟩ := cl_e hE
    refine (moX1_hasCatch eo_3).tr ?_
    exact moX11_solve_20 hE
set_option maxRecDepth 20000 in
theorem moX11_solve {o : Int32 × Hp} {F : Nat} {h : Hp} {x0 : Nat} (hE : sX11_solve F h x0 = some o) : Le h o.2 := by
  obtain ⟨r_1, er_1, hE⟩ := cl_e hE
  obtain ⟨o_2, eo_2, hE⟩ := cl_e hE
  refine (moX1_isPlain eo_2).tr ?_
  exact moX11_solve_10 hE
set_option maxRecDepth 20000 in
theorem bX11_solve_78 {p : Program} {l : Launch} {e : Env} {s : State} {m : MethodId} {args : Array Value} {below : List Frame} {meth : Method} {c : Code} {X : Ec} {h0 : Hp} {o : Int32 × Hp} {F : Nat} (C : Cx X p s m args meth c RX11 cX11_solve 3 (some .int) "solve") {h : Hp} {x1 : Int32} {H : Heap} {locs : List Loc} (hkl : Kl h0 h) (hW : Wx X h H) (hZ : va_S (aA (eB X)) s.heap H locs) (ls : Array Slot) (hl : lv_has ls 3 [(1, .int x1)]) (hE : sX11_solve_78 F h x1 = some o) : W p l e (rmA 2 41 h0 o.2) s m args below meth c H locs (hS h - hS h0) (hL h - hL h0) (MQ below (QIA X h0 o.1 o.2) args s (hS o.2 - hS h0) (hL o.2 - hL h0) (aA (eB X))) (F0 m 78 ls []) := by
  refine lv_iload_n C.1 C.2.1 dX11_solve_78 rfl (lv_at hl 0 rfl) ?_
  exact x_iretA C rfl rfl hW hZ hkl hE dX11_solve_79
set_option maxRecDepth 20000 in
theorem bX11_solve_71 {p : Program} {l : Launch} {e : Env} {s : State} {m : MethodId} {args : Array Value} {below : List Frame} {meth : Method} {c : Code} {X : Ec} {h0 : Hp} {o : Int32 × Hp} {F : Nat} (C : Cx X p s m args meth c RX11 cX11_solve 3 (some .int) "solve") {h : Hp} {x0 : Nat} {x1 : Int32} {H : Heap} {locs : List Loc} (k_x0 : hK h x0 = 11) (hkl : Kl h0 h) (hW : Wx X h H) (hZ : va_S (aA (eB X)) s.heap H locs) (ls : Array Slot) (hl : lv_has ls 3 [(0, .ref x0), (1, .int x1)]) (hE : sX11_solve_71 F h x0 x1 = some o) : W p l e (rmA 2 41 h0 o.2) s m args below meth c H locs (hS h - hS h0) (hL h - hL h0) (MQ below (QIA X h0 o.1 o.2) args s (hS o.2 - hS h0) (hL o.2 - hL h0) (aA (eB X))) (F0 m 71 ls []) := by
  refine lv_aload_n C.1 C.2.1 dX11_solve_71 rfl (lv_at hl 0 rfl) ?_
  obtain ⟨r_1, er_1, hE⟩ := cl_e hE
  refine gf_X11_14 C hW k_x0 er_1 dX11_solve_72 (fun k_r_1 => ?_)
  obtain ⟨o_2, eo_2, hE⟩ := cl_e hE
  have m1 := moX9_clear eo_2
  have m2 := moX11_solve_78 hE
  refine x_kV (o := o_2) (z_runV (As := []) (rest := []) C (ct_X9_clear l X k_r_1 eo_2) cw_X11_144 hW hZ k_r_1 (by decide) rfl rfl rfl hl.1 (Nat.le_of_ble_eq_true rfl) rfl dX11_solve_75 ⟨Nat.le_of_ble_eq_true rfl, Nat.le_of_ble_eq_true rfl⟩ (rm_ok0 hkl m1 m2)) hZ (fun _ _ hW km hZ => ?_)
  replace hkl := hkl.tr km.l
  refine x_wc km ?_
  replace k_x0 := km.at k_x0 (by decide)
  exact bX11_solve_78 C hkl hW hZ _ (lv_sub hl [1] rfl) hE
set_option maxRecDepth 20000 in
theorem bX11_solve_20 {p : Program} {l : Launch} {e : Env} {s : State} {m : MethodId} {args : Array Value} {below : List Frame} {meth : Method} {c : Code} {X : Ec} {h0 : Hp} {o : Int32 × Hp} {F : Nat} (C : Cx X p s m args meth c RX11 cX11_solve 3 (some .int) "solve") {h : Hp} {x0 : Nat} {x1 : Int32} {t0 : Int32} {H : Heap} {locs : List Loc} (k_x0 : hK h x0 = 11) (hkl : Kl h0 h) (hW : Wx X h H) (hZ : va_S (aA (eB X)) s.heap H locs) (ls : Array Slot) (hl : lv_has ls 3 [(0, .ref x0), (1, .int x1)]) (hE : sX11_solve_20 F h x0 x1 t0 = some o) : W p l e (rmA 2 41 h0 o.2) s m args below meth c H locs (hS h - hS h0) (hL h - hL h0) (MQ below (QIA X h0 o.1 o.2) args s (hS o.2 - hS h0) (hL o.2 - hL h0) (aA (eB X))) (F0 m 20 ls [.int t0]) := by
  refine lv_if_ne (tgt := 71) C.1 C.2.1 dX11_solve_20 (by decide) (fun c_1 => ?_) (fun c_1 => ?_)
  · have hE := br_n hE c_1
    exact bX11_solve_71 C k_x0 hkl hW hZ _ (lv_sub hl [0, 1] rfl) hE
  · have hE := br_p hE c_1
    refine lv_aload_n C.1 C.2.1 dX11_solve_23 rfl (lv_at hl 0 rfl) ?_
    obtain ⟨r_2, er_2, hE⟩ := cl_e hE
    refine gf_X11_84 C hW k_x0 er_2 dX11_solve_24 (fun k_r_2 => ?_)
    refine lv_aload_n C.1 C.2.1 dX11_solve_27 rfl (lv_at hl 0 rfl) ?_
    obtain ⟨r_3, er_3, hE⟩ := cl_e hE
    refine gf_X11_14 C hW k_x0 er_3 dX11_solve_28 (fun k_r_3 => ?_)
    cases hE
set_option maxRecDepth 20000 in
theorem bX11_solve_10 {p : Program} {l : Launch} {e : Env} {s : State} {m : MethodId} {args : Array Value} {below : List Frame} {meth : Method} {c : Code} {X : Ec} {h0 : Hp} {o : Int32 × Hp} {F : Nat} (C : Cx X p s m args meth c RX11 cX11_solve 3 (some .int) "solve") {h : Hp} {x0 : Nat} {x1 : Int32} {t0 : Int32} {H : Heap} {locs : List Loc} (k_x0 : hK h x0 = 11) (hkl : Kl h0 h) (hW : Wx X h H) (hZ : va_S (aA (eB X)) s.heap H locs) (ls : Array Slot) (hl : lv_has ls 3 [(0, .ref x0), (1, .int x1)]) (hE : sX11_solve_10 F h x0 x1 t0 = some o) : W p l e (rmA 2 41 h0 o.2) s m args below meth c H locs (hS h - hS h0) (hL h - hL h0) (MQ below (QIA X h0 o.1 o.2) args s (hS o.2 - hS h0) (hL o.2 - hL h0) (aA (eB X))) (F0 m 10 ls [.int t0]) := by
  refine lv_if_eq (tgt := 71) C.1 C.2.1 dX11_solve_10 (by decide) (fun c_1 => ?_) (fun c_1 => ?_)
  · have hE := br_p hE c_1
    exact bX11_solve_71 C k_x0 hkl hW hZ _ (lv_sub hl [0, 1] rfl) hE
  · have hE := br_n hE c_1
    refine lv_aload_n C.1 C.2.1 dX11_solve_13 rfl (lv_at hl 0 rfl) ?_
    obtain ⟨r_2, er_2, hE⟩ := cl_e hE
    refine gf_X11_24 C hW k_x0 er_2 dX11_solve_14 (fun k_r_2 => ?_)
    obtain ⟨o_3, eo_3, hE⟩ := cl_e hE
    have m1 := moX1_hasCatch eo_3
    have m2 := moX11_solve_20 hE
    refine x_kI (o := o_3) (z_runV (As := []) (rest := []) C (ct_X1_hasCatch l X F k_r_2 eo_3) cw_X11_358 hW hZ k_r_2 (by decide) rfl rfl rfl hl.1 (Nat.le_of_ble_eq_true rfl) rfl dX11_solve_17 ⟨Nat.le_of_ble_eq_true rfl, Nat.le_of_ble_eq_true rfl⟩ (rm_ok0 hkl m1 m2)) hZ (fun _ _ hW km hZ => ?_)
    replace hkl := hkl.tr km.l
    refine x_wc km ?_
    replace k_x0 := km.at k_x0 (by decide)
    exact bX11_solve_20 C k_x0 hkl hW hZ _ (lv_sub hl [0, 1] rfl) hE
set_option maxRecDepth 20000 in
theorem ct_X11_solve (l : Launch) (X : Ec) (F : Nat) {h : Hp} {x0 : Nat} {o : Int32 × Hp} (k_x0 : hK h x0 = 11) (hE : sX11_solve F h x0 = some o) : MetIA l yX11_solve cX11_solve 3 (some .int) 2 41 X [.ref x0] h o := by
  refine x_metA (oh := o.2) (by decide) (Nat.le_of_ble_eq_true rfl) ?_
  intro p e s m below meth c ls C hl hW hZ
  have hl : lv_has ls 3 [(0, .ref x0)] := hl
  have hkl : Kl h h := Kl.rf h
  refine lv_bipush (v := (-103 : Int32)) C.1 C.2.1 dX11_solve_0 (by decide) ?_
  refine lv_istore_n (lv' := [(1, .int (-103 : Int32)), (0, .ref x0)]) C.1 C.2.1 dX11_solve_2 rfl hl (by decide) rfl (fun ls hl => ?_)
  refine lv_aload_n C.1 C.2.1 dX11_solve_3 rfl (lv_at hl 1 rfl) ?_
  obtain ⟨r_1, er_1, hE⟩ := cl_e hE
  refine gf_X11_24 C hW k_x0 er_1 dX11_solve_4 (fun k_r_1 => ?_)
  obtain ⟨o_2, eo_2, hE⟩ := cl_e hE
  have m1 := moX1_isPlain eo_2
  have m2 := moX11_solve_10 hE
  refine x_kI (o := o_2) (z_runV (As := []) (rest := []) C (ct_X1_isPlain l X k_r_1 eo_2) cw_X11_345 hW hZ k_r_1 (by decide) rfl rfl rfl hl.1 (Nat.le_of_ble_eq_true rfl) rfl dX11_solve_7 ⟨Nat.le_of_ble_eq_true rfl, Nat.le_of_ble_eq_true rfl⟩ (rm_ok0 hkl m1 m2)) hZ (fun _ _ hW km hZ => ?_)
  replace hkl := hkl.tr km.l
  refine x_wc km ?_
  replace k_x0 := km.at k_x0 (by decide)
  exact bX11_solve_10 C k_x0 hkl hW hZ _ (lv_sub hl [1, 0] rfl) hE
theorem dX11_worth_0 : decode cX11_worth 0 = .ok (.aload_n 0, 1) := by decide +kernel
theorem dX11_worth_1 : decode cX11_worth 1 = .ok (.iload_n 1, 1) := by decide +kernel
theorem dX11_worth_2 : decode cX11_worth 2 = .ok (.invokevirtual 193, 3) := by decide +kernel
theorem dX11_worth_5 : decode cX11_worth 5 = .ok (.ifCond .ne 6, 3) := by decide +kernel
theorem dX11_worth_8 : decode cX11_worth 8 = .ok (.bipush (-102), 2) := by decide +kernel
theorem dX11_worth_10 : decode cX11_worth 10 = .ok (.ireturn, 1) := by decide +kernel
theorem dX11_worth_11 : decode cX11_worth 11 = .ok (.aload_n 0, 1) := by decide +kernel
theorem dX11_worth_12 : decode cX11_worth 12 = .ok (.getfield 84, 3) := by decide +kernel
theorem dX11_worth_15 : decode cX11_worth 15 = .ok (.aload_n 0, 1) := by decide +kernel
theorem dX11_worth_16 : decode cX11_worth 16 = .ok (.getfield 103, 3) := by decide +kernel
theorem dX11_worth_19 : decode cX11_worth 19 = .ok (.iload_n 1, 1) := by decide +kernel
theorem dX11_worth_20 : decode cX11_worth 20 = .ok (.aaload, 1) := by decide +kernel
set_option maxRecDepth 20000 in
theorem moX11_worth {o : Int32 × Hp} {h : Hp} {x0 : Nat} {x1 : Int32} (hE : sX11_worth h x0 x1 = some o) : Le h o.2 := by
  obtain ⟨o_1, eo_1, hE⟩ := cl_e hE
  refine (moX11_isPlace eo_1).tr ?_
  rcases br_e hE with ⟨_, hE⟩ | ⟨_, hE⟩
  · exact le_some2 hE
  · obtain ⟨r_3, er_3, hE⟩ := cl_e hE
    obtain ⟨r_4, er_4, hE⟩ := cl_e hE
    cases hE
set_option maxRecDepth 20000 in
theorem ct_X11_worth (l : Launch) (X : Ec) {h : Hp} {x0 : Nat} {x1 : Int32} {o : Int32 × Hp} (k_x0 : hK h x0 = 11) (hE : sX11_worth h x0 x1 = some o) : MetI l yX11_worth cX11_worth 3 (some .int) 1 21 X [.ref x0, .int x1] h o := by
  refine x_met (by decide) (Nat.le_of_ble_eq_true rfl) ?_
  intro p e s m below meth c ls C hl hW hZ
  have hl : lv_has ls 3 [(0, .ref x0), (1, .int x1)] := hl
  have hkm : Km h h := Km.rf h
  refine lv_aload_n C.1 C.2.1 dX11_worth_0 rfl (lv_at hl 0 rfl) ?_
  refine lv_iload_n C.1 C.2.1 dX11_worth_1 rfl (lv_at hl 1 rfl) ?_
  obtain ⟨o_1, eo_1, hE⟩ := cl_e hE
  refine x_kI (o := o_1) (z_runV (As := [.int x1]) (rest := []) C (ct_X11_isPlace l X k_x0 eo_1) cw_X11_193 hW hZ k_x0 (by decide) rfl rfl rfl hl.1 (Nat.le_of_ble_eq_true rfl) rfl dX11_worth_2 ⟨Nat.le_of_ble_eq_true rfl, Nat.le_of_ble_eq_true rfl⟩ ⟨Nat.le_refl _, Nat.le_refl _⟩) hZ (fun _ _ hW km hZ => ?_)
  replace hkm := hkm.tr km
  replace k_x0 := km.at k_x0 (by decide)
  refine lv_if_ne (tgt := 11) C.1 C.2.1 dX11_worth_5 (by decide) (fun c_2 => ?_) (fun c_2 => ?_)
  · have hE := br_n hE c_2
    refine lv_aload_n C.1 C.2.1 dX11_worth_11 rfl (lv_at hl 0 rfl) ?_
    obtain ⟨r_3, er_3, hE⟩ := cl_e hE
    refine gf_X11_84 C hW k_x0 er_3 dX11_worth_12 (fun k_r_3 => ?_)
    refine lv_aload_n C.1 C.2.1 dX11_worth_15 rfl (lv_at hl 0 rfl) ?_
    obtain ⟨r_4, er_4, hE⟩ := cl_e hE
    refine gf_X11_103 C hW k_x0 er_4 dX11_worth_16 (fun k_r_4 => ?_)
    refine lv_iload_n C.1 C.2.1 dX11_worth_19 rfl (lv_at hl 1 rfl) ?_
    cases hE
  · have hE := br_p hE c_2
    refine lv_bipush (v := (-102 : Int32)) C.1 C.2.1 dX11_worth_8 (by decide) ?_
    exact x_iret C rfl rfl hW hZ hkm hE dX11_worth_10
set_option maxRecDepth 100000 in
theorem m_469 : Cond.fieldLink RX11 379 (TX0 10).1 (TX0 10).2.1 (TX0 10).2.2.1 ∈ W0 := w0_in (List.mem_append_right _ (List.mem_of_getElem? (i := 469) rfl)) rfl
set_option maxRecDepth 100000 in
theorem m_1750 : Cond.constant RX11 377 (-1000000 : Int32) ∈ W0 := w0_in (List.mem_append_right _ (List.mem_of_getElem? (i := 1750) rfl)) rfl
set_option maxRecDepth 100000 in
theorem m_1751 : Cond.constant RX11 378 (1000000 : Int32) ∈ W0 := w0_in (List.mem_append_right _ (List.mem_of_getElem? (i := 1751) rfl)) rfl
section
variable {p : Program} {l : Launch} {e : Env} {R : Room} {s : State} {m : MethodId} {args : Array Value} {below : List Frame} {meth : Method} {c : Code} {H : Heap} {locs : List Loc} {cells slots : Nat} {Q : State → Prop}
variable {cc : ByteArray} {pc : Nat} {ls : Array Slot} {rest : List Value} {X : Ec} {h h1 : Hp} {nL : Nat} {rt : Option FieldType} {mn : String}
theorem gf_X11_379 {a : Nat} (C : Cx X p s m args meth c RX11 cc nL rt mn) (hW : Wx X h H) (ha : hK h a = 0) (hdg : decode cc pc = .ok (.getfield 379, 3)) (kk : W p l e R s m args below meth c H locs cells slots Q (F0 m (pc + 3) ls (.int (hI h a 10) :: rest))) : W p l e R s m args below meth c H locs cells slots Q (F0 m pc ls (.ref a :: rest)) :=
  y_geti C hW ha i_X0 (by decide) rfl (by decide) m_469 rfl hdg kk
end
theorem dX11_tally_0 : decode cX11_tally 0 = .ok (.iload_n 1, 1) := by decide +kernel
theorem dX11_tally_1 : decode cX11_tally 1 = .ok (.invokestatic 247, 3) := by decide +kernel
theorem dX11_tally_4 : decode cX11_tally 4 = .ok (.ifCond .eq 17, 3) := by decide +kernel
theorem dX11_tally_7 : decode cX11_tally 7 = .ok (.iload_n 2, 1) := by decide +kernel
theorem dX11_tally_8 : decode cX11_tally 8 = .ok (.ldc_w 377, 3) := by decide +kernel
theorem dX11_tally_11 : decode cX11_tally 11 = .ok (.if_icmp .lt 10, 3) := by decide +kernel
theorem dX11_tally_14 : decode cX11_tally 14 = .ok (.iload_n 2, 1) := by decide +kernel
theorem dX11_tally_15 : decode cX11_tally 15 = .ok (.ldc_w 378, 3) := by decide +kernel
theorem dX11_tally_18 : decode cX11_tally 18 = .ok (.if_icmp .le 6, 3) := by decide +kernel
theorem dX11_tally_21 : decode cX11_tally 21 = .ok (.bipush (-101), 2) := by decide +kernel
theorem dX11_tally_23 : decode cX11_tally 23 = .ok (.ireturn, 1) := by decide +kernel
theorem dX11_tally_24 : decode cX11_tally 24 = .ok (.aload_n 0, 1) := by decide +kernel
theorem dX11_tally_25 : decode cX11_tally 25 = .ok (.getfield 84, 3) := by decide +kernel
theorem dX11_tally_28 : decode cX11_tally 28 = .ok (.getfield 379, 3) := by decide +kernel
theorem dX11_tally_31 : decode cX11_tally 31 = .ok (.ifCond .eq 15, 3) := by decide +kernel
theorem dX11_tally_34 : decode cX11_tally 34 = .ok (.aload_n 0, 1) := by decide +kernel
theorem dX11_tally_35 : decode cX11_tally 35 = .ok (.getfield 84, 3) := by decide +kernel
theorem dX11_tally_38 : decode cX11_tally 38 = .ok (.iload_n 1, 1) := by decide +kernel
theorem dX11_tally_39 : decode cX11_tally 39 = .ok (.iload_n 2, 1) := by decide +kernel
theorem dX11_tally_40 : decode cX11_tally 40 = .ok (.invokevirtual 382, 3) := by decide +kernel
theorem dX11_tally_46 : decode cX11_tally 46 = .ok (.bipush (-103), 2) := by decide +kernel
theorem dX11_tally_48 : decode cX11_tally 48 = .ok (.ireturn, 1) := by decide +kernel
set_option maxRecDepth 20000 in
theorem moX11_tally_21 {o : Int32 × Hp} {h : Hp} (hE : sX11_tally_21 h  = some o) : Le h o.2 := by
  exact le_some2 hE
set_option maxRecDepth 20000 in
theorem moX11_tally_48 {o : Int32 × Hp} {h : Hp} {t0 : Int32} (hE : sX11_tally_48 h  t0 = some o) : Le h o.2 := by
  exact le_some2 hE
set_option maxRecDepth 20000 in
theorem moX11_tally {o : Int32 × Hp} {h : Hp} {x0 : Nat} {x1 : Int32} {x2 : Int32} (hE : sX11_tally h x0 x1 x2 = some o) : Le h o.2 := by
  obtain ⟨o_1, eo_1, hE⟩ := cl_e hE
  refine (moX11_isSide eo_1).tr ?_
  rcases br_e hE with ⟨_, hE⟩ | ⟨_, hE⟩
  · exact moX11_tally_21 hE
  · rcases br_e hE with ⟨_, hE⟩ | ⟨_, hE⟩
    · exact moX11_tally_21 hE
    · rcases br_e hE with ⟨_, hE⟩ | ⟨_, hE⟩
      · obtain ⟨r_5, er_5, hE⟩ := cl_e hE
        rcases br_e hE with ⟨_, hE⟩ | ⟨_, hE⟩
        · exact moX11_tally_48 hE
        · obtain ⟨r_7, er_7, hE⟩ := cl_e hE
          cases hE
      · exact moX11_tally_21 hE
set_option maxRecDepth 20000 in
theorem bX11_tally_21 {p : Program} {l : Launch} {e : Env} {s : State} {m : MethodId} {args : Array Value} {below : List Frame} {meth : Method} {c : Code} {X : Ec} {h0 : Hp} {o : Int32 × Hp} (C : Cx X p s m args meth c RX11 cX11_tally 3 (some .int) "tally") {h : Hp} {H : Heap} {locs : List Loc} (hkm : Km h0 h) (hW : Wx X h H) (hZ : va_S (aA (eB X)) s.heap H locs) (ls : Array Slot) (hl : lv_has ls 3 []) (hE : sX11_tally_21 h  = some o) : W p l e (rm 1 20) s m args below meth c H locs 0 0 (MQ below (QI X h0 o.1 o.2) args s 0 0 (aA (eB X))) (F0 m 21 ls []) := by
  refine lv_bipush (v := (-101 : Int32)) C.1 C.2.1 dX11_tally_21 (by decide) ?_
  exact x_iret C rfl rfl hW hZ hkm hE dX11_tally_23
set_option maxRecDepth 20000 in
theorem bX11_tally_48 {p : Program} {l : Launch} {e : Env} {s : State} {m : MethodId} {args : Array Value} {below : List Frame} {meth : Method} {c : Code} {X : Ec} {h0 : Hp} {o : Int32 × Hp} (C : Cx X p s m args meth c RX11 cX11_tally 3 (some .int) "tally") {h : Hp} {t0 : Int32} {H : Heap} {locs : List Loc} (hkm : Km h0 h) (hW : Wx X h H) (hZ : va_S (aA (eB X)) s.heap H locs) (ls : Array Slot) (hl : lv_has ls 3 []) (hE : sX11_tally_48 h  t0 = some o) : W p l e (rm 1 20) s m args below meth c H locs 0 0 (MQ below (QI X h0 o.1 o.2) args s 0 0 (aA (eB X))) (F0 m 48 ls [.int t0]) := by
  exact x_iret C rfl rfl hW hZ hkm hE dX11_tally_48
set_option maxRecDepth 20000 in
theorem ct_X11_tally (l : Launch) (X : Ec) {h : Hp} {x0 : Nat} {x1 : Int32} {x2 : Int32} {o : Int32 × Hp} (k_x0 : hK h x0 = 11) (hE : sX11_tally h x0 x1 x2 = some o) : MetI l yX11_tally cX11_tally 3 (some .int) 1 20 X [.ref x0, .int x1, .int x2] h o := by
  refine x_met (by decide) (Nat.le_of_ble_eq_true rfl) ?_
  intro p e s m below meth c ls C hl hW hZ
  have hl : lv_has ls 3 [(0, .ref x0), (1, .int x1), (2, .int x2)] := hl
  have hkm : Km h h := Km.rf h
  refine lv_iload_n C.1 C.2.1 dX11_tally_0 rfl (lv_at hl 1 rfl) ?_
  obtain ⟨o_1, eo_1, hE⟩ := cl_e hE
  refine x_kI (o := o_1) (z_runS (As := [.int x1]) (rest := []) C (ct_X11_isSide l X eo_1) cw_X11_247 hW hZ rfl hl.1 (Nat.le_of_ble_eq_true rfl) rfl dX11_tally_1 ⟨Nat.le_of_ble_eq_true rfl, Nat.le_of_ble_eq_true rfl⟩ ⟨Nat.le_refl _, Nat.le_refl _⟩) hZ (fun _ _ hW km hZ => ?_)
  replace hkm := hkm.tr km
  replace k_x0 := km.at k_x0 (by decide)
  refine lv_if_eq (tgt := 21) C.1 C.2.1 dX11_tally_4 (by decide) (fun c_2 => ?_) (fun c_2 => ?_)
  · have hE := br_p hE c_2
    exact bX11_tally_21 C hkm hW hZ _ (lv_sub hl [] rfl) hE
  · have hE := br_n hE c_2
    refine lv_iload_n C.1 C.2.1 dX11_tally_7 rfl (lv_at hl 2 rfl) ?_
    refine lv_ldcw (v := (-1000000 : Int32)) C.1 C.2.1 C.2.2.2.1 (C.2.2.2.2.1 _ m_1750) dX11_tally_8 ?_
    refine lv_icmp_lt (tgt := 21) C.1 C.2.1 dX11_tally_11 (by decide) (fun c_3 => ?_) (fun c_3 => ?_)
    · have hE := br_p hE c_3
      exact bX11_tally_21 C hkm hW hZ _ (lv_sub hl [] rfl) hE
    · have hE := br_n hE c_3
      refine lv_iload_n C.1 C.2.1 dX11_tally_14 rfl (lv_at hl 2 rfl) ?_
      refine lv_ldcw (v := (1000000 : Int32)) C.1 C.2.1 C.2.2.2.1 (C.2.2.2.2.1 _ m_1751) dX11_tally_15 ?_
      refine lv_icmp_le (tgt := 24) C.1 C.2.1 dX11_tally_18 (by decide) (fun c_4 => ?_) (fun c_4 => ?_)
      · have hE := br_p hE c_4
        refine lv_aload_n C.1 C.2.1 dX11_tally_24 rfl (lv_at hl 0 rfl) ?_
        obtain ⟨r_5, er_5, hE⟩ := cl_e hE
        refine gf_X11_84 C hW k_x0 er_5 dX11_tally_25 (fun k_r_5 => ?_)
        refine gf_X11_379 C hW k_r_5 dX11_tally_28 ?_
        refine lv_if_eq (tgt := 46) C.1 C.2.1 dX11_tally_31 (by decide) (fun c_6 => ?_) (fun c_6 => ?_)
        · have hE := br_p hE c_6
          refine lv_bipush (v := (-103 : Int32)) C.1 C.2.1 dX11_tally_46 (by decide) ?_
          exact bX11_tally_48 C hkm hW hZ _ (lv_sub hl [] rfl) hE
        · have hE := br_n hE c_6
          refine lv_aload_n C.1 C.2.1 dX11_tally_34 rfl (lv_at hl 0 rfl) ?_
          obtain ⟨r_7, er_7, hE⟩ := cl_e hE
          refine gf_X11_84 C hW k_x0 er_7 dX11_tally_35 (fun k_r_7 => ?_)
          refine lv_iload_n C.1 C.2.1 dX11_tally_38 rfl (lv_at hl 1 rfl) ?_
          refine lv_iload_n C.1 C.2.1 dX11_tally_39 rfl (lv_at hl 2 rfl) ?_
          cases hE
      · have hE := br_n hE c_4
        exact bX11_tally_21 C hkm hW hZ _ (lv_sub hl [] rfl) hE
theorem dX11_problem_0 : decode cX11_problem 0 = .ok (.iload_n 2, 1) := by decide +kernel
theorem dX11_problem_1 : decode cX11_problem 1 = .ok (.ifCond .lt 29, 3) := by decide +kernel
theorem dX11_problem_4 : decode cX11_problem 4 = .ok (.iload_n 2, 1) := by decide +kernel
theorem dX11_problem_5 : decode cX11_problem 5 = .ok (.iconst 3, 1) := by decide +kernel
theorem dX11_problem_6 : decode cX11_problem 6 = .ok (.if_icmp .gt 24, 3) := by decide +kernel
theorem dX11_problem_9 : decode cX11_problem 9 = .ok (.iload_n 3, 1) := by decide +kernel
theorem dX11_problem_10 : decode cX11_problem 10 = .ok (.ifCond .lt 20, 3) := by decide +kernel
theorem dX11_problem_13 : decode cX11_problem 13 = .ok (.iload_n 3, 1) := by decide +kernel
theorem dX11_problem_14 : decode cX11_problem 14 = .ok (.iconst 2, 1) := by decide +kernel
theorem dX11_problem_15 : decode cX11_problem 15 = .ok (.if_icmp .gt 15, 3) := by decide +kernel
theorem dX11_problem_18 : decode cX11_problem 18 = .ok (.iload 4, 2) := by decide +kernel
theorem dX11_problem_20 : decode cX11_problem 20 = .ok (.iconst 1, 1) := by decide +kernel
theorem dX11_problem_21 : decode cX11_problem 21 = .ok (.if_icmp .lt 9, 3) := by decide +kernel
theorem dX11_problem_24 : decode cX11_problem 24 = .ok (.iload 4, 2) := by decide +kernel
theorem dX11_problem_26 : decode cX11_problem 26 = .ok (.iconst 4, 1) := by decide +kernel
theorem dX11_problem_27 : decode cX11_problem 27 = .ok (.if_icmp .le 6, 3) := by decide +kernel
theorem dX11_problem_30 : decode cX11_problem 30 = .ok (.bipush (-101), 2) := by decide +kernel
theorem dX11_problem_32 : decode cX11_problem 32 = .ok (.ireturn, 1) := by decide +kernel
theorem dX11_problem_33 : decode cX11_problem 33 = .ok (.aload_n 0, 1) := by decide +kernel
theorem dX11_problem_34 : decode cX11_problem 34 = .ok (.iload_n 1, 1) := by decide +kernel
theorem dX11_problem_35 : decode cX11_problem 35 = .ok (.invokevirtual 193, 3) := by decide +kernel
theorem dX11_problem_38 : decode cX11_problem 38 = .ok (.ifCond .ne 6, 3) := by decide +kernel
theorem dX11_problem_41 : decode cX11_problem 41 = .ok (.bipush (-102), 2) := by decide +kernel
theorem dX11_problem_43 : decode cX11_problem 43 = .ok (.ireturn, 1) := by decide +kernel
theorem dX11_problem_44 : decode cX11_problem 44 = .ok (.aload_n 0, 1) := by decide +kernel
theorem dX11_problem_45 : decode cX11_problem 45 = .ok (.getfield 50, 3) := by decide +kernel
theorem dX11_problem_48 : decode cX11_problem 48 = .ok (.aload_n 0, 1) := by decide +kernel
theorem dX11_problem_49 : decode cX11_problem 49 = .ok (.getfield 103, 3) := by decide +kernel
theorem dX11_problem_52 : decode cX11_problem 52 = .ok (.iload_n 1, 1) := by decide +kernel
theorem dX11_problem_53 : decode cX11_problem 53 = .ok (.aaload, 1) := by decide +kernel
set_option maxRecDepth 20000 in
theorem moX11_problem_30 {o : Int32 × Hp} {h : Hp} (hE : sX11_problem_30 h  = some o) : Le h o.2 := by
  exact le_some2 hE
set_option maxRecDepth 20000 in
theorem moX11_problem {o : Int32 × Hp} {h : Hp} {x0 : Nat} {x1 : Int32} {x2 : Int32} {x3 : Int32} {x4 : Int32} (hE : sX11_problem h x0 x1 x2 x3 x4 = some o) : Le h o.2 := by
  rcases br_e hE with ⟨_, hE⟩ | ⟨_, hE⟩
  · exact moX11_problem_30 hE
  · rcases br_e hE with ⟨_, hE⟩ | ⟨_, hE⟩
    · exact moX11_problem_30 hE
    · rcases br_e hE with ⟨_, hE⟩ | ⟨_, hE⟩
      · exact moX11_problem_30 hE
      · rcases br_e hE with ⟨_, hE⟩ | ⟨_, hE⟩
        · exact moX11_problem_30 hE
        · rcases br_e hE with ⟨_, hE⟩ | ⟨_, hE⟩
          · exact moX11_problem_30 hE
          · rcases br_e hE with ⟨_, hE⟩ | ⟨_, hE⟩
            · obtain ⟨o_7, eo_7, hE⟩ := cl_e hE
              refine (moX11_isPlace eo_7).tr ?_
              rcases br_e hE with ⟨_, hE⟩ | ⟨_, hE⟩
              · exact le_some2 hE
              · obtain ⟨r_9, er_9, hE⟩ := cl_e hE
                obtain ⟨r_10, er_10, hE⟩ := cl_e hE
                cases hE
            · exact moX11_problem_30 hE
set_option maxRecDepth 20000 in
theorem bX11_problem_30 {p : Program} {l : Launch} {e : Env} {s : State} {m : MethodId} {args : Array Value} {below : List Frame} {meth : Method} {c : Code} {X : Ec} {h0 : Hp} {o : Int32 × Hp} (C : Cx X p s m args meth c RX11 cX11_problem 6 (some .int) "problem") {h : Hp} {H : Heap} {locs : List Loc} (hkm : Km h0 h) (hW : Wx X h H) (hZ : va_S (aA (eB X)) s.heap H locs) (ls : Array Slot) (hl : lv_has ls 6 []) (hE : sX11_problem_30 h  = some o) : W p l e (rm 1 21) s m args below meth c H locs 0 0 (MQ below (QI X h0 o.1 o.2) args s 0 0 (aA (eB X))) (F0 m 30 ls []) := by
  refine lv_bipush (v := (-101 : Int32)) C.1 C.2.1 dX11_problem_30 (by decide) ?_
  exact x_iret C rfl rfl hW hZ hkm hE dX11_problem_32
set_option maxRecDepth 20000 in
theorem ct_X11_problem (l : Launch) (X : Ec) {h : Hp} {x0 : Nat} {x1 : Int32} {x2 : Int32} {x3 : Int32} {x4 : Int32} {o : Int32 × Hp} (k_x0 : hK h x0 = 11) (hE : sX11_problem h x0 x1 x2 x3 x4 = some o) : MetI l yX11_problem cX11_problem 6 (some .int) 1 21 X [.ref x0, .int x1, .int x2, .int x3, .int x4] h o := by
  refine x_met (by decide) (Nat.le_of_ble_eq_true rfl) ?_
  intro p e s m below meth c ls C hl hW hZ
  have hl : lv_has ls 6 [(0, .ref x0), (1, .int x1), (2, .int x2), (3, .int x3), (4, .int x4)] := hl
  have hkm : Km h h := Km.rf h
  refine lv_iload_n C.1 C.2.1 dX11_problem_0 rfl (lv_at hl 2 rfl) ?_
  refine lv_if_lt (tgt := 30) C.1 C.2.1 dX11_problem_1 (by decide) (fun c_1 => ?_) (fun c_1 => ?_)
  · have hE := br_p hE c_1
    exact bX11_problem_30 C hkm hW hZ _ (lv_sub hl [] rfl) hE
  · have hE := br_n hE c_1
    refine lv_iload_n C.1 C.2.1 dX11_problem_4 rfl (lv_at hl 2 rfl) ?_
    refine lv_iconst (v := (3 : Int32)) C.1 C.2.1 dX11_problem_5 (by decide) ?_
    refine lv_icmp_gt (tgt := 30) C.1 C.2.1 dX11_problem_6 (by decide) (fun c_2 => ?_) (fun c_2 => ?_)
    · have hE := br_p hE c_2
      exact bX11_problem_30 C hkm hW hZ _ (lv_sub hl [] rfl) hE
    · have hE := br_n hE c_2
      refine lv_iload_n C.1 C.2.1 dX11_problem_9 rfl (lv_at hl 3 rfl) ?_
      refine lv_if_lt (tgt := 30) C.1 C.2.1 dX11_problem_10 (by decide) (fun c_3 => ?_) (fun c_3 => ?_)
      · have hE := br_p hE c_3
        exact bX11_problem_30 C hkm hW hZ _ (lv_sub hl [] rfl) hE
      · have hE := br_n hE c_3
        refine lv_iload_n C.1 C.2.1 dX11_problem_13 rfl (lv_at hl 3 rfl) ?_
        refine lv_iconst (v := (2 : Int32)) C.1 C.2.1 dX11_problem_14 (by decide) ?_
        refine lv_icmp_gt (tgt := 30) C.1 C.2.1 dX11_problem_15 (by decide) (fun c_4 => ?_) (fun c_4 => ?_)
        · have hE := br_p hE c_4
          exact bX11_problem_30 C hkm hW hZ _ (lv_sub hl [] rfl) hE
        · have hE := br_n hE c_4
          refine lv_iload C.1 C.2.1 dX11_problem_18 (lv_at hl 4 rfl) ?_
          refine lv_iconst (v := (1 : Int32)) C.1 C.2.1 dX11_problem_20 (by decide) ?_
          refine lv_icmp_lt (tgt := 30) C.1 C.2.1 dX11_problem_21 (by decide) (fun c_5 => ?_) (fun c_5 => ?_)
          · have hE := br_p hE c_5
            exact bX11_problem_30 C hkm hW hZ _ (lv_sub hl [] rfl) hE
          · have hE := br_n hE c_5
            refine lv_iload C.1 C.2.1 dX11_problem_24 (lv_at hl 4 rfl) ?_
            refine lv_iconst (v := (4 : Int32)) C.1 C.2.1 dX11_problem_26 (by decide) ?_
            refine lv_icmp_le (tgt := 33) C.1 C.2.1 dX11_problem_27 (by decide) (fun c_6 => ?_) (fun c_6 => ?_)
            · have hE := br_p hE c_6
              refine lv_aload_n C.1 C.2.1 dX11_problem_33 rfl (lv_at hl 0 rfl) ?_
              refine lv_iload_n C.1 C.2.1 dX11_problem_34 rfl (lv_at hl 1 rfl) ?_
              obtain ⟨o_7, eo_7, hE⟩ := cl_e hE
              refine x_kI (o := o_7) (z_runV (As := [.int x1]) (rest := []) C (ct_X11_isPlace l X k_x0 eo_7) cw_X11_193 hW hZ k_x0 (by decide) rfl rfl rfl hl.1 (Nat.le_of_ble_eq_true rfl) rfl dX11_problem_35 ⟨Nat.le_of_ble_eq_true rfl, Nat.le_of_ble_eq_true rfl⟩ ⟨Nat.le_refl _, Nat.le_refl _⟩) hZ (fun _ _ hW km hZ => ?_)
              replace hkm := hkm.tr km
              replace k_x0 := km.at k_x0 (by decide)
              refine lv_if_ne (tgt := 44) C.1 C.2.1 dX11_problem_38 (by decide) (fun c_8 => ?_) (fun c_8 => ?_)
              · have hE := br_n hE c_8
                refine lv_aload_n C.1 C.2.1 dX11_problem_44 rfl (lv_at hl 0 rfl) ?_
                obtain ⟨r_9, er_9, hE⟩ := cl_e hE
                refine gf_X11_50 C hW k_x0 er_9 dX11_problem_45 (fun k_r_9 => ?_)
                refine lv_aload_n C.1 C.2.1 dX11_problem_48 rfl (lv_at hl 0 rfl) ?_
                obtain ⟨r_10, er_10, hE⟩ := cl_e hE
                refine gf_X11_103 C hW k_x0 er_10 dX11_problem_49 (fun k_r_10 => ?_)
                refine lv_iload_n C.1 C.2.1 dX11_problem_52 rfl (lv_at hl 1 rfl) ?_
                cases hE
              · have hE := br_p hE c_8
                refine lv_bipush (v := (-102 : Int32)) C.1 C.2.1 dX11_problem_41 (by decide) ?_
                exact x_iret C rfl rfl hW hZ hkm hE dX11_problem_43
            · have hE := br_n hE c_6
              exact bX11_problem_30 C hkm hW hZ _ (lv_sub hl [] rfl) hE
set_option maxRecDepth 100000 in
theorem m_1770 : Cond.methodLink RX11 393 yX4_keyAt ∈ W0 := w0_in (List.mem_append_right _ (List.mem_of_getElem? (i := 1770) rfl)) rfl
set_option maxRecDepth 100000 in
theorem m_1771 : Cond.instanceMethod yX4_keyAt ∈ W0 := w0_in (List.mem_append_right _ (List.mem_of_getElem? (i := 1771) rfl)) rfl
set_option maxRecDepth 100000 in
theorem m_1772 : Cond.selects RX4 yX4_keyAt yX4_keyAt ∈ W0 := w0_in (List.mem_append_right _ (List.mem_of_getElem? (i := 1772) rfl)) rfl
set_option maxRecDepth 100000 in
theorem m_1773 : Cond.code yX4_keyAt cX4_keyAt 2 (some .int) ∈ W0 := w0_in (List.mem_append_right _ (List.mem_of_getElem? (i := 1773) rfl)) rfl
theorem cw_X11_393 : cwd RX11 393 yX4_keyAt cX4_keyAt 2 (some .int) false 1 := ⟨m_1773, m_1770, m_14, ⟨m_1771, m_1772⟩, by decide, by decide, by decide +kernel⟩
theorem dX11_key_0 : decode cX11_key 0 = .ok (.aload_n 0, 1) := by decide +kernel
theorem dX11_key_1 : decode cX11_key 1 = .ok (.getfield 93, 3) := by decide +kernel
theorem dX11_key_4 : decode cX11_key 4 = .ok (.iload_n 1, 1) := by decide +kernel
theorem dX11_key_5 : decode cX11_key 5 = .ok (.invokevirtual 393, 3) := by decide +kernel
theorem dX11_key_8 : decode cX11_key 8 = .ok (.ireturn, 1) := by decide +kernel
set_option maxRecDepth 20000 in
theorem moX11_key {o : Int32 × Hp} {h : Hp} {x0 : Nat} {x1 : Int32} (hE : sX11_key h x0 x1 = some o) : Le h o.2 := by
  obtain ⟨r_1, er_1, hE⟩ := cl_e hE
  obtain ⟨o_2, eo_2, hE⟩ := cl_e hE
  refine (moX4_keyAt eo_2).tr ?_
  exact le_some2 hE
set_option maxRecDepth 20000 in
theorem ct_X11_key (l : Launch) (X : Ec) {h : Hp} {x0 : Nat} {x1 : Int32} {o : Int32 × Hp} (k_x0 : hK h x0 = 11) (hE : sX11_key h x0 x1 = some o) : MetI l yX11_key cX11_key 2 (some .int) 1 21 X [.ref x0, .int x1] h o := by
  refine x_met (by decide) (Nat.le_of_ble_eq_true rfl) ?_
  intro p e s m below meth c ls C hl hW hZ
  have hl : lv_has ls 2 [(0, .ref x0), (1, .int x1)] := hl
  have hkm : Km h h := Km.rf h
  refine lv_aload_n C.1 C.2.1 dX11_key_0 rfl (lv_at hl 0 rfl) ?_
  obtain ⟨r_1, er_1, hE⟩ := cl_e hE
  refine gf_X11_93 C hW k_x0 er_1 dX11_key_1 (fun k_r_1 => ?_)
  refine lv_iload_n C.1 C.2.1 dX11_key_4 rfl (lv_at hl 1 rfl) ?_
  obtain ⟨o_2, eo_2, hE⟩ := cl_e hE
  refine x_kI (o := o_2) (z_runV (As := [.int x1]) (rest := []) C (ct_X4_keyAt l X k_r_1 eo_2) cw_X11_393 hW hZ k_r_1 (by decide) rfl rfl rfl hl.1 (Nat.le_of_ble_eq_true rfl) rfl dX11_key_5 ⟨Nat.le_of_ble_eq_true rfl, Nat.le_of_ble_eq_true rfl⟩ ⟨Nat.le_refl _, Nat.le_refl _⟩) hZ (fun _ _ hW km hZ => ?_)
  replace hkm := hkm.tr km
  replace k_x0 := km.at k_x0 (by decide)
  exact x_iret C rfl rfl hW hZ hkm hE dX11_key_8
set_option maxRecDepth 100000 in
theorem m_1778 : Cond.methodLink RX11 396 yX4_refutesOf ∈ W0 := w0_in (List.mem_append_right _ (List.mem_of_getElem? (i := 1778) rfl)) rfl
set_option maxRecDepth 100000 in
theorem m_1779 : Cond.instanceMethod yX4_refutesOf ∈ W0 := w0_in (List.mem_append_right _ (List.mem_of_getElem? (i := 1779) rfl)) rfl
set_option maxRecDepth 100000 in
theorem m_1780 : Cond.selects RX4 yX4_refutesOf yX4_refutesOf ∈ W0 := w0_in (List.mem_append_right _ (List.mem_of_getElem? (i := 1780) rfl)) rfl
set_option maxRecDepth 100000 in
theorem m_1781 : Cond.code yX4_refutesOf cX4_refutesOf 2 (some .int) ∈ W0 := w0_in (List.mem_append_right _ (List.mem_of_getElem? (i := 1781) rfl)) rfl
theorem cw_X11_396 : cwd RX11 396 yX4_refutesOf cX4_refutesOf 2 (some .int) false 1 := ⟨m_1781, m_1778, m_14, ⟨m_1779, m_1780⟩, by decide, by decide, by decide +kernel⟩
theorem dX11_refutes_0 : decode cX11_refutes 0 = .ok (.aload_n 0, 1) := by decide +kernel
theorem dX11_refutes_1 : decode cX11_refutes 1 = .ok (.getfield 93, 3) := by decide +kernel
theorem dX11_refutes_4 : decode cX11_refutes 4 = .ok (.iload_n 1, 1) := by decide +kernel
theorem dX11_refutes_5 : decode cX11_refutes 5 = .ok (.invokevirtual 396, 3) := by decide +kernel
theorem dX11_refutes_8 : decode cX11_refutes 8 = .ok (.ireturn, 1) := by decide +kernel
set_option maxRecDepth 20000 in
theorem moX11_refutes {o : Int32 × Hp} {h : Hp} {x0 : Nat} {x1 : Int32} (hE : sX11_refutes h x0 x1 = some o) : Le h o.2 := by
  obtain ⟨r_1, er_1, hE⟩ := cl_e hE
  obtain ⟨o_2, eo_2, hE⟩ := cl_e hE
  refine (moX4_refutesOf eo_2).tr ?_
  exact le_some2 hE
set_option maxRecDepth 20000 in
theorem ct_X11_refutes (l : Launch) (X : Ec) {h : Hp} {x0 : Nat} {x1 : Int32} {o : Int32 × Hp} (k_x0 : hK h x0 = 11) (hE : sX11_refutes h x0 x1 = some o) : MetI l yX11_refutes cX11_refutes 2 (some .int) 1 21 X [.ref x0, .int x1] h o := by
  refine x_met (by decide) (Nat.le_of_ble_eq_true rfl) ?_
  intro p e s m below meth c ls C hl hW hZ
  have hl : lv_has ls 2 [(0, .ref x0), (1, .int x1)] := hl
  have hkm : Km h h := Km.rf h
  refine lv_aload_n C.1 C.2.1 dX11_refutes_0 rfl (lv_at hl 0 rfl) ?_
  obtain ⟨r_1, er_1, hE⟩ := cl_e hE
  refine gf_X11_93 C hW k_x0 er_1 dX11_refutes_1 (fun k_r_1 => ?_)
  refine lv_iload_n C.1 C.2.1 dX11_refutes_4 rfl (lv_at hl 1 rfl) ?_
  obtain ⟨o_2, eo_2, hE⟩ := cl_e hE
  refine x_kI (o := o_2) (z_runV (As := [.int x1]) (rest := []) C (ct_X4_refutesOf l X k_r_1 eo_2) cw_X11_396 hW hZ k_r_1 (by decide) rfl rfl rfl hl.1 (Nat.le_of_ble_eq_true rfl) rfl dX11_refutes_5 ⟨Nat.le_of_ble_eq_true rfl, Nat.le_of_ble_eq_true rfl⟩ ⟨Nat.le_refl _, Nat.le_refl _⟩) hZ (fun _ _ hW km hZ => ?_)
  replace hkm := hkm.tr km
  replace k_x0 := km.at k_x0 (by decide)
  exact x_iret C rfl rfl hW hZ hkm hE dX11_refutes_8
