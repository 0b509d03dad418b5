set_option maxRecDepth 100000 in
theorem m_44 : Cond.fieldLink RX11 147 (TX9 1).1 (TX9 1).2.1 (TX9 1).2.2.1 ∈ W0 := w0_in (List.mem_append_right _ (List.mem_of_getElem? (i := 44) rfl)) rfl
set_option maxRecDepth 100000 in
theorem m_889 : Cond.methodLink RX11 151 yX9_appendNumber ∈ W0 := w0_in (List.mem_append_right _ (List.mem_of_getElem? (i := 889) rfl)) rfl
set_option maxRecDepth 100000 in
theorem m_890 : Cond.instanceMethod yX9_appendNumber ∈ W0 := w0_in (List.mem_append_right _ (List.mem_of_getElem? (i := 890) rfl)) rfl
set_option maxRecDepth 100000 in
theorem m_891 : Cond.selects RX9 yX9_appendNumber yX9_appendNumber ∈ W0 := w0_in (List.mem_append_right _ (List.mem_of_getElem? (i := 891) rfl)) rfl
set_option maxRecDepth 100000 in
theorem m_892 : Cond.code yX9_appendNumber cX9_appendNumber 2 none ∈ W0 := w0_in (List.mem_append_right _ (List.mem_of_getElem? (i := 892) rfl)) rfl
section
variable {p : Program} {l : Launch} {e : Env} {R : Room} {s : State} {m : MethodId} {args : Array Value} {below : List Frame} {meth : Method} {c : Code} {H : Heap} {locs : List Loc} {cells slots : Nat} {Q : State → Prop}
variable {cc : ByteArray} {pc : Nat} {ls : Array Slot} {rest : List Value} {X : Ec} {h h1 : Hp} {nL : Nat} {rt : Option FieldType} {mn : String}
theorem gf_X11_147 {a : Nat} (C : Cx X p s m args meth c RX11 cc nL rt mn) (hW : Wx X h H) (ha : hK h a = 9) (hdg : decode cc pc = .ok (.getfield 147, 3)) (kk : W p l e R s m args below meth c H locs cells slots Q (F0 m (pc + 3) ls (.int (hI h a 1) :: rest))) : W p l e R s m args below meth c H locs cells slots Q (F0 m pc ls (.ref a :: rest)) :=
  y_geti C hW ha i_X9 (by decide) rfl (by decide) m_44 rfl hdg kk
end
theorem cw_X11_151 : cwd RX11 151 yX9_appendNumber cX9_appendNumber 2 none false 1 := ⟨m_892, m_889, m_2, ⟨m_890, m_891⟩, by decide, by decide, by decide +kernel⟩
theorem dX11_feed_0 : decode cX11_feed 0 = .ok (.aload_n 0, 1) := by decide +kernel
theorem dX11_feed_1 : decode cX11_feed 1 = .ok (.getfield 14, 3) := by decide +kernel
theorem dX11_feed_4 : decode cX11_feed 4 = .ok (.getfield 147, 3) := by decide +kernel
theorem dX11_feed_7 : decode cX11_feed 7 = .ok (.bipush 20, 2) := by decide +kernel
theorem dX11_feed_9 : decode cX11_feed 9 = .ok (.iadd, 1) := by decide +kernel
theorem dX11_feed_10 : decode cX11_feed 10 = .ok (.sipush 1200, 3) := by decide +kernel
theorem dX11_feed_13 : decode cX11_feed 13 = .ok (.if_icmp .le 6, 3) := by decide +kernel
theorem dX11_feed_16 : decode cX11_feed 16 = .ok (.bipush (-104), 2) := by decide +kernel
theorem dX11_feed_18 : decode cX11_feed 18 = .ok (.ireturn, 1) := by decide +kernel
theorem dX11_feed_19 : decode cX11_feed 19 = .ok (.aload_n 0, 1) := by decide +kernel
theorem dX11_feed_20 : decode cX11_feed 20 = .ok (.getfield 14, 3) := by decide +kernel
theorem dX11_feed_23 : decode cX11_feed 23 = .ok (.iload_n 1, 1) := by decide +kernel
theorem dX11_feed_24 : decode cX11_feed 24 = .ok (.invokevirtual 151, 3) := by decide +kernel
theorem dX11_feed_27 : decode cX11_feed 27 = .ok (.aload_n 0, 1) := by decide +kernel
theorem dX11_feed_28 : decode cX11_feed 28 = .ok (.getfield 14, 3) := by decide +kernel
theorem dX11_feed_31 : decode cX11_feed 31 = .ok (.iload_n 2, 1) := by decide +kernel
theorem dX11_feed_32 : decode cX11_feed 32 = .ok (.invokevirtual 151, 3) := by decide +kernel
theorem dX11_feed_35 : decode cX11_feed 35 = .ok (.aload_n 0, 1) := by decide +kernel
theorem dX11_feed_36 : decode cX11_feed 36 = .ok (.getfield 14, 3) := by decide +kernel
theorem dX11_feed_39 : decode cX11_feed 39 = .ok (.iload_n 3, 1) := by decide +kernel
theorem dX11_feed_40 : decode cX11_feed 40 = .ok (.invokevirtual 151, 3) := by decide +kernel
theorem dX11_feed_43 : decode cX11_feed 43 = .ok (.aload_n 0, 1) := by decide +kernel
theorem dX11_feed_44 : decode cX11_feed 44 = .ok (.getfield 14, 3) := by decide +kernel
theorem dX11_feed_47 : decode cX11_feed 47 = .ok (.iload 4, 2) := by decide +kernel
theorem dX11_feed_49 : decode cX11_feed 49 = .ok (.invokevirtual 151, 3) := by decide +kernel
theorem dX11_feed_52 : decode cX11_feed 52 = .ok (.aload_n 0, 1) := by decide +kernel
theorem dX11_feed_53 : decode cX11_feed 53 = .ok (.getfield 14, 3) := by decide +kernel
theorem dX11_feed_56 : decode cX11_feed 56 = .ok (.iload 5, 2) := by decide +kernel
theorem dX11_feed_58 : decode cX11_feed 58 = .ok (.invokevirtual 151, 3) := by decide +kernel
theorem dX11_feed_61 : decode cX11_feed 61 = .ok (.aload_n 0, 1) := by decide +kernel
theorem dX11_feed_62 : decode cX11_feed 62 = .ok (.getfield 14, 3) := by decide +kernel
theorem dX11_feed_65 : decode cX11_feed 65 = .ok (.getfield 147, 3) := by decide +kernel
theorem dX11_feed_68 : decode cX11_feed 68 = .ok (.ireturn, 1) := by decide +kernel
set_option maxRecDepth 20000 in
theorem moX11_feed {o : Int32 × Hp} {h : Hp} {x0 : Nat} {x1 : Int32} {x2 : Int32} {x3 : Int32} {x4 : Int32} {x5 : Int32} (hE : sX11_feed h x0 x1 x2 x3 x4 x5 = some o) : Le h o.2 := by
  obtain ⟨r_1, er_1, hE⟩ := cl_e hE
  rcases br_e hE with ⟨_, hE⟩ | ⟨_, hE⟩
  · obtain ⟨r_3, er_3, hE⟩ := cl_e hE
    obtain ⟨o_4, eo_4, hE⟩ := cl_e hE
    refine (moX9_appendNumber eo_4).tr ?_
    obtain ⟨r_5, er_5, hE⟩ := cl_e hE
    obtain ⟨o_6, eo_6, hE⟩ := cl_e hE
    refine (moX9_appendNumber eo_6).tr ?_
    obtain ⟨r_7, er_7, hE⟩ := cl_e hE
    obtain ⟨o_8, eo_8, hE⟩ := cl_e hE
    refine (moX9_appendNumber eo_8).tr ?_
    obtain ⟨r_9, er_9, hE⟩ := cl_e hE
    obtain ⟨o_10, eo_10, hE⟩ := cl_e hE
    refine (moX9_appendNumber eo_10).tr ?_
    obtain ⟨r_11, er_11, hE⟩ := cl_e hE
    obtain ⟨o_12, eo_12, hE⟩ := cl_e hE
    refine (moX9_appendNumber eo_12).tr ?_
    obtain ⟨r_13, er_13, hE⟩ := cl_e hE
    exact le_some2 hE
  · exact le_some2 hE
set_option maxRecDepth 20000 in
theorem ct_X11_feed (l : Launch) (X : Ec) {h : Hp} {x0 : Nat} {x1 : Int32} {x2 : Int32} {x3 : Int32} {x4 : Int32} {x5 : Int32} {o : Int32 × Hp} (k_x0 : hK h x0 = 11) (hE : sX11_feed h x0 x1 x2 x3 x4 x5 = some o) : MetI l yX11_feed cX11_feed 6 (some .int) 2 42 X [.ref x0, .int x1, .int x2, .int x3, .int x4, .int x5] h o := by
  refine x_met (by decide) (Nat.le_of_ble_eq_true rfl) ?_
  intro p e s m below meth c ls C hl hW hZ
  have hl : lv_has ls 6 [(0, .ref x0), (1, .int x1), (2, .int x2), (3, .int x3), (4, .int x4), (5, .int x5)] := hl
  have hkm : Km h h := Km.rf h
  refine lv_aload_n C.1 C.2.1 dX11_feed_0 rfl (lv_at hl 0 rfl) ?_
  obtain ⟨r_1, er_1, hE⟩ := cl_e hE
  refine gf_X11_14 C hW k_x0 er_1 dX11_feed_1 (fun k_r_1 => ?_)
  refine gf_X11_147 C hW k_r_1 dX11_feed_4 ?_
  refine lv_bipush (v := (20 : Int32)) C.1 C.2.1 dX11_feed_7 (by decide) ?_
  refine lv_iadd C.1 C.2.1 dX11_feed_9 ?_
  refine lv_sipush (v := (1200 : Int32)) C.1 C.2.1 dX11_feed_10 (by decide) ?_
  refine lv_icmp_le (tgt := 19) C.1 C.2.1 dX11_feed_13 (by decide) (fun c_2 => ?_) (fun c_2 => ?_)
  · have hE := br_p hE c_2
    refine lv_aload_n C.1 C.2.1 dX11_feed_19 rfl (lv_at hl 0 rfl) ?_
    obtain ⟨r_3, er_3, hE⟩ := cl_e hE
    refine gf_X11_14 C hW k_x0 er_3 dX11_feed_20 (fun k_r_3 => ?_)
    refine lv_iload_n C.1 C.2.1 dX11_feed_23 rfl (lv_at hl 1 rfl) ?_
    obtain ⟨o_4, eo_4, hE⟩ := cl_e hE
    refine x_kV (o := o_4) (z_runV (As := [.int x1]) (rest := []) C (ct_X9_appendNumber l X k_r_3 eo_4) cw_X11_151 hW hZ k_r_3 (by decide) rfl rfl rfl hl.1 (Nat.le_of_ble_eq_true rfl) rfl dX11_feed_24 ⟨Nat.le_of_ble_eq_true rfl, Nat.le_of_ble_eq_true rfl⟩ ⟨Nat.le_refl _, Nat.le_refl _⟩) hZ (fun _ _ hW km hZ => ?_)
    replace hkm := hkm.tr km
    replace k_x0 := km.at k_x0 (by decide)
    refine lv_aload_n C.1 C.2.1 dX11_feed_27 rfl (lv_at hl 0 rfl) ?_
    obtain ⟨r_5, er_5, hE⟩ := cl_e hE
    refine gf_X11_14 C hW k_x0 er_5 dX11_feed_28 (fun k_r_5 => ?_)
    refine lv_iload_n C.1 C.2.1 dX11_feed_31 rfl (lv_at hl 2 rfl) ?_
    obtain ⟨o_6, eo_6, hE⟩ := cl_e hE
    refine x_kV (o := o_6) (z_runV (As := [.int x2]) (rest := []) C (ct_X9_appendNumber l X k_r_5 eo_6) cw_X11_151 hW hZ k_r_5 (by decide) rfl rfl rfl hl.1 (Nat.le_of_ble_eq_true rfl) rfl dX11_feed_32 ⟨Nat.le_of_ble_eq_true rfl, Nat.le_of_ble_eq_true rfl⟩ ⟨Nat.le_refl _, Nat.le_refl _⟩) hZ (fun _ _ hW km hZ => ?_)
    replace hkm := hkm.tr km
    replace k_x0 := km.at k_x0 (by decide)
    refine lv_aload_n C.1 C.2.1 dX11_feed_35 rfl (lv_at hl 0 rfl) ?_
    obtain ⟨r_7, er_7, hE⟩ := cl_e hE
    refine gf_X11_14 C hW k_x0 er_7 dX11_feed_36 (fun k_r_7 => ?_)
    refine lv_iload_n C.1 C.2.1 dX11_feed_39 rfl (lv_at hl 3 rfl) ?_
    obtain ⟨o_8, eo_8, hE⟩ := cl_e hE
    refine x_kV (o := o_8) (z_runV (As := [.int x3]) (rest := []) C (ct_X9_appendNumber l X k_r_7 eo_8) cw_X11_151 hW hZ k_r_7 (by decide) rfl rfl rfl hl.1 (Nat.le_of_ble_eq_true rfl) rfl dX11_feed_40 ⟨Nat.le_of_ble_eq_true rfl, Nat.le_of_ble_eq_true rfl⟩ ⟨Nat.le_refl _, Nat.le_refl _⟩) hZ (fun _ _ hW km hZ => ?_)
    replace hkm := hkm.tr km
    replace k_x0 := km.at k_x0 (by decide)
    refine lv_aload_n C.1 C.2.1 dX11_feed_43 rfl (lv_at hl 0 rfl) ?_
    obtain ⟨r_9, er_9, hE⟩ := cl_e hE
    refine gf_X11_14 C hW k_x0 er_9 dX11_feed_44 (fun k_r_9 => ?_)
    refine lv_iload C.1 C.2.1 dX11_feed_47 (lv_at hl 4 rfl) ?_
    obtain ⟨o_10, eo_10, hE⟩ := cl_e hE
    refine x_kV (o := o_10) (z_runV (As := [.int x4]) (rest := []) C (ct_X9_appendNumber l X k_r_9 eo_10) cw_X11_151 hW hZ k_r_9 (by decide) rfl rfl rfl hl.1 (Nat.le_of_ble_eq_true rfl) rfl dX11_feed_49 ⟨Nat.le_of_ble_eq_true rfl, Nat.le_of_ble_eq_true rfl⟩ ⟨Nat.le_refl _, Nat.le_refl _⟩) hZ (fun _ _ hW km hZ => ?_)
    replace hkm := hkm.tr km
    replace k_x0 := km.at k_x0 (by decide)
    refine lv_aload_n C.1 C.2.1 dX11_feed_52 rfl (lv_at hl 0 rfl) ?_
    obtain ⟨r_11, er_11, hE⟩ := cl_e hE
    refine gf_X11_14 C hW k_x0 er_11 dX11_feed_53 (fun k_r_11 => ?_)
    refine lv_iload C.1 C.2.1 dX11_feed_56 (lv_at hl 5 rfl) ?_
    obtain ⟨o_12, eo_12, hE⟩ := cl_e hE
    refine x_kV (o := o_12) (z_runV (As := [.int x5]) (rest := []) C (ct_X9_appendNumber l X k_r_11 eo_12) cw_X11_151 hW hZ k_r_11 (by decide) rfl rfl rfl hl.1 (Nat.le_of_ble_eq_true rfl) rfl dX11_feed_58 ⟨Nat.le_of_ble_eq_true rfl, Nat.le_of_ble_eq_true rfl⟩ ⟨Nat.le_refl _, Nat.le_refl _⟩) hZ (fun _ _ hW km hZ => ?_)
    replace hkm := hkm.tr km
    replace k_x0 := km.at k_x0 (by decide)
    refine lv_aload_n C.1 C.2.1 dX11_feed_61 rfl (lv_at hl 0 rfl) ?_
    obtain ⟨r_13, er_13, hE⟩ := cl_e hE
    refine gf_X11_14 C hW k_x0 er_13 dX11_feed_62 (fun k_r_13 => ?_)
    refine gf_X11_147 C hW k_r_13 dX11_feed_65 ?_
    exact x_iret C rfl rfl hW hZ hkm hE dX11_feed_68
  · have hE := br_n hE c_2
    refine lv_bipush (v := (-104 : Int32)) C.1 C.2.1 dX11_feed_16 (by decide) ?_
    exact x_iret C rfl rfl hW hZ hkm hE dX11_feed_18
section
variable {p : Program} {l : Launch} {e : Env} {R : Room} {s : State} {m : MethodId} {args : Array Value} {below : List Frame} {meth : Method} {c : Code} {H : Heap} {locs : List Loc} {cells slots : Nat} {Q : State → Prop}
variable {cc : ByteArray} {pc : Nat} {ls : Array Slot} {rest : List Value} {X : Ec} {h h1 : Hp} {nL : Nat} {rt : Option FieldType} {mn : String}
theorem pf_X11_147 {a : Nat} {v : Int32} (C : Cx X p s m args meth c RX11 cc nL rt mn) (hW : Wx X h H) (hZ : va_S (aA (eB X)) s.heap H locs) (ha : hK h a = 9) (eh : h1 = wI h a 1 v) (hdg : decode cc pc = .ok (.putfield 147, 3)) (kk : ∀ (H1 : Heap) (locs1 : List Loc), Wx X h1 H1 → Km h h1 → va_S (aA (eB X)) s.heap H1 locs1 → W p l e R s m args below meth c H1 locs1 cells slots Q (F0 m (pc + 3) ls rest)) : W p l e R s m args below meth c H locs cells slots Q (F0 m pc ls (.int v :: .ref a :: rest)) :=
  y_puti (ty := .int) C hW hZ ha i_X9 tyX9 tyX9_ok nmX9 (by decide) rfl rfl (by decide) m_44 rfl (by decide +kernel) rfl rfl rfl eh hdg kk
end
theorem dX11_end_0 : decode cX11_end 0 = .ok (.iload_n 1, 1) := by decide +kernel
theorem dX11_end_1 : decode cX11_end 1 = .ok (.ifCond .lt 14, 3) := by decide +kernel
theorem dX11_end_4 : decode cX11_end 4 = .ok (.iload_n 1, 1) := by decide +kernel
theorem dX11_end_5 : decode cX11_end 5 = .ok (.aload_n 0, 1) := by decide +kernel
theorem dX11_end_6 : decode cX11_end 6 = .ok (.getfield 14, 3) := by decide +kernel
theorem dX11_end_9 : decode cX11_end 9 = .ok (.getfield 147, 3) := by decide +kernel
theorem dX11_end_12 : decode cX11_end 12 = .ok (.if_icmp .le 6, 3) := by decide +kernel
theorem dX11_end_15 : decode cX11_end 15 = .ok (.bipush (-101), 2) := by decide +kernel
theorem dX11_end_17 : decode cX11_end 17 = .ok (.ireturn, 1) := by decide +kernel
theorem dX11_end_18 : decode cX11_end 18 = .ok (.aload_n 0, 1) := by decide +kernel
theorem dX11_end_19 : decode cX11_end 19 = .ok (.getfield 14, 3) := by decide +kernel
theorem dX11_end_22 : decode cX11_end 22 = .ok (.iload_n 1, 1) := by decide +kernel
theorem dX11_end_23 : decode cX11_end 23 = .ok (.putfield 147, 3) := by decide +kernel
theorem dX11_end_26 : decode cX11_end 26 = .ok (.iload_n 1, 1) := by decide +kernel
theorem dX11_end_27 : decode cX11_end 27 = .ok (.ireturn, 1) := by decide +kernel
set_option maxRecDepth 20000 in
theorem moX11_end_15 {o : Int32 × Hp} {h : Hp} (hE : sX11_end_15 h  = some o) : Le h o.2 := by
  exact le_some2 hE
set_option maxRecDepth 20000 in
theorem moX11_end {o : Int32 × Hp} {h : Hp} {x0 : Nat} {x1 : Int32} (hE : sX11_end h x0 x1 = some o) : Le h o.2 := by
  rcases br_e hE with ⟨_, hE⟩ | ⟨_, hE⟩
  · exact moX11_end_15 hE
  · obtain ⟨r_2, er_2, hE⟩ := cl_e hE
    rcases br_e hE with ⟨_, hE⟩ | ⟨_, hE⟩
    · obtain ⟨r_4, er_4, hE⟩ := cl_e hE
      obtain ⟨h_5, eh_5, hE⟩ := nm_e2 hE
      refine (le_I eh_5).tr ?_
      exact le_some2 hE
    · exact moX11_end_15 hE
set_option maxRecDepth 20000 in
theorem bX11_end_15 {p : Program} {l : Launch} {e : Env} {s : State} {m : MethodId} {args : Array Value} {below : List Frame} {meth : Method} {c : Code} {X : Ec} {h0 : Hp} {o : Int32 × Hp} (C : Cx X p s m args meth c RX11 cX11_end 2 (some .int) "end") {h : Hp} {H : Heap} {locs : List Loc} (hkm : Km h0 h) (hW : Wx X h H) (hZ : va_S (aA (eB X)) s.heap H locs) (ls : Array Slot) (hl : lv_has ls 2 []) (hE : sX11_end_15 h  = some o) : W p l e (rm 0 0) s m args below meth c H locs 0 0 (MQ below (QI X h0 o.1 o.2) args s 0 0 (aA (eB X))) (F0 m 15 ls []) := by
  refine lv_bipush (v := (-101 : Int32)) C.1 C.2.1 dX11_end_15 (by decide) ?_
  exact x_iret C rfl rfl hW hZ hkm hE dX11_end_17
set_option maxRecDepth 20000 in
theorem ct_X11_end (l : Launch) (X : Ec) {h : Hp} {x0 : Nat} {x1 : Int32} {o : Int32 × Hp} (k_x0 : hK h x0 = 11) (hE : sX11_end h x0 x1 = some o) : MetI l yX11_end cX11_end 2 (some .int) 0 0 X [.ref x0, .int x1] h o := by
  refine x_met (by decide) (Nat.le_of_ble_eq_true rfl) ?_
  intro p e s m below meth c ls C hl hW hZ
  have hl : lv_has ls 2 [(0, .ref x0), (1, .int x1)] := hl
  have hkm : Km h h := Km.rf h
  refine lv_iload_n C.1 C.2.1 dX11_end_0 rfl (lv_at hl 1 rfl) ?_
  refine lv_if_lt (tgt := 15) C.1 C.2.1 dX11_end_1 (by decide) (fun c_1 => ?_) (fun c_1 => ?_)
  · have hE := br_p hE c_1
    exact bX11_end_15 C hkm hW hZ _ (lv_sub hl [] rfl) hE
  · have hE := br_n hE c_1
    refine lv_iload_n C.1 C.2.1 dX11_end_4 rfl (lv_at hl 1 rfl) ?_
    refine lv_aload_n C.1 C.2.1 dX11_end_5 rfl (lv_at hl 0 rfl) ?_
    obtain ⟨r_2, er_2, hE⟩ := cl_e hE
    refine gf_X11_14 C hW k_x0 er_2 dX11_end_6 (fun k_r_2 => ?_)
    refine gf_X11_147 C hW k_r_2 dX11_end_9 ?_
    refine lv_icmp_le (tgt := 18) C.1 C.2.1 dX11_end_12 (by decide) (fun c_3 => ?_) (fun c_3 => ?_)
    · have hE := br_p hE c_3
      refine lv_aload_n C.1 C.2.1 dX11_end_18 rfl (lv_at hl 0 rfl) ?_
      obtain ⟨r_4, er_4, hE⟩ := cl_e hE
      refine gf_X11_14 C hW k_x0 er_4 dX11_end_19 (fun k_r_4 => ?_)
      refine lv_iload_n C.1 C.2.1 dX11_end_22 rfl (lv_at hl 1 rfl) ?_
      obtain ⟨h_5, eh_5, hE⟩ := nm_e2 hE
      refine pf_X11_147 C hW hZ k_r_4 eh_5 dX11_end_23 (fun _ _ hW km hZ => ?_)
      replace hkm := hkm.tr km
      replace k_x0 := km.at k_x0 (by decide)
      refine lv_iload_n C.1 C.2.1 dX11_end_26 rfl (lv_at hl 1 rfl) ?_
      exact x_iret C rfl rfl hW hZ hkm hE dX11_end_27
    · have hE := br_n hE c_3
      exact bX11_end_15 C hkm hW hZ _ (lv_sub hl [] rfl) hE
set_option maxRecDepth 100000 in
theorem m_430 : Cond.fieldLink RX11 352 (TX6 6).1 (TX6 6).2.1 (TX6 6).2.2.1 ∈ W0 := w0_in (List.mem_append_right _ (List.mem_of_getElem? (i := 430) rfl)) rfl
set_option maxRecDepth 100000 in
theorem m_469 : Cond.fieldLink RX11 379 (TX0 10).1 (TX0 10).2.1 (TX0 10).2.2.1 ∈ W0 := w0_in (List.mem_append_right _ (List.mem_of_getElem? (i := 469) rfl)) rfl
set_option maxRecDepth 100000 in
theorem m_909 : Cond.methodLink RX11 197 yX4_forget ∈ W0 := w0_in (List.mem_append_right _ (List.mem_of_getElem? (i := 909) rfl)) rfl
set_option maxRecDepth 100000 in
theorem m_910 : Cond.instanceMethod yX4_forget ∈ W0 := w0_in (List.mem_append_right _ (List.mem_of_getElem? (i := 910) rfl)) rfl
set_option maxRecDepth 100000 in
theorem m_911 : Cond.selects RX4 yX4_forget yX4_forget ∈ W0 := w0_in (List.mem_append_right _ (List.mem_of_getElem? (i := 911) rfl)) rfl
set_option maxRecDepth 100000 in
theorem m_912 : Cond.code yX4_forget cX4_forget 2 none ∈ W0 := w0_in (List.mem_append_right _ (List.mem_of_getElem? (i := 912) rfl)) rfl
section
variable {p : Program} {l : Launch} {e : Env} {R : Room} {s : State} {m : MethodId} {args : Array Value} {below : List Frame} {meth : Method} {c : Code} {H : Heap} {locs : List Loc} {cells slots : Nat} {Q : State → Prop}
variable {cc : ByteArray} {pc : Nat} {ls : Array Slot} {rest : List Value} {X : Ec} {h h1 : Hp} {nL : Nat} {rt : Option FieldType} {mn : String}
theorem gf_X11_77 {a r : Nat} (C : Cx X p s m args meth c RX11 cc nL rt mn) (hW : Wx X h H) (ha : hK h a = 11) (hr : hR h a 9 = some r) (hdg : decode cc pc = .ok (.getfield 77, 3)) (kk : hK h r = 6 → W p l e R s m args below meth c H locs cells slots Q (F0 m (pc + 3) ls (.ref r :: rest))) : W p l e R s m args below meth c H locs cells slots Q (F0 m pc ls (.ref a :: rest)) :=
  y_getr C hW ha i_X11 (by decide) rfl (by decide) m_838 rfl rfl hr hdg kk
theorem pf_X11_352 {a : Nat} {v : Int32} (C : Cx X p s m args meth c RX11 cc nL rt mn) (hW : Wx X h H) (hZ : va_S (aA (eB X)) s.heap H locs) (ha : hK h a = 6) (eh : h1 = wI h a 6 v) (hdg : decode cc pc = .ok (.putfield 352, 3)) (kk : ∀ (H1 : Heap) (locs1 : List Loc), Wx X h1 H1 → Km h h1 → va_S (aA (eB X)) s.heap H1 locs1 → W p l e R s m args below meth c H1 locs1 cells slots Q (F0 m (pc + 3) ls rest)) : W p l e R s m args below meth c H locs cells slots Q (F0 m pc ls (.int v :: .ref a :: rest)) :=
  y_puti (ty := .int) C hW hZ ha i_X6 tyX6 tyX6_ok nmX6 (by decide) rfl rfl (by decide) m_430 rfl (by decide +kernel) rfl rfl rfl eh hdg kk
theorem gf_X11_84 {a r : Nat} (C : Cx X p s m args meth c RX11 cc nL rt mn) (hW : Wx X h H) (ha : hK h a = 11) (hr : hR h a 10 = some r) (hdg : decode cc pc = .ok (.getfield 84, 3)) (kk : hK h r = 0 → W p l e R s m args below meth c H locs cells slots Q (F0 m (pc + 3) ls (.ref r :: rest))) : W p l e R s m args below meth c H locs cells slots Q (F0 m pc ls (.ref a :: rest)) :=
  y_getr C hW ha i_X11 (by decide) rfl (by decide) m_839 rfl rfl hr hdg kk
theorem pf_X11_379 {a : Nat} {v : Int32} (C : Cx X p s m args meth c RX11 cc nL rt mn) (hW : Wx X h H) (hZ : va_S (aA (eB X)) s.heap H locs) (ha : hK h a = 0) (hn : narrow .boolean (.int v) = .int v) (eh : h1 = wI h a 10 v) (hdg : decode cc pc = .ok (.putfield 379, 3)) (kk : ∀ (H1 : Heap) (locs1 : List Loc), Wx X h1 H1 → Km h h1 → va_S (aA (eB X)) s.heap H1 locs1 → W p l e R s m args below meth c H1 locs1 cells slots Q (F0 m (pc + 3) ls rest)) : W p l e R s m args below meth c H locs cells slots Q (F0 m pc ls (.int v :: .ref a :: rest)) :=
  y_puti (ty := .boolean) C hW hZ ha i_X0 tyX0 tyX0_ok nmX0 (by decide) rfl rfl (by decide) m_469 rfl (by decide +kernel) rfl hn (fitZ hn) eh hdg kk
theorem gf_X11_107 {a r : Nat} (C : Cx X p s m args meth c RX11 cc nL rt mn) (hW : Wx X h H) (ha : hK h a = 11) (hr : hR h a 14 = some r) (hdg : decode cc pc = .ok (.getfield 107, 3)) (kk : hK h r = 19 → W p l e R s m args below meth c H locs cells slots Q (F0 m (pc + 3) ls (.ref r :: rest))) : W p l e R s m args below meth c H locs cells slots Q (F0 m pc ls (.ref a :: rest)) :=
  y_getr C hW ha i_X11 (by decide) rfl (by decide) m_843 rfl rfl hr hdg kk
theorem gf_X11_93 {a r : Nat} (C : Cx X p s m args meth c RX11 cc nL rt mn) (hW : Wx X h H) (ha : hK h a = 11) (hr : hR h a 11 = some r) (hdg : decode cc pc = .ok (.getfield 93, 3)) (kk : hK h r = 4 → W p l e R s m args below meth c H locs cells slots Q (F0 m (pc + 3) ls (.ref r :: rest))) : W p l e R s m args below meth c H locs cells slots Q (F0 m pc ls (.ref a :: rest)) :=
  y_getr C hW ha i_X11 (by decide) rfl (by decide) m_840 rfl rfl hr hdg kk
end
theorem cw_X11_197 : cwd RX11 197 yX4_forget cX4_forget 2 none false 1 := ⟨m_912, m_909, m_14, ⟨m_910, m_911⟩, by decide, by decide, by decide +kernel⟩
theorem dX11_forgetAll_0 : decode cX11_forgetAll 0 = .ok (.aload_n 0, 1) := by decide +kernel
theorem dX11_forgetAll_1 : decode cX11_forgetAll 1 = .ok (.getfield 117, 3) := by decide +kernel
theorem dX11_forgetAll_4 : decode cX11_forgetAll 4 = .ok (.iconst (-1), 1) := by decide +kernel
theorem dX11_forgetAll_5 : decode cX11_forgetAll 5 = .ok (.invokestatic 121, 3) := by decide +kernel
theorem dX11_forgetAll_8 : decode cX11_forgetAll 8 = .ok (.iconst 0, 1) := by decide +kernel
theorem dX11_forgetAll_9 : decode cX11_forgetAll 9 = .ok (.istore_n 1, 1) := by decide +kernel
theorem dX11_forgetAll_10 : decode cX11_forgetAll 10 = .ok (.iload_n 1, 1) := by decide +kernel
theorem dX11_forgetAll_11 : decode cX11_forgetAll 11 = .ok (.bipush 60, 2) := by decide +kernel
theorem dX11_forgetAll_13 : decode cX11_forgetAll 13 = .ok (.if_icmp .ge 24, 3) := by decide +kernel
theorem dX11_forgetAll_16 : decode cX11_forgetAll 16 = .ok (.aload_n 0, 1) := by decide +kernel
theorem dX11_forgetAll_17 : decode cX11_forgetAll 17 = .ok (.getfield 107, 3) := by decide +kernel
theorem dX11_forgetAll_20 : decode cX11_forgetAll 20 = .ok (.iload_n 1, 1) := by decide +kernel
theorem dX11_forgetAll_21 : decode cX11_forgetAll 21 = .ok (.iconst 0, 1) := by decide +kernel
theorem dX11_forgetAll_22 : decode cX11_forgetAll 22 = .ok (.bastore, 1) := by decide +kernel
theorem dX11_forgetAll_23 : decode cX11_forgetAll 23 = .ok (.aload_n 0, 1) := by decide +kernel
theorem dX11_forgetAll_24 : decode cX11_forgetAll 24 = .ok (.getfield 93, 3) := by decide +kernel
theorem dX11_forgetAll_27 : decode cX11_forgetAll 27 = .ok (.iload_n 1, 1) := by decide +kernel
theorem dX11_forgetAll_28 : decode cX11_forgetAll 28 = .ok (.invokevirtual 197, 3) := by decide +kernel
theorem dX11_forgetAll_31 : decode cX11_forgetAll 31 = .ok (.iinc 1 1, 3) := by decide +kernel
theorem dX11_forgetAll_34 : decode cX11_forgetAll 34 = .ok (.goto (-24), 3) := by decide +kernel
theorem dX11_forgetAll_37 : decode cX11_forgetAll 37 = .ok (.aload_n 0, 1) := by decide +kernel
theorem dX11_forgetAll_38 : decode cX11_forgetAll 38 = .ok (.getfield 77, 3) := by decide +kernel
theorem dX11_forgetAll_41 : decode cX11_forgetAll 41 = .ok (.iconst 0, 1) := by decide +kernel
theorem dX11_forgetAll_42 : decode cX11_forgetAll 42 = .ok (.putfield 352, 3) := by decide +kernel
theorem dX11_forgetAll_45 : decode cX11_forgetAll 45 = .ok (.aload_n 0, 1) := by decide +kernel
theorem dX11_forgetAll_46 : decode cX11_forgetAll 46 = .ok (.getfield 84, 3) := by decide +kernel
theorem dX11_forgetAll_49 : decode cX11_forgetAll 49 = .ok (.iconst 0, 1) := by decide +kernel
theorem dX11_forgetAll_50 : decode cX11_forgetAll 50 = .ok (.putfield 379, 3) := by decide +kernel
theorem dX11_forgetAll_53 : decode cX11_forgetAll 53 = .ok (.return_, 1) := by decide +kernel
set_option maxRecDepth 20000 in
theorem moX11_forgetAll_10 {o : Hp} {F : Nat} : ∀ (f : Nat) {h : Hp} {x0 : Nat} {x1 : Int32}, sX11_forgetAll_10 F f h x0 x1 = some o → Le h o := by
  intro f
  induction f with
  | zero =>
    intro h x0 x1 hE
    rw [sX11_forgetAll_10] at hE
    cases hE
  | succ f ih =>
    intro h x0 x1 hE
    rw [sX11_forgetAll_10] at hE
    have mk_10 : ∀ (h : Hp) (x0 : Nat) (x1 : Int32), sX11_forgetAll_10 F f h x0 x1 = some o → Le h o := fun h x0 x1 hE => ih hE
    rcases br_e hE with ⟨_, hE⟩ | ⟨_, hE⟩
    · obtain ⟨r_2, er_2, hE⟩ := cl_e hE
      obtain ⟨h_3, eh_3, hE⟩ := nm_e2 hE
      refine (le_I eh_3).tr ?_
      obtain ⟨r_4, er_4, hE⟩ := cl_e hE
      obtain ⟨h_5, eh_5, hE⟩ := nm_e2 hE
      refine (le_I eh_5).tr ?_
      exact le_some1 hE
    · obtain ⟨r_6, er_6, hE⟩ := cl_e hE
      obtain ⟨g_7, hE⟩ := gd_e hE
      obtain ⟨h_8, eh_8, hE⟩ := nm_e2 hE
      refine (le_I eh_8).tr ?_
      obtain ⟨r_9, er_9, hE⟩ := cl_e hE
      obtain ⟨o_10, eo_10, hE⟩ := cl_e hE
      refine (moX4_forget eo_10).tr ?_
      obtain ⟨v_11, ev_11, hE⟩ := nm_e2 hE
      exact mk_10 _ _ _ hE
set_option maxRecDepth 20000 in
theorem moX11_forgetAll {o : Hp} {F : Nat} {h : Hp} {x0 : Nat} (hE : sX11_forgetAll F h x0 = some o) : Le h o := by
  obtain ⟨r_1, er_1, hE⟩ := cl_e hE
  obtain ⟨o_2, eo_2, hE⟩ := cl_e hE
  refine (moJ7_fill_53178 eo_2).tr ?_
  exact moX11_forgetAll_10 _ hE
set_option maxRecDepth 20000 in
theorem bX11_forgetAll_10 {p : Program} {l : Launch} {e : Env} {s : State} {m : MethodId} {args : Array Value} {below : List Frame} {meth : Method} {c : Code} {X : Ec} {h0 : Hp} {o : Hp} {F : Nat} (C : Cx X p s m args meth c RX11 cX11_forgetAll 2 none "forgetAll") : ∀ (f : Nat) {h : Hp} {x0 : Nat} {x1 : Int32} {H : Heap} {locs : List Loc} (k_x0 : hK h x0 = 11), Km h0 h → Wx X h H → va_S (aA (eB X)) s.heap H locs → ∀ (ls : Array Slot), lv_has ls 2 [(0, .ref x0), (1, .int x1)] → sX11_forgetAll_10 F f h x0 x1 = some o → W p l e (rm 1 23) s m args below meth c H locs 0 0 (MQ below (QV X h0 o) args s 0 0 (aA (eB X))) (F0 m 10 ls []) := by
  intro f
  induction f with
  | zero =>
    intro h x0 x1 H locs k_x0 hkm hW hZ ls hl hE
    rw [sX11_forgetAll_10] at hE
    cases hE
  | succ f ih =>
    intro h x0 x1 H locs k_x0 hkm hW hZ ls hl hE
    rw [sX11_forgetAll_10] at hE
    have hk_10 : ∀ (h : Hp) (x0 : Nat) (x1 : Int32) (H : Heap) (locs : List Loc), hK h x0 = 11 → Km h0 h → Wx X h H → va_S (aA (eB X)) s.heap H locs → ∀ (ls : Array Slot), lv_has ls 2 [(0, .ref x0), (1, .int x1)] → sX11_forgetAll_10 F f h x0 x1 = some o → W p l e (rm 1 23) s m args below meth c H locs 0 0 (MQ below (QV X h0 o) args s 0 0 (aA (eB X))) (F0 m 10 ls []) := fun h x0 x1 H locs k_x0 a b c ls hl hE => ih k_x0 a b c ls hl hE
    refine lv_iload_n C.1 C.2.1 dX11_forgetAll_10 rfl (lv_at hl 1 rfl) ?_
    refine lv_bipush (v := (60 : Int32)) C.1 C.2.1 dX11_forgetAll_11 (by decide) ?_
    refine lv_icmp_ge (tgt := 37) C.1 C.2.1 dX11_forgetAll_13 (by decide) (fun c_1 => ?_) (fun c_1 => ?_)
    · have hE := br_p hE c_1
      refine lv_aload_n C.1 C.2.1 dX11_forgetAll_37 rfl (lv_at hl 0 rfl) ?_
      obtain ⟨r_2, er_2, hE⟩ := cl_e hE
      refine gf_X11_77 C hW k_x0 er_2 dX11_forgetAll_38 (fun k_r_2 => ?_)
      refine lv_iconst (v := (0 : Int32)) C.1 C.2.1 dX11_forgetAll_41 (by decide) ?_
      obtain ⟨h_3, eh_3, hE⟩ := nm_e2 hE
      refine pf_X11_352 C hW hZ k_r_2 eh_3 dX11_forgetAll_42 (fun _ _ hW km hZ => ?_)
      replace hkm := hkm.tr km
      replace k_x0 := km.at k_x0 (by decide)
      refine lv_aload_n C.1 C.2.1 dX11_forgetAll_45 rfl (lv_at hl 0 rfl) ?_
      obtain ⟨r_4, er_4, hE⟩ := cl_e hE
      refine gf_X11_84 C hW k_x0 er_4 dX11_forgetAll_46 (fun k_r_4 => ?_)
      refine lv_iconst (v := (0 : Int32)) C.1 C.2.1 dX11_forgetAll_49 (by decide) ?_
      obtain ⟨h_5, eh_5, hE⟩ := nm_e2 hE
      refine pf_X11_379 C hW hZ k_r_4 (by decide) eh_5 dX11_forgetAll_50 (fun _ _ hW km hZ => ?_)
      replace hkm := hkm.tr km
      replace k_x0 := km.at k_x0 (by decide)
      exact x_vret C rfl hW hZ hkm hE dX11_forgetAll_53
    · have hE := br_n hE c_1
      refine lv_aload_n C.1 C.2.1 dX11_forgetAll_16 rfl (lv_at hl 0 rfl) ?_
      obtain ⟨r_6, er_6, hE⟩ := cl_e hE
      refine gf_X11_107 C hW k_x0 er_6 dX11_forgetAll_17 (fun k_r_6 => ?_)
      refine lv_iload_n C.1 C.2.1 dX11_forgetAll_20 rfl (lv_at hl 1 rfl) ?_
      refine lv_iconst (v := (0 : Int32)) C.1 C.2.1 dX11_forgetAll_21 (by decide) ?_
      obtain ⟨g_7, hE⟩ := gd_e hE
      obtain ⟨h_8, eh_8, hE⟩ := nm_e2 hE
      refine y_zast C hW hZ k_r_6 g_7 eh_8 dX11_forgetAll_22 (fun _ _ hW km hZ => ?_)
      replace hkm := hkm.tr km
      replace k_x0 := km.at k_x0 (by decide)
      refine lv_aload_n C.1 C.2.1 dX11_forgetAll_23 rfl (lv_at hl 0 rfl) ?_
      obtain ⟨r_9, er_9, hE⟩ := cl_e hE
      refine gf_X11_93 C hW k_x0 er_9 dX11_forgetAll_24 (fun k_r_9 => ?_)
      refine lv_iload_n C.1 C.2.1 dX11_forgetAll_27 rfl (lv_at hl 1 rfl) ?_
      obtain ⟨o_10, eo_10, hE⟩ := cl_e hE
      refine x_kV (o := o_10) (z_runV (As := [.int x1]) (rest := []) C (ct_X4_forget l X k_r_9 eo_10) cw_X11_197 hW hZ k_r_9 (by decide) rfl rfl rfl hl.1 (Nat.le_of_ble_eq_true rfl) rfl dX11_forgetAll_28 ⟨Nat.le_of_ble_eq_true rfl, Nat.le_of_ble_eq_true rfl⟩ ⟨Nat.le_refl _, Nat.le_refl _⟩) hZ (fun _ _ hW km hZ => ?_)
      replace hkm := hkm.tr km
      replace k_x0 := km.at k_x0 (by decide)
      obtain ⟨v_11, ev_11, hE⟩ := nm_e2 hE
      refine lv_iinc (v := v_11) (lv' := [(1, .int v_11), (0, .ref x0)]) C.1 C.2.1 dX11_forgetAll_31 hl (k := 1) rfl (by rw [ev_11]; rfl) (by decide) rfl (fun ls hl => ?_)
      refine lv_goto (tgt := 10) C.1 C.2.1 dX11_forgetAll_34 (by decide) ?_
      exact hk_10 _ _ _ _ _ k_x0 hkm hW hZ _ (lv_sub hl [1, 0] rfl) hE
set_option maxRecDepth 20000 in
theorem ct_X11_forgetAll (l : Launch) (X : Ec) (F : Nat) {h : Hp} {x0 : Nat} {o : Hp} (k_x0 : hK h x0 = 11) (hE : sX11_forgetAll F h x0 = some o) : MetV l yX11_forgetAll cX11_forgetAll 2 none 1 23 X [.ref x0] h o := by
  refine x_met (by decide) (Nat.le_of_ble_eq_true rfl) ?_
  intro p e s m below meth c ls C hl hW hZ
  have hl : lv_has ls 2 [(0, .ref x0)] := hl
  have hkm : Km h h := Km.rf h
  refine lv_aload_n C.1 C.2.1 dX11_forgetAll_0 rfl (lv_at hl 0 rfl) ?_
  obtain ⟨r_1, er_1, hE⟩ := cl_e hE
  refine gf_X11_117 C hW k_x0 er_1 dX11_forgetAll_1 (fun k_r_1 => ?_)
  refine lv_iconst (v := (-1 : Int32)) C.1 C.2.1 dX11_forgetAll_4 (by decide) ?_
  obtain ⟨o_2, eo_2, hE⟩ := cl_e hE
  refine x_kV (o := o_2) (z_runS (As := [.ref r_1, .int (-1 : Int32)]) (rest := []) C (ct_J7_fill_53178 l X F k_r_1 eo_2) cw_X11_121 hW hZ rfl hl.1 (Nat.le_of_ble_eq_true rfl) rfl dX11_forgetAll_5 ⟨Nat.le_of_ble_eq_true rfl, Nat.le_of_ble_eq_true rfl⟩ ⟨Nat.le_refl _, Nat.le_refl _⟩) hZ (fun _ _ hW km hZ => ?_)
  replace hkm := hkm.tr km
  replace k_x0 := km.at k_x0 (by decide)
  refine lv_iconst (v := (0 : Int32)) C.1 C.2.1 dX11_forgetAll_8 (by decide) ?_
  refine lv_istore_n (lv' := [(1, .int (0 : Int32)), (0, .ref x0)]) C.1 C.2.1 dX11_forgetAll_9 rfl hl (by decide) rfl (fun ls hl => ?_)
  exact bX11_forgetAll_10 C F k_x0 hkm hW hZ _ (lv_sub hl [1, 0] rfl) hE
set_option maxRecDepth 100000 in
theorem ms_28 : Cond.selects RX11 yX11_forgetAll yX11_forgetAll ∈ W0 := w0_in (List.mem_append_left _ (List.mem_of_getElem? (i := 28) rfl)) rfl
set_option maxRecDepth 100000 in
theorem m_81 : Cond.fieldLink RX11 161 (TX1 3).1 (TX1 3).2.1 (TX1 3).2.2.1 ∈ W0 := w0_in (List.mem_append_right _ (List.mem_of_getElem? (i := 81) rfl)) rfl
set_option maxRecDepth 100000 in
theorem m_901 : Cond.methodLink RX11 154 yX2_faultPlace ∈ W0 := w0_in (List.mem_append_right _ (List.mem_of_getElem? (i := 901) rfl)) rfl
set_option maxRecDepth 100000 in
theorem m_902 : Cond.instanceMethod yX2_faultPlace ∈ W0 := w0_in (List.mem_append_right _ (List.mem_of_getElem? (i := 902) rfl)) rfl
set_option maxRecDepth 100000 in
theorem m_903 : Cond.selects RX2 yX2_faultPlace yX2_faultPlace ∈ W0 := w0_in (List.mem_append_right _ (List.mem_of_getElem? (i := 903) rfl)) rfl
set_option maxRecDepth 100000 in
theorem m_904 : Cond.code yX2_faultPlace cX2_faultPlace 1 (some .int) ∈ W0 := w0_in (List.mem_append_right _ (List.mem_of_getElem? (i := 904) rfl)) rfl
set_option maxRecDepth 100000 in
theorem m_905 : Cond.methodLink RX11 158 yX11_forgetAll ∈ W0 := w0_in (List.mem_append_right _ (List.mem_of_getElem? (i := 905) rfl)) rfl
set_option maxRecDepth 100000 in
theorem m_907 : Cond.instanceMethod yX11_forgetAll ∈ W0 := w0_in (List.mem_append_right _ (List.mem_of_getElem? (i := 907) rfl)) rfl
set_option maxRecDepth 100000 in
theorem m_908 : Cond.code yX11_forgetAll cX11_forgetAll 2 none ∈ W0 := w0_in (List.mem_append_right _ (List.mem_of_getElem? (i := 908) rfl)) rfl
section
variable {p : Program} {l : Launch} {e : Env} {R : Room} {s : State} {m : MethodId} {args : Array Value} {below : List Frame} {meth : Method} {c : Code} {H : Heap} {locs : List Loc} {cells slots : Nat} {Q : State → Prop}
variable {cc : ByteArray} {pc : Nat} {ls : Array Slot} {rest : List Value} {X : Ec} {h h1 : Hp} {nL : Nat} {rt : Option FieldType} {mn : String}
theorem gf_X11_28 {a r : Nat} (C : Cx X p s m args meth c RX11 cc nL rt mn) (hW : Wx X h H) (ha : hK h a = 11) (hr : hR h a 3 = some r) (hdg : decode cc pc = .ok (.getfield 28, 3)) (kk : hK h r = 1 → W p l e R s m args below meth c H locs cells slots Q (F0 m (pc + 3) ls (.ref r :: rest))) : W p l e R s m args below meth c H locs cells slots Q (F0 m pc ls (.ref a :: rest)) :=
  y_getr C hW ha i_X11 (by decide) rfl (by decide) m_832 rfl rfl hr hdg kk
theorem gf_X11_161 {a : Nat} (C : Cx X p s m args meth c RX11 cc nL rt mn) (hW : Wx X h H) (ha : hK h a = 1) (hdg : decode cc pc = .ok (.getfield 161, 3)) (kk : W p l e R s m args below meth c H locs cells slots Q (F0 m (pc + 3) ls (.int (hI h a 3) :: rest))) : W p l e R s m args below meth c H locs cells slots Q (F0 m pc ls (.ref a :: rest)) :=
  y_geti C hW ha i_X1 (by decide) rfl (by decide) m_81 rfl hdg kk
end
theorem cw_X11_154 : cwd RX11 154 yX2_faultPlace cX2_faultPlace 1 (some .int) false 0 := ⟨m_904, m_901, m_5, ⟨m_902, m_903⟩, by decide, by decide, by decide +kernel⟩
theorem cw_X11_158 : cwd RX11 158 yX11_forgetAll cX11_forgetAll 2 none false 0 := ⟨m_908, m_905, m_1, ⟨m_907, ms_28⟩, by decide, by decide, by decide +kernel⟩
theorem dX11_rules_0 : decode cX11_rules 0 = .ok (.aload_n 0, 1) := by decide +kernel
theorem dX11_rules_1 : decode cX11_rules 1 = .ok (.getfield 34, 3) := by decide +kernel
theorem dX11_rules_4 : decode cX11_rules 4 = .ok (.aload_n 0, 1) := by decide +kernel
theorem dX11_rules_5 : decode cX11_rules 5 = .ok (.getfield 14, 3) := by decide +kernel
theorem dX11_rules_8 : decode cX11_rules 8 = .ok (.aload_n 0, 1) := by decide +kernel
theorem dX11_rules_9 : decode cX11_rules 9 = .ok (.getfield 28, 3) := by decide +kernel
theorem dX11_rules_12 : decode cX11_rules 12 = .ok (.invokevirtual 137, 3) := by decide +kernel
theorem dX11_rules_15 : decode cX11_rules 15 = .ok (.istore_n 1, 1) := by decide +kernel
theorem dX11_rules_16 : decode cX11_rules 16 = .ok (.iconst (-1), 1) := by decide +kernel
theorem dX11_rules_17 : decode cX11_rules 17 = .ok (.aload_n 0, 1) := by decide +kernel
theorem dX11_rules_18 : decode cX11_rules 18 = .ok (.getfield 34, 3) := by decide +kernel
theorem dX11_rules_21 : decode cX11_rules 21 = .ok (.invokevirtual 154, 3) := by decide +kernel
theorem dX11_rules_24 : decode cX11_rules 24 = .ok (.isub, 1) := by decide +kernel
theorem dX11_rules_25 : decode cX11_rules 25 = .ok (.istore_n 2, 1) := by decide +kernel
theorem dX11_rules_26 : decode cX11_rules 26 = .ok (.iload_n 1, 1) := by decide +kernel
theorem dX11_rules_27 : decode cX11_rules 27 = .ok (.ifCond .eq 42, 3) := by decide +kernel
theorem dX11_rules_30 : decode cX11_rules 30 = .ok (.aload_n 0, 1) := by decide +kernel
theorem dX11_rules_31 : decode cX11_rules 31 = .ok (.getfield 34, 3) := by decide +kernel
theorem dX11_rules_34 : decode cX11_rules 34 = .ok (.aload_n 0, 1) := by decide +kernel
theorem dX11_rules_35 : decode cX11_rules 35 = .ok (.getfield 14, 3) := by decide +kernel
theorem dX11_rules_38 : decode cX11_rules 38 = .ok (.aload_n 0, 1) := by decide +kernel
theorem dX11_rules_39 : decode cX11_rules 39 = .ok (.getfield 24, 3) := by decide +kernel
theorem dX11_rules_42 : decode cX11_rules 42 = .ok (.invokevirtual 137, 3) := by decide +kernel
theorem dX11_rules_45 : decode cX11_rules 45 = .ok (.pop, 1) := by decide +kernel
theorem dX11_rules_46 : decode cX11_rules 46 = .ok (.aload_n 0, 1) := by decide +kernel
theorem dX11_rules_47 : decode cX11_rules 47 = .ok (.getfield 41, 3) := by decide +kernel
theorem dX11_rules_50 : decode cX11_rules 50 = .ok (.aload_n 0, 1) := by decide +kernel
theorem dX11_rules_51 : decode cX11_rules 51 = .ok (.getfield 24, 3) := by decide +kernel
theorem dX11_rules_54 : decode cX11_rules 54 = .ok (.invokevirtual 141, 3) := by decide +kernel
theorem dX11_rules_57 : decode cX11_rules 57 = .ok (.aload_n 0, 1) := by decide +kernel
theorem dX11_rules_58 : decode cX11_rules 58 = .ok (.invokevirtual 158, 3) := by decide +kernel
theorem dX11_rules_61 : decode cX11_rules 61 = .ok (.aload_n 0, 1) := by decide +kernel
theorem dX11_rules_62 : decode cX11_rules 62 = .ok (.getfield 24, 3) := by decide +kernel
theorem dX11_rules_65 : decode cX11_rules 65 = .ok (.getfield 161, 3) := by decide +kernel
theorem dX11_rules_68 : decode cX11_rules 68 = .ok (.istore_n 2, 1) := by decide +kernel
theorem dX11_rules_69 : decode cX11_rules 69 = .ok (.aload_n 0, 1) := by decide +kernel
theorem dX11_rules_70 : decode cX11_rules 70 = .ok (.getfield 14, 3) := by decide +kernel
theorem dX11_rules_73 : decode cX11_rules 73 = .ok (.invokevirtual 144, 3) := by decide +kernel
theorem dX11_rules_76 : decode cX11_rules 76 = .ok (.iload_n 2, 1) := by decide +kernel
theorem dX11_rules_77 : decode cX11_rules 77 = .ok (.ireturn, 1) := by decide +kernel
set_option maxRecDepth 20000 in
theorem moX11_rules_69 {o : Int32 × Hp} {F : Nat} {h : Hp} {x0 : Nat} {x2 : Int32} (hE : sX11_rules_69 F h x0 x2 = some o) : Le h o.2 := by
  obtain ⟨r_1, er_1, hE⟩ := cl_e hE
  obtain ⟨o_2, eo_2, hE⟩ := cl_e hE
  refine (moX9_clear eo_2).tr ?_
  exact le_some2 hE
set_option maxRecDepth 20000 in
theorem moX11_rules {o : Int32 × Hp} {F : Nat} {h : Hp} {x0 : Nat} (hE : sX11_rules F h x0 = some o) : Le h o.2 := by
  obtain ⟨r_1, er_1, hE⟩ := cl_e hE
  obtain ⟨r_2, er_2, hE⟩ := cl_e hE
  obtain ⟨r_3, er_3, hE⟩ := cl_e hE
  obtain ⟨o_4, eo_4, hE⟩ := cl_e hE
  refine (moX2_read eo_4).tr ?_
  obtain ⟨r_5, er_5, hE⟩ := cl_e hE
  obtain ⟨o_6, eo_6, hE⟩ := cl_e hE
  refine (moX2_faultPlace eo_6).tr ?_
  obtain ⟨v_7, ev_7, hE⟩ := nm_e2 hE
  rcases br_e hE with ⟨_, hE⟩ | ⟨_, hE⟩
  · exact moX11_rules_69 hE
  · obtain ⟨r_9, er_9, hE⟩ := cl_e hE
    obtain ⟨r_10, er_10, hE⟩ := cl_e hE
    obtain ⟨r_11, er_11, hE⟩ := cl_e hE
    obtain ⟨o_12, eo_12, hE⟩ := cl_e hE
    refine (moX2_read eo_12).tr ?_
    obtain ⟨r_13, er_13, hE⟩ := cl_e hE
    obtain ⟨r_14, er_14, hE⟩ := cl_e hE
    obtain ⟨o_15, eo_15, hE⟩ := cl_e hE
    refine (moX10_lay eo_15).tr ?_
    obtain ⟨o_16, eo_16, hE⟩ := cl_e hE
    refine (moX11_forgetAll eo_16).tr ?_
    obtain ⟨r_17, er_17, hE⟩ := cl_e hE
    obtain ⟨v_18, ev_18, hE⟩ := nm_e2 hE
    exact moX11_rules_69 hE
set_option maxRecDepth 20000 in
theorem bX11_rules_69 {p : Program} {l : Launch} {e : Env} {s : State} {m : MethodId} {args : Array Value} {below : List Frame} {meth : Method} {c : Code} {X : Ec} {h0 : Hp} {o : Int32 × Hp} {F : Nat} (C : Cx X p s m args meth c RX11 cX11_rules 3 (some .int) "rules") {h : Hp} {x0 : Nat} {x2 : Int32} {H : Heap} {locs : List Loc} (k_x0 : hK h x0 = 11) (hkm : Km h0 h) (hW : Wx X h H) (hZ : va_S (aA (eB X)) s.heap H locs) (ls : Array Slot) (hl : lv_has ls 3 [(0, .ref x0), (2, .int x2)]) (hE : sX11_rules_69 F h x0 x2 = some o) : W p l e (rm 9 205) s m args below meth c H locs 0 0 (MQ below (QI X h0 o.1 o.2) args s 0 0 (aA (eB X))) (F0 m 69 ls []) := by
  refine lv_aload_n C.1 C.2.1 dX11_rules_69 rfl (lv_at hl 0 rfl) ?_
  obtain ⟨r_1, er_1, hE⟩ := cl_e hE
  refine gf_X11_14 C hW k_x0 er_1 dX11_rules_70 (fun k_r_1 => ?_)
  obtain ⟨o_2, eo_2, hE⟩ := cl_e hE
  refine x_kV (o := o_2) (z_runV (As := []) (rest := []) C (ct_X9_clear l X k_r_1 eo_2) cw_X11_144 hW hZ k_r_1 (by decide) rfl rfl rfl hl.1 (Nat.le_of_ble_eq_true rfl) rfl dX11_rules_73 ⟨Nat.le_of_ble_eq_true rfl, Nat.le_of_ble_eq_true rfl⟩ ⟨Nat.le_refl _, Nat.le_refl _⟩) hZ (fun _ _ hW km hZ => ?_)
  replace hkm := hkm.tr km
  replace k_x0 := km.at k_x0 (by decide)
  refine lv_iload_n C.1 C.2.1 dX11_rules_76 rfl (lv_at hl 1 rfl) ?_
  exact x_iret C rfl rfl hW hZ hkm hE dX11_rules_77
set_option maxRecDepth 20000 in
theorem ct_X11_rules (l : Launch) (X : Ec) (F : Nat) {h : Hp} {x0 : Nat} {o : Int32 × Hp} (k_x0 : hK h x0 = 11) (hE : sX11_rules F h x0 = some o) : MetI l yX11_rules cX11_rules 3 (some .int) 9 205 X [.ref x0] h o := by
  refine x_met (by decide) (Nat.le_of_ble_eq_true rfl) ?_
  intro p e s m below meth c ls C hl hW hZ
  have hl : lv_has ls 3 [(0, .ref x0)] := hl
  have hkm : Km h h := Km.rf h
  refine lv_aload_n C.1 C.2.1 dX11_rules_0 rfl (lv_at hl 0 rfl) ?_
  obtain ⟨r_1, er_1, hE⟩ := cl_e hE
  refine gf_X11_34 C hW k_x0 er_1 dX11_rules_1 (fun k_r_1 => ?_)
  refine lv_aload_n C.1 C.2.1 dX11_rules_4 rfl (lv_at hl 0 rfl) ?_
  obtain ⟨r_2, er_2, hE⟩ := cl_e hE
  refine gf_X11_14 C hW k_x0 er_2 dX11_rules_5 (fun k_r_2 => ?_)
  refine lv_aload_n C.1 C.2.1 dX11_rules_8 rfl (lv_at hl 0 rfl) ?_
  obtain ⟨r_3, er_3, hE⟩ := cl_e hE
  refine gf_X11_28 C hW k_x0 er_3 dX11_rules_9 (fun k_r_3 => ?_)
  obtain ⟨o_4, eo_4, hE⟩ := cl_e hE
  refine x_kI (o := o_4) (z_runV (As := [.ref r_2, .ref r_3]) (rest := []) C (ct_X2_read l X F k_r_1 k_r_2 k_r_3 eo_4) cw_X11_137 hW hZ k_r_1 (by decide) rfl rfl rfl hl.1 (Nat.le_of_ble_eq_true rfl) rfl dX11_rules_12 ⟨Nat.le_of_ble_eq_true rfl, Nat.le_of_ble_eq_true rfl⟩ ⟨Nat.le_refl _, Nat.le_refl _⟩) hZ (fun _ _ hW km hZ => ?_)
  replace hkm := hkm.tr km
  replace k_x0 := km.at k_x0 (by decide)
  refine lv_istore_n (lv' := [(1, .int o_4.1), (0, .ref x0)]) C.1 C.2.1 dX11_rules_15 rfl hl (by decide) rfl (fun ls hl => ?_)
  refine lv_iconst (v := (-1 : Int32)) C.1 C.2.1 dX11_rules_16 (by decide) ?_
  refine lv_aload_n C.1 C.2.1 dX11_rules_17 rfl (lv_at hl 1 rfl) ?_
  obtain ⟨r_5, er_5, hE⟩ := cl_e hE
  refine gf_X11_34 C hW k_x0 er_5 dX11_rules_18 (fun k_r_5 => ?_)
  obtain ⟨o_6, eo_6, hE⟩ := cl_e hE
  refine x_kI (o := o_6) (z_runV (As := []) (rest := [.int (-1 : Int32)]) C (ct_X2_faultPlace l X k_r_5 eo_6) cw_X11_154 hW hZ k_r_5 (by decide) rfl rfl rfl hl.1 (Nat.le_of_ble_eq_true rfl) rfl dX11_rules_21 ⟨Nat.le_of_ble_eq_true rfl, Nat.le_of_ble_eq_true rfl⟩ ⟨Nat.le_refl _, Nat.le_refl _⟩) hZ (fun _ _ hW km hZ => ?_)
  replace hkm := hkm.tr km
  replace k_x0 := km.at k_x0 (by decide)
  refine lv_isub C.1 C.2.1 dX11_rules_24 ?_
  obtain ⟨v_7, ev_7, hE⟩ := nm_e2 hE
  refine x_nmI ev_7 ?_
  refine lv_istore_n (lv' := [(2, .int v_7), (1, .int o_4.1), (0, .ref x0)]) C.1 C.2.1 dX11_rules_25 rfl hl (by decide) rfl (fun ls hl => ?_)
  refine lv_iload_n C.1 C.2.1 dX11_rules_26 rfl (lv_at hl 1 rfl) ?_
  refine lv_if_eq (tgt := 69) C.1 C.2.1 dX11_rules_27 (by decide) (fun c_8 => ?_) (fun c_8 => ?_)
  · have hE := br_p hE c_8
    exact bX11_rules_69 C k_x0 hkm hW hZ _ (lv_sub hl [2, 0] rfl) hE
  · have hE := br_n hE c_8
    refine lv_aload_n C.1 C.2.1 dX11_rules_30 rfl (lv_at hl 2 rfl) ?_
    obtain ⟨r_9, er_9, hE⟩ := cl_e hE
    refine gf_X11_34 C hW k_x0 er_9 dX11_rules_31 (fun k_r_9 => ?_)
    refine lv_aload_n C.1 C.2.1 dX11_rules_34 rfl (lv_at hl 2 rfl) ?_
    obtain ⟨r_10, er_10, hE⟩ := cl_e hE
    refine gf_X11_14 C hW k_x0 er_10 dX11_rules_35 (fun k_r_10 => ?_)
    refine lv_aload_n C.1 C.2.1 dX11_rules_38 rfl (lv_at hl 2 rfl) ?_
    obtain ⟨r_11, er_11, hE⟩ := cl_e hE
    refine gf_X11_24 C hW k_x0 er_11 dX11_rules_39 (fun k_r_11 => ?_)
    obtain ⟨o_12, eo_12, hE⟩ := cl_e hE
    refine x_kI (o := o_12) (z_runV (As := [.ref r_10, .ref r_11]) (rest := []) C (ct_X2_read l X F k_r_9 k_r_10 k_r_11 eo_12) cw_X11_137 hW hZ k_r_9 (by decide) rfl rfl rfl hl.1 (Nat.le_of_ble_eq_true rfl) rfl dX11_rules_42 ⟨Nat.le_of_ble_eq_true rfl, Nat.le_of_ble_eq_true rfl⟩ ⟨Nat.le_refl _, Nat.le_refl _⟩) hZ (fun _ _ hW km hZ => ?_)
    replace hkm := hkm.tr km
    replace k_x0 := km.at k_x0 (by decide)
    refine lv_pop C.1 C.2.1 dX11_rules_45 rfl ?_
    refine lv_aload_n C.1 C.2.1 dX11_rules_46 rfl (lv_at hl 2 rfl) ?_
    obtain ⟨r_13, er_13, hE⟩ := cl_e hE
    refine gf_X11_41 C hW k_x0 er_13 dX11_rules_47 (fun k_r_13 => ?_)
    refine lv_aload_n C.1 C.2.1 dX11_rules_50 rfl (lv_at hl 2 rfl) ?_
    obtain ⟨r_14, er_14, hE⟩ := cl_e hE
    refine gf_X11_24 C hW k_x0 er_14 dX11_rules_51 (fun k_r_14 => ?_)
    obtain ⟨o_15, eo_15, hE⟩ := cl_e hE
    refine x_kV (o := o_15) (z_runV (As := [.ref r_14]) (rest := []) C (ct_X10_lay l X F k_r_13 k_r_14 eo_15) cw_X11_141 hW hZ k_r_13 (by decide) rfl rfl rfl hl.1 (Nat.le_of_ble_eq_true rfl) rfl dX11_rules_54 ⟨Nat.le_of_ble_eq_true rfl, Nat.le_of_ble_eq_true rfl⟩ ⟨Nat.le_refl _, Nat.le_refl _⟩) hZ (fun _ _ hW km hZ => ?_)
    replace hkm := hkm.tr km
    replace k_x0 := km.at k_x0 (by decide)
    refine lv_aload_n C.1 C.2.1 dX11_rules_57 rfl (lv_at hl 2 rfl) ?_
    obtain ⟨o_16, eo_16, hE⟩ := cl_e hE
    refine x_kV (o := o_16) (z_runV (As := []) (rest := []) C (ct_X11_forgetAll l X F k_x0 eo_16) cw_X11_158 hW hZ k_x0 (by decide) rfl rfl rfl hl.1 (Nat.le_of_ble_eq_true rfl) rfl dX11_rules_58 ⟨Nat.le_of_ble_eq_true rfl, Nat.le_of_ble_eq_true rfl⟩ ⟨Nat.le_refl _, Nat.le_refl _⟩) hZ (fun _ _ hW km hZ => ?_)
    replace hkm := hkm.tr km
    replace k_x0 := km.at k_x0 (by decide)
    refine lv_aload_n C.1 C.2.1 dX11_rules_61 rfl (lv_at hl 2 rfl) ?_
    obtain ⟨r_17, er_17, hE⟩ := cl_e hE
    refine gf_X11_24 C hW k_x0 er_17 dX11_rules_62 (fun k_r_17 => ?_)
    refine gf_X11_161 C hW k_r_17 dX11_rules_65 ?_
    obtain ⟨v_18, ev_18, hE⟩ := nm_e2 hE
    refine x_nmI ev_18 ?_
    refine lv_istore_n (lv' := [(2, .int v_18), (1, .int o_4.1), (0, .ref x0)]) C.1 C.2.1 dX11_rules_68 rfl hl (by decide) rfl (fun ls hl => ?_)
    exact bX11_rules_69 C k_x0 hkm hW hZ _ (lv_sub hl [2, 0] rfl) hE
theorem dX11_countPlaces_0 : decode cX11_countPlaces 0 = .ok (.iconst 0, 1) := by decide +kernel
theorem dX11_countPlaces_1 : decode cX11_countPlaces 1 = .ok (.istore_n 1, 1) := by decide +kernel
theorem dX11_countPlaces_2 : decode cX11_countPlaces 2 = .ok (.iconst 0, 1) := by decide +kernel
theorem dX11_countPlaces_3 : decode cX11_countPlaces 3 = .ok (.istore_n 2, 1) := by decide +kernel
theorem dX11_countPlaces_4 : decode cX11_countPlaces 4 = .ok (.iload_n 2, 1) := by decide +kernel
theorem dX11_countPlaces_5 : decode cX11_countPlaces 5 = .ok (.bipush 60, 2) := by decide +kernel
theorem dX11_countPlaces_7 : decode cX11_countPlaces 7 = .ok (.if_icmp .ge 26, 3) := by decide +kernel
theorem dX11_countPlaces_10 : decode cX11_countPlaces 10 = .ok (.iload_n 1, 1) := by decide +kernel
theorem dX11_countPlaces_11 : decode cX11_countPlaces 11 = .ok (.aload_n 0, 1) := by decide +kernel
theorem dX11_countPlaces_12 : decode cX11_countPlaces 12 = .ok (.getfield 107, 3) := by decide +kernel
theorem dX11_countPlaces_15 : decode cX11_countPlaces 15 = .ok (.iload_n 2, 1) := by decide +kernel
theorem dX11_countPlaces_16 : decode cX11_countPlaces 16 = .ok (.baload, 1) := by decide +kernel
theorem dX11_countPlaces_17 : decode cX11_countPlaces 17 = .ok (.ifCond .eq 7, 3) := by decide +kernel
theorem dX11_countPlaces_20 : decode cX11_countPlaces 20 = .ok (.iconst 1, 1) := by decide +kernel
theorem dX11_countPlaces_21 : decode cX11_countPlaces 21 = .ok (.goto 4, 3) := by decide +kernel
theorem dX11_countPlaces_24 : decode cX11_countPlaces 24 = .ok (.iconst 0, 1) := by decide +kernel
theorem dX11_countPlaces_25 : decode cX11_countPlaces 25 = .ok (.iadd, 1) := by decide +kernel
theorem dX11_countPlaces_26 : decode cX11_countPlaces 26 = .ok (.istore_n 1, 1) := by decide +kernel
theorem dX11_countPlaces_27 : decode cX11_countPlaces 27 = .ok (.iinc 2 1, 3) := by decide +kernel
theorem dX11_countPlaces_30 : decode cX11_countPlaces 30 = .ok (.goto (-26), 3) := by decide +kernel
theorem dX11_countPlaces_33 : decode cX11_countPlaces 33 = .ok (.iload_n 1, 1) := by decide +kernel
theorem dX11_countPlaces_34 : decode cX11_countPlaces 34 = .ok (.ireturn, 1) := by decide +kernel
set_option maxRecDepth 20000 in
theorem moX11_countPlaces_25 {o : Int32 × Hp} {k_4 : Hp → Nat → Int32 → Int32 → Option (Int32 × Hp)} {F : Nat} (mk_4 : ∀ (h : Hp) (x0 : Nat) (x1 : Int32) (x2 : Int32), k_4 h x0 x1 x2 = some o → Le h o.2) {h : Hp} {x0 : Nat} {x2 : Int32} {t0 : Int32} {t1 : Int32} (hE : sX11_countPlaces_25 F k_4 h x0 x2 t0 t1 = some o) : Le h o.2 := by
  obtain ⟨v_1, ev_1, hE⟩ := nm_e2 hE
  obtain ⟨v_2, ev_2, hE⟩ := nm_e2 hE
  exact mk_4 _ _ _ _ hE
set_option maxRecDepth 20000 in
theorem moX11_countPlaces_4 {o : Int32 × Hp} {F : Nat} : ∀ (f : Nat) {h : Hp} {x0 : Nat} {x1 : Int32} {x2 : Int32}, sX11_countPlaces_4 F f h x0 x1 x2 = some o → Le h o.2 := by
  intro f
  induction f with
  | zero =>
    intro h x0 x1 x2 hE
    rw [sX11_countPlaces_4] at hE
    cases hE
  | succ f ih =>
    intro h x0 x1 x2 hE
    rw [sX11_countPlaces_4] at hE
    have mk_4 : ∀ (h : Hp) (x0 : Nat) (x1 : Int32) (x2 : Int32), sX11_countPlaces_4 F f h x0 x1 x2 = some o → Le h o.2 := fun h x0 x1 x2 hE => ih hE
    rcases br_e hE with ⟨_, hE⟩ | ⟨_, hE⟩
    · exact le_some2 hE
    · obtain ⟨r_2, er_2, hE⟩ := cl_e hE
      obtain ⟨g_3, hE⟩ := gd_e hE
      rcases br_e hE with ⟨_, hE⟩ | ⟨_, hE⟩
      · exact moX11_countPlaces_25 mk_4 hE
      · exact moX11_countPlaces_25 mk_4 hE
set_option maxRecDepth 20000 in
theorem moX11_countPlaces {o : Int32 × Hp} {F : Nat} {h : Hp} {x0 : Nat} (hE : sX11_countPlaces F h x0 = some o) : Le h o.2 := by
  exact moX11_countPlaces_4 _ hE
set_option maxRecDepth 20000 in
theorem bX11_countPlaces_25 {p : Program} {l : Launch} {e : Env} {s : State} {m : MethodId} {args : Array Value} {below : List Frame} {meth : Method} {c : Code} {X : Ec} {h0 : Hp} {o : Int32 × Hp} {k_4 : Hp → Nat → Int32 → Int32 → Option (Int32 × Hp)} {F : Nat} (C : Cx X p s m args meth c RX11 cX11_countPlaces 3 (some .int) "countPlaces") (hk_4 : ∀ (h : Hp) (x0 : Nat) (x1 : Int32) (x2 : Int32) (H : Heap) (locs : List Loc), hK h x0 = 11 → Km h0 h → Wx X h H → va_S (aA (eB X)) s.heap H locs → ∀ (ls : Array Slot), lv_has ls 3 [(0, .ref x0), (1, .int x1), (2, .int x2)] → k_4 h x0 x1 x2 = some o → W p l e (rm 0 0) s m args below meth c H locs 0 0 (MQ below (QI X h0 o.1 o.2) args s 0 0 (aA (eB X))) (F0 m 4 ls [])) {h : Hp} {x0 : Nat} {x2 : Int32} {t0 : Int32} {t1 : Int32} {H : Heap} {locs : List Loc} (k_x0 : hK h x0 = 11) (hkm : Km h0 h) (hW : Wx X h H) (hZ : va_S (aA (eB X)) s.heap H locs) (ls : Array Slot) (hl : lv_has ls 3 [(0, .ref x0), (2, .int x2)]) (hE : sX11_countPlaces_25 F k_4 h x0 x2 t0 t1 = some o) : W p l e (rm 0 0) s m args below meth c H locs 0 0 (MQ below (QI X h0 o.1 o.2) args s 0 0 (aA (eB X))) (F0 m 25 ls [.int t0, .int t1]) := by
  refine lv_iadd C.1 C.2.1 dX11_countPlaces_25 ?_
  obtain ⟨v_1, ev_1, hE⟩ := nm_e2 hE
  refine x_nmI ev_1 ?_
  refine lv_istore_n (lv' := [(1, .int v_1), (0, .ref x0), (2, .int x2)]) C.1 C.2.1 dX11_countPlaces_26 rfl hl (by decide) rfl (fun ls hl => ?_)
  obtain ⟨v_2, ev_2, hE⟩ := nm_e2 hE
  refine lv_iinc (v := v_2) (lv' := [(2, .int v_2), (1, .int v_1), (0, .ref x0)]) C.1 C.2.1 dX11_countPlaces_27 hl (k := 2) rfl (by rw [ev_2]; rfl) (by decide) rfl (fun ls hl => ?_)
  refine lv_goto (tgt := 4) C.1 C.2.1 dX11_countPlaces_30 (by decide) ?_
  exact hk_4 _ _ _ _ _ _ k_x0 hkm hW hZ _ (lv_sub hl [2, 1, 0] rfl) hE
set_option maxRecDepth 20000 in
theorem bX11_countPlaces_4 {p : Program} {l : Launch} {e : Env} {s : State} {m : MethodId} {args : Array Value} {below : List Frame} {meth : Method} {c : Code} {X : Ec} {h0 : Hp} {o : Int32 × Hp} {F : Nat} (C : Cx X p s m args meth c RX11 cX11_countPlaces 3 (some .int) "countPlaces") : ∀ (f : Nat) {h : Hp} {x0 : Nat} {x1 : Int32} {x2 : Int32} {H : Heap} {locs : List Loc} (k_x0 : hK h x0 = 11), Km h0 h → Wx X h H → va_S (aA (eB X)) s.heap H locs → ∀ (ls : Array Slot), lv_has ls 3 [(0, .ref x0), (1, .int x1), (2, .int x2)] → sX11_countPlaces_4 F f h x0 x1 x2 = some o → W p l e (rm 0 0) s m args below meth c H locs 0 0 (MQ below (QI X h0 o.1 o.2) args s 0 0 (aA (eB X))) (F0 m 4 ls []) := by
  intro f
  induction f with
  | zero =>
    intro h x0 x1 x2 H locs k_x0 hkm hW hZ ls hl hE
    rw [sX11_countPlaces_4] at hE
    cases hE
  | succ f ih =>
    intro h x0 x1 x2 H locs k_x0 hkm hW hZ ls hl hE
    rw [sX11_countPlaces_4] at hE
    have hk_4 : ∀ (h : Hp) (x0 : Nat) (x1 : Int32) (x2 : Int32) (H : Heap) (locs : List Loc), hK h x0 = 11 → Km h0 h → Wx X h H → va_S (aA (eB X)) s.heap H locs → ∀ (ls : Array Slot), lv_has ls 3 [(0, .ref x0), (1, .int x1), (2, .int x2)] → sX11_countPlaces_4 F f h x0 x1 x2 = some o → W p l e (rm 0 0) s m args below meth c H locs 0 0 (MQ below (QI X h0 o.1 o.2) args s 0 0 (aA (eB X))) (F0 m 4 ls []) := fun h x0 x1 x2 H locs k_x0 a b c ls hl hE => ih k_x0 a b c ls hl hE
    refine lv_iload_n C.1 C.2.1 dX11_countPlaces_4 rfl (lv_at hl 2 rfl) ?_
    refine lv_bipush (v := (60 : Int32)) C.1 C.2.1 dX11_countPlaces_5 (by decide) ?_
    refine lv_icmp_ge (tgt := 33) C.1 C.2.1 dX11_countPlaces_7 (by decide) (fun c_1 => ?_) (fun c_1 => ?_)
    · have hE := br_p hE c_1
      refine lv_iload_n C.1 C.2.1 dX11_countPlaces_33 rfl (lv_at hl 1 rfl) ?_
      exact x_iret C rfl rfl hW hZ hkm hE dX11_countPlaces_34
    · have hE := br_n hE c_1
      refine lv_iload_n C.1 C.2.1 dX11_countPlaces_10 rfl (lv_at hl 1 rfl) ?_
      refine lv_aload_n C.1 C.2.1 dX11_countPlaces_11 rfl (lv_at hl 0 rfl) ?_
      obtain ⟨r_2, er_2, hE⟩ := cl_e hE
      refine gf_X11_107 C hW k_x0 er_2 dX11_countPlaces_12 (fun k_r_2 => ?_)
      refine lv_iload_n C.1 C.2.1 dX11_countPlaces_15 rfl (lv_at hl 2 rfl) ?_
      obtain ⟨g_3, hE⟩ := gd_e hE
      refine y_zald C hW k_r_2 g_3 dX11_countPlaces_16 ?_
      refine lv_if_eq (tgt := 24) C.1 C.2.1 dX11_countPlaces_17 (by decide) (fun c_4 => ?_) (fun c_4 => ?_)
      · have hE := br_p hE c_4
        refine lv_iconst (v := (0 : Int32)) C.1 C.2.1 dX11_countPlaces_24 (by decide) ?_
        exact bX11_countPlaces_25 C hk_4 k_x0 hkm hW hZ _ (lv_sub hl [0, 2] rfl) hE
      · have hE := br_n hE c_4
        refine lv_iconst (v := (1 : Int32)) C.1 C.2.1 dX11_countPlaces_20 (by decide) ?_
        refine lv_goto (tgt := 25) C.1 C.2.1 dX11_countPlaces_21 (by decide) ?_
        exact bX11_countPlaces_25 C hk_4 k_x0 hkm hW hZ _ (lv_sub hl [0, 2] rfl) hE
set_option maxRecDepth 20000 in
theorem ct_X11_countPlaces (l : Launch) (X : Ec) (F : Nat) {h : Hp} {x0 : Nat} {o : Int32 × Hp} (k_x0 : hK h x0 = 11) (hE : sX11_countPlaces F h x0 = some o) : MetI l yX11_countPlaces cX11_countPlaces 3 (some .int) 0 0 X [.ref x0] h o := by
  refine x_met (by decide) (Nat.le_of_ble_eq_true rfl) ?_
  intro p e s m below meth c ls C hl hW hZ
  have hl : lv_has ls 3 [(0, .ref x0)] := hl
  have hkm : Km h h := Km.rf h
  refine lv_iconst (v := (0 : Int32)) C.1 C.2.1 dX11_countPlaces_0 (by decide) ?_
  refine lv_istore_n (lv' := [(1, .int (0 : Int32)), (0, .ref x0)]) C.1 C.2.1 dX11_countPlaces_1 rfl hl (by decide) rfl (fun ls hl => ?_)
  refine lv_iconst (v := (0 : Int32)) C.1 C.2.1 dX11_countPlaces_2 (by decide) ?_
  refine lv_istore_n (lv' := [(2, .int (0 : Int32)), (1, .int (0 : Int32)), (0, .ref x0)]) C.1 C.2.1 dX11_countPlaces_3 rfl hl (by decide) rfl (fun ls hl => ?_)
  exact bX11_countPlaces_4 C F k_x0 hkm hW hZ _ (lv_sub hl [2, 1, 0] rfl) hE
set_option maxRecDepth 100000 in
theorem ms_29 : Cond.selects RX11 yX11_countPlaces yX11_countPlaces ∈ W0 := w0_in (List.mem_append_left _ (List.mem_of_getElem? (i := 29) rfl)) rfl
set_option maxRecDepth 100000 in
theorem m_63 : Cond.fieldLink RX11 164 (TX1 0).1 (TX1 0).2.1 (TX1 0).2.2.1 ∈ W0 := w0_in (List.mem_append_right _ (List.mem_of_getElem? (i := 63) rfl)) rfl
set_option maxRecDepth 100000 in
theorem m_69 : Cond.fieldLink RX11 167 (TX1 1).1 (TX1 1).2.1 (TX1 1).2.2.1 ∈ W0 := w0_in (List.mem_append_right _ (List.mem_of_getElem? (i := 69) rfl)) rfl
set_option maxRecDepth 100000 in
theorem m_90 : Cond.fieldLink RX11 170 (TX1 4).1 (TX1 4).2.1 (TX1 4).2.2.1 ∈ W0 := w0_in (List.mem_append_right _ (List.mem_of_getElem? (i := 90) rfl)) rfl
set_option maxRecDepth 100000 in
theorem m_95 : Cond.fieldLink RX11 173 (TX1 5).1 (TX1 5).2.1 (TX1 5).2.2.1 ∈ W0 := w0_in (List.mem_append_right _ (List.mem_of_getElem? (i := 95) rfl)) rfl
set_option maxRecDepth 100000 in
theorem m_917 : Cond.methodLink RX11 176 yX11_countPlaces ∈ W0 := w0_in (List.mem_append_right _ (List.mem_of_getElem? (i := 917) rfl)) rfl
set_option maxRecDepth 100000 in
theorem m_919 : Cond.instanceMethod yX11_countPlaces ∈ W0 := w0_in (List.mem_append_right _ (List.mem_of_getElem? (i := 919) rfl)) rfl
set_option maxRecDepth 100000 in
theorem m_920 : Cond.code yX11_countPlaces cX11_countPlaces 3 (some .int) ∈ W0 := w0_in (List.mem_append_right _ (List.mem_of_getElem? (i := 920) rfl)) rfl
section
variable {p : Program} {l : Launch} {e : Env} {R : Room} {s : State} {m : MethodId} {args : Array Value} {below : List Frame} {meth : Method} {c : Code} {H : Heap} {locs : List Loc} {cells slots : Nat} {Q : State → Prop}
variable {cc : ByteArray} {pc : Nat} {ls : Array Slot} {rest : List Value} {X : Ec} {h h1 : Hp} {nL : Nat} {rt : Option FieldType} {mn : String}
theorem gf_X11_164 {a : Nat} (C : Cx X p s m args meth c RX11 cc nL rt mn) (hW : Wx X h H) (ha : hK h a = 1) (hdg : decode cc pc = .ok (.getfield 164, 3)) (kk : W p l e R s m args below meth c H locs cells slots Q (F0 m (pc + 3) ls (.int (hI h a 0) :: rest))) : W p l e R s m args below meth c H locs cells slots Q (F0 m pc ls (.ref a :: rest)) :=
  y_geti C hW ha i_X1 (by decide) rfl (by decide) m_63 rfl hdg kk
theorem gf_X11_167 {a : Nat} (C : Cx X p s m args meth c RX11 cc nL rt mn) (hW : Wx X h H) (ha : hK h a = 1) (hdg : decode cc pc = .ok (.getfield 167, 3)) (kk : W p l e R s m args below meth c H locs cells slots Q (F0 m (pc + 3) ls (.int (hI h a 1) :: rest))) : W p l e R s m args below meth c H locs cells slots Q (F0 m pc ls (.ref a :: rest)) :=
  y_geti C hW ha i_X1 (by decide) rfl (by decide) m_69 rfl hdg kk
theorem gf_X11_170 {a : Nat} (C : Cx X p s m args meth c RX11 cc nL rt mn) (hW : Wx X h H) (ha : hK h a = 1) (hdg : decode cc pc = .ok (.getfield 170, 3)) (kk : W p l e R s m args below meth c H locs cells slots Q (F0 m (pc + 3) ls (.int (hI h a 4) :: rest))) : W p l e R s m args below meth c H locs cells slots Q (F0 m pc ls (.ref a :: rest)) :=
  y_geti C hW ha i_X1 (by decide) rfl (by decide) m_90 rfl hdg kk
theorem gf_X11_173 {a : Nat} (C : Cx X p s m args meth c RX11 cc nL rt mn) (hW : Wx X h H) (ha : hK h a = 1) (hdg : decode cc pc = .ok (.getfield 173, 3)) (kk : W p l e R s m args below meth c H locs cells slots Q (F0 m (pc + 3) ls (.int (hI h a 5) :: rest))) : W p l e R s m args below meth c H locs cells slots Q (F0 m pc ls (.ref a :: rest)) :=
  y_geti C hW ha i_X1 (by decide) rfl (by decide) m_95 rfl hdg kk
theorem gf_X11_18 {a r : Nat} (C : Cx X p s m args meth c RX11 cc nL rt mn) (hW : Wx X h H) (ha : hK h a = 11) (hr : hR h a 1 = some r) (hdg : decode cc pc = .ok (.getfield 18, 3)) (kk : hK h r = 9 → W p l e R s m args below meth c H locs cells slots Q (F0 m (pc + 3) ls (.ref r :: rest))) : W p l e R s m args below meth c H locs cells slots Q (F0 m pc ls (.ref a :: rest)) :=
  y_getr C hW ha i_X11 (by decide) rfl (by decide) m_830 rfl rfl hr hdg kk
end
theorem cw_X11_176 : cwd RX11 176 yX11_countPlaces cX11_countPlaces 3 (some .int) false 0 := ⟨m_920, m_917, m_1, ⟨m_919, ms_29⟩, by decide, by decide, by decide +kernel⟩
theorem dX11_told_0 : decode cX11_told 0 = .ok (.iload_n 1, 1) := by decide +kernel
theorem dX11_told_1 : decode cX11_told 1 = .ok (.tableswitch 108 0 7 #[47, 55, 63, 71, 79, 87, 92, 100], 47) := by decide +kernel
theorem dX11_told_48 : decode cX11_told 48 = .ok (.aload_n 0, 1) := by decide +kernel
theorem dX11_told_49 : decode cX11_told 49 = .ok (.getfield 24, 3) := by decide +kernel
theorem dX11_told_52 : decode cX11_told 52 = .ok (.getfield 164, 3) := by decide +kernel
theorem dX11_told_55 : decode cX11_told 55 = .ok (.ireturn, 1) := by decide +kernel
theorem dX11_told_56 : decode cX11_told 56 = .ok (.aload_n 0, 1) := by decide +kernel
theorem dX11_told_57 : decode cX11_told 57 = .ok (.getfield 24, 3) := by decide +kernel
theorem dX11_told_60 : decode cX11_told 60 = .ok (.getfield 167, 3) := by decide +kernel
theorem dX11_told_63 : decode cX11_told 63 = .ok (.ireturn, 1) := by decide +kernel
theorem dX11_told_64 : decode cX11_told 64 = .ok (.aload_n 0, 1) := by decide +kernel
theorem dX11_told_65 : decode cX11_told 65 = .ok (.getfield 24, 3) := by decide +kernel
theorem dX11_told_68 : decode cX11_told 68 = .ok (.getfield 161, 3) := by decide +kernel
theorem dX11_told_71 : decode cX11_told 71 = .ok (.ireturn, 1) := by decide +kernel
theorem dX11_told_72 : decode cX11_told 72 = .ok (.aload_n 0, 1) := by decide +kernel
theorem dX11_told_73 : decode cX11_told 73 = .ok (.getfield 24, 3) := by decide +kernel
theorem dX11_told_76 : decode cX11_told 76 = .ok (.getfield 170, 3) := by decide +kernel
theorem dX11_told_79 : decode cX11_told 79 = .ok (.ireturn, 1) := by decide +kernel
theorem dX11_told_80 : decode cX11_told 80 = .ok (.aload_n 0, 1) := by decide +kernel
theorem dX11_told_81 : decode cX11_told 81 = .ok (.getfield 24, 3) := by decide +kernel
theorem dX11_told_84 : decode cX11_told 84 = .ok (.getfield 173, 3) := by decide +kernel
theorem dX11_told_87 : decode cX11_told 87 = .ok (.ireturn, 1) := by decide +kernel
theorem dX11_told_88 : decode cX11_told 88 = .ok (.aload_n 0, 1) := by decide +kernel
theorem dX11_told_89 : decode cX11_told 89 = .ok (.invokevirtual 176, 3) := by decide +kernel
theorem dX11_told_92 : decode cX11_told 92 = .ok (.ireturn, 1) := by decide +kernel
theorem dX11_told_93 : decode cX11_told 93 = .ok (.aload_n 0, 1) := by decide +kernel
theorem dX11_told_94 : decode cX11_told 94 = .ok (.getfield 18, 3) := by decide +kernel
theorem dX11_told_97 : decode cX11_told 97 = .ok (.getfield 147, 3) := by decide +kernel
theorem dX11_told_100 : decode cX11_told 100 = .ok (.ireturn, 1) := by decide +kernel
theorem dX11_told_101 : decode cX11_told 101 = .ok (.aload_n 0, 1) := by decide +kernel
theorem dX11_told_102 : decode cX11_told 102 = .ok (.getfield 14, 3) := by decide +kernel
theorem dX11_told_105 : decode cX11_told 105 = .ok (.getfield 147, 3) := by decide +kernel
theorem dX11_told_108 : decode cX11_told 108 = .ok (.ireturn, 1) := by decide +kernel
theorem dX11_told_109 : decode cX11_told 109 = .ok (.bipush (-101), 2) := by decide +kernel
theorem dX11_told_111 : decode cX11_told 111 = .ok (.ireturn, 1) := by decide +kernel
set_option maxRecDepth 20000 in
theorem moX11_told {o : Int32 × Hp} {F : Nat} {h : Hp} {x0 : Nat} {x1 : Int32} (hE : sX11_told F h x0 x1 = some o) : Le h o.2 := by
  rcases br_e hE with ⟨_, hE⟩ | ⟨_, hE⟩
  · obtain ⟨r_1, er_1, hE⟩ := cl_e hE
    exact le_some2 hE
  rcases br_e hE with ⟨_, hE⟩ | ⟨_, hE⟩
  · obtain ⟨r_3, er_3, hE⟩ := cl_e hE
    exact le_some2 hE
  rcases br_e hE with ⟨_, hE⟩ | ⟨_, hE⟩
  · obtain ⟨r_5, er_5, hE⟩ := cl_e hE
    exact le_some2 hE
  rcases br_e hE with ⟨_, hE⟩ | ⟨_, hE⟩
  · obtain ⟨r_7, er_7, hE⟩ := cl_e hE
    exact le_some2 hE
  rcases br_e hE with ⟨_, hE⟩ | ⟨_, hE⟩
  · obtain ⟨r_9, er_9, hE⟩ := cl_e hE
    exact le_some2 hE
  rcases br_e hE with ⟨_, hE⟩ | ⟨_, hE⟩
  · obtain ⟨o_11, eo_11, hE⟩ := cl_e hE
    refine (moX11_countPlaces eo_11).tr ?_
    exact le_some2 hE
  rcases br_e hE with ⟨_, hE⟩ | ⟨_, hE⟩
  · obtain ⟨r_13, er_13, hE⟩ := cl_e hE
    exact le_some2 hE
  rcases br_e hE with ⟨_, hE⟩ | ⟨_, hE⟩
  · obtain ⟨r_15, er_15, hE⟩ := cl_e hE
    exact le_some2 hE
  exact le_some2 hE
set_option maxRecDepth 20000 in
theorem ct_X11_told (l : Launch) (X : Ec) (F : Nat) {h : Hp} {x0 : Nat} {x1 : Int32} {o : Int32 × Hp} (k_x0 : hK h x0 = 11) (hE : sX11_told F h x0 x1 = some o) : MetI l yX11_told cX11_told 2 (some .int) 1 22 X [.ref x0, .int x1] h o := by
  refine x_met (by decide) (Nat.le_of_ble_eq_true rfl) ?_
  intro p e s m below meth c ls C hl hW hZ
  have hl : lv_has ls 2 [(0, .ref x0), (1, .int x1)] := hl
  have hkm : Km h h := Km.rf h
  refine lv_iload_n C.1 C.2.1 dX11_told_0 rfl (lv_at hl 1 rfl) ?_
  by_cases c_2 : x1 = (0 : Int32)
  · have hE := br_p hE c_2
    refine lv_tableIn (off := 47) (tgt := 48) C.1 C.2.1 dX11_told_1 (by rw [c_2]; decide) (by rw [c_2]; decide) (by rw [c_2]; rfl) (by decide) ?_
    refine lv_aload_n C.1 C.2.1 dX11_told_48 rfl (lv_at hl 0 rfl) ?_
    obtain ⟨r_1, er_1, hE⟩ := cl_e hE
    refine gf_X11_24 C hW k_x0 er_1 dX11_told_49 (fun k_r_1 => ?_)
    refine gf_X11_164 C hW k_r_1 dX11_told_52 ?_
    exact x_iret C rfl rfl hW hZ hkm hE dX11_told_55
  have hE := br_n hE c_2
  by_cases c_4 : x1 = (1 : Int32)
  · have hE := br_p hE c_4
    refine lv_tableIn (off := 55) (tgt := 56) C.1 C.2.1 dX11_told_1 (by rw [c_4]; decide) (by rw [c_4]; decide) (by rw [c_4]; rfl) (by decide) ?_
    refine lv_aload_n C.1 C.2.1 dX11_told_56 rfl (lv_at hl 0 rfl) ?_
    obtain ⟨r_3, er_3, hE⟩ := cl_e hE
    refine gf_X11_24 C hW k_x0 er_3 dX11_told_57 (fun k_r_3 => ?_)
    refine gf_X11_167 C hW k_r_3 dX11_told_60 ?_
    exact x_iret C rfl rfl hW hZ hkm hE dX11_told_63
  have hE := br_n hE c_4
  by_cases c_6 : x1 = (2 : Int32)
  · have hE := br_p hE c_6
    refine lv_tableIn (off := 63) (tgt := 64) C.1 C.2.1 dX11_told_1 (by rw [c_6]; decide) (by rw [c_6]; decide) (by rw [c_6]; rfl) (by decide) ?_
    refine lv_aload_n C.1 C.2.1 dX11_told_64 rfl (lv_at hl 0 rfl) ?_
    obtain ⟨r_5, er_5, hE⟩ := cl_e hE
    refine gf_X11_24 C hW k_x0 er_5 dX11_told_65 (fun k_r_5 => ?_)
    refine gf_X11_161 C hW k_r_5 dX11_told_68 ?_
    exact x_iret C rfl rfl hW hZ hkm hE dX11_told_71
  have hE := br_n hE c_6
  by_cases c_8 : x1 = (3 : Int32)
  · have hE := br_p hE c_8
    refine lv_tableIn (off := 71) (tgt := 72) C.1 C.2.1 dX11_told_1 (by rw [c_8]; decide) (by rw [c_8]; decide) (by rw [c_8]; rfl) (by decide) ?_
    refine lv_aload_n C.1 C.2.1 dX11_told_72 rfl (lv_at hl 0 rfl) ?_
    obtain ⟨r_7, er_7, hE⟩ := cl_e hE
    refine gf_X11_24 C hW k_x0 er_7 dX11_told_73 (fun k_r_7 => ?_)
    refine gf_X11_170 C hW k_r_7 dX11_told_76 ?_
    exact x_iret C rfl rfl hW hZ hkm hE dX11_told_79
  have hE := br_n hE c_8
  by_cases c_10 : x1 = (4 : Int32)
  · have hE := br_p hE c_10
    refine lv_tableIn (off := 79) (tgt := 80) C.1 C.2.1 dX11_told_1 (by rw [c_10]; decide) (by rw [c_10]; decide) (by rw [c_10]; rfl) (by decide) ?_
    refine lv_aload_n C.1 C.2.1 dX11_told_80 rfl (lv_at hl 0 rfl) ?_
    obtain ⟨r_9, er_9, hE⟩ := cl_e hE
    refine gf_X11_24 C hW k_x0 er_9 dX11_told_81 (fun k_r_9 => ?_)
    refine gf_X11_173 C hW k_r_9 dX11_told_84 ?_
    exact x_iret C rfl rfl hW hZ hkm hE dX11_told_87
  have hE := br_n hE c_10
  by_cases c_12 : x1 = (5 : Int32)
  · have hE := br_p hE c_12
    refine lv_tableIn (off := 87) (tgt := 88) C.1 C.2.1 dX11_told_1 (by rw [c_12]; decide) (by rw [c_12]; decide) (by rw [c_12]; rfl) (by decide) ?_
    refine lv_aload_n C.1 C.2.1 dX11_told_88 rfl (lv_at hl 0 rfl) ?_
    obtain ⟨o_11, eo_11, hE⟩ := cl_e hE
    refine x_kI (o := o_11) (z_runV (As := []) (rest := []) C (ct_X11_countPlaces l X F k_x0 eo_11) cw_X11_176 hW hZ k_x0 (by decide) rfl rfl rfl hl.1 (Nat.le_of_ble_eq_true rfl) rfl dX11_told_89 ⟨Nat.le_of_ble_eq_true rfl, Nat.le_of_ble_eq_true rfl⟩ ⟨Nat.le_refl _, Nat.le_refl _⟩) hZ (fun _ _ hW km hZ => ?_)
    replace hkm := hkm.tr km
    replace k_x0 := km.at k_x0 (by decide)
    exact x_iret C rfl rfl hW hZ hkm hE dX11_told_92
  have hE := br_n hE c_12
  by_cases c_14 : x1 = (6 : Int32)
  · have hE := br_p hE c_14
    refine lv_tableIn (off := 92) (tgt := 93) C.1 C.2.1 dX11_told_1 (by rw [c_14]; decide) (by rw [c_14]; decide) (by rw [c_14]; rfl) (by decide) ?_
    refine lv_aload_n C.1 C.2.1 dX11_told_93 rfl (lv_at hl 0 rfl) ?_
    obtain ⟨r_13, er_13, hE⟩ := cl_e hE
    refine gf_X11_18 C hW k_x0 er_13 dX11_told_94 (fun k_r_13 => ?_)
    refine gf_X11_147 C hW k_r_13 dX11_told_97 ?_
    exact x_iret C rfl rfl hW hZ hkm hE dX11_told_100
  have hE := br_n hE c_14
  by_cases c_16 : x1 = (7 : Int32)
  · have hE := br_p hE c_16
    refine lv_tableIn (off := 100) (tgt := 101) C.1 C.2.1 dX11_told_1 (by rw [c_16]; decide) (by rw [c_16]; decide) (by rw [c_16]; rfl) (by decide) ?_
    refine lv_aload_n C.1 C.2.1 dX11_told_101 rfl (lv_at hl 0 rfl) ?_
    obtain ⟨r_15, er_15, hE⟩ := cl_e hE
    refine gf_X11_14 C hW k_x0 er_15 dX11_told_102 (fun k_r_15 => ?_)
    refine gf_X11_147 C hW k_r_15 dX11_told_105 ?_
    exact x_iret C rfl rfl hW hZ hkm hE dX11_told_108
  have hE := br_n hE c_16
  refine lv_tableOut (tgt := 109) C.1 C.2.1 dX11_told_1 (by have zc_2 := lv_neT (a := 0) c_2 (by decide); have zc_4 := lv_neT (a := 1) c_4 (by decide); have zc_6 := lv_neT (a := 2) c_6 (by decide); have zc_8 := lv_neT (a := 3) c_8 (by decide); have zc_10 := lv_neT (a := 4) c_10 (by decide); have zc_12 := lv_neT (a := 5) c_12 (by decide); have zc_14 := lv_neT (a := 6) c_14 (by decide); have zc_16 := lv_neT (a := 7) c_16 (by decide); omega) (by decide) ?_
  refine lv_bipush (v := (-101 : Int32)) C.1 C.2.1 dX11_told_109 (by decide) ?_
  exact x_iret C rfl rfl hW hZ hkm hE dX11_told_111
set_option maxRecDepth 100000 in
theorem m_925 : Cond.methodLink RX11 179 yX9_byteAt ∈ W0 := w0_in (List.mem_append_right _ (List.mem_of_getElem? (i := 925) rfl)) rfl
theorem cw_X11_179 : cwd RX11 179 yX9_byteAt cX9_byteAt 2 (some .int) false 1 := ⟨m_660, m_925, m_2, ⟨m_658, m_659⟩, by decide, by decide, by decide +kernel⟩
theorem dX11_out_0 : decode cX11_out 0 = .ok (.aload_n 0, 1) := by decide +kernel
theorem dX11_out_1 : decode cX11_out 1 = .ok (.getfield 18, 3) := by decide +kernel
theorem dX11_out_4 : decode cX11_out 4 = .ok (.iload_n 1, 1) := by decide +kernel
theorem dX11_out_5 : decode cX11_out 5 = .ok (.invokevirtual 179, 3) := by decide +kernel
theorem dX11_out_8 : decode cX11_out 8 = .ok (.ireturn, 1) := by decide +kernel
set_option maxRecDepth 20000 in
theorem moX11_out {o : Int32 × Hp} {h : Hp} {x0 : Nat} {x1 : Int32} (hE : sX11_out h x0 x1 = some o) : Le h o.2 := by
  obtain ⟨r_1, er_1, hE⟩ := cl_e hE
  obtain ⟨o_2, eo_2, hE⟩ := cl_e hE
  refine (moX9_byteAt eo_2).tr ?_
  exact le_some2 hE
set_option maxRecDepth 20000 in
theorem ct_X11_out (l : Launch) (X : Ec) {h : Hp} {x0 : Nat} {x1 : Int32} {o : Int32 × Hp} (k_x0 : hK h x0 = 11) (hE : sX11_out h x0 x1 = some o) : MetI l yX11_out cX11_out 2 (some .int) 1 21 X [.ref x0, .int x1] h o := by
  refine x_met (by decide) (Nat.le_of_ble_eq_true rfl) ?_
  intro p e s m below meth c ls C hl hW hZ
  have hl : lv_has ls 2 [(0, .ref x0), (1, .int x1)] := hl
  have hkm : Km h h := Km.rf h
  refine lv_aload_n C.1 C.2.1 dX11_out_0 rfl (lv_at hl 0 rfl) ?_
  obtain ⟨r_1, er_1, hE⟩ := cl_e hE
  refine gf_X11_18 C hW k_x0 er_1 dX11_out_1 (fun k_r_1 => ?_)
  refine lv_iload_n C.1 C.2.1 dX11_out_4 rfl (lv_at hl 1 rfl) ?_
  obtain ⟨o_2, eo_2, hE⟩ := cl_e hE
  refine x_kI (o := o_2) (z_runV (As := [.int x1]) (rest := []) C (ct_X9_byteAt l X k_r_1 eo_2) cw_X11_179 hW hZ k_r_1 (by decide) rfl rfl rfl hl.1 (Nat.le_of_ble_eq_true rfl) rfl dX11_out_5 ⟨Nat.le_of_ble_eq_true rfl, Nat.le_of_ble_eq_true rfl⟩ ⟨Nat.le_refl _, Nat.le_refl _⟩) hZ (fun _ _ hW km hZ => ?_)
  replace hkm := hkm.tr km
  replace k_x0 := km.at k_x0 (by decide)
  exact x_iret C rfl rfl hW hZ hkm hE dX11_out_8
theorem dX11_freePlace_0 : decode cX11_freePlace 0 = .ok (.iconst 0, 1) := by decide +kernel
theorem dX11_freePlace_1 : decode cX11_freePlace 1 = .ok (.istore_n 1, 1) := by decide +kernel
theorem dX11_freePlace_2 : decode cX11_freePlace 2 = .ok (.iload_n 1, 1) := by decide +kernel
theorem dX11_freePlace_3 : decode cX11_freePlace 3 = .ok (.bipush 60, 2) := by decide +kernel
theorem dX11_freePlace_5 : decode cX11_freePlace 5 = .ok (.if_icmp .ge 20, 3) := by decide +kernel
theorem dX11_freePlace_8 : decode cX11_freePlace 8 = .ok (.aload_n 0, 1) := by decide +kernel
theorem dX11_freePlace_9 : decode cX11_freePlace 9 = .ok (.getfield 107, 3) := by decide +kernel
theorem dX11_freePlace_12 : decode cX11_freePlace 12 = .ok (.iload_n 1, 1) := by decide +kernel
theorem dX11_freePlace_13 : decode cX11_freePlace 13 = .ok (.baload, 1) := by decide +kernel
theorem dX11_freePlace_14 : decode cX11_freePlace 14 = .ok (.ifCond .ne 5, 3) := by decide +kernel
theorem dX11_freePlace_17 : decode cX11_freePlace 17 = .ok (.iload_n 1, 1) := by decide +kernel
theorem dX11_freePlace_18 : decode cX11_freePlace 18 = .ok (.ireturn, 1) := by decide +kernel
theorem dX11_freePlace_19 : decode cX11_freePlace 19 = .ok (.iinc 1 1, 3) := by decide +kernel
theorem dX11_freePlace_22 : decode cX11_freePlace 22 = .ok (.goto (-20), 3) := by decide +kernel
theorem dX11_freePlace_25 : decode cX11_freePlace 25 = .ok (.iconst (-1), 1) := by decide +kernel
theorem dX11_freePlace_26 : decode cX11_freePlace 26 = .ok (.ireturn, 1) := by decide +kernel
set_option maxRecDepth 20000 in
theorem moX11_freePlace_2 {o : Int32 × Hp} {F : Nat} : ∀ (f : Nat) {h : Hp} {x0 : Nat} {x1 : Int32}, sX11_freePlace_2 F f h x0 x1 = some o → Le h o.2 := by
  intro f
  induction f with
  | zero =>
    intro h x0 x1 hE
    rw [sX11_freePlace_2] at hE
    cases hE
  | succ f ih =>
    intro h x0 x1 hE
    rw [sX11_freePlace_2] at hE
    have mk_2 : ∀ (h : Hp) (x0 : Nat) (x1 : Int32), sX11_freePlace_2 F f h x0 x1 = some o → Le h o.2 := fun h x0 x1 hE => ih hE
    rcases br_e hE with ⟨_, hE⟩ | ⟨_, hE⟩
    · exact le_some2 hE
    · obtain ⟨r_2, er_2, hE⟩ := cl_e hE
      obtain ⟨g_3, hE⟩ := gd_e hE
      rcases br_e hE with ⟨_, hE⟩ | ⟨_, hE⟩
      · exact le_some2 hE
      · obtain ⟨v_5, ev_5, hE⟩ := nm_e2 hE
        exact mk_2 _ _ _ hE
set_option maxRecDepth 20000 in
theorem moX11_freePlace {o : Int32 × Hp} {F : Nat} {h : Hp} {x0 : Nat} (hE : sX11_freePlace F h x0 = some o) : Le h o.2 := by
  exact moX11_freePlace_2 _ hE
set_option maxRecDepth 20000 in
theorem bX11_freePlace_2 {p : Program} {l : Launch} {e : Env} {s : State} {m : MethodId} {args : Array Value} {below : List Frame} {meth : Method} {c : Code} {X : Ec} {h0 : Hp} {o : Int32 × Hp} {F : Nat} (C : Cx X p s m args meth c RX11 cX11_freePlace 2 (some .int) "freePlace") : ∀ (f : Nat) {h : Hp} {x0 : Nat} {x1 : Int32} {H : Heap} {locs : List Loc} (k_x0 : hK h x0 = 11), Km h0 h → Wx X h H → va_S (aA (eB X)) s.heap H locs → ∀ (ls : Array Slot), lv_has ls 2 [(0, .ref x0), (1, .int x1)] → sX11_freePlace_2 F f h x0 x1 = some o → W p l e (rm 0 0) s m args below meth c H locs 0 0 (MQ below (QI X h0 o.1 o.2) args s 0 0 (aA (eB X))) (F0 m 2 ls []) := by
  intro f
  induction f with
  | zero =>
    intro h x0 x1 H locs k_x0 hkm hW hZ ls hl hE
    rw [sX11_freePlace_2] at hE
    cases hE
  | succ f ih =>
    intro h x0 x1 H locs k_x0 hkm hW hZ ls hl hE
    rw [sX11_freePlace_2] at hE
    have hk_2 : ∀ (h : Hp) (x0 : Nat) (x1 : Int32) (H : Heap) (locs : List Loc), hK h x0 = 11 → Km h0 h → Wx X h H → va_S (aA (eB X)) s.heap H locs → ∀ (ls : Array Slot), lv_has ls 2 [(0, .ref x0), (1, .int x1)] → sX11_freePlace_2 F f h x0 x1 = some o → W p l e (rm 0 0) s m args below meth c H locs 0 0 (MQ below (QI X h0 o.1 o.2) args s 0 0 (aA (eB X))) (F0 m 2 ls []) := fun h x0 x1 H locs k_x0 a b c ls hl hE => ih k_x0 a b c ls hl hE
    refine lv_iload_n C.1 C.2.1 dX11_freePlace_2 rfl (lv_at hl 1 rfl) ?_
    refine lv_bipush (v := (60 : Int32)) C.1 C.2.1 dX11_freePlace_3 (by decide) ?_
    refine lv_icmp_ge (tgt := 25) C.1 C.2.1 dX11_freePlace_5 (by decide) (fun c_1 => ?_) (fun c_1 => ?_)
    · have hE := br_p hE c_1
      refine lv_iconst (v := (-1 : Int32)) C.1 C.2.1 dX11_freePlace_25 (by decide) ?_
      exact x_iret C rfl rfl hW hZ hkm hE dX11_freePlace_26
    · have hE := br_n hE c_1
      refine lv_aload_n C.1 C.2.1 dX11_freePlace_8 rfl (lv_at hl 0 rfl) ?_
      obtain ⟨r_2, er_2, hE⟩ := cl_e hE
      refine gf_X11_107 C hW k_x0 er_2 dX11_freePlace_9 (fun k_r_2 => ?_)
      refine lv_iload_n C.1 C.2.1 dX11_freePlace_12 rfl (lv_at hl 1 rfl) ?_
      obtain ⟨g_3, hE⟩ := gd_e hE
      refine y_zald C hW k_r_2 g_3 dX11_freePlace_13 ?_
      refine lv_if_ne (tgt := 19) C.1 C.2.1 dX11_freePlace_14 (by decide) (fun c_4 => ?_) (fun c_4 => ?_)
      · have hE := br_n hE c_4
        obtain ⟨v_5, ev_5, hE⟩ := nm_e2 hE
        refine lv_iinc (v := v_5) (lv' := [(1, .int v_5), (0, .ref x0)]) C.1 C.2.1 dX11_freePlace_19 hl (k := 1) rfl (by rw [ev_5]; rfl) (by decide) rfl (fun ls hl => ?_)
        refine lv_goto (tgt := 2) C.1 C.2.1 dX11_freePlace_22 (by decide) ?_
        exact hk_2 _ _ _ _ _ k_x0 hkm hW hZ _ (lv_sub hl [1, 0] rfl) hE
      · have hE := br_p hE c_4
        refine lv_iload_n C.1 C.2.1 dX11_freePlace_17 rfl (lv_at hl 1 rfl) ?_
        exact x_iret C rfl rfl hW hZ hkm hE dX11_freePlace_18
set_option maxRecDepth 20000 in
theorem ct_X11_freePlace (l : Launch) (X : Ec) (F : Nat) {h : Hp} {x0 : Nat} {o : Int32 × Hp} (k_x0 : hK h x0 = 11) (hE : sX11_freePlace F h x0 = some o) : MetI l yX11_freePlace cX11_freePlace 2 (some .int) 0 0 X [.ref x0] h o := by
  refine x_met (by decide) (Nat.le_of_ble_eq_true rfl) ?_
  intro p e s m below meth c ls C hl hW hZ
  have hl : lv_has ls 2 [(0, .ref x0)] := hl
  have hkm : Km h h := Km.rf h
  refine lv_iconst (v := (0 : Int32)) C.1 C.2.1 dX11_freePlace_0 (by decide) ?_
  refine lv_istore_n (lv' := [(1, .int (0 : Int32)), (0, .ref x0)]) C.1 C.2.1 dX11_freePlace_1 rfl hl (by decide) rfl (fun ls hl => ?_)
  exact bX11_freePlace_2 C F k_x0 hkm hW hZ _ (lv_sub hl [1, 0] rfl) hE
set_option maxRecDepth 100000 in
theorem ms_30 : Cond.selects RX11 yX11_freePlace yX11_freePlace ∈ W0 := w0_in (List.mem_append_left _ (List.mem_of_getElem? (i := 30) rfl)) rfl
set_option maxRecDepth 100000 in
theorem m_930 : Cond.methodLink RX11 183 yX11_freePlace ∈ W0 := w0_in (List.mem_append_right _ (List.mem_of_getElem? (i := 930) rfl)) rfl
set_option maxRecDepth 100000 in
theorem m_932 : Cond.instanceMethod yX11_freePlace ∈ W0 := w0_in (List.mem_append_right _ (List.mem_of_getElem? (i := 932) rfl)) rfl
set_option maxRecDepth 100000 in
theorem m_933 : Cond.code yX11_freePlace cX11_freePlace 2 (some .int) ∈ W0 := w0_in (List.mem_append_right _ (List.mem_of_getElem? (i := 933) rfl)) rfl
set_option maxRecDepth 100000 in
theorem m_934 : Cond.methodLink RX11 186 yX7_read ∈ W0 := w0_in (List.mem_append_right _ (List.mem_of_getElem? (i := 934) rfl)) rfl
set_option maxRecDepth 100000 in
theorem m_935 : Cond.instanceMethod yX7_read ∈ W0 := w0_in (List.mem_append_right _ (List.mem_of_getElem? (i := 935) rfl)) rfl
set_option maxRecDepth 100000 in
theorem m_936 : Cond.selects RX7 yX7_read yX7_read ∈ W0 := w0_in (List.mem_append_right _ (List.mem_of_getElem? (i := 936) rfl)) rfl
set_option maxRecDepth 100000 in
theorem m_937 : Cond.code yX7_read cX7_read 4 (some .int) ∈ W0 := w0_in (List.mem_append_right _ (List.mem_of_getElem? (i := 937) rfl)) rfl
set_option maxRecDepth 100000 in
theorem m_1012 : Cond.methodLink RX11 189 yX5_faultOf ∈ W0 := w0_in (List.mem_append_right _ (List.mem_of_getElem? (i := 1012) rfl)) rfl
section
variable {p : Program} {l : Launch} {e : Env} {R : Room} {s : State} {m : MethodId} {args : Array Value} {below : List Frame} {meth : Method} {c : Code} {H : Heap} {locs : List Loc} {cells slots : Nat} {Q : State → Prop}
variable {cc : ByteArray} {pc : Nat} {ls : Array Slot} {rest : List Value} {X : Ec} {h h1 : Hp} {nL : Nat} {rt : Option FieldType} {mn : String}
theorem gf_X11_59 {a r : Nat} (C : Cx X p s m args meth c RX11 cc nL rt mn) (hW : Wx X h H) (ha : hK h a = 11) (hr : hR h a 7 = some r) (hdg : decode cc pc = .ok (.getfield 59, 3)) (kk : hK h r = 7 → W p l e R s m args below meth c H locs cells slots Q (F0 m (pc + 3) ls (.ref r :: rest))) : W p l e R s m args below meth c H locs cells slots Q (F0 m pc ls (.ref a :: rest)) :=
  y_getr C hW ha i_X11 (by decide) rfl (by decide) m_836 rfl rfl hr hdg kk
end
theorem cw_X11_183 : cwd RX11 183 yX11_freePlace cX11_freePlace 2 (some .int) false 0 := ⟨m_933, m_930, m_1, ⟨m_932, ms_30⟩, by decide, by decide, by decide +kernel⟩
theorem cw_X11_186 : cwd RX11 186 yX7_read cX7_read 4 (some .int) false 2 := ⟨m_937, m_934, m_10, ⟨m_935, m_936⟩, by decide, by decide, by decide +kernel⟩
theorem cw_X11_189 : cwd RX11 189 yX5_faultOf cX5_faultOf 2 (some .int) false 1 := ⟨m_1015, m_1012, m_7, ⟨m_1013, m_1014⟩, by decide, by decide, by decide +kernel⟩
theorem dX11_position_0 : decode cX11_position 0 = .ok (.aload_n 0, 1) := by decide +kernel
theorem dX11_position_1 : decode cX11_position 1 = .ok (.invokevirtual 183, 3) := by decide +kernel
theorem dX11_position_4 : decode cX11_position 4 = .ok (.istore_n 1, 1) := by decide +kernel
theorem dX11_position_5 : decode cX11_position 5 = .ok (.bipush (-104), 2) := by decide +kernel
theorem dX11_position_7 : decode cX11_position 7 = .ok (.istore_n 2, 1) := by decide +kernel
theorem dX11_position_8 : decode cX11_position 8 = .ok (.iload_n 1, 1) := by decide +kernel
theorem dX11_position_9 : decode cX11_position 9 = .ok (.iconst (-1), 1) := by decide +kernel
theorem dX11_position_10 : decode cX11_position 10 = .ok (.if_icmp .eq 94, 3) := by decide +kernel
theorem dX11_position_13 : decode cX11_position 13 = .ok (.aload_n 0, 1) := by decide +kernel
theorem dX11_position_14 : decode cX11_position 14 = .ok (.getfield 103, 3) := by decide +kernel
theorem dX11_position_17 : decode cX11_position 17 = .ok (.iload_n 1, 1) := by decide +kernel
theorem dX11_position_18 : decode cX11_position 18 = .ok (.aaload, 1) := by decide +kernel
theorem dX11_position_19 : decode cX11_position 19 = .ok (.astore_n 3, 1) := by decide +kernel
theorem dX11_position_20 : decode cX11_position 20 = .ok (.aload_n 0, 1) := by decide +kernel
theorem dX11_position_21 : decode cX11_position 21 = .ok (.getfield 59, 3) := by decide +kernel
theorem dX11_position_24 : decode cX11_position 24 = .ok (.aload_n 0, 1) := by decide +kernel
theorem dX11_position_25 : decode cX11_position 25 = .ok (.getfield 14, 3) := by decide +kernel
theorem dX11_position_28 : decode cX11_position 28 = .ok (.aload_n 3, 1) := by decide +kernel
theorem dX11_position_29 : decode cX11_position 29 = .ok (.invokevirtual 186, 3) := by decide +kernel
theorem dX11_position_32 : decode cX11_position 32 = .ok (.istore 4, 2) := by decide +kernel
theorem dX11_position_34 : decode cX11_position 34 = .ok (.iload 4, 2) := by decide +kernel
theorem dX11_position_36 : decode cX11_position 36 = .ok (.iconst (-1), 1) := by decide +kernel
theorem dX11_position_37 : decode cX11_position 37 = .ok (.if_icmp .ne 14, 3) := by decide +kernel
theorem dX11_position_40 : decode cX11_position 40 = .ok (.aload_n 0, 1) := by decide +kernel
theorem dX11_position_41 : decode cX11_position 41 = .ok (.getfield 50, 3) := by decide +kernel
theorem dX11_position_44 : decode cX11_position 44 = .ok (.aload_n 3, 1) := by decide +kernel
theorem dX11_position_45 : decode cX11_position 45 = .ok (.invokevirtual 189, 3) := by decide +kernel
theorem dX11_position_48 : decode cX11_position 48 = .ok (.goto 4, 3) := by decide +kernel
theorem dX11_position_51 : decode cX11_position 51 = .ok (.iconst 0, 1) := by decide +kernel
theorem dX11_position_52 : decode cX11_position 52 = .ok (.istore 5, 2) := by decide +kernel
theorem dX11_position_54 : decode cX11_position 54 = .ok (.aload_n 0, 1) := by decide +kernel
theorem dX11_position_55 : decode cX11_position 55 = .ok (.getfield 107, 3) := by decide +kernel
theorem dX11_position_58 : decode cX11_position 58 = .ok (.iload_n 1, 1) := by decide +kernel
theorem dX11_position_59 : decode cX11_position 59 = .ok (.iload 4, 2) := by decide +kernel
theorem dX11_position_61 : decode cX11_position 61 = .ok (.iconst (-1), 1) := by decide +kernel
theorem dX11_position_62 : decode cX11_position 62 = .ok (.if_icmp .ne 12, 3) := by decide +kernel
theorem dX11_position_65 : decode cX11_position 65 = .ok (.iload 5, 2) := by decide +kernel
theorem dX11_position_67 : decode cX11_position 67 = .ok (.ifCond .ne 7, 3) := by decide +kernel
theorem dX11_position_70 : decode cX11_position 70 = .ok (.iconst 1, 1) := by decide +kernel
theorem dX11_position_71 : decode cX11_position 71 = .ok (.goto 4, 3) := by decide +kernel
theorem dX11_position_74 : decode cX11_position 74 = .ok (.iconst 0, 1) := by decide +kernel
theorem dX11_position_75 : decode cX11_position 75 = .ok (.bastore, 1) := by decide +kernel
theorem dX11_position_76 : decode cX11_position 76 = .ok (.iload 4, 2) := by decide +kernel
theorem dX11_position_78 : decode cX11_position 78 = .ok (.iconst (-1), 1) := by decide +kernel
theorem dX11_position_79 : decode cX11_position 79 = .ok (.if_icmp .eq 12, 3) := by decide +kernel
theorem dX11_position_82 : decode cX11_position 82 = .ok (.sipush (-200), 3) := by decide +kernel
theorem dX11_position_85 : decode cX11_position 85 = .ok (.iload 4, 2) := by decide +kernel
theorem dX11_position_87 : decode cX11_position 87 = .ok (.isub, 1) := by decide +kernel
theorem dX11_position_88 : decode cX11_position 88 = .ok (.goto 15, 3) := by decide +kernel
theorem dX11_position_91 : decode cX11_position 91 = .ok (.iload 5, 2) := by decide +kernel
theorem dX11_position_93 : decode cX11_position 93 = .ok (.ifCond .eq 9, 3) := by decide +kernel
theorem dX11_position_96 : decode cX11_position 96 = .ok (.iload 5, 2) := by decide +kernel
theorem dX11_position_98 : decode cX11_position 98 = .ok (.ineg, 1) := by decide +kernel
theorem dX11_position_99 : decode cX11_position 99 = .ok (.goto 4, 3) := by decide +kernel
theorem dX11_position_102 : decode cX11_position 102 = .ok (.iload_n 1, 1) := by decide +kernel
theorem dX11_position_103 : decode cX11_position 103 = .ok (.istore_n 2, 1) := by decide +kernel
theorem dX11_position_104 : decode cX11_position 104 = .ok (.aload_n 0, 1) := by decide +kernel
theorem dX11_position_105 : decode cX11_position 105 = .ok (.getfield 14, 3) := by decide +kernel
theorem dX11_position_108 : decode cX11_position 108 = .ok (.invokevirtual 144, 3) := by decide +kernel
theorem dX11_position_111 : decode cX11_position 111 = .ok (.iload_n 2, 1) := by decide +kernel
theorem dX11_position_112 : decode cX11_position 112 = .ok (.ireturn, 1) := by decide +kernel
set_option maxRecDepth 20000 in
theorem moX11_position_104 {o : Int32 × Hp} {F : Nat} {h : Hp} {x0 : Nat} {x2 : Int32} (hE : sX11_position_104 F h x0 x2 = some o) : Le h o.2 := by
  obtain ⟨r_1, er_1, hE⟩ := cl_e hE
  obtain ⟨o_2, eo_2, hE⟩ := cl_e hE
  refine (moX9_clear eo_2).tr ?_
  exact le_some2 hE
set_option maxRecDepth 20000 in
theorem moX11_position_103 {o : Int32 × Hp} {F : Nat} {h : Hp} {x0 : Nat} {t0 : Int32} (hE : sX11_position_103 F h x0 t0 = some o) : Le h o.2 := by
  exact moX11_position_104 hE
set_option maxRecDepth 20000 in
theorem moX11_position_75 {o : Int32 × Hp} {F : Nat} {h : Hp} {x0 : Nat} {x1 : Int32} {x4 : Int32} {x5 : Int32} {t0 : Int32} {t1 : Int32} {t2 : Nat} (hE : sX11_position_75 F h x0 x1 x4 x5 t0 t1 t2 = some o) : Le h o.2 := by
  obtain ⟨g_1, hE⟩ := gd_e hE
  obtain ⟨h_2, eh_2, hE⟩ := nm_e2 hE
  refine (le_I eh_2).tr ?_
  rcases br_e hE with ⟨_, hE⟩ | ⟨_, hE⟩
  · rcases br_e hE with ⟨_, hE⟩ | ⟨_, hE⟩
    · exact moX11_position_103 hE
    · exact moX11_position_103 hE
  · exact moX11_position_103 hE
set_option maxRecDepth 20000 in
theorem moX11_position_74 {o : Int32 × Hp} {F : Nat} {h : Hp} {x0 : Nat} {x1 : Int32} {x4 : Int32} {x5 : Int32} {t0 : Int32} {t1 : Nat} (hE : sX11_position_74 F h x0 x1 x4 x5 t0 t1 = some o) : Le h o.2 := by
  exact moX11_position_75 hE
set_option maxRecDepth 20000 in
theorem moX11_position_52 {o : Int32 × Hp} {F : Nat} {h : Hp} {x0 : Nat} {x1 : Int32} {x4 : Int32} {t0 : Int32} (hE : sX11_position_52 F h x0 x1 x4 t0 = some o) : Le h o.2 := by
  obtain ⟨r_1, er_1, hE⟩ := cl_e hE
  rcases br_e hE with ⟨_, hE⟩ | ⟨_, hE⟩
  · rcases br_e hE with ⟨_, hE⟩ | ⟨_, hE⟩
    · exact moX11_position_75 hE
    · exact moX11_position_74 hE
  · exact moX11_position_74 hE
set_option maxRecDepth 20000 in
theorem moX11_position {o : Int32 × Hp} {F : Nat} {h : Hp} {x0 : Nat} (hE : sX11_position F h x0 = some o) : Le h o.2 := by
  obtain ⟨o_1, eo_1, hE⟩ := cl_e hE
  refine (moX11_freePlace eo_1).tr ?_
  rcases br_e hE with ⟨_, hE⟩ | ⟨_, hE⟩
  · exact moX11_position_104 hE
  · obtain ⟨r_3, er_3, hE⟩ := cl_e hE
    obtain ⟨g_4, hE⟩ := gd_e hE
    obtain ⟨r_5, er_5, hE⟩ := cl_e hE
    obtain ⟨r_6, er_6, hE⟩ := cl_e hE
    obtain ⟨r_7, er_7, hE⟩ := cl_e hE
    obtain ⟨o_8, eo_8, hE⟩ := cl_e hE
    refine (moX7_read eo_8).tr ?_
    rcases br_e hE with ⟨_, hE⟩ | ⟨_, hE⟩
    · obtain ⟨r_10, er_10, hE⟩ := cl_e hE
      obtain ⟨o_11, eo_11, hE⟩ := cl_e hE
      refine (moX5_faultOf eo_11).tr ?_
      exact moX11_position_52 hE
    · exact moX11_position_52 hE
set_option maxRecDepth 20000 in
theorem bX11_position_104 {p : Program} {l : Launch} {e : Env} {s : State} {m : MethodId} {args : Array Value} {below : List Frame} {meth : Method} {c : Code} {X : Ec} {h0 : Hp} {o : Int32 × Hp} {F : Nat} (C : Cx X p s m args meth c RX11 cX11_position 6 (some .int) "position") {h : Hp} {x0 : Nat} {x2 : Int32} {H : Heap} {locs : List Loc} (k_x0 : hK h x0 = 11) (hkm : Km h0 h) (hW : Wx X h H) (hZ : va_S (aA (eB X)) s.heap H locs) (ls : Array Slot) (hl : lv_has ls 6 [(0, .ref x0), (2, .int x2)]) (hE : sX11_position_104 F h x0 x2 = some o) : W p l e (rm 4 94) s m args below meth c H locs 0 0 (MQ below (QI X h0 o.1 o.2) args s 0 0 (aA (eB X))) (F0 m 104 ls []) := by
  refine lv_aload_n C.1 C.2.1 dX11_position_104 rfl (lv_at hl 0 rfl) ?_
  obtain ⟨r_1, er_1, hE⟩ := cl_e hE
  refine gf_X11_14 C hW k_x0 er_1 dX11_position_105 (fun k_r_1 => ?_)
  obtain ⟨o_2, eo_2, hE⟩ := cl_e hE
  refine x_kV (o := o_2) (z_runV (As := []) (rest := []) C (ct_X9_clear l X k_r_1 eo_2) cw_X11_144 hW hZ k_r_1 (by decide) rfl rfl rfl hl.1 (Nat.le_of_ble_eq_true rfl) rfl dX11_position_108 ⟨Nat.le_of_ble_eq_true rfl, Nat.le_of_ble_eq_true rfl⟩ ⟨Nat.le_refl _, Nat.le_refl _⟩) hZ (fun _ _ hW km hZ => ?_)
  replace hkm := hkm.tr km
  replace k_x0 := km.at k_x0 (by decide)
  refine lv_iload_n C.1 C.2.1 dX11_position_111 rfl (lv_at hl 1 rfl) ?_
  exact x_iret C rfl rfl hW hZ hkm hE dX11_position_112
set_option maxRecDepth 20000 in
theorem bX11_position_103 {p : Program} {l : Launch} {e : Env} {s : State} {m : MethodId} {args : Array Value} {below : List Frame} {meth : Method} {c : Code} {X : Ec} {h0 : Hp} {o : Int32 × Hp} {F : Nat} (C : Cx X p s m args meth c RX11 cX11_position 6 (some .int) "position") {h : Hp} {x0 : Nat} {t0 : Int32} {H : Heap} {locs : List Loc} (k_x0 : hK h x0 = 11) (hkm : Km h0 h) (hW : Wx X h H) (hZ : va_S (aA (eB X)) s.heap H locs) (ls : Array Slot) (hl : lv_has ls 6 [(0, .ref x0)]) (hE : sX11_position_103 F h x0 t0 = some o) : W p l e (rm 4 94) s m args below meth c H locs 0 0 (MQ below (QI X h0 o.1 o.2) args s 0 0 (aA (eB X))) (F0 m 103 ls [.int t0]) := by
  refine lv_istore_n (lv' := [(2, .int t0), (0, .ref x0)]) C.1 C.2.1 dX11_position_103 rfl hl (by decide) rfl (fun ls hl => ?_)
  exact bX11_position_104 C k_x0 hkm hW hZ _ (lv_sub hl [1, 0] rfl) hE
set_option maxRecDepth 20000 in
theorem bX11_position_75 {p : Program} {l : Launch} {e : Env} {s : State} {m : MethodId} {args : Array Value} {below : List Frame} {meth : Method} {c : Code} {X : Ec} {h0 : Hp} {o : Int32 × Hp} {F : Nat} (C : Cx X p s m args meth c RX11 cX11_position 6 (some .int) "position") {h : Hp} {x0 : Nat} {x1 : Int32} {x4 : Int32} {x5 : Int32} {t0 : Int32} {t1 : Int32} {t2 : Nat} {H : Heap} {locs : List Loc} (k_x0 : hK h x0 = 11) (k_t2 : hK h t2 = 19) (hkm : Km h0 h) (hW : Wx X h H) (hZ : va_S (aA (eB X)) s.heap H locs) (ls : Array Slot) (hl : lv_has ls 6 [(0, .ref x0), (1, .int x1), (4, .int x4), (5, .int x5)]) (hE : sX11_position_75 F h x0 x1 x4 x5 t0 t1 t2 = some o) : W p l e (rm 4 94) s m args below meth c H locs 0 0 (MQ below (QI X h0 o.1 o.2) args s 0 0 (aA (eB X))) (F0 m 75 ls [.int t0, .int t1, .ref t2]) := by
  obtain ⟨g_1, hE⟩ := gd_e hE
  obtain ⟨h_2, eh_2, hE⟩ := nm_e2 hE
  refine y_zast C hW hZ k_t2 g_1 eh_2 dX11_position_75 (fun _ _ hW km hZ => ?_)
  replace hkm := hkm.tr km
  replace k_x0 := km.at k_x0 (by decide)
  refine lv_iload C.1 C.2.1 dX11_position_76 (lv_at hl 2 rfl) ?_
  refine lv_iconst (v := (-1 : Int32)) C.1 C.2.1 dX11_position_78 (by decide) ?_
  refine lv_icmp_eq (tgt := 91) C.1 C.2.1 dX11_position_79 (by decide) (fun c_3 => ?_) (fun c_3 => ?_)
  · have hE := br_p hE c_3
    refine lv_iload C.1 C.2.1 dX11_position_91 (lv_at hl 3 rfl) ?_
    refine lv_if_eq (tgt := 102) C.1 C.2.1 dX11_position_93 (by decide) (fun c_4 => ?_) (fun c_4 => ?_)
    · have hE := br_p hE c_4
      refine lv_iload_n C.1 C.2.1 dX11_position_102 rfl (lv_at hl 1 rfl) ?_
      exact bX11_position_103 C k_x0 hkm hW hZ _ (lv_sub hl [0] rfl) hE
    · have hE := br_n hE c_4
      refine lv_iload C.1 C.2.1 dX11_position_96 (lv_at hl 3 rfl) ?_
      refine lv_ineg C.1 C.2.1 dX11_position_98 ?_
      refine lv_goto (tgt := 103) C.1 C.2.1 dX11_position_99 (by decide) ?_
      exact bX11_position_103 C k_x0 hkm hW hZ _ (lv_sub hl [0] rfl) hE
  · have hE := br_n hE c_3
    refine lv_sipush (v := (-200 : Int32)) C.1 C.2.1 dX11_position_82 (by decide) ?_
    refine lv_iload C.1 C.2.1 dX11_position_85 (lv_at hl 2 rfl) ?_
    refine lv_isub C.1 C.2.1 dX11_position_87 ?_
    refine lv_goto (tgt := 103) C.1 C.2.1 dX11_position_88 (by decide) ?_
    exact bX11_position_103 C k_x0 hkm hW hZ _ (lv_sub hl [0] rfl) hE
set_option maxRecDepth 20000 in
theorem bX11_position_74 {p : Program} {l : Launch} {e : Env} {s : State} {m : MethodId} {args : Array Value} {below : List Frame} {meth : Method} {c : Code} {X : Ec} {h0 : Hp} {o : Int32 × Hp} {F : Nat} (C : Cx X p s m args meth c RX11 cX11_position 6 (some .int) "position") {h : Hp} {x0 : Nat} {x1 : Int32} {x4 : Int32} {x5 : Int32} {t0 : Int32} {t1 : Nat} {H : Heap} {locs : List Loc} (k_x0 : hK h x0 = 11) (k_t1 : hK h t1 = 19) (hkm : Km h0 h) (hW : Wx X h H) (hZ : va_S (aA (eB X)) s.heap H locs) (ls : Array Slot) (hl : lv_has ls 6 [(0, .ref x0), (1, .int x1), (4, .int x4), (5, .int x5)]) (hE : sX11_position_74 F h x0 x1 x4 x5 t0 t1 = some o) : W p l e (rm 4 94) s m args below meth c H locs 0 0 (MQ below (QI X h0 o.1 o.2) args s 0 0 (aA (eB X))) (F0 m 74 ls [.int t0, .ref t1]) := by
  refine lv_iconst (v := (0 : Int32)) C.1 C.2.1 dX11_position_74 (by decide) ?_
  exact bX11_position_75 C k_x0 k_t1 hkm hW hZ _ (lv_sub hl [0, 1, 2, 3] rfl) hE
set_option maxRecDepth 20000 in
theorem bX11_position_52 {p : Program} {l : Launch} {e : Env} {s : State} {m : MethodId} {args : Array Value} {below : List Frame} {meth : Method} {c : Code} {X : Ec} {h0 : Hp} {o : Int32 × Hp} {F : Nat} (C : Cx X p s m args meth c RX11 cX11_position 6 (some .int) "position") {h : Hp} {x0 : Nat} {x1 : Int32} {x4 : Int32} {t0 : Int32} {H : Heap} {locs : List Loc} (k_x0 : hK h x0 = 11) (hkm : Km h0 h) (hW : Wx X h H) (hZ : va_S (aA (eB X)) s.heap H locs) (ls : Array Slot) (hl : lv_has ls 6 [(0, .ref x0), (1, .int x1), (4, .int x4)]) (hE : sX11_position_52 F h x0 x1 x4 t0 = some o) : W p l e (rm 4 94) s m args below meth c H locs 0 0 (MQ below (QI X h0 o.1 o.2) args s 0 0 (aA (eB X))) (F0 m 52 ls [.int t0]) := by
  refine lv_istore (lv' := [(5, .int t0), (0, .ref x0), (1, .int x1), (4, .int x4)]) C.1 C.2.1 dX11_position_52 hl (by decide) rfl (fun ls hl => ?_)
  refine lv_aload_n C.1 C.2.1 dX11_position_54 rfl (lv_at hl 1 rfl) ?_
  obtain ⟨r_1, er_1, hE⟩ := cl_e hE
  refine gf_X11_107 C hW k_x0 er_1 dX11_position_55 (fun k_r_1 => ?_)
  refine lv_iload_n C.1 C.2.1 dX11_position_58 rfl (lv_at hl 2 rfl) ?_
  refine lv_iload C.1 C.2.1 dX11_position_59 (lv_at hl 3 rfl) ?_
  refine lv_iconst (v := (-1 : Int32)) C.1 C.2.1 dX11_position_61 (by decide) ?_
  refine lv_icmp_ne (tgt := 74) C.1 C.2.1 dX11_position_62 (by decide) (fun c_2 => ?_) (fun c_2 => ?_)
  · have hE := br_n hE c_2
    exact bX11_position_74 C k_x0 k_r_1 hkm hW hZ _ (lv_sub hl [1, 2, 3, 0] rfl) hE
  · have hE := br_p hE c_2
    refine lv_iload C.1 C.2.1 dX11_position_65 (lv_at hl 0 rfl) ?_
    refine lv_if_ne (tgt := 74) C.1 C.2.1 dX11_position_67 (by decide) (fun c_3 => ?_) (fun c_3 => ?_)
    · have hE := br_n hE c_3
      exact bX11_position_74 C k_x0 k_r_1 hkm hW hZ _ (lv_sub hl [1, 2, 3, 0] rfl) hE
    · have hE := br_p hE c_3
      refine lv_iconst (v := (1 : Int32)) C.1 C.2.1 dX11_position_70 (by decide) ?_
      refine lv_goto (tgt := 75) C.1 C.2.1 dX11_position_71 (by decide) ?_
      exact bX11_position_75 C k_x0 k_r_1 hkm hW hZ _ (lv_sub hl [1, 2, 3, 0] rfl) hE
set_option maxRecDepth 20000 in
theorem ct_X11_position (l : Launch) (X : Ec) (F : Nat) {h : Hp} {x0 : Nat} {o : Int32 × Hp} (k_x0 : hK h x0 = 11) (hE : sX11_position F h x0 = some o) : MetI l yX11_position cX11_position 6 (some .int) 4 94 X [.ref x0] h o := by
  refine x_met (by decide) (Nat.le_of_ble_eq_true rfl) ?_
  intro p e s m below meth c ls C hl hW hZ
  have hl : lv_has ls 6 [(0, .ref x0)] := hl
  have hkm : Km h h := Km.rf h
  refine lv_aload_n C.1 C.2.1 dX11_position_0 rfl (lv_at hl 0 rfl) ?_
  obtain ⟨o_1, eo_1, hE⟩ := cl_e hE
  refine x_kI (o := o_1) (z_runV (As := []) (rest := []) C (ct_X11_freePlace l X F k_x0 eo_1) cw_X11_183 hW hZ k_x0 (by decide) rfl rfl rfl hl.1 (Nat.le_of_ble_eq_true rfl) rfl dX11_position_1 ⟨Nat.le_of_ble_eq_true rfl, Nat.le_of_ble_eq_true rfl⟩ ⟨Nat.le_refl _, Nat.le_refl _⟩) hZ (fun _ _ hW km hZ => ?_)
  replace hkm := hkm.tr km
  replace k_x0 := km.at k_x0 (by decide)
  refine lv_istore_n (lv' := [(1, .int o_1.1), (0, .ref x0)]) C.1 C.2.1 dX11_position_4 rfl hl (by decide) rfl (fun ls hl => ?_)
  refine lv_bipush (v := (-104 : Int32)) C.1 C.2.1 dX11_position_5 (by decide) ?_
  refine lv_istore_n (lv' := [(2, .int (-104 : Int32)), (1, .int o_1.1), (0, .ref x0)]) C.1 C.2.1 dX11_position_7 rfl hl (by decide) rfl (fun ls hl => ?_)
  refine lv_iload_n C.1 C.2.1 dX11_position_8 rfl (lv_at hl 1 rfl) ?_
  refine lv_iconst (v := (-1 : Int32)) C.1 C.2.1 dX11_position_9 (by decide) ?_
  refine lv_icmp_eq (tgt := 104) C.1 C.2.1 dX11_position_10 (by decide) (fun c_2 => ?_) (fun c_2 => ?_)
  · have hE := br_p hE c_2
    exact bX11_position_104 C k_x0 hkm hW hZ _ (lv_sub hl [2, 0] rfl) hE
  · have hE := br_n hE c_2
    refine lv_aload_n C.1 C.2.1 dX11_position_13 rfl (lv_at hl 2 rfl) ?_
    obtain ⟨r_3, er_3, hE⟩ := cl_e hE
    refine gf_X11_103 C hW k_x0 er_3 dX11_position_14 (fun k_r_3 => ?_)
    refine lv_iload_n C.1 C.2.1 dX11_position_17 rfl (lv_at hl 1 rfl) ?_
    obtain ⟨g_4, hE⟩ := gd_e hE
    obtain ⟨r_5, er_5, hE⟩ := cl_e hE
    refine y_aald (t0 := 4) C hW k_r_3 (by decide) (by decide) rfl rfl rfl (fun _ => rfl) g_4 er_5 dX11_position_18 (fun k_r_5 => ?_)
    refine lv_astore_n (lv' := [(3, .ref r_5), (2, .int (-104 : Int32)), (1, .int o_1.1), (0, .ref x0)]) C.1 C.2.1 dX11_position_19 rfl hl (by decide) rfl (fun ls hl => ?_)
    refine lv_aload_n C.1 C.2.1 dX11_position_20 rfl (lv_at hl 3 rfl) ?_
    obtain ⟨r_6, er_6, hE⟩ := cl_e hE
    refine gf_X11_59 C hW k_x0 er_6 dX11_position_21 (fun k_r_6 => ?_)
    refine lv_aload_n C.1 C.2.1 dX11_position_24 rfl (lv_at hl 3 rfl) ?_
    obtain ⟨r_7, er_7, hE⟩ := cl_e hE
    refine gf_X11_14 C hW k_x0 er_7 dX11_position_25 (fun k_r_7 => ?_)
    refine lv_aload_n C.1 C.2.1 dX11_position_28 rfl (lv_at hl 0 rfl) ?_
    obtain ⟨o_8, eo_8, hE⟩ := cl_e hE
    refine x_kI (o := o_8) (z_runV (As := [.ref r_7, .ref r_5]) (rest := []) C (ct_X7_read l X F k_r_6 k_r_7 k_r_5 eo_8) cw_X11_186 hW hZ k_r_6 (by decide) rfl rfl rfl hl.1 (Nat.le_of_ble_eq_true rfl) rfl dX11_position_29 ⟨Nat.le_of_ble_eq_true rfl, Nat.le_of_ble_eq_true rfl⟩ ⟨Nat.le_refl _, Nat.le_refl _⟩) hZ (fun _ _ hW km hZ => ?_)
    replace hkm := hkm.tr km
    replace k_r_5 := km.at k_r_5 (by decide)
    replace k_x0 := km.at k_x0 (by decide)
    refine lv_istore (lv' := [(4, .int o_8.1), (3, .ref r_5), (2, .int (-104 : Int32)), (1, .int o_1.1), (0, .ref x0)]) C.1 C.2.1 dX11_position_32 hl (by decide) rfl (fun ls hl => ?_)
    refine lv_iload C.1 C.2.1 dX11_position_34 (lv_at hl 0 rfl) ?_
    refine lv_iconst (v := (-1 : Int32)) C.1 C.2.1 dX11_position_36 (by decide) ?_
    refine lv_icmp_ne (tgt := 51) C.1 C.2.1 dX11_position_37 (by decide) (fun c_9 => ?_) (fun c_9 => ?_)
    · have hE := br_n hE c_9
      refine lv_iconst (v := (0 : Int32)) C.1 C.2.1 dX11_position_51 (by decide) ?_
      exact bX11_position_52 C k_x0 hkm hW hZ _ (lv_sub hl [4, 3, 0] rfl) hE
    · have hE := br_p hE c_9
      refine lv_aload_n C.1 C.2.1 dX11_position_40 rfl (lv_at hl 4 rfl) ?_
      obtain ⟨r_10, er_10, hE⟩ := cl_e hE
      refine gf_X11_50 C hW k_x0 er_10 dX11_position_41 (fun k_r_10 => ?_)
      refine lv_aload_n C.1 C.2.1 dX11_position_44 rfl (lv_at hl 1 rfl) ?_
      obtain ⟨o_11, eo_11, hE⟩ := cl_e hE
      refine x_kI (o := o_11) (z_runV (As := [.ref r_5]) (rest := []) C (ct_X5_faultOf l X F k_r_10 k_r_5 eo_11) cw_X11_189 hW hZ k_r_10 (by decide) rfl rfl rfl hl.1 (Nat.le_of_ble_eq_true rfl) rfl dX11_position_45 ⟨Nat.le_of_ble_eq_true rfl, Nat.le_of_ble_eq_true rfl⟩ ⟨Nat.le_refl _, Nat.le_refl _⟩) hZ (fun _ _ hW km hZ => ?_)
      replace hkm := hkm.tr km
      replace k_r_5 := km.at k_r_5 (by decide)
      replace k_x0 := km.at k_x0 (by decide)
      refine lv_goto (tgt := 52) C.1 C.2.1 dX11_position_48 (by decide) ?_
      exact bX11_position_52 C k_x0 hkm hW hZ _ (lv_sub hl [4, 3, 0] rfl) hE
theorem dX11_isPlace_0 : decode cX11_isPlace 0 = .ok (.iload_n 1, 1) := by decide +kernel
theorem dX11_isPlace_1 : decode cX11_isPlace 1 = .ok (.ifCond .lt 22, 3) := by decide +kernel
theorem dX11_isPlace_4 : decode cX11_isPlace 4 = .ok (.iload_n 1, 1) := by decide +kernel
theorem dX11_isPlace_5 : decode cX11_isPlace 5 = .ok (.bipush 60, 2) := by decide +kernel
theorem dX11_isPlace_7 : decode cX11_isPlace 7 = .ok (.if_icmp .ge 16, 3) := by decide +kernel
theorem dX11_isPlace_10 : decode cX11_isPlace 10 = .ok (.aload_n 0, 1) := by decide +kernel
theorem dX11_isPlace_11 : decode cX11_isPlace 11 = .ok (.getfield 107, 3) := by decide +kernel
theorem dX11_isPlace_14 : decode cX11_isPlace 14 = .ok (.iload_n 1, 1) := by decide +kernel
theorem dX11_isPlace_15 : decode cX11_isPlace 15 = .ok (.baload, 1) := by decide +kernel
theorem dX11_isPlace_16 : decode cX11_isPlace 16 = .ok (.ifCond .eq 7, 3) := by decide +kernel
theorem dX11_isPlace_19 : decode cX11_isPlace 19 = .ok (.iconst 1, 1) := by decide +kernel
theorem dX11_isPlace_20 : decode cX11_isPlace 20 = .ok (.goto 4, 3) := by decide +kernel
theorem dX11_isPlace_23 : decode cX11_isPlace 23 = .ok (.iconst 0, 1) := by decide +kernel
theorem dX11_isPlace_24 : decode cX11_isPlace 24 = .ok (.ireturn, 1) := by decide +kernel
set_option maxRecDepth 20000 in
theorem moX11_isPlace_24 {o : Int32 × Hp} {h : Hp} {t0 : Int32} (hE : sX11_isPlace_24 h  t0 = some o) : Le h o.2 := by
  obtain ⟨g_1, hE⟩ := gd_e hE
  exact le_some2 hE
set_option maxRecDepth 20000 in
theorem moX11_isPlace_23 {o : Int32 × Hp} {h : Hp} (hE : sX11_isPlace_23 h  = some o) : Le h o.2 := by
  exact moX11_isPlace_24 hE
set_option maxRecDepth 20000 in
theorem moX11_isPlace {o : Int32 × Hp} {h : Hp} {x0 : Nat} {x1 : Int32} (hE : sX11_isPlace h x0 x1 = some o) : Le h o.2 := by
  rcases br_e hE with ⟨_, hE⟩ | ⟨_, hE⟩
  · exact moX11_isPlace_23 hE
  · rcases br_e hE with ⟨_, hE⟩ | ⟨_, hE⟩
    · exact moX11_isPlace_23 hE
    · obtain ⟨r_3, er_3, hE⟩ := cl_e hE
      obtain ⟨g_4, hE⟩ := gd_e hE
      rcases br_e hE with ⟨_, hE⟩ | ⟨_, hE⟩
      · exact moX11_isPlace_23 hE
      · exact moX11_isPlace_24 hE
set_option maxRecDepth 20000 in
theorem bX11_isPlace_24 {p : Program} {l : Launch} {e : Env} {s : State} {m : MethodId} {args : Array Value} {below : List Frame} {meth : Method} {c : Code} {X : Ec} {h0 : Hp} {o : Int32 × Hp} (C : Cx X p s m args meth c RX11 cX11_isPlace 2 (some .boolean) "isPlace") {h : Hp} {t0 : Int32} {H : Heap} {locs : List Loc} (hkm : Km h0 h) (hW : Wx X h H) (hZ : va_S (aA (eB X)) s.heap H locs) (ls : Array Slot) (hl : lv_has ls 2 []) (hE : sX11_isPlace_24 h  t0 = some o) : W p l e (rm 0 0) s m args below meth c H locs 0 0 (MQ below (QI X h0 o.1 o.2) args s 0 0 (aA (eB X))) (F0 m 24 ls [.int t0]) := by
  obtain ⟨g_1, hE⟩ := gd_e hE
  exact x_iret C rfl (narB g_1) hW hZ hkm hE dX11_isPlace_24
set_option maxRecDepth 20000 in
theorem bX11_isPlace_23 {p : Program} {l : Launch} {e : Env} {s : State} {m : MethodId} {args : Array Value} {below : List Frame} {meth : Method} {c : Code} {X : Ec} {h0 : Hp} {o : Int32 × Hp} (C : Cx X p s m args meth c RX11 cX11_isPlace 2 (some .boolean) "isPlace") {h : Hp} {H : Heap} {locs : List Loc} (hkm : Km h0 h) (hW : Wx X h H) (hZ : va_S (aA (eB X)) s.heap H locs) (ls : Array Slot) (hl : lv_has ls 2 []) (hE : sX11_isPlace_23 h  = some o) : W p l e (rm 0 0) s m args below meth c H locs 0 0 (MQ below (QI X h0 o.1 o.2) args s 0 0 (aA (eB X))) (F0 m 23 ls []) := by
  refine lv_iconst (v := (0 : Int32)) C.1 C.2.1 dX11_isPlace_23 (by decide) ?_
  exact bX11_isPlace_24 C hkm hW hZ _ (lv_sub hl [] rfl) hE
set_option maxRecDepth 20000 in
theorem ct_X11_isPlace (l : Launch) (X : Ec) {h : Hp} {x0 : Nat} {x1 : Int32} {o : Int32 × Hp} (k_x0 : hK h x0 = 11) (hE : sX11_isPlace h x0 x1 = some o) : MetI l yX11_isPlace cX11_isPlace 2 (some .boolean) 0 0 X [.ref x0, .int x1] h o := by
  refine x_met (by decide) (Nat.le_of_ble_eq_true rfl) ?_
  intro p e s m below meth c ls C hl hW hZ
  have hl : lv_has ls 2 [(0, .ref x0), (1, .int x1)] := hl
  have hkm : Km h h := Km.rf h
  refine lv_iload_n C.1 C.2.1 dX11_isPlace_0 rfl (lv_at hl 1 rfl) ?_
  refine lv_if_lt (tgt := 23) C.1 C.2.1 dX11_isPlace_1 (by decide) (fun c_1 => ?_) (fun c_1 => ?_)
  · have hE := br_p hE c_1
    exact bX11_isPlace_23 C hkm hW hZ _ (lv_sub hl [] rfl) hE
  · have hE := br_n hE c_1
    refine lv_iload_n C.1 C.2.1 dX11_isPlace_4 rfl (lv_at hl 1 rfl) ?_
    refine lv_bipush (v := (60 : Int32)) C.1 C.2.1 dX11_isPlace_5 (by decide) ?_
    refine lv_icmp_ge (tgt := 23) C.1 C.2.1 dX11_isPlace_7 (by decide) (fun c_2 => ?_) (fun c_2 => ?_)
    · have hE := br_p hE c_2
      exact bX11_isPlace_23 C hkm hW hZ _ (lv_sub hl [] rfl) hE
    · have hE := br_n hE c_2
      refine lv_aload_n C.1 C.2.1 dX11_isPlace_10 rfl (lv_at hl 0 rfl) ?_
      obtain ⟨r_3, er_3, hE⟩ := cl_e hE
      refine gf_X11_107 C hW k_x0 er_3 dX11_isPlace_11 (fun k_r_3 => ?_)
      refine lv_iload_n C.1 C.2.1 dX11_isPlace_14 rfl (lv_at hl 1 rfl) ?_
      obtain ⟨g_4, hE⟩ := gd_e hE
      refine y_zald C hW k_r_3 g_4 dX11_isPlace_15 ?_
      refine lv_if_eq (tgt := 23) C.1 C.2.1 dX11_isPlace_16 (by decide) (fun c_5 => ?_) (fun c_5 => ?_)
      · have hE := br_p hE c_5
        exact bX11_isPlace_23 C hkm hW hZ _ (lv_sub hl [] rfl) hE
      · have hE := br_n hE c_5
        refine lv_iconst (v := (1 : Int32)) C.1 C.2.1 dX11_isPlace_19 (by decide) ?_
        refine lv_goto (tgt := 24) C.1 C.2.1 dX11_isPlace_20 (by decide) ?_
        exact bX11_isPlace_24 C hkm hW hZ _ (lv_sub hl [] rfl) hE
set_option maxRecDepth 100000 in
theorem ms_44 : Cond.selects RX11 yX11_isPlace yX11_isPlace ∈ W0 := w0_in (List.mem_append_left _ (List.mem_of_getElem? (i := 44) rfl)) rfl
set_option maxRecDepth 100000 in
theorem m_1080 : Cond.methodLink RX11 193 yX11_isPlace ∈ W0 := w0_in (List.mem_append_right _ (List.mem_of_getElem? (i := 1080) rfl)) rfl
set_option maxRecDepth 100000 in
theorem m_1082 : Cond.instanceMethod yX11_isPlace ∈ W0 := w0_in (List.mem_append_right _ (List.mem_of_getElem? (i := 1082) rfl)) rfl
set_option maxRecDepth 100000 in
theorem m_1083 : Cond.code yX11_isPlace cX11_isPlace 2 (some .boolean) ∈ W0 := w0_in (List.mem_append_right _ (List.mem_of_getElem? (i := 1083) rfl)) rfl
theorem cw_X11_193 : cwd RX11 193 yX11_isPlace cX11_isPlace 2 (some .boolean) false 1 := ⟨m_1083, m_1080, m_1, ⟨m_1082, ms_44⟩, by decide, by decide, by decide +kernel⟩
theorem dX11_drop_0 : decode cX11_drop 0 = .ok (.aload_n 0, 1) := by decide +kernel
theorem dX11_drop_1 : decode cX11_drop 1 = .ok (.iload_n 1, 1) := by decide +kernel
theorem dX11_drop_2 : decode cX11_drop 2 = .ok (.invokevirtual 193, 3) := by decide +kernel
theorem dX11_drop_5 : decode cX11_drop 5 = .ok (.ifCond .ne 6, 3) := by decide +kernel
theorem dX11_drop_8 : decode cX11_drop 8 = .ok (.bipush (-102), 2) := by decide +kernel
theorem dX11_drop_10 : decode cX11_drop 10 = .ok (.ireturn, 1) := by decide +kernel
theorem dX11_drop_11 : decode cX11_drop 11 = .ok (.aload_n 0, 1) := by decide +kernel
theorem dX11_drop_12 : decode cX11_drop 12 = .ok (.getfield 107, 3) := by decide +kernel
theorem dX11_drop_15 : decode cX11_drop 15 = .ok (.iload_n 1, 1) := by decide +kernel
theorem dX11_drop_16 : decode cX11_drop 16 = .ok (.iconst 0, 1) := by decide +kernel
theorem dX11_drop_17 : decode cX11_drop 17 = .ok (.bastore, 1) := by decide +kernel
theorem dX11_drop_18 : decode cX11_drop 18 = .ok (.aload_n 0, 1) := by decide +kernel
theorem dX11_drop_19 : decode cX11_drop 19 = .ok (.getfield 93, 3) := by decide +kernel
theorem dX11_drop_22 : decode cX11_drop 22 = .ok (.iload_n 1, 1) := by decide +kernel
theorem dX11_drop_23 : decode cX11_drop 23 = .ok (.invokevirtual 197, 3) := by decide +kernel
theorem dX11_drop_26 : decode cX11_drop 26 = .ok (.iconst 1, 1) := by decide +kernel
theorem dX11_drop_27 : decode cX11_drop 27 = .ok (.ireturn, 1) := by decide +kernel
set_option maxRecDepth 20000 in
theorem moX11_drop {o : Int32 × Hp} {h : Hp} {x0 : Nat} {x1 : Int32} (hE : sX11_drop h x0 x1 = some o) : Le h o.2 := by
  obtain ⟨o_1, eo_1, hE⟩ := cl_e hE
  refine (moX11_isPlace eo_1).tr ?_
  rcases br_e hE with ⟨_, hE⟩ | ⟨_, hE⟩
  · exact le_some2 hE
  · obtain ⟨r_3, er_3, hE⟩ := cl_e hE
    obtain ⟨g_4, hE⟩ := gd_e hE
    obtain ⟨h_5, eh_5, hE⟩ := nm_e2 hE
    refine (le_I eh_5).tr ?_
    obtain ⟨r_6, er_6, hE⟩ := cl_e hE
    obtain ⟨o_7, eo_7, hE⟩ := cl_e hE
    refine (moX4_forget eo_7).tr ?_
    exact le_some2 hE
set_option maxRecDepth 20000 in
theorem ct_X11_drop (l : Launch) (X : Ec) {h : Hp} {x0 : Nat} {x1 : Int32} {o : Int32 × Hp} (k_x0 : hK h x0 = 11) (hE : sX11_drop h x0 x1 = some o) : MetI l yX11_drop cX11_drop 2 (some .int) 1 21 X [.ref x0, .int x1] h o := by
  refine x_met (by decide) (Nat.le_of_ble_eq_true rfl) ?_
  intro p e s m below meth c ls C hl hW hZ
  have hl : lv_has ls 2 [(0, .ref x0), (1, .int x1)] := hl
  have hkm : Km h h := Km.rf h
  refine lv_aload_n C.1 C.2.1 dX11_drop_0 rfl (lv_at hl 0 rfl) ?_
  refine lv_iload_n C.1 C.2.1 dX11_drop_1 rfl (lv_at hl 1 rfl) ?_
  obtain ⟨o_1, eo_1, hE⟩ := cl_e hE
  refine x_kI (o := o_1) (z_runV (As := [.int x1]) (rest := []) C (ct_X11_isPlace l X k_x0 eo_1) cw_X11_193 hW hZ k_x0 (by decide) rfl rfl rfl hl.1 (Nat.le_of_ble_eq_true rfl) rfl dX11_drop_2 ⟨Nat.le_of_ble_eq_true rfl, Nat.le_of_ble_eq_true rfl⟩ ⟨Nat.le_refl _, Nat.le_refl _⟩) hZ (fun _ _ hW km hZ => ?_)
  replace hkm := hkm.tr km
  replace k_x0 := km.at k_x0 (by decide)
  refine lv_if_ne (tgt := 11) C.1 C.2.1 dX11_drop_5 (by decide) (fun c_2 => ?_) (fun c_2 => ?_)
  · have hE := br_n hE c_2
    refine lv_aload_n C.1 C.2.1 dX11_drop_11 rfl (lv_at hl 0 rfl) ?_
    obtain ⟨r_3, er_3, hE⟩ := cl_e hE
    refine gf_X11_107 C hW k_x0 er_3 dX11_drop_12 (fun k_r_3 => ?_)
    refine lv_iload_n C.1 C.2.1 dX11_drop_15 rfl (lv_at hl 1 rfl) ?_
    refine lv_iconst (v := (0 : Int32)) C.1 C.2.1 dX11_drop_16 (by decide) ?_
    obtain ⟨g_4, hE⟩ := gd_e hE
    obtain ⟨h_5, eh_5, hE⟩ := nm_e2 hE
    refine y_zast C hW hZ k_r_3 g_4 eh_5 dX11_drop_17 (fun _ _ hW km hZ => ?_)
    replace hkm := hkm.tr km
    replace k_x0 := km.at k_x0 (by decide)
    refine lv_aload_n C.1 C.2.1 dX11_drop_18 rfl (lv_at hl 0 rfl) ?_
    obtain ⟨r_6, er_6, hE⟩ := cl_e hE
    refine gf_X11_93 C hW k_x0 er_6 dX11_drop_19 (fun k_r_6 => ?_)
    refine lv_iload_n C.1 C.2.1 dX11_drop_22 rfl (lv_at hl 1 rfl) ?_
    obtain ⟨o_7, eo_7, hE⟩ := cl_e hE
    refine x_kV (o := o_7) (z_runV (As := [.int x1]) (rest := []) C (ct_X4_forget l X k_r_6 eo_7) cw_X11_197 hW hZ k_r_6 (by decide) rfl rfl rfl hl.1 (Nat.le_of_ble_eq_true rfl) rfl dX11_drop_23 ⟨Nat.le_of_ble_eq_true rfl, Nat.le_of_ble_eq_true rfl⟩ ⟨Nat.le_refl _, Nat.le_refl _⟩) hZ (fun _ _ hW km hZ => ?_)
    replace hkm := hkm.tr km
    replace k_x0 := km.at k_x0 (by decide)
    refine lv_iconst (v := (1 : Int32)) C.1 C.2.1 dX11_drop_26 (by decide) ?_
    exact x_iret C rfl rfl hW hZ hkm hE dX11_drop_27
  · have hE := br_p hE c_2
    refine lv_bipush (v := (-102 : Int32)) C.1 C.2.1 dX11_drop_8 (by decide) ?_
    exact x_iret C rfl rfl hW hZ hkm hE dX11_drop_10
