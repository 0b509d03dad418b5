set_option maxRecDepth 100000 in
theorem ms_15 : Cond.selects RX2 yX2_takeOnce yX2_takeOnce ∈ W0 := w0_in (List.mem_append_left _ (List.mem_of_getElem? (i := 15) rfl)) rfl
set_option maxRecDepth 100000 in
theorem ms_14 : Cond.selects RX2 yX2_onceWord yX2_onceWord ∈ W0 := w0_in (List.mem_append_left _ (List.mem_of_getElem? (i := 14) rfl)) rfl
set_option maxRecDepth 100000 in
theorem m_201 : Cond.fieldLink RX2 28 (TX2 6).1 (TX2 6).2.1 (TX2 6).2.2.1 ∈ W0 := w0_in (List.mem_append_right _ (List.mem_of_getElem? (i := 201) rfl)) rfl
set_option maxRecDepth 100000 in
theorem m_747 : Cond.methodLink RX2 112 yX2_onceWord ∈ W0 := w0_in (List.mem_append_right _ (List.mem_of_getElem? (i := 747) rfl)) rfl
set_option maxRecDepth 100000 in
theorem m_749 : Cond.instanceMethod yX2_onceWord ∈ W0 := w0_in (List.mem_append_right _ (List.mem_of_getElem? (i := 749) rfl)) rfl
set_option maxRecDepth 100000 in
theorem m_750 : Cond.code yX2_onceWord cX2_onceWord 1 (some .int) ∈ W0 := w0_in (List.mem_append_right _ (List.mem_of_getElem? (i := 750) rfl)) rfl
set_option maxRecDepth 100000 in
theorem m_761 : Cond.methodLink RX2 118 yX2_takeOnce ∈ W0 := w0_in (List.mem_append_right _ (List.mem_of_getElem? (i := 761) rfl)) rfl
set_option maxRecDepth 100000 in
theorem m_763 : Cond.instanceMethod yX2_takeOnce ∈ W0 := w0_in (List.mem_append_right _ (List.mem_of_getElem? (i := 763) rfl)) rfl
set_option maxRecDepth 100000 in
theorem m_764 : Cond.code yX2_takeOnce cX2_takeOnce 2 (some .boolean) ∈ W0 := w0_in (List.mem_append_right _ (List.mem_of_getElem? (i := 764) rfl)) rfl
section
variable {p : Program} {l : Launch} {e : Env} {R : Room} {s : State} {m : MethodId} {args : Array Value} {below : List Frame} {meth : Method} {c : Code} {H : Heap} {locs : List Loc} {cells slots : Nat} {Q : State → Prop}
variable {cc : ByteArray} {pc : Nat} {ls : Array Slot} {rest : List Value} {X : Ec} {h h1 : Hp} {nL : Nat} {rt : Option FieldType} {mn : String}
theorem gf_X2_28 {a : Nat} (C : Cx X p s m args meth c RX2 cc nL rt mn) (hW : Wx X h H) (ha : hK h a = 2) (hdg : decode cc pc = .ok (.getfield 28, 3)) (kk : W p l e R s m args below meth c H locs cells slots Q (F0 m (pc + 3) ls (.int (hI h a 6) :: rest))) : W p l e R s m args below meth c H locs cells slots Q (F0 m pc ls (.ref a :: rest)) :=
  y_geti C hW ha i_X2 (by decide) rfl (by decide) m_201 rfl hdg kk
theorem pf_X2_28 {a : Nat} {v : Int32} (C : Cx X p s m args meth c RX2 cc nL rt mn) (hW : Wx X h H) (hZ : va_S (aA (eB X)) s.heap H locs) (ha : hK h a = 2) (eh : h1 = wI h a 6 v) (hdg : decode cc pc = .ok (.putfield 28, 3)) (kk : ∀ (H1 : Heap) (locs1 : List Loc), Wx X h1 H1 → Km h h1 → va_S (aA (eB X)) s.heap H1 locs1 → W p l e R s m args below meth c H1 locs1 cells slots Q (F0 m (pc + 3) ls rest)) : W p l e R s m args below meth c H locs cells slots Q (F0 m pc ls (.int v :: .ref a :: rest)) :=
  y_puti (ty := .int) C hW hZ ha i_X2 tyX2 tyX2_ok nmX2 (by decide) rfl rfl (by decide) m_201 rfl (by decide +kernel) rfl rfl rfl eh hdg kk
end
theorem cw_X2_118 : cwd RX2 118 yX2_takeOnce cX2_takeOnce 2 (some .boolean) false 1 := ⟨m_764, m_761, m_5, ⟨m_763, ms_15⟩, by decide, by decide, by decide +kernel⟩
theorem cw_X2_112 : cwd RX2 112 yX2_onceWord cX2_onceWord 1 (some .int) false 0 := ⟨m_750, m_747, m_5, ⟨m_749, ms_14⟩, by decide, by decide, by decide +kernel⟩
theorem dX2_takeOther_0 : decode cX2_takeOther 0 = .ok (.aload_n 0, 1) := by decide +kernel
theorem dX2_takeOther_1 : decode cX2_takeOther 1 = .ok (.invokevirtual 112, 3) := by decide +kernel
theorem dX2_takeOther_4 : decode cX2_takeOther 4 = .ok (.istore_n 1, 1) := by decide +kernel
theorem dX2_takeOther_5 : decode cX2_takeOther 5 = .ok (.iload_n 1, 1) := by decide +kernel
theorem dX2_takeOther_6 : decode cX2_takeOther 6 = .ok (.iconst 2, 1) := by decide +kernel
theorem dX2_takeOther_7 : decode cX2_takeOther 7 = .ok (.if_icmp .ne 18, 3) := by decide +kernel
theorem dX2_takeOther_10 : decode cX2_takeOther 10 = .ok (.aload_n 0, 1) := by decide +kernel
theorem dX2_takeOther_11 : decode cX2_takeOther 11 = .ok (.getfield 15, 3) := by decide +kernel
theorem dX2_takeOther_14 : decode cX2_takeOther 14 = .ok (.getfield 115, 3) := by decide +kernel
theorem dX2_takeOther_17 : decode cX2_takeOther 17 = .ok (.iconst (-1), 1) := by decide +kernel
theorem dX2_takeOther_18 : decode cX2_takeOther 18 = .ok (.if_icmp .ne 7, 3) := by decide +kernel
theorem dX2_takeOther_21 : decode cX2_takeOther 21 = .ok (.iconst 1, 1) := by decide +kernel
theorem dX2_takeOther_22 : decode cX2_takeOther 22 = .ok (.goto 4, 3) := by decide +kernel
theorem dX2_takeOther_25 : decode cX2_takeOther 25 = .ok (.iconst 0, 1) := by decide +kernel
theorem dX2_takeOther_26 : decode cX2_takeOther 26 = .ok (.istore_n 2, 1) := by decide +kernel
theorem dX2_takeOther_27 : decode cX2_takeOther 27 = .ok (.iload_n 1, 1) := by decide +kernel
theorem dX2_takeOther_28 : decode cX2_takeOther 28 = .ok (.ifCond .eq 16, 3) := by decide +kernel
theorem dX2_takeOther_31 : decode cX2_takeOther 31 = .ok (.iload_n 2, 1) := by decide +kernel
theorem dX2_takeOther_32 : decode cX2_takeOther 32 = .ok (.ifCond .ne 12, 3) := by decide +kernel
theorem dX2_takeOther_35 : decode cX2_takeOther 35 = .ok (.aload_n 0, 1) := by decide +kernel
theorem dX2_takeOther_36 : decode cX2_takeOther 36 = .ok (.getfield 28, 3) := by decide +kernel
theorem dX2_takeOther_39 : decode cX2_takeOther 39 = .ok (.iload_n 1, 1) := by decide +kernel
theorem dX2_takeOther_40 : decode cX2_takeOther 40 = .ok (.iand, 1) := by decide +kernel
theorem dX2_takeOther_41 : decode cX2_takeOther 41 = .ok (.ifCond .eq 5, 3) := by decide +kernel
theorem dX2_takeOther_44 : decode cX2_takeOther 44 = .ok (.iconst 0, 1) := by decide +kernel
theorem dX2_takeOther_45 : decode cX2_takeOther 45 = .ok (.ireturn, 1) := by decide +kernel
theorem dX2_takeOther_46 : decode cX2_takeOther 46 = .ok (.aload_n 0, 1) := by decide +kernel
theorem dX2_takeOther_47 : decode cX2_takeOther 47 = .ok (.dup, 1) := by decide +kernel
theorem dX2_takeOther_48 : decode cX2_takeOther 48 = .ok (.getfield 28, 3) := by decide +kernel
theorem dX2_takeOther_51 : decode cX2_takeOther 51 = .ok (.iload_n 1, 1) := by decide +kernel
theorem dX2_takeOther_52 : decode cX2_takeOther 52 = .ok (.ior, 1) := by decide +kernel
theorem dX2_takeOther_53 : decode cX2_takeOther 53 = .ok (.putfield 28, 3) := by decide +kernel
theorem dX2_takeOther_56 : decode cX2_takeOther 56 = .ok (.aload_n 0, 1) := by decide +kernel
theorem dX2_takeOther_57 : decode cX2_takeOther 57 = .ok (.invokevirtual 31, 3) := by decide +kernel
theorem dX2_takeOther_60 : decode cX2_takeOther 60 = .ok (.aload_n 0, 1) := by decide +kernel
theorem dX2_takeOther_61 : decode cX2_takeOther 61 = .ok (.iload_n 1, 1) := by decide +kernel
theorem dX2_takeOther_62 : decode cX2_takeOther 62 = .ok (.invokevirtual 118, 3) := by decide +kernel
theorem dX2_takeOther_65 : decode cX2_takeOther 65 = .ok (.ireturn, 1) := by decide +kernel
set_option maxRecDepth 20000 in
theorem moX2_takeOther_44 {o : Int32 × Hp} {F : Nat} {h : Hp} (hE : sX2_takeOther_44 F h  = some o) : Le h o.2 := by
  exact le_some2 hE
set_option maxRecDepth 20000 in
theorem moX2_takeOther_26 {o : Int32 × Hp} {F : Nat} {h : Hp} {x0 : Nat} {x1 : Int32} {t0 : Int32} (hE : sX2_takeOther_26 F h x0 x1 t0 = some o) : Le h o.2 := by
  rcases br_e hE with ⟨_, hE⟩ | ⟨_, hE⟩
  · exact moX2_takeOther_44 hE
  · rcases br_e hE with ⟨_, hE⟩ | ⟨_, hE⟩
    · rcases br_e hE with ⟨_, hE⟩ | ⟨_, hE⟩
      · obtain ⟨h_4, eh_4, hE⟩ := nm_e2 hE
        refine (le_I eh_4).tr ?_
        obtain ⟨o_5, eo_5, hE⟩ := cl_e hE
        refine (moX2_advance eo_5).tr ?_
        obtain ⟨o_6, eo_6, hE⟩ := cl_e hE
        refine (moX2_takeOnce eo_6).tr ?_
        obtain ⟨g_7, hE⟩ := gd_e hE
        exact le_some2 hE
      · exact moX2_takeOther_44 hE
    · exact moX2_takeOther_44 hE
set_option maxRecDepth 20000 in
theorem moX2_takeOther_25 {o : Int32 × Hp} {F : Nat} {h : Hp} {x0 : Nat} {x1 : Int32} (hE : sX2_takeOther_25 F h x0 x1 = some o) : Le h o.2 := by
  exact moX2_takeOther_26 hE
set_option maxRecDepth 20000 in
theorem moX2_takeOther {o : Int32 × Hp} {F : Nat} {h : Hp} {x0 : Nat} (hE : sX2_takeOther F h x0 = some o) : Le h o.2 := by
  obtain ⟨o_1, eo_1, hE⟩ := cl_e hE
  refine (moX2_onceWord eo_1).tr ?_
  rcases br_e hE with ⟨_, hE⟩ | ⟨_, hE⟩
  · obtain ⟨r_3, er_3, hE⟩ := cl_e hE
    rcases br_e hE with ⟨_, hE⟩ | ⟨_, hE⟩
    · exact moX2_takeOther_26 hE
    · exact moX2_takeOther_25 hE
  · exact moX2_takeOther_25 hE
set_option maxRecDepth 20000 in
theorem bX2_takeOther_44 {p : Program} {l : Launch} {e : Env} {s : State} {m : MethodId} {args : Array Value} {below : List Frame} {meth : Method} {c : Code} {X : Ec} {h0 : Hp} {o : Int32 × Hp} {F : Nat} (C : Cx X p s m args meth c RX2 cX2_takeOther 3 (some .boolean) "takeOther") {h : Hp} {H : Heap} {locs : List Loc} (hkm : Km h0 h) (hW : Wx X h H) (hZ : va_S (aA (eB X)) s.heap H locs) (ls : Array Slot) (hl : lv_has ls 3 []) (hE : sX2_takeOther_44 F h  = some o) : W p l e (rm 7 149) s m args below meth c H locs 0 0 (MQ below (QI X h0 o.1 o.2) args s 0 0 (aA (eB X))) (F0 m 44 ls []) := by
  refine lv_iconst (v := (0 : Int32)) C.1 C.2.1 dX2_takeOther_44 (by decide) ?_
  exact x_iret C rfl (by decide) hW hZ hkm hE dX2_takeOther_45
set_option maxRecDepth 20000 in
theorem bX2_takeOther_26 {p : Program} {l : Launch} {e : Env} {s : State} {m : MethodId} {args : Array Value} {below : List Frame} {meth : Method} {c : Code} {X : Ec} {h0 : Hp} {o : Int32 × Hp} {F : Nat} (C : Cx X p s m args meth c RX2 cX2_takeOther 3 (some .boolean) "takeOther") {h : Hp} {x0 : Nat} {x1 : Int32} {t0 : Int32} {H : Heap} {locs : List Loc} (k_x0 : hK h x0 = 2) (hkm : Km h0 h) (hW : Wx X h H) (hZ : va_S (aA (eB X)) s.heap H locs) (ls : Array Slot) (hl : lv_has ls 3 [(0, .ref x0), (1, .int x1)]) (hE : sX2_takeOther_26 F h x0 x1 t0 = some o) : W p l e (rm 7 149) s m args below meth c H locs 0 0 (MQ below (QI X h0 o.1 o.2) args s 0 0 (aA (eB X))) (F0 m 26 ls [.int t0]) := by
  refine lv_istore_n (lv' := [(2, .int t0), (0, .ref x0), (1, .int x1)]) C.1 C.2.1 dX2_takeOther_26 rfl hl (by decide) rfl (fun ls hl => ?_)
  refine lv_iload_n C.1 C.2.1 dX2_takeOther_27 rfl (lv_at hl 2 rfl) ?_
  refine lv_if_eq (tgt := 44) C.1 C.2.1 dX2_takeOther_28 (by decide) (fun c_1 => ?_) (fun c_1 => ?_)
  · have hE := br_p hE c_1
    exact bX2_takeOther_44 C hkm hW hZ _ (lv_sub hl [] rfl) hE
  · have hE := br_n hE c_1
    refine lv_iload_n C.1 C.2.1 dX2_takeOther_31 rfl (lv_at hl 0 rfl) ?_
    refine lv_if_ne (tgt := 44) C.1 C.2.1 dX2_takeOther_32 (by decide) (fun c_2 => ?_) (fun c_2 => ?_)
    · have hE := br_n hE c_2
      exact bX2_takeOther_44 C hkm hW hZ _ (lv_sub hl [] rfl) hE
    · have hE := br_p hE c_2
      refine lv_aload_n C.1 C.2.1 dX2_takeOther_35 rfl (lv_at hl 1 rfl) ?_
      refine gf_X2_28 C hW k_x0 dX2_takeOther_36 ?_
      refine lv_iload_n C.1 C.2.1 dX2_takeOther_39 rfl (lv_at hl 2 rfl) ?_
      refine lv_iand C.1 C.2.1 dX2_takeOther_40 ?_
      refine lv_if_eq (tgt := 46) C.1 C.2.1 dX2_takeOther_41 (by decide) (fun c_3 => ?_) (fun c_3 => ?_)
      · have hE := br_p hE c_3
        refine lv_aload_n C.1 C.2.1 dX2_takeOther_46 rfl (lv_at hl 1 rfl) ?_
        refine lv_dup C.1 C.2.1 dX2_takeOther_47 rfl ?_
        refine gf_X2_28 C hW k_x0 dX2_takeOther_48 ?_
        refine lv_iload_n C.1 C.2.1 dX2_takeOther_51 rfl (lv_at hl 2 rfl) ?_
        refine lv_ior C.1 C.2.1 dX2_takeOther_52 ?_
        obtain ⟨h_4, eh_4, hE⟩ := nm_e2 hE
        refine pf_X2_28 C hW hZ k_x0 eh_4 dX2_takeOther_53 (fun _ _ hW km hZ => ?_)
        replace hkm := hkm.tr km
        replace k_x0 := km.at k_x0 (by decide)
        refine lv_aload_n C.1 C.2.1 dX2_takeOther_56 rfl (lv_at hl 1 rfl) ?_
        obtain ⟨o_5, eo_5, hE⟩ := cl_e hE
        refine x_kV (o := o_5) (z_runV (As := []) (rest := []) C (ct_X2_advance l X F k_x0 eo_5) cw_X2_31 hW hZ k_x0 (by decide) rfl rfl rfl hl.1 (Nat.le_of_ble_eq_true rfl) rfl dX2_takeOther_57 ⟨Nat.le_of_ble_eq_true rfl, Nat.le_of_ble_eq_true rfl⟩ ⟨Nat.le_refl _, Nat.le_refl _⟩) hZ (fun _ _ hW km hZ => ?_)
        replace hkm := hkm.tr km
        replace k_x0 := km.at k_x0 (by decide)
        refine lv_aload_n C.1 C.2.1 dX2_takeOther_60 rfl (lv_at hl 1 rfl) ?_
        refine lv_iload_n C.1 C.2.1 dX2_takeOther_61 rfl (lv_at hl 2 rfl) ?_
        obtain ⟨o_6, eo_6, hE⟩ := cl_e hE
        refine x_kI (o := o_6) (z_runV (As := [.int x1]) (rest := []) C (ct_X2_takeOnce l X F k_x0 eo_6) cw_X2_118 hW hZ k_x0 (by decide) rfl rfl rfl hl.1 (Nat.le_of_ble_eq_true rfl) rfl dX2_takeOther_62 ⟨Nat.le_of_ble_eq_true rfl, Nat.le_of_ble_eq_true rfl⟩ ⟨Nat.le_refl _, Nat.le_refl _⟩) hZ (fun _ _ hW km hZ => ?_)
        replace hkm := hkm.tr km
        replace k_x0 := km.at k_x0 (by decide)
        obtain ⟨g_7, hE⟩ := gd_e hE
        exact x_iret C rfl (narB g_7) hW hZ hkm hE dX2_takeOther_65
      · have hE := br_n hE c_3
        exact bX2_takeOther_44 C hkm hW hZ _ (lv_sub hl [] rfl) hE
set_option maxRecDepth 20000 in
theorem bX2_takeOther_25 {p : Program} {l : Launch} {e : Env} {s : State} {m : MethodId} {args : Array Value} {below : List Frame} {meth : Method} {c : Code} {X : Ec} {h0 : Hp} {o : Int32 × Hp} {F : Nat} (C : Cx X p s m args meth c RX2 cX2_takeOther 3 (some .boolean) "takeOther") {h : Hp} {x0 : Nat} {x1 : Int32} {H : Heap} {locs : List Loc} (k_x0 : hK h x0 = 2) (hkm : Km h0 h) (hW : Wx X h H) (hZ : va_S (aA (eB X)) s.heap H locs) (ls : Array Slot) (hl : lv_has ls 3 [(0, .ref x0), (1, .int x1)]) (hE : sX2_takeOther_25 F h x0 x1 = some o) : W p l e (rm 7 149) s m args below meth c H locs 0 0 (MQ below (QI X h0 o.1 o.2) args s 0 0 (aA (eB X))) (F0 m 25 ls []) := by
  refine lv_iconst (v := (0 : Int32)) C.1 C.2.1 dX2_takeOther_25 (by decide) ?_
  exact bX2_takeOther_26 C k_x0 hkm hW hZ _ (lv_sub hl [0, 1] rfl) hE
set_option maxRecDepth 20000 in
theorem ct_X2_takeOther (l : Launch) (X : Ec) (F : Nat) {h : Hp} {x0 : Nat} {o : Int32 × Hp} (k_x0 : hK h x0 = 2) (hE : sX2_takeOther F h x0 = some o) : MetI l yX2_takeOther cX2_takeOther 3 (some .boolean) 7 149 X [.ref x0] h o := by
  refine x_met (by decide) (Nat.le_of_ble_eq_true rfl) ?_
  intro p e s m below meth c ls C hl hW hZ
  have hl : lv_has ls 3 [(0, .ref x0)] := hl
  have hkm : Km h h := Km.rf h
  refine lv_aload_n C.1 C.2.1 dX2_takeOther_0 rfl (lv_at hl 0 rfl) ?_
  obtain ⟨o_1, eo_1, hE⟩ := cl_e hE
  refine x_kI (o := o_1) (z_runV (As := []) (rest := []) C (ct_X2_onceWord l X F k_x0 eo_1) cw_X2_112 hW hZ k_x0 (by decide) rfl rfl rfl hl.1 (Nat.le_of_ble_eq_true rfl) rfl dX2_takeOther_1 ⟨Nat.le_of_ble_eq_true rfl, Nat.le_of_ble_eq_true rfl⟩ ⟨Nat.le_refl _, Nat.le_refl _⟩) hZ (fun _ _ hW km hZ => ?_)
  replace hkm := hkm.tr km
  replace k_x0 := km.at k_x0 (by decide)
  refine lv_istore_n (lv' := [(1, .int o_1.1), (0, .ref x0)]) C.1 C.2.1 dX2_takeOther_4 rfl hl (by decide) rfl (fun ls hl => ?_)
  refine lv_iload_n C.1 C.2.1 dX2_takeOther_5 rfl (lv_at hl 0 rfl) ?_
  refine lv_iconst (v := (2 : Int32)) C.1 C.2.1 dX2_takeOther_6 (by decide) ?_
  refine lv_icmp_ne (tgt := 25) C.1 C.2.1 dX2_takeOther_7 (by decide) (fun c_2 => ?_) (fun c_2 => ?_)
  · have hE := br_n hE c_2
    exact bX2_takeOther_25 C k_x0 hkm hW hZ _ (lv_sub hl [1, 0] rfl) hE
  · have hE := br_p hE c_2
    refine lv_aload_n C.1 C.2.1 dX2_takeOther_10 rfl (lv_at hl 1 rfl) ?_
    obtain ⟨r_3, er_3, hE⟩ := cl_e hE
    refine gf_X2_15 C hW k_x0 er_3 dX2_takeOther_11 (fun k_r_3 => ?_)
    refine gf_X2_115 C hW k_r_3 dX2_takeOther_14 ?_
    refine lv_iconst (v := (-1 : Int32)) C.1 C.2.1 dX2_takeOther_17 (by decide) ?_
    refine lv_icmp_ne (tgt := 25) C.1 C.2.1 dX2_takeOther_18 (by decide) (fun c_4 => ?_) (fun c_4 => ?_)
    · have hE := br_n hE c_4
      exact bX2_takeOther_25 C k_x0 hkm hW hZ _ (lv_sub hl [1, 0] rfl) hE
    · have hE := br_p hE c_4
      refine lv_iconst (v := (1 : Int32)) C.1 C.2.1 dX2_takeOther_21 (by decide) ?_
      refine lv_goto (tgt := 26) C.1 C.2.1 dX2_takeOther_22 (by decide) ?_
      exact bX2_takeOther_26 C k_x0 hkm hW hZ _ (lv_sub hl [1, 0] rfl) hE
set_option maxRecDepth 100000 in
theorem ms_13 : Cond.selects RX2 yX2_takeOther yX2_takeOther ∈ W0 := w0_in (List.mem_append_left _ (List.mem_of_getElem? (i := 13) rfl)) rfl
set_option maxRecDepth 100000 in
theorem ms_11 : Cond.selects RX2 yX2_takeBecomes yX2_takeBecomes ∈ W0 := w0_in (List.mem_append_left _ (List.mem_of_getElem? (i := 11) rfl)) rfl
set_option maxRecDepth 100000 in
theorem ms_6 : Cond.selects RX2 yX2_takeMan yX2_takeMan ∈ W0 := w0_in (List.mem_append_left _ (List.mem_of_getElem? (i := 6) rfl)) rfl
set_option maxRecDepth 100000 in
theorem ms_2 : Cond.selects RX2 yX2_takeBoard yX2_takeBoard ∈ W0 := w0_in (List.mem_append_left _ (List.mem_of_getElem? (i := 2) rfl)) rfl
set_option maxRecDepth 100000 in
theorem m_648 : Cond.methodLink RX2 19 yX1_clear ∈ W0 := w0_in (List.mem_append_right _ (List.mem_of_getElem? (i := 648) rfl)) rfl
set_option maxRecDepth 100000 in
theorem m_649 : Cond.instanceMethod yX1_clear ∈ W0 := w0_in (List.mem_append_right _ (List.mem_of_getElem? (i := 649) rfl)) rfl
set_option maxRecDepth 100000 in
theorem m_650 : Cond.selects RX1 yX1_clear yX1_clear ∈ W0 := w0_in (List.mem_append_right _ (List.mem_of_getElem? (i := 650) rfl)) rfl
set_option maxRecDepth 100000 in
theorem m_651 : Cond.code yX1_clear cX1_clear 1 none ∈ W0 := w0_in (List.mem_append_right _ (List.mem_of_getElem? (i := 651) rfl)) rfl
set_option maxRecDepth 100000 in
theorem m_671 : Cond.methodLink RX2 34 yX2_takeBoard ∈ W0 := w0_in (List.mem_append_right _ (List.mem_of_getElem? (i := 671) rfl)) rfl
set_option maxRecDepth 100000 in
theorem m_673 : Cond.instanceMethod yX2_takeBoard ∈ W0 := w0_in (List.mem_append_right _ (List.mem_of_getElem? (i := 673) rfl)) rfl
set_option maxRecDepth 100000 in
theorem m_674 : Cond.code yX2_takeBoard cX2_takeBoard 2 (some .boolean) ∈ W0 := w0_in (List.mem_append_right _ (List.mem_of_getElem? (i := 674) rfl)) rfl
set_option maxRecDepth 100000 in
theorem m_695 : Cond.methodLink RX2 47 yX2_takeMan ∈ W0 := w0_in (List.mem_append_right _ (List.mem_of_getElem? (i := 695) rfl)) rfl
set_option maxRecDepth 100000 in
theorem m_697 : Cond.instanceMethod yX2_takeMan ∈ W0 := w0_in (List.mem_append_right _ (List.mem_of_getElem? (i := 697) rfl)) rfl
set_option maxRecDepth 100000 in
theorem m_698 : Cond.code yX2_takeMan cX2_takeMan 4 (some .boolean) ∈ W0 := w0_in (List.mem_append_right _ (List.mem_of_getElem? (i := 698) rfl)) rfl
set_option maxRecDepth 100000 in
theorem m_731 : Cond.methodLink RX2 52 yX2_takeBecomes ∈ W0 := w0_in (List.mem_append_right _ (List.mem_of_getElem? (i := 731) rfl)) rfl
set_option maxRecDepth 100000 in
theorem m_733 : Cond.instanceMethod yX2_takeBecomes ∈ W0 := w0_in (List.mem_append_right _ (List.mem_of_getElem? (i := 733) rfl)) rfl
set_option maxRecDepth 100000 in
theorem m_734 : Cond.code yX2_takeBecomes cX2_takeBecomes 5 (some .boolean) ∈ W0 := w0_in (List.mem_append_right _ (List.mem_of_getElem? (i := 734) rfl)) rfl
set_option maxRecDepth 100000 in
theorem m_743 : Cond.methodLink RX2 55 yX2_takeOther ∈ W0 := w0_in (List.mem_append_right _ (List.mem_of_getElem? (i := 743) rfl)) rfl
set_option maxRecDepth 100000 in
theorem m_745 : Cond.instanceMethod yX2_takeOther ∈ W0 := w0_in (List.mem_append_right _ (List.mem_of_getElem? (i := 745) rfl)) rfl
set_option maxRecDepth 100000 in
theorem m_746 : Cond.code yX2_takeOther cX2_takeOther 3 (some .boolean) ∈ W0 := w0_in (List.mem_append_right _ (List.mem_of_getElem? (i := 746) rfl)) rfl
section
variable {p : Program} {l : Launch} {e : Env} {R : Room} {s : State} {m : MethodId} {args : Array Value} {below : List Frame} {meth : Method} {c : Code} {H : Heap} {locs : List Loc} {cells slots : Nat} {Q : State → Prop}
variable {cc : ByteArray} {pc : Nat} {ls : Array Slot} {rest : List Value} {X : Ec} {h h1 : Hp} {nL : Nat} {rt : Option FieldType} {mn : String}
theorem pf_X2_9 {a r : Nat} (C : Cx X p s m args meth c RX2 cc nL rt mn) (hW : Wx X h H) (hZ : va_S (aA (eB X)) s.heap H locs) (ha : hK h a = 2) (hr : hK h r = 9) (eh : h1 = wR h a 0 (some r)) (hdg : decode cc pc = .ok (.putfield 9, 3)) (kk : ∀ (H1 : Heap) (locs1 : List Loc), Wx X h1 H1 → Km h h1 → va_S (aA (eB X)) s.heap H1 locs1 → W p l e R s m args below meth c H1 locs1 cells slots Q (F0 m (pc + 3) ls rest)) : W p l e R s m args below meth c H locs cells slots Q (F0 m pc ls (.ref r :: .ref a :: rest)) :=
  y_putr (ty := .object "GameRules$Text") C hW hZ ha i_X2 tyX2 tyX2_ok nmX2 (by decide) rfl rfl (by decide) m_195 rfl (by decide +kernel) rfl rfl rfl hr rfl (by decide) eh hdg kk
theorem pf_X2_15 {a r : Nat} (C : Cx X p s m args meth c RX2 cc nL rt mn) (hW : Wx X h H) (hZ : va_S (aA (eB X)) s.heap H locs) (ha : hK h a = 2) (hr : hK h r = 1) (eh : h1 = wR h a 1 (some r)) (hdg : decode cc pc = .ok (.putfield 15, 3)) (kk : ∀ (H1 : Heap) (locs1 : List Loc), Wx X h1 H1 → Km h h1 → va_S (aA (eB X)) s.heap H1 locs1 → W p l e R s m args below meth c H1 locs1 cells slots Q (F0 m (pc + 3) ls rest)) : W p l e R s m args below meth c H locs cells slots Q (F0 m pc ls (.ref r :: .ref a :: rest)) :=
  y_putr (ty := .object "GameRules$Law") C hW hZ ha i_X2 tyX2 tyX2_ok nmX2 (by decide) rfl rfl (by decide) m_196 rfl (by decide +kernel) rfl rfl rfl hr rfl (by decide) eh hdg kk
end
theorem cw_X2_55 : cwd RX2 55 yX2_takeOther cX2_takeOther 3 (some .boolean) false 0 := ⟨m_746, m_743, m_5, ⟨m_745, ms_13⟩, by decide, by decide, by decide +kernel⟩
theorem cw_X2_52 : cwd RX2 52 yX2_takeBecomes cX2_takeBecomes 5 (some .boolean) false 0 := ⟨m_734, m_731, m_5, ⟨m_733, ms_11⟩, by decide, by decide, by decide +kernel⟩
theorem cw_X2_47 : cwd RX2 47 yX2_takeMan cX2_takeMan 4 (some .boolean) false 0 := ⟨m_698, m_695, m_5, ⟨m_697, ms_6⟩, by decide, by decide, by decide +kernel⟩
theorem cw_X2_19 : cwd RX2 19 yX1_clear cX1_clear 1 none false 0 := ⟨m_651, m_648, m_4, ⟨m_649, m_650⟩, by decide, by decide, by decide +kernel⟩
theorem cw_X2_34 : cwd RX2 34 yX2_takeBoard cX2_takeBoard 2 (some .boolean) false 0 := ⟨m_674, m_671, m_5, ⟨m_673, ms_2⟩, by decide, by decide, by decide +kernel⟩
theorem dX2_read_0 : decode cX2_read 0 = .ok (.aload_n 0, 1) := by decide +kernel
theorem dX2_read_1 : decode cX2_read 1 = .ok (.aload_n 1, 1) := by decide +kernel
theorem dX2_read_2 : decode cX2_read 2 = .ok (.putfield 9, 3) := by decide +kernel
theorem dX2_read_5 : decode cX2_read 5 = .ok (.aload_n 0, 1) := by decide +kernel
theorem dX2_read_6 : decode cX2_read 6 = .ok (.aload_n 2, 1) := by decide +kernel
theorem dX2_read_7 : decode cX2_read 7 = .ok (.putfield 15, 3) := by decide +kernel
theorem dX2_read_10 : decode cX2_read 10 = .ok (.aload_n 0, 1) := by decide +kernel
theorem dX2_read_11 : decode cX2_read 11 = .ok (.getfield 15, 3) := by decide +kernel
theorem dX2_read_14 : decode cX2_read 14 = .ok (.invokevirtual 19, 3) := by decide +kernel
theorem dX2_read_17 : decode cX2_read 17 = .ok (.aload_n 0, 1) := by decide +kernel
theorem dX2_read_18 : decode cX2_read 18 = .ok (.iconst 0, 1) := by decide +kernel
theorem dX2_read_19 : decode cX2_read 19 = .ok (.putfield 24, 3) := by decide +kernel
theorem dX2_read_22 : decode cX2_read 22 = .ok (.aload_n 0, 1) := by decide +kernel
theorem dX2_read_23 : decode cX2_read 23 = .ok (.iconst 0, 1) := by decide +kernel
theorem dX2_read_24 : decode cX2_read 24 = .ok (.putfield 28, 3) := by decide +kernel
theorem dX2_read_27 : decode cX2_read 27 = .ok (.aload_n 0, 1) := by decide +kernel
theorem dX2_read_28 : decode cX2_read 28 = .ok (.invokevirtual 31, 3) := by decide +kernel
theorem dX2_read_31 : decode cX2_read 31 = .ok (.aload_n 0, 1) := by decide +kernel
theorem dX2_read_32 : decode cX2_read 32 = .ok (.invokevirtual 34, 3) := by decide +kernel
theorem dX2_read_35 : decode cX2_read 35 = .ok (.istore_n 3, 1) := by decide +kernel
theorem dX2_read_36 : decode cX2_read 36 = .ok (.iconst 0, 1) := by decide +kernel
theorem dX2_read_37 : decode cX2_read 37 = .ok (.istore 4, 2) := by decide +kernel
theorem dX2_read_39 : decode cX2_read 39 = .ok (.iload 4, 2) := by decide +kernel
theorem dX2_read_41 : decode cX2_read 41 = .ok (.sipush 1200, 3) := by decide +kernel
theorem dX2_read_44 : decode cX2_read 44 = .ok (.if_icmp .ge 74, 3) := by decide +kernel
theorem dX2_read_47 : decode cX2_read 47 = .ok (.iload_n 3, 1) := by decide +kernel
theorem dX2_read_48 : decode cX2_read 48 = .ok (.ifCond .eq 70, 3) := by decide +kernel
theorem dX2_read_51 : decode cX2_read 51 = .ok (.aload_n 0, 1) := by decide +kernel
theorem dX2_read_52 : decode cX2_read 52 = .ok (.getfield 38, 3) := by decide +kernel
theorem dX2_read_55 : decode cX2_read 55 = .ok (.ifCond .eq 63, 3) := by decide +kernel
theorem dX2_read_58 : decode cX2_read 58 = .ok (.aload_n 0, 1) := by decide +kernel
theorem dX2_read_59 : decode cX2_read 59 = .ok (.ldc 41, 2) := by decide +kernel
theorem dX2_read_61 : decode cX2_read 61 = .ok (.invokevirtual 43, 3) := by decide +kernel
theorem dX2_read_64 : decode cX2_read 64 = .ok (.ifCond .eq 10, 3) := by decide +kernel
theorem dX2_read_67 : decode cX2_read 67 = .ok (.aload_n 0, 1) := by decide +kernel
theorem dX2_read_68 : decode cX2_read 68 = .ok (.invokevirtual 47, 3) := by decide +kernel
theorem dX2_read_71 : decode cX2_read 71 = .ok (.goto 23, 3) := by decide +kernel
theorem dX2_read_74 : decode cX2_read 74 = .ok (.aload_n 0, 1) := by decide +kernel
theorem dX2_read_75 : decode cX2_read 75 = .ok (.ldc 50, 2) := by decide +kernel
theorem dX2_read_77 : decode cX2_read 77 = .ok (.invokevirtual 43, 3) := by decide +kernel
theorem dX2_read_80 : decode cX2_read 80 = .ok (.ifCond .eq 10, 3) := by decide +kernel
theorem dX2_read_83 : decode cX2_read 83 = .ok (.aload_n 0, 1) := by decide +kernel
theorem dX2_read_84 : decode cX2_read 84 = .ok (.invokevirtual 52, 3) := by decide +kernel
theorem dX2_read_87 : decode cX2_read 87 = .ok (.goto 7, 3) := by decide +kernel
theorem dX2_read_90 : decode cX2_read 90 = .ok (.aload_n 0, 1) := by decide +kernel
theorem dX2_read_91 : decode cX2_read 91 = .ok (.invokevirtual 55, 3) := by decide +kernel
theorem dX2_read_94 : decode cX2_read 94 = .ok (.istore_n 3, 1) := by decide +kernel
theorem dX2_read_95 : decode cX2_read 95 = .ok (.iload_n 3, 1) := by decide +kernel
theorem dX2_read_96 : decode cX2_read 96 = .ok (.ifCond .eq 14, 3) := by decide +kernel
theorem dX2_read_99 : decode cX2_read 99 = .ok (.aload_n 0, 1) := by decide +kernel
theorem dX2_read_100 : decode cX2_read 100 = .ok (.invokevirtual 58, 3) := by decide +kernel
theorem dX2_read_103 : decode cX2_read 103 = .ok (.ifCond .eq 7, 3) := by decide +kernel
theorem dX2_read_106 : decode cX2_read 106 = .ok (.iconst 1, 1) := by decide +kernel
theorem dX2_read_107 : decode cX2_read 107 = .ok (.goto 4, 3) := by decide +kernel
theorem dX2_read_110 : decode cX2_read 110 = .ok (.iconst 0, 1) := by decide +kernel
theorem dX2_read_111 : decode cX2_read 111 = .ok (.istore_n 3, 1) := by decide +kernel
theorem dX2_read_112 : decode cX2_read 112 = .ok (.iinc 4 1, 3) := by decide +kernel
theorem dX2_read_115 : decode cX2_read 115 = .ok (.goto (-76), 3) := by decide +kernel
theorem dX2_read_118 : decode cX2_read 118 = .ok (.iload_n 3, 1) := by decide +kernel
theorem dX2_read_119 : decode cX2_read 119 = .ok (.ifCond .eq 14, 3) := by decide +kernel
theorem dX2_read_122 : decode cX2_read 122 = .ok (.aload_n 0, 1) := by decide +kernel
theorem dX2_read_123 : decode cX2_read 123 = .ok (.getfield 38, 3) := by decide +kernel
theorem dX2_read_126 : decode cX2_read 126 = .ok (.ifCond .ne 7, 3) := by decide +kernel
theorem dX2_read_129 : decode cX2_read 129 = .ok (.iconst 1, 1) := by decide +kernel
theorem dX2_read_130 : decode cX2_read 130 = .ok (.goto 4, 3) := by decide +kernel
theorem dX2_read_133 : decode cX2_read 133 = .ok (.iconst 0, 1) := by decide +kernel
theorem dX2_read_134 : decode cX2_read 134 = .ok (.ireturn, 1) := by decide +kernel
set_option maxRecDepth 20000 in
theorem moX2_read_134 {o : Int32 × Hp} {F : Nat} {h : Hp} {t0 : Int32} (hE : sX2_read_134 F h  t0 = some o) : Le h o.2 := by
  obtain ⟨g_1, hE⟩ := gd_e hE
  exact le_some2 hE
set_option maxRecDepth 20000 in
theorem moX2_read_133 {o : Int32 × Hp} {F : Nat} {h : Hp} (hE : sX2_read_133 F h  = some o) : Le h o.2 := by
  exact moX2_read_134 hE
set_option maxRecDepth 20000 in
theorem moX2_read_118 {o : Int32 × Hp} {F : Nat} {h : Hp} {x0 : Nat} {x3 : Int32} (hE : sX2_read_118 F h x0 x3 = some o) : Le h o.2 := by
  rcases br_e hE with ⟨_, hE⟩ | ⟨_, hE⟩
  · exact moX2_read_133 hE
  · rcases br_e hE with ⟨_, hE⟩ | ⟨_, hE⟩
    · exact moX2_read_134 hE
    · exact moX2_read_133 hE
set_option maxRecDepth 20000 in
theorem moX2_read_111 {o : Int32 × Hp} {k_39 : Hp → Nat → Int32 → Int32 → Option (Int32 × Hp)} {F : Nat} (mk_39 : ∀ (h : Hp) (x0 : Nat) (x3 : Int32) (x4 : Int32), k_39 h x0 x3 x4 = some o → Le h o.2) {h : Hp} {x0 : Nat} {x4 : Int32} {t0 : Int32} (hE : sX2_read_111 F k_39 h x0 x4 t0 = some o) : Le h o.2 := by
  obtain ⟨v_1, ev_1, hE⟩ := nm_e2 hE
  exact mk_39 _ _ _ _ hE
set_option maxRecDepth 20000 in
theorem moX2_read_110 {o : Int32 × Hp} {k_39 : Hp → Nat → Int32 → Int32 → Option (Int32 × Hp)} {F : Nat} (mk_39 : ∀ (h : Hp) (x0 : Nat) (x3 : Int32) (x4 : Int32), k_39 h x0 x3 x4 = some o → Le h o.2) {h : Hp} {x0 : Nat} {x4 : Int32} (hE : sX2_read_110 F k_39 h x0 x4 = some o) : Le h o.2 := by
  exact moX2_read_111 mk_39 hE
set_option maxRecDepth 20000 in
theorem moX2_read_94 {o : Int32 × Hp} {k_39 : Hp → Nat → Int32 → Int32 → Option (Int32 × Hp)} {F : Nat} (mk_39 : ∀ (h : Hp) (x0 : Nat) (x3 : Int32) (x4 : Int32), k_39 h x0 x3 x4 = some o → Le h o.2) {h : Hp} {x0 : Nat} {x4 : Int32} {t0 : Int32} (hE : sX2_read_94 F k_39 h x0 x4 t0 = some o) : Le h o.2 := by
  rcases br_e hE with ⟨_, hE⟩ | ⟨_, hE⟩
  · exact moX2_read_110 mk_39 hE
  · obtain ⟨o_2, eo_2, hE⟩ := cl_e hE
    refine (moX2_takeEnd eo_2).tr ?_
    rcases br_e hE with ⟨_, hE⟩ | ⟨_, hE⟩
    · exact moX2_read_110 mk_39 hE
    · exact moX2_read_111 mk_39 hE
set_option maxRecDepth 20000 in
theorem moX2_read_39 {o : Int32 × Hp} {F : Nat} : ∀ (f : Nat) {h : Hp} {x0 : Nat} {x3 : Int32} {x4 : Int32}, sX2_read_39 F f h x0 x3 x4 = some o → Le h o.2 := by
  intro f
  induction f with
  | zero =>
    intro h x0 x3 x4 hE
    rw [sX2_read_39] at hE
    cases hE
  | succ f ih =>
    intro h x0 x3 x4 hE
    rw [sX2_read_39] at hE
    have mk_39 : ∀ (h : Hp) (x0 : Nat) (x3 : Int32) (x4 : Int32), sX2_read_39 F f h x0 x3 x4 = some o → Le h o.2 := fun h x0 x3 x4 hE => ih hE
    rcases br_e hE with ⟨_, hE⟩ | ⟨_, hE⟩
    · exact moX2_read_118 hE
    · rcases br_e hE with ⟨_, hE⟩ | ⟨_, hE⟩
      · exact moX2_read_118 hE
      · rcases br_e hE with ⟨_, hE⟩ | ⟨_, hE⟩
        · exact moX2_read_118 hE
        · obtain ⟨o_4, eo_4, hE⟩ := cl_e hE
          refine (moX2_isWord eo_4).tr ?_
          rcases br_e hE with ⟨_, hE⟩ | ⟨_, hE⟩
          · obtain ⟨o_6, eo_6, hE⟩ := cl_e hE
            refine (moX2_isWord eo_6).tr ?_
            rcases br_e hE with ⟨_, hE⟩ | ⟨_, hE⟩
            · obtain ⟨o_8, eo_8, hE⟩ := cl_e hE
              refine (moX2_takeOther eo_8).tr ?_
              exact moX2_read_94 mk_39 hE
            · obtain ⟨o_9, eo_9, hE⟩ := cl_e hE
              refine (moX2_takeBecomes eo_9).tr ?_
              exact moX2_read_94 mk_39 hE
          · obtain ⟨o_10, eo_10, hE⟩ := cl_e hE
            refine (moX2_takeMan eo_10).tr ?_
            exact moX2_read_94 mk_39 hE
set_option maxRecDepth 20000 in
theorem moX2_read {o : Int32 × Hp} {F : Nat} {h : Hp} {x0 : Nat} {x1 : Nat} {x2 : Nat} (hE : sX2_read F h x0 x1 x2 = some o) : Le h o.2 := by
  obtain ⟨h_1, eh_1, hE⟩ := nm_e2 hE
  refine (le_R eh_1).tr ?_
  obtain ⟨h_2, eh_2, hE⟩ := nm_e2 hE
  refine (le_R eh_2).tr ?_
  obtain ⟨r_3, er_3, hE⟩ := cl_e hE
  obtain ⟨o_4, eo_4, hE⟩ := cl_e hE
  refine (moX1_clear eo_4).tr ?_
  obtain ⟨h_5, eh_5, hE⟩ := nm_e2 hE
  refine (le_I eh_5).tr ?_
  obtain ⟨h_6, eh_6, hE⟩ := nm_e2 hE
  refine (le_I eh_6).tr ?_
  obtain ⟨o_7, eo_7, hE⟩ := cl_e hE
  refine (moX2_advance eo_7).tr ?_
  obtain ⟨o_8, eo_8, hE⟩ := cl_e hE
  refine (moX2_takeBoard eo_8).tr ?_
  exact moX2_read_39 _ hE
set_option maxRecDepth 20000 in
theorem bX2_read_134 {p : Program} {l : Launch} {e : Env} {s : State} {m : MethodId} {args : Array Value} {below : List Frame} {meth : Method} {c : Code} {X : Ec} {h0 : Hp} {o : Int32 × Hp} {F : Nat} (C : Cx X p s m args meth c RX2 cX2_read 5 (some .boolean) "read") {h : Hp} {t0 : Int32} {H : Heap} {locs : List Loc} (hkm : Km h0 h) (hW : Wx X h H) (hZ : va_S (aA (eB X)) s.heap H locs) (ls : Array Slot) (hl : lv_has ls 5 []) (hE : sX2_read_134 F h  t0 = some o) : W p l e (rm 8 181) s m args below meth c H locs 0 0 (MQ below (QI X h0 o.1 o.2) args s 0 0 (aA (eB X))) (F0 m 134 ls [.int t0]) := by
  obtain ⟨g_1, hE⟩ := gd_e hE
  exact x_iret C rfl (narB g_1) hW hZ hkm hE dX2_read_134
set_option maxRecDepth 20000 in
theorem bX2_read_133 {p : Program} {l : Launch} {e : Env} {s : State} {m : MethodId} {args : Array Value} {below : List Frame} {meth : Method} {c : Code} {X : Ec} {h0 : Hp} {o : Int32 × Hp} {F : Nat} (C : Cx X p s m args meth c RX2 cX2_read 5 (some .boolean) "read") {h : Hp} {H : Heap} {locs : List Loc} (hkm : Km h0 h) (hW : Wx X h H) (hZ : va_S (aA (eB X)) s.heap H locs) (ls : Array Slot) (hl : lv_has ls 5 []) (hE : sX2_read_133 F h  = some o) : W p l e (rm 8 181) s m args below meth c H locs 0 0 (MQ below (QI X h0 o.1 o.2) args s 0 0 (aA (eB X))) (F0 m 133 ls []) := by
  refine lv_iconst (v := (0 : Int32)) C.1 C.2.1 dX2_read_133 (by decide) ?_
  exact bX2_read_134 C hkm hW hZ _ (lv_sub hl [] rfl) hE
set_option maxRecDepth 20000 in
theorem bX2_read_118 {p : Program} {l : Launch} {e : Env} {s : State} {m : MethodId} {args : Array Value} {below : List Frame} {meth : Method} {c : Code} {X : Ec} {h0 : Hp} {o : Int32 × Hp} {F : Nat} (C : Cx X p s m args meth c RX2 cX2_read 5 (some .boolean) "read") {h : Hp} {x0 : Nat} {x3 : Int32} {H : Heap} {locs : List Loc} (k_x0 : hK h x0 = 2) (hkm : Km h0 h) (hW : Wx X h H) (hZ : va_S (aA (eB X)) s.heap H locs) (ls : Array Slot) (hl : lv_has ls 5 [(0, .ref x0), (3, .int x3)]) (hE : sX2_read_118 F h x0 x3 = some o) : W p l e (rm 8 181) s m args below meth c H locs 0 0 (MQ below (QI X h0 o.1 o.2) args s 0 0 (aA (eB X))) (F0 m 118 ls []) := by
  refine lv_iload_n C.1 C.2.1 dX2_read_118 rfl (lv_at hl 1 rfl) ?_
  refine lv_if_eq (tgt := 133) C.1 C.2.1 dX2_read_119 (by decide) (fun c_1 => ?_) (fun c_1 => ?_)
  · have hE := br_p hE c_1
    exact bX2_read_133 C hkm hW hZ _ (lv_sub hl [] rfl) hE
  · have hE := br_n hE c_1
    refine lv_aload_n C.1 C.2.1 dX2_read_122 rfl (lv_at hl 0 rfl) ?_
    refine gf_X2_38 C hW k_x0 dX2_read_123 ?_
    refine lv_if_ne (tgt := 133) C.1 C.2.1 dX2_read_126 (by decide) (fun c_2 => ?_) (fun c_2 => ?_)
    · have hE := br_n hE c_2
      exact bX2_read_133 C hkm hW hZ _ (lv_sub hl [] rfl) hE
    · have hE := br_p hE c_2
      refine lv_iconst (v := (1 : Int32)) C.1 C.2.1 dX2_read_129 (by decide) ?_
      refine lv_goto (tgt := 134) C.1 C.2.1 dX2_read_130 (by decide) ?_
      exact bX2_read_134 C hkm hW hZ _ (lv_sub hl [] rfl) hE
set_option maxRecDepth 20000 in
theorem bX2_read_111 {p : Program} {l : Launch} {e : Env} {s : State} {m : MethodId} {args : Array Value} {below : List Frame} {meth : Method} {c : Code} {X : Ec} {h0 : Hp} {o : Int32 × Hp} {k_39 : Hp → Nat → Int32 → Int32 → Option (Int32 × Hp)} {F : Nat} (C : Cx X p s m args meth c RX2 cX2_read 5 (some .boolean) "read") (hk_39 : ∀ (h : Hp) (x0 : Nat) (x3 : Int32) (x4 : Int32) (H : Heap) (locs : List Loc), hK h x0 = 2 → Km h0 h → Wx X h H → va_S (aA (eB X)) s.heap H locs → ∀ (ls : Array Slot), lv_has ls 5 [(0, .ref x0), (3, .int x3), (4, .int x4)] → k_39 h x0 x3 x4 = some o → W p l e (rm 8 181) s m args below meth c H locs 0 0 (MQ below (QI X h0 o.1 o.2) args s 0 0 (aA (eB X))) (F0 m 39 ls [])) {h : Hp} {x0 : Nat} {x4 : Int32} {t0 : Int32} {H : Heap} {locs : List Loc} (k_x0 : hK h x0 = 2) (hkm : Km h0 h) (hW : Wx X h H) (hZ : va_S (aA (eB X)) s.heap H locs) (ls : Array Slot) (hl : lv_has ls 5 [(0, .ref x0), (4, .int x4)]) (hE : sX2_read_111 F k_39 h x0 x4 t0 = some o) : W p l e (rm 8 181) s m args below meth c H locs 0 0 (MQ below (QI X h0 o.1 o.2) args s 0 0 (aA (eB X))) (F0 m 111 ls [.int t0]) := by
  refine lv_istore_n (lv' := [(3, .int t0), (0, .ref x0), (4, .int x4)]) C.1 C.2.1 dX2_read_111 rfl hl (by decide) rfl (fun ls hl => ?_)
  obtain ⟨v_1, ev_1, hE⟩ := nm_e2 hE
  refine lv_iinc (v := v_1) (lv' := [(4, .int v_1), (3, .int t0), (0, .ref x0)]) C.1 C.2.1 dX2_read_112 hl (k := 2) rfl (by rw [ev_1]; rfl) (by decide) rfl (fun ls hl => ?_)
  refine lv_goto (tgt := 39) C.1 C.2.1 dX2_read_115 (by decide) ?_
  exact hk_39 _ _ _ _ _ _ k_x0 hkm hW hZ _ (lv_sub hl [2, 1, 0] rfl) hE
set_option maxRecDepth 20000 in
theorem bX2_read_110 {p : Program} {l : Launch} {e : Env} {s : State} {m : MethodId} {args : Array Value} {below : List Frame} {meth : Method} {c : Code} {X : Ec} {h0 : Hp} {o : Int32 × Hp} {k_39 : Hp → Nat → Int32 → Int32 → Option (Int32 × Hp)} {F : Nat} (C : Cx X p s m args meth c RX2 cX2_read 5 (some .boolean) "read") (hk_39 : ∀ (h : Hp) (x0 : Nat) (x3 : Int32) (x4 : Int32) (H : Heap) (locs : List Loc), hK h x0 = 2 → Km h0 h → Wx X h H → va_S (aA (eB X)) s.heap H locs → ∀ (ls : Array Slot), lv_has ls 5 [(0, .ref x0), (3, .int x3), (4, .int x4)] → k_39 h x0 x3 x4 = some o → W p l e (rm 8 181) s m args below meth c H locs 0 0 (MQ below (QI X h0 o.1 o.2) args s 0 0 (aA (eB X))) (F0 m 39 ls [])) {h : Hp} {x0 : Nat} {x4 : Int32} {H : Heap} {locs : List Loc} (k_x0 : hK h x0 = 2) (hkm : Km h0 h) (hW : Wx X h H) (hZ : va_S (aA (eB X)) s.heap H locs) (ls : Array Slot) (hl : lv_has ls 5 [(0, .ref x0), (4, .int x4)]) (hE : sX2_read_110 F k_39 h x0 x4 = some o) : W p l e (rm 8 181) s m args below meth c H locs 0 0 (MQ below (QI X h0 o.1 o.2) args s 0 0 (aA (eB X))) (F0 m 110 ls []) := by
  refine lv_iconst (v := (0 : Int32)) C.1 C.2.1 dX2_read_110 (by decide) ?_
  exact bX2_read_111 C hk_39 k_x0 hkm hW hZ _ (lv_sub hl [0, 1] rfl) hE
set_option maxRecDepth 20000 in
theorem bX2_read_94 {p : Program} {l : Launch} {e : Env} {s : State} {m : MethodId} {args : Array Value} {below : List Frame} {meth : Method} {c : Code} {X : Ec} {h0 : Hp} {o : Int32 × Hp} {k_39 : Hp → Nat → Int32 → Int32 → Option (Int32 × Hp)} {F : Nat} (C : Cx X p s m args meth c RX2 cX2_read 5 (some .boolean) "read") (hk_39 : ∀ (h : Hp) (x0 : Nat) (x3 : Int32) (x4 : Int32) (H : Heap) (locs : List Loc), hK h x0 = 2 → Km h0 h → Wx X h H → va_S (aA (eB X)) s.heap H locs → ∀ (ls : Array Slot), lv_has ls 5 [(0, .ref x0), (3, .int x3), (4, .int x4)] → k_39 h x0 x3 x4 = some o → W p l e (rm 8 181) s m args below meth c H locs 0 0 (MQ below (QI X h0 o.1 o.2) args s 0 0 (aA (eB X))) (F0 m 39 ls [])) {h : Hp} {x0 : Nat} {x4 : Int32} {t0 : Int32} {H : Heap} {locs : List Loc} (k_x0 : hK h x0 = 2) (hkm : Km h0 h) (hW : Wx X h H) (hZ : va_S (aA (eB X)) s.heap H locs) (ls : Array Slot) (hl : lv_has ls 5 [(0, .ref x0), (4, .int x4)]) (hE : sX2_read_94 F k_39 h x0 x4 t0 = some o) : W p l e (rm 8 181) s m args below meth c H locs 0 0 (MQ below (QI X h0 o.1 o.2) args s 0 0 (aA (eB X))) (F0 m 94 ls [.int t0]) := by
  refine lv_istore_n (lv' := [(3, .int t0), (0, .ref x0), (4, .int x4)]) C.1 C.2.1 dX2_read_94 rfl hl (by decide) rfl (fun ls hl => ?_)
  refine lv_iload_n C.1 C.2.1 dX2_read_95 rfl (lv_at hl 0 rfl) ?_
  refine lv_if_eq (tgt := 110) C.1 C.2.1 dX2_read_96 (by decide) (fun c_1 => ?_) (fun c_1 => ?_)
  · have hE := br_p hE c_1
    exact bX2_read_110 C hk_39 k_x0 hkm hW hZ _ (lv_sub hl [1, 2] rfl) hE
  · have hE := br_n hE c_1
    refine lv_aload_n C.1 C.2.1 dX2_read_99 rfl (lv_at hl 1 rfl) ?_
    obtain ⟨o_2, eo_2, hE⟩ := cl_e hE
    refine x_kI (o := o_2) (z_runV (As := []) (rest := []) C (ct_X2_takeEnd l X F k_x0 eo_2) cw_X2_58 hW hZ k_x0 (by decide) rfl rfl rfl hl.1 (Nat.le_of_ble_eq_true rfl) rfl dX2_read_100 ⟨Nat.le_of_ble_eq_true rfl, Nat.le_of_ble_eq_true rfl⟩ ⟨Nat.le_refl _, Nat.le_refl _⟩) hZ (fun _ _ hW km hZ => ?_)
    replace hkm := hkm.tr km
    replace k_x0 := km.at k_x0 (by decide)
    refine lv_if_eq (tgt := 110) C.1 C.2.1 dX2_read_103 (by decide) (fun c_3 => ?_) (fun c_3 => ?_)
    · have hE := br_p hE c_3
      exact bX2_read_110 C hk_39 k_x0 hkm hW hZ _ (lv_sub hl [1, 2] rfl) hE
    · have hE := br_n hE c_3
      refine lv_iconst (v := (1 : Int32)) C.1 C.2.1 dX2_read_106 (by decide) ?_
      refine lv_goto (tgt := 111) C.1 C.2.1 dX2_read_107 (by decide) ?_
      exact bX2_read_111 C hk_39 k_x0 hkm hW hZ _ (lv_sub hl [1, 2] rfl) hE
set_option maxRecDepth 20000 in
theorem bX2_read_39 {p : Program} {l : Launch} {e : Env} {s : State} {m : MethodId} {args : Array Value} {below : List Frame} {meth : Method} {c : Code} {X : Ec} {h0 : Hp} {o : Int32 × Hp} {F : Nat} (C : Cx X p s m args meth c RX2 cX2_read 5 (some .boolean) "read") : ∀ (f : Nat) {h : Hp} {x0 : Nat} {x3 : Int32} {x4 : Int32} {H : Heap} {locs : List Loc} (k_x0 : hK h x0 = 2), Km h0 h → Wx X h H → va_S (aA (eB X)) s.heap H locs → ∀ (ls : Array Slot), lv_has ls 5 [(0, .ref x0), (3, .int x3), (4, .int x4)] → sX2_read_39 F f h x0 x3 x4 = some o → W p l e (rm 8 181) s m args below meth c H locs 0 0 (MQ below (QI X h0 o.1 o.2) args s 0 0 (aA (eB X))) (F0 m 39 ls []) := by
  intro f
  induction f with
  | zero =>
    intro h x0 x3 x4 H locs k_x0 hkm hW hZ ls hl hE
    rw [sX2_read_39] at hE
    cases hE
  | succ f ih =>
    intro h x0 x3 x4 H locs k_x0 hkm hW hZ ls hl hE
    rw [sX2_read_39] at hE
    have hk_39 : ∀ (h : Hp) (x0 : Nat) (x3 : Int32) (x4 : Int32) (H : Heap) (locs : List Loc), hK h x0 = 2 → Km h0 h → Wx X h H → va_S (aA (eB X)) s.heap H locs → ∀ (ls : Array Slot), lv_has ls 5 [(0, .ref x0), (3, .int x3), (4, .int x4)] → sX2_read_39 F f h x0 x3 x4 = some o → W p l e (rm 8 181) s m args below meth c H locs 0 0 (MQ below (QI X h0 o.1 o.2) args s 0 0 (aA (eB X))) (F0 m 39 ls []) := fun h x0 x3 x4 H locs k_x0 a b c ls hl hE => ih k_x0 a b c ls hl hE
    refine lv_iload C.1 C.2.1 dX2_read_39 (lv_at hl 2 rfl) ?_
    refine lv_sipush (v := (1200 : Int32)) C.1 C.2.1 dX2_read_41 (by decide) ?_
    refine lv_icmp_ge (tgt := 118) C.1 C.2.1 dX2_read_44 (by decide) (fun c_1 => ?_) (fun c_1 => ?_)
    · have hE := br_p hE c_1
      exact bX2_read_118 C k_x0 hkm hW hZ _ (lv_sub hl [0, 1] rfl) hE
    · have hE := br_n hE c_1
      refine lv_iload_n C.1 C.2.1 dX2_read_47 rfl (lv_at hl 1 rfl) ?_
      refine lv_if_eq (tgt := 118) C.1 C.2.1 dX2_read_48 (by decide) (fun c_2 => ?_) (fun c_2 => ?_)
      · have hE := br_p hE c_2
        exact bX2_read_118 C k_x0 hkm hW hZ _ (lv_sub hl [0, 1] rfl) hE
      · have hE := br_n hE c_2
        refine lv_aload_n C.1 C.2.1 dX2_read_51 rfl (lv_at hl 0 rfl) ?_
        refine gf_X2_38 C hW k_x0 dX2_read_52 ?_
        refine lv_if_eq (tgt := 118) C.1 C.2.1 dX2_read_55 (by decide) (fun c_3 => ?_) (fun c_3 => ?_)
        · have hE := br_p hE c_3
          exact bX2_read_118 C k_x0 hkm hW hZ _ (lv_sub hl [0, 1] rfl) hE
        · have hE := br_n hE c_3
          refine lv_aload_n C.1 C.2.1 dX2_read_58 rfl (lv_at hl 0 rfl) ?_
          refine va_ldcS C.1 C.2.1 C.2.2.2.1 (C.2.2.2.2.2.2.2.2.1 4 (by decide)).2 dX2_read_59 ?_
          obtain ⟨o_4, eo_4, hE⟩ := cl_e hE
          refine x_kI (o := o_4) (z_runV (As := [.ref (X.2.2.2.1 4)]) (rest := []) C (ct_X2_isWord l X F k_x0 (by decide) eo_4) cw_X2_43 hW hZ k_x0 (by decide) rfl rfl rfl hl.1 (Nat.le_of_ble_eq_true rfl) rfl dX2_read_61 ⟨Nat.le_of_ble_eq_true rfl, Nat.le_of_ble_eq_true rfl⟩ ⟨Nat.le_refl _, Nat.le_refl _⟩) hZ (fun _ _ hW km hZ => ?_)
          replace hkm := hkm.tr km
          replace k_x0 := km.at k_x0 (by decide)
          refine lv_if_eq (tgt := 74) C.1 C.2.1 dX2_read_64 (by decide) (fun c_5 => ?_) (fun c_5 => ?_)
          · have hE := br_p hE c_5
            refine lv_aload_n C.1 C.2.1 dX2_read_74 rfl (lv_at hl 0 rfl) ?_
            refine va_ldcS C.1 C.2.1 C.2.2.2.1 (C.2.2.2.2.2.2.2.2.1 13 (by decide)).2 dX2_read_75 ?_
            obtain ⟨o_6, eo_6, hE⟩ := cl_e hE
            refine x_kI (o := o_6) (z_runV (As := [.ref (X.2.2.2.1 13)]) (rest := []) C (ct_X2_isWord l X F k_x0 (by decide) eo_6) cw_X2_43 hW hZ k_x0 (by decide) rfl rfl rfl hl.1 (Nat.le_of_ble_eq_true rfl) rfl dX2_read_77 ⟨Nat.le_of_ble_eq_true rfl, Nat.le_of_ble_eq_true rfl⟩ ⟨Nat.le_refl _, Nat.le_refl _⟩) hZ (fun _ _ hW km hZ => ?_)
            replace hkm := hkm.tr km
            replace k_x0 := km.at k_x0 (by decide)
            refine lv_if_eq (tgt := 90) C.1 C.2.1 dX2_read_80 (by decide) (fun c_7 => ?_) (fun c_7 => ?_)
            · have hE := br_p hE c_7
              refine lv_aload_n C.1 C.2.1 dX2_read_90 rfl (lv_at hl 0 rfl) ?_
              obtain ⟨o_8, eo_8, hE⟩ := cl_e hE
              refine x_kI (o := o_8) (z_runV (As := []) (rest := []) C (ct_X2_takeOther l X F k_x0 eo_8) cw_X2_55 hW hZ k_x0 (by decide) rfl rfl rfl hl.1 (Nat.le_of_ble_eq_true rfl) rfl dX2_read_91 ⟨Nat.le_of_ble_eq_true rfl, Nat.le_of_ble_eq_true rfl⟩ ⟨Nat.le_refl _, Nat.le_refl _⟩) hZ (fun _ _ hW km hZ => ?_)
              replace hkm := hkm.tr km
              replace k_x0 := km.at k_x0 (by decide)
              exact bX2_read_94 C hk_39 k_x0 hkm hW hZ _ (lv_sub hl [0, 2] rfl) hE
            · have hE := br_n hE c_7
              refine lv_aload_n C.1 C.2.1 dX2_read_83 rfl (lv_at hl 0 rfl) ?_
              obtain ⟨o_9, eo_9, hE⟩ := cl_e hE
              refine x_kI (o := o_9) (z_runV (As := []) (rest := []) C (ct_X2_takeBecomes l X F k_x0 eo_9) cw_X2_52 hW hZ k_x0 (by decide) rfl rfl rfl hl.1 (Nat.le_of_ble_eq_true rfl) rfl dX2_read_84 ⟨Nat.le_of_ble_eq_true rfl, Nat.le_of_ble_eq_true rfl⟩ ⟨Nat.le_refl _, Nat.le_refl _⟩) hZ (fun _ _ hW km hZ => ?_)
              replace hkm := hkm.tr km
              replace k_x0 := km.at k_x0 (by decide)
              refine lv_goto (tgt := 94) C.1 C.2.1 dX2_read_87 (by decide) ?_
              exact bX2_read_94 C hk_39 k_x0 hkm hW hZ _ (lv_sub hl [0, 2] rfl) hE
          · have hE := br_n hE c_5
            refine lv_aload_n C.1 C.2.1 dX2_read_67 rfl (lv_at hl 0 rfl) ?_
            obtain ⟨o_10, eo_10, hE⟩ := cl_e hE
            refine x_kI (o := o_10) (z_runV (As := []) (rest := []) C (ct_X2_takeMan l X F k_x0 eo_10) cw_X2_47 hW hZ k_x0 (by decide) rfl rfl rfl hl.1 (Nat.le_of_ble_eq_true rfl) rfl dX2_read_68 ⟨Nat.le_of_ble_eq_true rfl, Nat.le_of_ble_eq_true rfl⟩ ⟨Nat.le_refl _, Nat.le_refl _⟩) hZ (fun _ _ hW km hZ => ?_)
            replace hkm := hkm.tr km
            replace k_x0 := km.at k_x0 (by decide)
            refine lv_goto (tgt := 94) C.1 C.2.1 dX2_read_71 (by decide) ?_
            exact bX2_read_94 C hk_39 k_x0 hkm hW hZ _ (lv_sub hl [0, 2] rfl) hE
set_option maxRecDepth 20000 in
theorem ct_X2_read (l : Launch) (X : Ec) (F : Nat) {h : Hp} {x0 : Nat} {x1 : Nat} {x2 : Nat} {o : Int32 × Hp} (k_x0 : hK h x0 = 2) (k_x1 : hK h x1 = 9) (k_x2 : hK h x2 = 1) (hE : sX2_read F h x0 x1 x2 = some o) : MetI l yX2_read cX2_read 5 (some .boolean) 8 181 X [.ref x0, .ref x1, .ref x2] h o := by
  refine x_met (by decide) (Nat.le_of_ble_eq_true rfl) ?_
  intro p e s m below meth c ls C hl hW hZ
  have hl : lv_has ls 5 [(0, .ref x0), (1, .ref x1), (2, .ref x2)] := hl
  have hkm : Km h h := Km.rf h
  refine lv_aload_n C.1 C.2.1 dX2_read_0 rfl (lv_at hl 0 rfl) ?_
  refine lv_aload_n C.1 C.2.1 dX2_read_1 rfl (lv_at hl 1 rfl) ?_
  obtain ⟨h_1, eh_1, hE⟩ := nm_e2 hE
  refine pf_X2_9 C hW hZ k_x0 k_x1 eh_1 dX2_read_2 (fun _ _ hW km hZ => ?_)
  replace hkm := hkm.tr km
  replace k_x0 := km.at k_x0 (by decide)
  replace k_x1 := km.at k_x1 (by decide)
  replace k_x2 := km.at k_x2 (by decide)
  refine lv_aload_n C.1 C.2.1 dX2_read_5 rfl (lv_at hl 0 rfl) ?_
  refine lv_aload_n C.1 C.2.1 dX2_read_6 rfl (lv_at hl 2 rfl) ?_
  obtain ⟨h_2, eh_2, hE⟩ := nm_e2 hE
  refine pf_X2_15 C hW hZ k_x0 k_x2 eh_2 dX2_read_7 (fun _ _ hW km hZ => ?_)
  replace hkm := hkm.tr km
  replace k_x0 := km.at k_x0 (by decide)
  replace k_x1 := km.at k_x1 (by decide)
  replace k_x2 := km.at k_x2 (by decide)
  refine lv_aload_n C.1 C.2.1 dX2_read_10 rfl (lv_at hl 0 rfl) ?_
  obtain ⟨r_3, er_3, hE⟩ := cl_e hE
  refine gf_X2_15 C hW k_x0 er_3 dX2_read_11 (fun k_r_3 => ?_)
  obtain ⟨o_4, eo_4, hE⟩ := cl_e hE
  refine x_kV (o := o_4) (z_runV (As := []) (rest := []) C (ct_X1_clear l X F k_r_3 eo_4) cw_X2_19 hW hZ k_r_3 (by decide) rfl rfl rfl hl.1 (Nat.le_of_ble_eq_true rfl) rfl dX2_read_14 ⟨Nat.le_of_ble_eq_true rfl, Nat.le_of_ble_eq_true rfl⟩ ⟨Nat.le_refl _, Nat.le_refl _⟩) hZ (fun _ _ hW km hZ => ?_)
  replace hkm := hkm.tr km
  replace k_x0 := km.at k_x0 (by decide)
  replace k_x1 := km.at k_x1 (by decide)
  replace k_x2 := km.at k_x2 (by decide)
  refine lv_aload_n C.1 C.2.1 dX2_read_17 rfl (lv_at hl 0 rfl) ?_
  refine lv_iconst (v := (0 : Int32)) C.1 C.2.1 dX2_read_18 (by decide) ?_
  obtain ⟨h_5, eh_5, hE⟩ := nm_e2 hE
  refine pf_X2_24 C hW hZ k_x0 eh_5 dX2_read_19 (fun _ _ hW km hZ => ?_)
  replace hkm := hkm.tr km
  replace k_x0 := km.at k_x0 (by decide)
  replace k_x1 := km.at k_x1 (by decide)
  replace k_x2 := km.at k_x2 (by decide)
  refine lv_aload_n C.1 C.2.1 dX2_read_22 rfl (lv_at hl 0 rfl) ?_
  refine lv_iconst (v := (0 : Int32)) C.1 C.2.1 dX2_read_23 (by decide) ?_
  obtain ⟨h_6, eh_6, hE⟩ := nm_e2 hE
  refine pf_X2_28 C hW hZ k_x0 eh_6 dX2_read_24 (fun _ _ hW km hZ => ?_)
  replace hkm := hkm.tr km
  replace k_x0 := km.at k_x0 (by decide)
  replace k_x1 := km.at k_x1 (by decide)
  replace k_x2 := km.at k_x2 (by decide)
  refine lv_aload_n C.1 C.2.1 dX2_read_27 rfl (lv_at hl 0 rfl) ?_
  obtain ⟨o_7, eo_7, hE⟩ := cl_e hE
  refine x_kV (o := o_7) (z_runV (As := []) (rest := []) C (ct_X2_advance l X F k_x0 eo_7) cw_X2_31 hW hZ k_x0 (by decide) rfl rfl rfl hl.1 (Nat.le_of_ble_eq_true rfl) rfl dX2_read_28 ⟨Nat.le_of_ble_eq_true rfl, Nat.le_of_ble_eq_true rfl⟩ ⟨Nat.le_refl _, Nat.le_refl _⟩) hZ (fun _ _ hW km hZ => ?_)
  replace hkm := hkm.tr km
  replace k_x0 := km.at k_x0 (by decide)
  replace k_x1 := km.at k_x1 (by decide)
  replace k_x2 := km.at k_x2 (by decide)
  refine lv_aload_n C.1 C.2.1 dX2_read_31 rfl (lv_at hl 0 rfl) ?_
  obtain ⟨o_8, eo_8, hE⟩ := cl_e hE
  refine x_kI (o := o_8) (z_runV (As := []) (rest := []) C (ct_X2_takeBoard l X F k_x0 eo_8) cw_X2_34 hW hZ k_x0 (by decide) rfl rfl rfl hl.1 (Nat.le_of_ble_eq_true rfl) rfl dX2_read_32 ⟨Nat.le_of_ble_eq_true rfl, Nat.le_of_ble_eq_true rfl⟩ ⟨Nat.le_refl _, Nat.le_refl _⟩) hZ (fun _ _ hW km hZ => ?_)
  replace hkm := hkm.tr km
  replace k_x0 := km.at k_x0 (by decide)
  replace k_x1 := km.at k_x1 (by decide)
  replace k_x2 := km.at k_x2 (by decide)
  refine lv_istore_n (lv' := [(3, .int o_8.1), (0, .ref x0), (1, .ref x1), (2, .ref x2)]) C.1 C.2.1 dX2_read_35 rfl hl (by decide) rfl (fun ls hl => ?_)
  refine lv_iconst (v := (0 : Int32)) C.1 C.2.1 dX2_read_36 (by decide) ?_
  refine lv_istore (lv' := [(4, .int (0 : Int32)), (3, .int o_8.1), (0, .ref x0), (1, .ref x1), (2, .ref x2)]) C.1 C.2.1 dX2_read_37 hl (by decide) rfl (fun ls hl => ?_)
  exact bX2_read_39 C F k_x0 hkm hW hZ _ (lv_sub hl [2, 1, 0] rfl) hE
theorem dX2_faultPlace_0 : decode cX2_faultPlace 0 = .ok (.aload_n 0, 1) := by decide +kernel
theorem dX2_faultPlace_1 : decode cX2_faultPlace 1 = .ok (.getfield 61, 3) := by decide +kernel
theorem dX2_faultPlace_4 : decode cX2_faultPlace 4 = .ok (.ireturn, 1) := by decide +kernel
set_option maxRecDepth 20000 in
theorem moX2_faultPlace {o : Int32 × Hp} {h : Hp} {x0 : Nat} (hE : sX2_faultPlace h x0 = some o) : Le h o.2 := by
  exact le_some2 hE
set_option maxRecDepth 20000 in
theorem ct_X2_faultPlace (l : Launch) (X : Ec) {h : Hp} {x0 : Nat} {o : Int32 × Hp} (k_x0 : hK h x0 = 2) (hE : sX2_faultPlace h x0 = some o) : MetI l yX2_faultPlace cX2_faultPlace 1 (some .int) 0 0 X [.ref x0] h o := by
  refine x_met (by decide) (Nat.le_of_ble_eq_true rfl) ?_
  intro p e s m below meth c ls C hl hW hZ
  have hl : lv_has ls 1 [(0, .ref x0)] := hl
  have hkm : Km h h := Km.rf h
  refine lv_aload_n C.1 C.2.1 dX2_faultPlace_0 rfl (lv_at hl 0 rfl) ?_
  refine gf_X2_61 C hW k_x0 dX2_faultPlace_1 ?_
  exact x_iret C rfl rfl hW hZ hkm hE dX2_faultPlace_4
