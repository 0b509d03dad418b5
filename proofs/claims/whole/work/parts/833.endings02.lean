set_option maxRecDepth 100000 in
theorem m_303 : Cond.fieldLink RX0 184 (TX3 5).1 (TX3 5).2.1 (TX3 5).2.2.1 ∈ W0 := w0_in (List.mem_append_right _ (List.mem_of_getElem? (i := 303) rfl)) rfl
set_option maxRecDepth 100000 in
theorem m_1669 : Cond.methodLink RX0 200 yX5_winnerOf ∈ W0 := w0_in (List.mem_append_right _ (List.mem_of_getElem? (i := 1669) rfl)) rfl
set_option maxRecDepth 100000 in
theorem m_1670 : Cond.constant RX0 204 (1000000 : Int32) ∈ W0 := w0_in (List.mem_append_right _ (List.mem_of_getElem? (i := 1670) rfl)) rfl
set_option maxRecDepth 100000 in
theorem m_1671 : Cond.constant RX0 205 (-1000000 : Int32) ∈ W0 := w0_in (List.mem_append_right _ (List.mem_of_getElem? (i := 1671) rfl)) rfl
section
variable {p : Program} {l : Launch} {e : Env} {R : Room} {s : State} {m : MethodId} {args : Array Value} {below : List Frame} {meth : Method} {c : Code} {H : Heap} {locs : List Loc} {cells slots : Nat} {Q : State → Prop}
variable {cc : ByteArray} {pc : Nat} {ls : Array Slot} {rest : List Value} {X : Ec} {h h1 : Hp} {nL : Nat} {rt : Option FieldType} {mn : String}
theorem gf_X0_48 {a r : Nat} (C : Cx X p s m args meth c RX0 cc nL rt mn) (hW : Wx X h H) (ha : hK h a = 0) (hr : hR h a 2 = some r) (hdg : decode cc pc = .ok (.getfield 48, 3)) (kk : hK h r = 5 → W p l e R s m args below meth c H locs cells slots Q (F0 m (pc + 3) ls (.ref r :: rest))) : W p l e R s m args below meth c H locs cells slots Q (F0 m pc ls (.ref a :: rest)) :=
  y_getr C hW ha i_X0 (by decide) rfl (by decide) m_459 rfl rfl hr hdg kk
theorem gf_X0_184 {a : Nat} (C : Cx X p s m args meth c RX0 cc nL rt mn) (hW : Wx X h H) (ha : hK h a = 3) (hdg : decode cc pc = .ok (.getfield 184, 3)) (kk : W p l e R s m args below meth c H locs cells slots Q (F0 m (pc + 3) ls (.int (hI h a 5) :: rest))) : W p l e R s m args below meth c H locs cells slots Q (F0 m pc ls (.ref a :: rest)) :=
  y_geti C hW ha i_X3 (by decide) rfl (by decide) m_303 rfl hdg kk
end
theorem cw_X0_200 : cwd RX0 200 yX5_winnerOf cX5_winnerOf 6 (some .int) false 2 := ⟨m_1383, m_1669, m_7, ⟨m_1381, m_1382⟩, by decide, by decide, by decide +kernel⟩
theorem dX0_endWorth_0 : decode cX0_endWorth 0 = .ok (.aload_n 0, 1) := by decide +kernel
theorem dX0_endWorth_1 : decode cX0_endWorth 1 = .ok (.getfield 48, 3) := by decide +kernel
theorem dX0_endWorth_4 : decode cX0_endWorth 4 = .ok (.aload_n 0, 1) := by decide +kernel
theorem dX0_endWorth_5 : decode cX0_endWorth 5 = .ok (.getfield 14, 3) := by decide +kernel
theorem dX0_endWorth_8 : decode cX0_endWorth 8 = .ok (.iload_n 1, 1) := by decide +kernel
theorem dX0_endWorth_9 : decode cX0_endWorth 9 = .ok (.invokevirtual 200, 3) := by decide +kernel
theorem dX0_endWorth_12 : decode cX0_endWorth 12 = .ok (.istore_n 2, 1) := by decide +kernel
theorem dX0_endWorth_13 : decode cX0_endWorth 13 = .ok (.iload_n 2, 1) := by decide +kernel
theorem dX0_endWorth_14 : decode cX0_endWorth 14 = .ok (.iconst 2, 1) := by decide +kernel
theorem dX0_endWorth_15 : decode cX0_endWorth 15 = .ok (.if_icmp .ne 7, 3) := by decide +kernel
theorem dX0_endWorth_18 : decode cX0_endWorth 18 = .ok (.iconst 0, 1) := by decide +kernel
theorem dX0_endWorth_19 : decode cX0_endWorth 19 = .ok (.goto 21, 3) := by decide +kernel
theorem dX0_endWorth_22 : decode cX0_endWorth 22 = .ok (.iload_n 2, 1) := by decide +kernel
theorem dX0_endWorth_23 : decode cX0_endWorth 23 = .ok (.aload_n 0, 1) := by decide +kernel
theorem dX0_endWorth_24 : decode cX0_endWorth 24 = .ok (.getfield 14, 3) := by decide +kernel
theorem dX0_endWorth_27 : decode cX0_endWorth 27 = .ok (.getfield 184, 3) := by decide +kernel
theorem dX0_endWorth_30 : decode cX0_endWorth 30 = .ok (.if_icmp .ne 8, 3) := by decide +kernel
theorem dX0_endWorth_33 : decode cX0_endWorth 33 = .ok (.ldc 204, 2) := by decide +kernel
theorem dX0_endWorth_35 : decode cX0_endWorth 35 = .ok (.goto 5, 3) := by decide +kernel
theorem dX0_endWorth_38 : decode cX0_endWorth 38 = .ok (.ldc 205, 2) := by decide +kernel
theorem dX0_endWorth_40 : decode cX0_endWorth 40 = .ok (.ireturn, 1) := by decide +kernel
set_option maxRecDepth 20000 in
theorem moX0_endWorth_40 {o : Int32 × Hp} {h : Hp} {t0 : Int32} (hE : sX0_endWorth_40 h  t0 = some o) : Le h o.2 := by
  exact le_some2 hE
set_option maxRecDepth 20000 in
theorem moX0_endWorth {o : Int32 × Hp} {h : Hp} {x0 : Nat} {x1 : Int32} (hE : sX0_endWorth h x0 x1 = some o) : Le h o.2 := by
  obtain ⟨r_1, er_1, hE⟩ := cl_e hE
  obtain ⟨r_2, er_2, hE⟩ := cl_e hE
  obtain ⟨o_3, eo_3, hE⟩ := cl_e hE
  refine (moX5_winnerOf eo_3).tr ?_
  rcases br_e hE with ⟨_, hE⟩ | ⟨_, hE⟩
  · exact moX0_endWorth_40 hE
  · obtain ⟨r_5, er_5, hE⟩ := cl_e hE
    rcases br_e hE with ⟨_, hE⟩ | ⟨_, hE⟩
    · exact moX0_endWorth_40 hE
    · exact moX0_endWorth_40 hE
set_option maxRecDepth 20000 in
theorem bX0_endWorth_40 {p : Program} {l : Launch} {e : Env} {s : State} {m : MethodId} {args : Array Value} {below : List Frame} {meth : Method} {c : Code} {X : Ec} {h0 : Hp} {o : Int32 × Hp} (C : Cx X p s m args meth c RX0 cX0_endWorth 3 (some .int) "endWorth") {h : Hp} {t0 : Int32} {H : Heap} {locs : List Loc} (hkm : Km h0 h) (hW : Wx X h H) (hZ : va_S (aA (eB X)) s.heap H locs) (ls : Array Slot) (hl : lv_has ls 3 []) (hE : sX0_endWorth_40 h  t0 = some o) : W p l e (rm 2 47) s m args below meth c H locs 0 0 (MQ below (QI X h0 o.1 o.2) args s 0 0 (aA (eB X))) (F0 m 40 ls [.int t0]) := by
  exact x_iret C rfl rfl hW hZ hkm hE dX0_endWorth_40
set_option maxRecDepth 20000 in
theorem ct_X0_endWorth (l : Launch) (X : Ec) {h : Hp} {x0 : Nat} {x1 : Int32} {o : Int32 × Hp} (k_x0 : hK h x0 = 0) (hE : sX0_endWorth h x0 x1 = some o) : MetI l yX0_endWorth cX0_endWorth 3 (some .int) 2 47 X [.ref x0, .int x1] h o := by
  refine x_met (by decide) (Nat.le_of_ble_eq_true rfl) ?_
  intro p e s m below meth c ls C hl hW hZ
  have hl : lv_has ls 3 [(0, .ref x0), (1, .int x1)] := hl
  have hkm : Km h h := Km.rf h
  refine lv_aload_n C.1 C.2.1 dX0_endWorth_0 rfl (lv_at hl 0 rfl) ?_
  obtain ⟨r_1, er_1, hE⟩ := cl_e hE
  refine gf_X0_48 C hW k_x0 er_1 dX0_endWorth_1 (fun k_r_1 => ?_)
  refine lv_aload_n C.1 C.2.1 dX0_endWorth_4 rfl (lv_at hl 0 rfl) ?_
  obtain ⟨r_2, er_2, hE⟩ := cl_e hE
  refine gf_X0_14 C hW k_x0 er_2 dX0_endWorth_5 (fun k_r_2 => ?_)
  refine lv_iload_n C.1 C.2.1 dX0_endWorth_8 rfl (lv_at hl 1 rfl) ?_
  obtain ⟨o_3, eo_3, hE⟩ := cl_e hE
  refine x_kI (o := o_3) (z_runV (As := [.ref r_2, .int x1]) (rest := []) C (ct_X5_winnerOf l X k_r_1 k_r_2 eo_3) cw_X0_200 hW hZ k_r_1 (by decide) rfl rfl rfl hl.1 (Nat.le_of_ble_eq_true rfl) rfl dX0_endWorth_9 ⟨Nat.le_of_ble_eq_true rfl, Nat.le_of_ble_eq_true rfl⟩ ⟨Nat.le_refl _, Nat.le_refl _⟩) hZ (fun _ _ hW km hZ => ?_)
  replace hkm := hkm.tr km
  replace k_x0 := km.at k_x0 (by decide)
  refine lv_istore_n (lv' := [(2, .int o_3.1), (0, .ref x0), (1, .int x1)]) C.1 C.2.1 dX0_endWorth_12 rfl hl (by decide) rfl (fun ls hl => ?_)
  refine lv_iload_n C.1 C.2.1 dX0_endWorth_13 rfl (lv_at hl 0 rfl) ?_
  refine lv_iconst (v := (2 : Int32)) C.1 C.2.1 dX0_endWorth_14 (by decide) ?_
  refine lv_icmp_ne (tgt := 22) C.1 C.2.1 dX0_endWorth_15 (by decide) (fun c_4 => ?_) (fun c_4 => ?_)
  · have hE := br_n hE c_4
    refine lv_iload_n C.1 C.2.1 dX0_endWorth_22 rfl (lv_at hl 0 rfl) ?_
    refine lv_aload_n C.1 C.2.1 dX0_endWorth_23 rfl (lv_at hl 1 rfl) ?_
    obtain ⟨r_5, er_5, hE⟩ := cl_e hE
    refine gf_X0_14 C hW k_x0 er_5 dX0_endWorth_24 (fun k_r_5 => ?_)
    refine gf_X0_184 C hW k_r_5 dX0_endWorth_27 ?_
    refine lv_icmp_ne (tgt := 38) C.1 C.2.1 dX0_endWorth_30 (by decide) (fun c_6 => ?_) (fun c_6 => ?_)
    · have hE := br_n hE c_6
      refine lv_ldc (v := (-1000000 : Int32)) C.1 C.2.1 C.2.2.2.1 (C.2.2.2.2.1 _ m_1671) dX0_endWorth_38 ?_
      exact bX0_endWorth_40 C hkm hW hZ _ (lv_sub hl [] rfl) hE
    · have hE := br_p hE c_6
      refine lv_ldc (v := (1000000 : Int32)) C.1 C.2.1 C.2.2.2.1 (C.2.2.2.2.1 _ m_1670) dX0_endWorth_33 ?_
      refine lv_goto (tgt := 40) C.1 C.2.1 dX0_endWorth_35 (by decide) ?_
      exact bX0_endWorth_40 C hkm hW hZ _ (lv_sub hl [] rfl) hE
  · have hE := br_p hE c_4
    refine lv_iconst (v := (0 : Int32)) C.1 C.2.1 dX0_endWorth_18 (by decide) ?_
    refine lv_goto (tgt := 40) C.1 C.2.1 dX0_endWorth_19 (by decide) ?_
    exact bX0_endWorth_40 C hkm hW hZ _ (lv_sub hl [] rfl) hE
set_option maxRecDepth 100000 in
theorem ms_97 : Cond.selects RX0 yX0_endWorth yX0_endWorth ∈ W0 := w0_in (List.mem_append_left _ (List.mem_of_getElem? (i := 97) rfl)) rfl
set_option maxRecDepth 100000 in
theorem m_1661 : Cond.methodLink RX0 187 yX5_isRoyalHit ∈ W0 := w0_in (List.mem_append_right _ (List.mem_of_getElem? (i := 1661) rfl)) rfl
set_option maxRecDepth 100000 in
theorem m_1662 : Cond.constant RX0 183 (4000000 : Int32) ∈ W0 := w0_in (List.mem_append_right _ (List.mem_of_getElem? (i := 1662) rfl)) rfl
set_option maxRecDepth 100000 in
theorem m_1663 : Cond.methodLink RX0 193 yX5_earlyEnd ∈ W0 := w0_in (List.mem_append_right _ (List.mem_of_getElem? (i := 1663) rfl)) rfl
set_option maxRecDepth 100000 in
theorem m_1664 : Cond.constant RX0 97 (3000000 : Int32) ∈ W0 := w0_in (List.mem_append_right _ (List.mem_of_getElem? (i := 1664) rfl)) rfl
set_option maxRecDepth 100000 in
theorem m_1665 : Cond.methodLink RX0 197 yX0_endWorth ∈ W0 := w0_in (List.mem_append_right _ (List.mem_of_getElem? (i := 1665) rfl)) rfl
set_option maxRecDepth 100000 in
theorem m_1667 : Cond.instanceMethod yX0_endWorth ∈ W0 := w0_in (List.mem_append_right _ (List.mem_of_getElem? (i := 1667) rfl)) rfl
set_option maxRecDepth 100000 in
theorem m_1668 : Cond.code yX0_endWorth cX0_endWorth 3 (some .int) ∈ W0 := w0_in (List.mem_append_right _ (List.mem_of_getElem? (i := 1668) rfl)) rfl
section
variable {p : Program} {l : Launch} {e : Env} {R : Room} {s : State} {m : MethodId} {args : Array Value} {below : List Frame} {meth : Method} {c : Code} {H : Heap} {locs : List Loc} {cells slots : Nat} {Q : State → Prop}
variable {cc : ByteArray} {pc : Nat} {ls : Array Slot} {rest : List Value} {X : Ec} {h h1 : Hp} {nL : Nat} {rt : Option FieldType} {mn : String}
theorem pf_X0_184 {a : Nat} {v : Int32} (C : Cx X p s m args meth c RX0 cc nL rt mn) (hW : Wx X h H) (hZ : va_S (aA (eB X)) s.heap H locs) (ha : hK h a = 3) (eh : h1 = wI h a 5 v) (hdg : decode cc pc = .ok (.putfield 184, 3)) (kk : ∀ (H1 : Heap) (locs1 : List Loc), Wx X h1 H1 → Km h h1 → va_S (aA (eB X)) s.heap H1 locs1 → W p l e R s m args below meth c H1 locs1 cells slots Q (F0 m (pc + 3) ls rest)) : W p l e R s m args below meth c H locs cells slots Q (F0 m pc ls (.int v :: .ref a :: rest)) :=
  y_puti (ty := .int) C hW hZ ha i_X3 tyX3 tyX3_ok nmX3 (by decide) rfl rfl (by decide) m_303 rfl (by decide +kernel) rfl rfl rfl eh hdg kk
end
theorem cw_X0_187 : cwd RX0 187 yX5_isRoyalHit cX5_isRoyalHit 3 (some .boolean) false 2 := ⟨m_1069, m_1661, m_7, ⟨m_1067, m_1068⟩, by decide, by decide, by decide +kernel⟩
theorem cw_X0_193 : cwd RX0 193 yX5_earlyEnd cX5_earlyEnd 2 (some .int) false 1 := ⟨m_1156, m_1663, m_7, ⟨m_1154, m_1155⟩, by decide, by decide, by decide +kernel⟩
theorem cw_X0_197 : cwd RX0 197 yX0_endWorth cX0_endWorth 3 (some .int) false 1 := ⟨m_1668, m_1665, m_13, ⟨m_1667, ms_97⟩, by decide, by decide, by decide +kernel⟩
theorem dX0_earlyWorth_0 : decode cX0_earlyWorth 0 = .ok (.aload_n 0, 1) := by decide +kernel
theorem dX0_earlyWorth_1 : decode cX0_earlyWorth 1 = .ok (.getfield 14, 3) := by decide +kernel
theorem dX0_earlyWorth_4 : decode cX0_earlyWorth 4 = .ok (.iload_n 1, 1) := by decide +kernel
theorem dX0_earlyWorth_5 : decode cX0_earlyWorth 5 = .ok (.putfield 184, 3) := by decide +kernel
theorem dX0_earlyWorth_8 : decode cX0_earlyWorth 8 = .ok (.aload_n 0, 1) := by decide +kernel
theorem dX0_earlyWorth_9 : decode cX0_earlyWorth 9 = .ok (.getfield 48, 3) := by decide +kernel
theorem dX0_earlyWorth_12 : decode cX0_earlyWorth 12 = .ok (.aload_n 0, 1) := by decide +kernel
theorem dX0_earlyWorth_13 : decode cX0_earlyWorth 13 = .ok (.getfield 14, 3) := by decide +kernel
theorem dX0_earlyWorth_16 : decode cX0_earlyWorth 16 = .ok (.iconst 1, 1) := by decide +kernel
theorem dX0_earlyWorth_17 : decode cX0_earlyWorth 17 = .ok (.iload_n 1, 1) := by decide +kernel
theorem dX0_earlyWorth_18 : decode cX0_earlyWorth 18 = .ok (.isub, 1) := by decide +kernel
theorem dX0_earlyWorth_19 : decode cX0_earlyWorth 19 = .ok (.invokevirtual 187, 3) := by decide +kernel
theorem dX0_earlyWorth_22 : decode cX0_earlyWorth 22 = .ok (.ifCond .eq 6, 3) := by decide +kernel
theorem dX0_earlyWorth_25 : decode cX0_earlyWorth 25 = .ok (.ldc 183, 2) := by decide +kernel
theorem dX0_earlyWorth_27 : decode cX0_earlyWorth 27 = .ok (.ireturn, 1) := by decide +kernel
theorem dX0_earlyWorth_28 : decode cX0_earlyWorth 28 = .ok (.aload_n 0, 1) := by decide +kernel
theorem dX0_earlyWorth_29 : decode cX0_earlyWorth 29 = .ok (.getfield 48, 3) := by decide +kernel
theorem dX0_earlyWorth_32 : decode cX0_earlyWorth 32 = .ok (.aload_n 0, 1) := by decide +kernel
theorem dX0_earlyWorth_33 : decode cX0_earlyWorth 33 = .ok (.getfield 14, 3) := by decide +kernel
theorem dX0_earlyWorth_36 : decode cX0_earlyWorth 36 = .ok (.invokevirtual 193, 3) := by decide +kernel
theorem dX0_earlyWorth_39 : decode cX0_earlyWorth 39 = .ok (.istore_n 2, 1) := by decide +kernel
theorem dX0_earlyWorth_40 : decode cX0_earlyWorth 40 = .ok (.iload_n 2, 1) := by decide +kernel
theorem dX0_earlyWorth_41 : decode cX0_earlyWorth 41 = .ok (.ifCond .ne 8, 3) := by decide +kernel
theorem dX0_earlyWorth_44 : decode cX0_earlyWorth 44 = .ok (.ldc 97, 2) := by decide +kernel
theorem dX0_earlyWorth_46 : decode cX0_earlyWorth 46 = .ok (.goto 8, 3) := by decide +kernel
theorem dX0_earlyWorth_49 : decode cX0_earlyWorth 49 = .ok (.aload_n 0, 1) := by decide +kernel
theorem dX0_earlyWorth_50 : decode cX0_earlyWorth 50 = .ok (.iload_n 2, 1) := by decide +kernel
theorem dX0_earlyWorth_51 : decode cX0_earlyWorth 51 = .ok (.invokevirtual 197, 3) := by decide +kernel
theorem dX0_earlyWorth_54 : decode cX0_earlyWorth 54 = .ok (.ireturn, 1) := by decide +kernel
set_option maxRecDepth 20000 in
theorem moX0_earlyWorth_54 {o : Int32 × Hp} {F : Nat} {h : Hp} {t0 : Int32} (hE : sX0_earlyWorth_54 F h  t0 = some o) : Le h o.2 := by
  exact le_some2 hE
set_option maxRecDepth 20000 in
theorem moX0_earlyWorth {o : Int32 × Hp} {F : Nat} {h : Hp} {x0 : Nat} {x1 : Int32} (hE : sX0_earlyWorth F h x0 x1 = some o) : Le h o.2 := by
  obtain ⟨r_1, er_1, hE⟩ := cl_e hE
  obtain ⟨h_2, eh_2, hE⟩ := nm_e2 hE
  refine (le_I eh_2).tr ?_
  obtain ⟨r_3, er_3, hE⟩ := cl_e hE
  obtain ⟨r_4, er_4, hE⟩ := cl_e hE
  obtain ⟨o_5, eo_5, hE⟩ := cl_e hE
  refine (moX5_isRoyalHit eo_5).tr ?_
  rcases br_e hE with ⟨_, hE⟩ | ⟨_, hE⟩
  · obtain ⟨r_7, er_7, hE⟩ := cl_e hE
    obtain ⟨r_8, er_8, hE⟩ := cl_e hE
    obtain ⟨o_9, eo_9, hE⟩ := cl_e hE
    refine (moX5_earlyEnd eo_9).tr ?_
    rcases br_e hE with ⟨_, hE⟩ | ⟨_, hE⟩
    · exact moX0_earlyWorth_54 hE
    · obtain ⟨o_11, eo_11, hE⟩ := cl_e hE
      refine (moX0_endWorth eo_11).tr ?_
      exact moX0_earlyWorth_54 hE
  · exact le_some2 hE
set_option maxRecDepth 20000 in
theorem bX0_earlyWorth_54 {p : Program} {l : Launch} {e : Env} {s : State} {m : MethodId} {args : Array Value} {below : List Frame} {meth : Method} {c : Code} {X : Ec} {h0 : Hp} {o : Int32 × Hp} {F : Nat} (C : Cx X p s m args meth c RX0 cX0_earlyWorth 3 (some .int) "earlyWorth") {h : Hp} {t0 : Int32} {H : Heap} {locs : List Loc} (hkm : Km h0 h) (hW : Wx X h H) (hZ : va_S (aA (eB X)) s.heap H locs) (ls : Array Slot) (hl : lv_has ls 3 []) (hE : sX0_earlyWorth_54 F h  t0 = some o) : W p l e (rm 3 69) s m args below meth c H locs 0 0 (MQ below (QI X h0 o.1 o.2) args s 0 0 (aA (eB X))) (F0 m 54 ls [.int t0]) := by
  exact x_iret C rfl rfl hW hZ hkm hE dX0_earlyWorth_54
set_option maxRecDepth 20000 in
theorem ct_X0_earlyWorth (l : Launch) (X : Ec) (F : Nat) {h : Hp} {x0 : Nat} {x1 : Int32} {o : Int32 × Hp} (k_x0 : hK h x0 = 0) (hE : sX0_earlyWorth F h x0 x1 = some o) : MetI l yX0_earlyWorth cX0_earlyWorth 3 (some .int) 3 69 X [.ref x0, .int x1] h o := by
  refine x_met (by decide) (Nat.le_of_ble_eq_true rfl) ?_
  intro p e s m below meth c ls C hl hW hZ
  have hl : lv_has ls 3 [(0, .ref x0), (1, .int x1)] := hl
  have hkm : Km h h := Km.rf h
  refine lv_aload_n C.1 C.2.1 dX0_earlyWorth_0 rfl (lv_at hl 0 rfl) ?_
  obtain ⟨r_1, er_1, hE⟩ := cl_e hE
  refine gf_X0_14 C hW k_x0 er_1 dX0_earlyWorth_1 (fun k_r_1 => ?_)
  refine lv_iload_n C.1 C.2.1 dX0_earlyWorth_4 rfl (lv_at hl 1 rfl) ?_
  obtain ⟨h_2, eh_2, hE⟩ := nm_e2 hE
  refine pf_X0_184 C hW hZ k_r_1 eh_2 dX0_earlyWorth_5 (fun _ _ hW km hZ => ?_)
  replace hkm := hkm.tr km
  replace k_x0 := km.at k_x0 (by decide)
  refine lv_aload_n C.1 C.2.1 dX0_earlyWorth_8 rfl (lv_at hl 0 rfl) ?_
  obtain ⟨r_3, er_3, hE⟩ := cl_e hE
  refine gf_X0_48 C hW k_x0 er_3 dX0_earlyWorth_9 (fun k_r_3 => ?_)
  refine lv_aload_n C.1 C.2.1 dX0_earlyWorth_12 rfl (lv_at hl 0 rfl) ?_
  obtain ⟨r_4, er_4, hE⟩ := cl_e hE
  refine gf_X0_14 C hW k_x0 er_4 dX0_earlyWorth_13 (fun k_r_4 => ?_)
  refine lv_iconst (v := (1 : Int32)) C.1 C.2.1 dX0_earlyWorth_16 (by decide) ?_
  refine lv_iload_n C.1 C.2.1 dX0_earlyWorth_17 rfl (lv_at hl 1 rfl) ?_
  refine lv_isub C.1 C.2.1 dX0_earlyWorth_18 ?_
  obtain ⟨o_5, eo_5, hE⟩ := cl_e hE
  refine x_kI (o := o_5) (z_runV (As := [.ref r_4, .int ((1 : Int32) - x1)]) (rest := []) C (ct_X5_isRoyalHit l X F k_r_3 k_r_4 eo_5) cw_X0_187 hW hZ k_r_3 (by decide) rfl rfl rfl hl.1 (Nat.le_of_ble_eq_true rfl) rfl dX0_earlyWorth_19 ⟨Nat.le_of_ble_eq_true rfl, Nat.le_of_ble_eq_true rfl⟩ ⟨Nat.le_refl _, Nat.le_refl _⟩) hZ (fun _ _ hW km hZ => ?_)
  replace hkm := hkm.tr km
  replace k_x0 := km.at k_x0 (by decide)
  refine lv_if_eq (tgt := 28) C.1 C.2.1 dX0_earlyWorth_22 (by decide) (fun c_6 => ?_) (fun c_6 => ?_)
  · have hE := br_p hE c_6
    refine lv_aload_n C.1 C.2.1 dX0_earlyWorth_28 rfl (lv_at hl 0 rfl) ?_
    obtain ⟨r_7, er_7, hE⟩ := cl_e hE
    refine gf_X0_48 C hW k_x0 er_7 dX0_earlyWorth_29 (fun k_r_7 => ?_)
    refine lv_aload_n C.1 C.2.1 dX0_earlyWorth_32 rfl (lv_at hl 0 rfl) ?_
    obtain ⟨r_8, er_8, hE⟩ := cl_e hE
    refine gf_X0_14 C hW k_x0 er_8 dX0_earlyWorth_33 (fun k_r_8 => ?_)
    obtain ⟨o_9, eo_9, hE⟩ := cl_e hE
    refine x_kI (o := o_9) (z_runV (As := [.ref r_8]) (rest := []) C (ct_X5_earlyEnd l X k_r_7 k_r_8 eo_9) cw_X0_193 hW hZ k_r_7 (by decide) rfl rfl rfl hl.1 (Nat.le_of_ble_eq_true rfl) rfl dX0_earlyWorth_36 ⟨Nat.le_of_ble_eq_true rfl, Nat.le_of_ble_eq_true rfl⟩ ⟨Nat.le_refl _, Nat.le_refl _⟩) hZ (fun _ _ hW km hZ => ?_)
    replace hkm := hkm.tr km
    replace k_x0 := km.at k_x0 (by decide)
    refine lv_istore_n (lv' := [(2, .int o_9.1), (0, .ref x0), (1, .int x1)]) C.1 C.2.1 dX0_earlyWorth_39 rfl hl (by decide) rfl (fun ls hl => ?_)
    refine lv_iload_n C.1 C.2.1 dX0_earlyWorth_40 rfl (lv_at hl 0 rfl) ?_
    refine lv_if_ne (tgt := 49) C.1 C.2.1 dX0_earlyWorth_41 (by decide) (fun c_10 => ?_) (fun c_10 => ?_)
    · have hE := br_n hE c_10
      refine lv_aload_n C.1 C.2.1 dX0_earlyWorth_49 rfl (lv_at hl 1 rfl) ?_
      refine lv_iload_n C.1 C.2.1 dX0_earlyWorth_50 rfl (lv_at hl 0 rfl) ?_
      obtain ⟨o_11, eo_11, hE⟩ := cl_e hE
      refine x_kI (o := o_11) (z_runV (As := [.int o_9.1]) (rest := []) C (ct_X0_endWorth l X k_x0 eo_11) cw_X0_197 hW hZ k_x0 (by decide) rfl rfl rfl hl.1 (Nat.le_of_ble_eq_true rfl) rfl dX0_earlyWorth_51 ⟨Nat.le_of_ble_eq_true rfl, Nat.le_of_ble_eq_true rfl⟩ ⟨Nat.le_refl _, Nat.le_refl _⟩) hZ (fun _ _ hW km hZ => ?_)
      replace hkm := hkm.tr km
      replace k_x0 := km.at k_x0 (by decide)
      exact bX0_earlyWorth_54 C hkm hW hZ _ (lv_sub hl [] rfl) hE
    · have hE := br_p hE c_10
      refine lv_ldc (v := (3000000 : Int32)) C.1 C.2.1 C.2.2.2.1 (C.2.2.2.2.1 _ m_1664) dX0_earlyWorth_44 ?_
      refine lv_goto (tgt := 54) C.1 C.2.1 dX0_earlyWorth_46 (by decide) ?_
      exact bX0_earlyWorth_54 C hkm hW hZ _ (lv_sub hl [] rfl) hE
  · have hE := br_n hE c_6
    refine lv_ldc (v := (4000000 : Int32)) C.1 C.2.1 C.2.2.2.1 (C.2.2.2.2.1 _ m_1662) dX0_earlyWorth_25 ?_
    exact x_iret C rfl rfl hW hZ hkm hE dX0_earlyWorth_27
set_option maxRecDepth 100000 in
theorem ms_96 : Cond.selects RX0 yX0_earlyWorth yX0_earlyWorth ∈ W0 := w0_in (List.mem_append_left _ (List.mem_of_getElem? (i := 96) rfl)) rfl
set_option maxRecDepth 100000 in
theorem ms_95 : Cond.selects RX0 yX0_layOut yX0_layOut ∈ W0 := w0_in (List.mem_append_left _ (List.mem_of_getElem? (i := 95) rfl)) rfl
set_option maxRecDepth 100000 in
theorem m_1648 : Cond.methodLink RX0 111 yX0_layOut ∈ W0 := w0_in (List.mem_append_right _ (List.mem_of_getElem? (i := 1648) rfl)) rfl
set_option maxRecDepth 100000 in
theorem m_1650 : Cond.instanceMethod yX0_layOut ∈ W0 := w0_in (List.mem_append_right _ (List.mem_of_getElem? (i := 1650) rfl)) rfl
set_option maxRecDepth 100000 in
theorem m_1651 : Cond.code yX0_layOut cX0_layOut 14 (some .boolean) ∈ W0 := w0_in (List.mem_append_right _ (List.mem_of_getElem? (i := 1651) rfl)) rfl
set_option maxRecDepth 100000 in
theorem m_1657 : Cond.methodLink RX0 180 yX0_earlyWorth ∈ W0 := w0_in (List.mem_append_right _ (List.mem_of_getElem? (i := 1657) rfl)) rfl
set_option maxRecDepth 100000 in
theorem m_1659 : Cond.instanceMethod yX0_earlyWorth ∈ W0 := w0_in (List.mem_append_right _ (List.mem_of_getElem? (i := 1659) rfl)) rfl
set_option maxRecDepth 100000 in
theorem m_1660 : Cond.code yX0_earlyWorth cX0_earlyWorth 3 (some .int) ∈ W0 := w0_in (List.mem_append_right _ (List.mem_of_getElem? (i := 1660) rfl)) rfl
section
variable {p : Program} {l : Launch} {e : Env} {R : Room} {s : State} {m : MethodId} {args : Array Value} {below : List Frame} {meth : Method} {c : Code} {H : Heap} {locs : List Loc} {cells slots : Nat} {Q : State → Prop}
variable {cc : ByteArray} {pc : Nat} {ls : Array Slot} {rest : List Value} {X : Ec} {h h1 : Hp} {nL : Nat} {rt : Option FieldType} {mn : String}
theorem gf_X0_34 {a r : Nat} (C : Cx X p s m args meth c RX0 cc nL rt mn) (hW : Wx X h H) (ha : hK h a = 0) (hr : hR h a 12 = some r) (hdg : decode cc pc = .ok (.getfield 34, 3)) (kk : hK h r = 17 → W p l e R s m args below meth c H locs cells slots Q (F0 m (pc + 3) ls (.ref r :: rest))) : W p l e R s m args below meth c H locs cells slots Q (F0 m pc ls (.ref a :: rest)) :=
  y_getr C hW ha i_X0 (by decide) rfl (by decide) m_472 rfl rfl hr hdg kk
end
theorem cw_X0_180 : cwd RX0 180 yX0_earlyWorth cX0_earlyWorth 3 (some .int) false 1 := ⟨m_1660, m_1657, m_13, ⟨m_1659, ms_96⟩, by decide, by decide, by decide +kernel⟩
theorem cw_X0_111 : cwd RX0 111 yX0_layOut cX0_layOut 14 (some .boolean) false 2 := ⟨m_1651, m_1648, m_13, ⟨m_1650, ms_95⟩, by decide, by decide, by decide +kernel⟩
theorem dX0_markAll_0 : decode cX0_markAll 0 = .ok (.iconst 0, 1) := by decide +kernel
theorem dX0_markAll_1 : decode cX0_markAll 1 = .ok (.istore_n 1, 1) := by decide +kernel
theorem dX0_markAll_2 : decode cX0_markAll 2 = .ok (.iload_n 1, 1) := by decide +kernel
theorem dX0_markAll_3 : decode cX0_markAll 3 = .ok (.aload_n 0, 1) := by decide +kernel
theorem dX0_markAll_4 : decode cX0_markAll 4 = .ok (.getfield 129, 3) := by decide +kernel
theorem dX0_markAll_7 : decode cX0_markAll 7 = .ok (.if_icmp .ge 117, 3) := by decide +kernel
theorem dX0_markAll_10 : decode cX0_markAll 10 = .ok (.aload_n 0, 1) := by decide +kernel
theorem dX0_markAll_11 : decode cX0_markAll 11 = .ok (.getfield 22, 3) := by decide +kernel
theorem dX0_markAll_14 : decode cX0_markAll 14 = .ok (.iload_n 1, 1) := by decide +kernel
theorem dX0_markAll_15 : decode cX0_markAll 15 = .ok (.iconst 1, 1) := by decide +kernel
theorem dX0_markAll_16 : decode cX0_markAll 16 = .ok (.iadd, 1) := by decide +kernel
theorem dX0_markAll_17 : decode cX0_markAll 17 = .ok (.iaload, 1) := by decide +kernel
theorem dX0_markAll_18 : decode cX0_markAll 18 = .ok (.aload_n 0, 1) := by decide +kernel
theorem dX0_markAll_19 : decode cX0_markAll 19 = .ok (.getfield 22, 3) := by decide +kernel
theorem dX0_markAll_22 : decode cX0_markAll 22 = .ok (.iload_n 1, 1) := by decide +kernel
theorem dX0_markAll_23 : decode cX0_markAll 23 = .ok (.iaload, 1) := by decide +kernel
theorem dX0_markAll_24 : decode cX0_markAll 24 = .ok (.isub, 1) := by decide +kernel
theorem dX0_markAll_25 : decode cX0_markAll 25 = .ok (.iconst 1, 1) := by decide +kernel
theorem dX0_markAll_26 : decode cX0_markAll 26 = .ok (.ishr, 1) := by decide +kernel
theorem dX0_markAll_27 : decode cX0_markAll 27 = .ok (.istore_n 2, 1) := by decide +kernel
theorem dX0_markAll_28 : decode cX0_markAll 28 = .ok (.iconst 0, 1) := by decide +kernel
theorem dX0_markAll_29 : decode cX0_markAll 29 = .ok (.istore_n 3, 1) := by decide +kernel
theorem dX0_markAll_30 : decode cX0_markAll 30 = .ok (.iload_n 3, 1) := by decide +kernel
theorem dX0_markAll_31 : decode cX0_markAll 31 = .ok (.iload_n 2, 1) := by decide +kernel
theorem dX0_markAll_32 : decode cX0_markAll 32 = .ok (.if_icmp .ge 86, 3) := by decide +kernel
theorem dX0_markAll_35 : decode cX0_markAll 35 = .ok (.aload_n 0, 1) := by decide +kernel
theorem dX0_markAll_36 : decode cX0_markAll 36 = .ok (.aload_n 0, 1) := by decide +kernel
theorem dX0_markAll_37 : decode cX0_markAll 37 = .ok (.getfield 18, 3) := by decide +kernel
theorem dX0_markAll_40 : decode cX0_markAll 40 = .ok (.iload_n 1, 1) := by decide +kernel
theorem dX0_markAll_41 : decode cX0_markAll 41 = .ok (.iaload, 1) := by decide +kernel
theorem dX0_markAll_42 : decode cX0_markAll 42 = .ok (.iload_n 3, 1) := by decide +kernel
theorem dX0_markAll_43 : decode cX0_markAll 43 = .ok (.invokevirtual 111, 3) := by decide +kernel
theorem dX0_markAll_46 : decode cX0_markAll 46 = .ok (.istore 4, 2) := by decide +kernel
theorem dX0_markAll_48 : decode cX0_markAll 48 = .ok (.aload_n 0, 1) := by decide +kernel
theorem dX0_markAll_49 : decode cX0_markAll 49 = .ok (.getfield 22, 3) := by decide +kernel
theorem dX0_markAll_52 : decode cX0_markAll 52 = .ok (.iload_n 1, 1) := by decide +kernel
theorem dX0_markAll_53 : decode cX0_markAll 53 = .ok (.iaload, 1) := by decide +kernel
theorem dX0_markAll_54 : decode cX0_markAll 54 = .ok (.iconst 2, 1) := by decide +kernel
theorem dX0_markAll_55 : decode cX0_markAll 55 = .ok (.iload_n 3, 1) := by decide +kernel
theorem dX0_markAll_56 : decode cX0_markAll 56 = .ok (.imul, 1) := by decide +kernel
theorem dX0_markAll_57 : decode cX0_markAll 57 = .ok (.iadd, 1) := by decide +kernel
theorem dX0_markAll_58 : decode cX0_markAll 58 = .ok (.istore 5, 2) := by decide +kernel
theorem dX0_markAll_60 : decode cX0_markAll 60 = .ok (.iconst 0, 1) := by decide +kernel
theorem dX0_markAll_61 : decode cX0_markAll 61 = .ok (.istore 6, 2) := by decide +kernel
theorem dX0_markAll_63 : decode cX0_markAll 63 = .ok (.iload 6, 2) := by decide +kernel
theorem dX0_markAll_65 : decode cX0_markAll 65 = .ok (.iconst 2, 1) := by decide +kernel
theorem dX0_markAll_66 : decode cX0_markAll 66 = .ok (.if_icmp .ge 46, 3) := by decide +kernel
theorem dX0_markAll_69 : decode cX0_markAll 69 = .ok (.aload_n 0, 1) := by decide +kernel
theorem dX0_markAll_70 : decode cX0_markAll 70 = .ok (.getfield 31, 3) := by decide +kernel
theorem dX0_markAll_73 : decode cX0_markAll 73 = .ok (.iload 5, 2) := by decide +kernel
theorem dX0_markAll_75 : decode cX0_markAll 75 = .ok (.iload 6, 2) := by decide +kernel
theorem dX0_markAll_77 : decode cX0_markAll 77 = .ok (.iadd, 1) := by decide +kernel
theorem dX0_markAll_78 : decode cX0_markAll 78 = .ok (.iload 4, 2) := by decide +kernel
theorem dX0_markAll_80 : decode cX0_markAll 80 = .ok (.ifCond .eq 12, 3) := by decide +kernel
theorem dX0_markAll_83 : decode cX0_markAll 83 = .ok (.aload_n 0, 1) := by decide +kernel
theorem dX0_markAll_84 : decode cX0_markAll 84 = .ok (.iload 6, 2) := by decide +kernel
theorem dX0_markAll_86 : decode cX0_markAll 86 = .ok (.invokevirtual 180, 3) := by decide +kernel
theorem dX0_markAll_89 : decode cX0_markAll 89 = .ok (.goto 5, 3) := by decide +kernel
theorem dX0_markAll_92 : decode cX0_markAll 92 = .ok (.ldc 183, 2) := by decide +kernel
theorem dX0_markAll_94 : decode cX0_markAll 94 = .ok (.iastore, 1) := by decide +kernel
theorem dX0_markAll_95 : decode cX0_markAll 95 = .ok (.aload_n 0, 1) := by decide +kernel
theorem dX0_markAll_96 : decode cX0_markAll 96 = .ok (.getfield 34, 3) := by decide +kernel
theorem dX0_markAll_99 : decode cX0_markAll 99 = .ok (.iload 5, 2) := by decide +kernel
theorem dX0_markAll_101 : decode cX0_markAll 101 = .ok (.iload 6, 2) := by decide +kernel
theorem dX0_markAll_103 : decode cX0_markAll 103 = .ok (.iadd, 1) := by decide +kernel
theorem dX0_markAll_104 : decode cX0_markAll 104 = .ok (.iconst 0, 1) := by decide +kernel
theorem dX0_markAll_105 : decode cX0_markAll 105 = .ok (.iastore, 1) := by decide +kernel
theorem dX0_markAll_106 : decode cX0_markAll 106 = .ok (.iinc 6 1, 3) := by decide +kernel
theorem dX0_markAll_109 : decode cX0_markAll 109 = .ok (.goto (-46), 3) := by decide +kernel
theorem dX0_markAll_112 : decode cX0_markAll 112 = .ok (.iinc 3 1, 3) := by decide +kernel
theorem dX0_markAll_115 : decode cX0_markAll 115 = .ok (.goto (-85), 3) := by decide +kernel
theorem dX0_markAll_118 : decode cX0_markAll 118 = .ok (.iinc 1 1, 3) := by decide +kernel
theorem dX0_markAll_121 : decode cX0_markAll 121 = .ok (.goto (-119), 3) := by decide +kernel
theorem dX0_markAll_124 : decode cX0_markAll 124 = .ok (.return_, 1) := by decide +kernel
set_option maxRecDepth 20000 in
theorem moX0_markAll_94 {o : Hp} {k_2 : Hp → Nat → Int32 → Option (Hp)} {k_30 : Hp → Nat → Int32 → Int32 → Int32 → Option (Hp)} {k_63 : Hp → Nat → Int32 → Int32 → Int32 → Int32 → Int32 → Int32 → Option (Hp)} {F : Nat} (mk_2 : ∀ (h : Hp) (x0 : Nat) (x1 : Int32), k_2 h x0 x1 = some o → Le h o) (mk_30 : ∀ (h : Hp) (x0 : Nat) (x1 : Int32) (x2 : Int32) (x3 : Int32), k_30 h x0 x1 x2 x3 = some o → Le h o) (mk_63 : ∀ (h : Hp) (x0 : Nat) (x1 : Int32) (x2 : Int32) (x3 : Int32) (x4 : Int32) (x5 : Int32) (x6 : Int32), k_63 h x0 x1 x2 x3 x4 x5 x6 = some o → Le h o) {h : Hp} {x0 : Nat} {x1 : Int32} {x2 : Int32} {x3 : Int32} {x4 : Int32} {x5 : Int32} {x6 : Int32} {t0 : Int32} {t1 : Int32} {t2 : Nat} (hE : sX0_markAll_94 F k_2 k_30 k_63 h x0 x1 x2 x3 x4 x5 x6 t0 t1 t2 = some o) : Le h o := by
  obtain ⟨g_1, hE⟩ := gd_e hE
  obtain ⟨h_2, eh_2, hE⟩ := nm_e2 hE
  refine (le_I eh_2).tr ?_
  obtain ⟨r_3, er_3, hE⟩ := cl_e hE
  obtain ⟨g_4, hE⟩ := gd_e hE
  obtain ⟨h_5, eh_5, hE⟩ := nm_e2 hE
  refine (le_I eh_5).tr ?_
  obtain ⟨v_6, ev_6, hE⟩ := nm_e2 hE
  exact mk_63 _ _ _ _ _ _ _ _ hE
set_option maxRecDepth 20000 in
theorem moX0_markAll_63 {o : Hp} {k_2 : Hp → Nat → Int32 → Option (Hp)} {k_30 : Hp → Nat → Int32 → Int32 → Int32 → Option (Hp)} {F : Nat} (mk_2 : ∀ (h : Hp) (x0 : Nat) (x1 : Int32), k_2 h x0 x1 = some o → Le h o) (mk_30 : ∀ (h : Hp) (x0 : Nat) (x1 : Int32) (x2 : Int32) (x3 : Int32), k_30 h x0 x1 x2 x3 = some o → Le h o) : ∀ (f : Nat) {h : Hp} {x0 : Nat} {x1 : Int32} {x2 : Int32} {x3 : Int32} {x4 : Int32} {x5 : Int32} {x6 : Int32}, sX0_markAll_63 F k_2 k_30 f h x0 x1 x2 x3 x4 x5 x6 = some o → Le h o := by
  intro f
  induction f with
  | zero =>
    intro h x0 x1 x2 x3 x4 x5 x6 hE
    rw [sX0_markAll_63] at hE
    cases hE
  | succ f ih =>
    intro h x0 x1 x2 x3 x4 x5 x6 hE
    rw [sX0_markAll_63] at hE
    have mk_63 : ∀ (h : Hp) (x0 : Nat) (x1 : Int32) (x2 : Int32) (x3 : Int32) (x4 : Int32) (x5 : Int32) (x6 : Int32), sX0_markAll_63 F k_2 k_30 f h x0 x1 x2 x3 x4 x5 x6 = some o → Le h o := fun h x0 x1 x2 x3 x4 x5 x6 hE => ih hE
    rcases br_e hE with ⟨_, hE⟩ | ⟨_, hE⟩
    · obtain ⟨v_2, ev_2, hE⟩ := nm_e2 hE
      exact mk_30 _ _ _ _ _ hE
    · obtain ⟨r_3, er_3, hE⟩ := cl_e hE
      rcases br_e hE with ⟨_, hE⟩ | ⟨_, hE⟩
      · exact moX0_markAll_94 mk_2 mk_30 mk_63 hE
      · obtain ⟨o_5, eo_5, hE⟩ := cl_e hE
        refine (moX0_earlyWorth eo_5).tr ?_
        exact moX0_markAll_94 mk_2 mk_30 mk_63 hE
set_option maxRecDepth 20000 in
theorem moX0_markAll_30 {o : Hp} {k_2 : Hp → Nat → Int32 → Option (Hp)} {F : Nat} (mk_2 : ∀ (h : Hp) (x0 : Nat) (x1 : Int32), k_2 h x0 x1 = some o → Le h o) : ∀ (f : Nat) {h : Hp} {x0 : Nat} {x1 : Int32} {x2 : Int32} {x3 : Int32}, sX0_markAll_30 F k_2 f h x0 x1 x2 x3 = some o → Le h o := by
  intro f
  induction f with
  | zero =>
    intro h x0 x1 x2 x3 hE
    rw [sX0_markAll_30] at hE
    cases hE
  | succ f ih =>
    intro h x0 x1 x2 x3 hE
    rw [sX0_markAll_30] at hE
    have mk_30 : ∀ (h : Hp) (x0 : Nat) (x1 : Int32) (x2 : Int32) (x3 : Int32), sX0_markAll_30 F k_2 f h x0 x1 x2 x3 = some o → Le h o := fun h x0 x1 x2 x3 hE => ih hE
    rcases br_e hE with ⟨_, hE⟩ | ⟨_, hE⟩
    · obtain ⟨v_2, ev_2, hE⟩ := nm_e2 hE
      exact mk_2 _ _ _ hE
    · obtain ⟨r_3, er_3, hE⟩ := cl_e hE
      obtain ⟨g_4, hE⟩ := gd_e hE
      obtain ⟨o_5, eo_5, hE⟩ := cl_e hE
      refine (moX0_layOut eo_5).tr ?_
      obtain ⟨r_6, er_6, hE⟩ := cl_e hE
      obtain ⟨g_7, hE⟩ := gd_e hE
      obtain ⟨v_8, ev_8, hE⟩ := nm_e2 hE
      exact moX0_markAll_63 mk_2 mk_30 _ hE
set_option maxRecDepth 20000 in
theorem moX0_markAll_2 {o : Hp} {F : Nat} : ∀ (f : Nat) {h : Hp} {x0 : Nat} {x1 : Int32}, sX0_markAll_2 F f h x0 x1 = some o → Le h o := by
  intro f
  induction f with
  | zero =>
    intro h x0 x1 hE
    rw [sX0_markAll_2] at hE
    cases hE
  | succ f ih =>
    intro h x0 x1 hE
    rw [sX0_markAll_2] at hE
    have mk_2 : ∀ (h : Hp) (x0 : Nat) (x1 : Int32), sX0_markAll_2 F f h x0 x1 = some o → Le h o := fun h x0 x1 hE => ih hE
    rcases br_e hE with ⟨_, hE⟩ | ⟨_, hE⟩
    · exact le_some1 hE
    · obtain ⟨r_2, er_2, hE⟩ := cl_e hE
      obtain ⟨g_3, hE⟩ := gd_e hE
      obtain ⟨r_4, er_4, hE⟩ := cl_e hE
      obtain ⟨g_5, hE⟩ := gd_e hE
      obtain ⟨v_6, ev_6, hE⟩ := nm_e2 hE
      exact moX0_markAll_30 mk_2 _ hE
set_option maxRecDepth 20000 in
theorem moX0_markAll {o : Hp} {F : Nat} {h : Hp} {x0 : Nat} (hE : sX0_markAll F h x0 = some o) : Le h o := by
  exact moX0_markAll_2 _ hE
set_option maxRecDepth 20000 in
theorem bX0_markAll_94 {p : Program} {l : Launch} {e : Env} {s : State} {m : MethodId} {args : Array Value} {below : List Frame} {meth : Method} {c : Code} {X : Ec} {h0 : Hp} {o : Hp} {k_2 : Hp → Nat → Int32 → Option (Hp)} {k_30 : Hp → Nat → Int32 → Int32 → Int32 → Option (Hp)} {k_63 : Hp → Nat → Int32 → Int32 → Int32 → Int32 → Int32 → Int32 → Option (Hp)} {F : Nat} (C : Cx X p s m args meth c RX0 cX0_markAll 7 none "markAll") (hk_2 : ∀ (h : Hp) (x0 : Nat) (x1 : Int32) (H : Heap) (locs : List Loc), hK h x0 = 0 → Km h0 h → Wx X h H → va_S (aA (eB X)) s.heap H locs → ∀ (ls : Array Slot), lv_has ls 7 [(0, .ref x0), (1, .int x1)] → k_2 h x0 x1 = some o → W p l e (rm 4 91) s m args below meth c H locs 0 0 (MQ below (QV X h0 o) args s 0 0 (aA (eB X))) (F0 m 2 ls [])) (hk_30 : ∀ (h : Hp) (x0 : Nat) (x1 : Int32) (x2 : Int32) (x3 : Int32) (H : Heap) (locs : List Loc), hK h x0 = 0 → Km h0 h → Wx X h H → va_S (aA (eB X)) s.heap H locs → ∀ (ls : Array Slot), lv_has ls 7 [(0, .ref x0), (1, .int x1), (2, .int x2), (3, .int x3)] → k_30 h x0 x1 x2 x3 = some o → W p l e (rm 4 91) s m args below meth c H locs 0 0 (MQ below (QV X h0 o) args s 0 0 (aA (eB X))) (F0 m 30 ls [])) (hk_63 : ∀ (h : Hp) (x0 : Nat) (x1 : Int32) (x2 : Int32) (x3 : Int32) (x4 : Int32) (x5 : Int32) (x6 : Int32) (H : Heap) (locs : List Loc), hK h x0 = 0 → Km h0 h → Wx X h H → va_S (aA (eB X)) s.heap H locs → ∀ (ls : Array Slot), lv_has ls 7 [(0, .ref x0), (1, .int x1), (2, .int x2), (3, .int x3), (4, .int x4), (5, .int x5), (6, .int x6)] → k_63 h x0 x1 x2 x3 x4 x5 x6 = some o → W p l e (rm 4 91) s m args below meth c H locs 0 0 (MQ below (QV X h0 o) args s 0 0 (aA (eB X))) (F0 m 63 ls [])) {h : Hp} {x0 : Nat} {x1 : Int32} {x2 : Int32} {x3 : Int32} {x4 : Int32} {x5 : Int32} {x6 : Int32} {t0 : Int32} {t1 : Int32} {t2 : Nat} {H : Heap} {locs : List Loc} (k_x0 : hK h x0 = 0) (k_t2 : hK h t2 = 17) (hkm : Km h0 h) (hW : Wx X h H) (hZ : va_S (aA (eB X)) s.heap H locs) (ls : Array Slot) (hl : lv_has ls 7 [(0, .ref x0), (1, .int x1), (2, .int x2), (3, .int x3), (4, .int x4), (5, .int x5), (6, .int x6)]) (hE : sX0_markAll_94 F k_2 k_30 k_63 h x0 x1 x2 x3 x4 x5 x6 t0 t1 t2 = some o) : W p l e (rm 4 91) s m args below meth c H locs 0 0 (MQ below (QV X h0 o) args s 0 0 (aA (eB X))) (F0 m 94 ls [.int t0, .int t1, .ref t2]) := by
  obtain ⟨g_1, hE⟩ := gd_e hE
  obtain ⟨h_2, eh_2, hE⟩ := nm_e2 hE
  refine y_iast C hW hZ k_t2 g_1 eh_2 dX0_markAll_94 (fun _ _ hW km hZ => ?_)
  replace hkm := hkm.tr km
  replace k_x0 := km.at k_x0 (by decide)
  refine lv_aload_n C.1 C.2.1 dX0_markAll_95 rfl (lv_at hl 0 rfl) ?_
  obtain ⟨r_3, er_3, hE⟩ := cl_e hE
  refine gf_X0_34 C hW k_x0 er_3 dX0_markAll_96 (fun k_r_3 => ?_)
  refine lv_iload C.1 C.2.1 dX0_markAll_99 (lv_at hl 5 rfl) ?_
  refine lv_iload C.1 C.2.1 dX0_markAll_101 (lv_at hl 6 rfl) ?_
  refine lv_iadd C.1 C.2.1 dX0_markAll_103 ?_
  refine lv_iconst (v := (0 : Int32)) C.1 C.2.1 dX0_markAll_104 (by decide) ?_
  obtain ⟨g_4, hE⟩ := gd_e hE
  obtain ⟨h_5, eh_5, hE⟩ := nm_e2 hE
  refine y_iast C hW hZ k_r_3 g_4 eh_5 dX0_markAll_105 (fun _ _ hW km hZ => ?_)
  replace hkm := hkm.tr km
  replace k_x0 := km.at k_x0 (by decide)
  obtain ⟨v_6, ev_6, hE⟩ := nm_e2 hE
  refine lv_iinc (v := v_6) (lv' := [(6, .int v_6), (0, .ref x0), (1, .int x1), (2, .int x2), (3, .int x3), (4, .int x4), (5, .int x5)]) C.1 C.2.1 dX0_markAll_106 hl (k := 6) rfl (by rw [ev_6]; rfl) (by decide) rfl (fun ls hl => ?_)
  refine lv_goto (tgt := 63) C.1 C.2.1 dX0_markAll_109 (by decide) ?_
  exact hk_63 _ _ _ _ _ _ _ _ _ _ k_x0 hkm hW hZ _ (lv_sub hl [1, 2, 3, 4, 5, 6, 0] rfl) hE
set_option maxRecDepth 20000 in
theorem bX0_markAll_63 {p : Program} {l : Launch} {e : Env} {s : State} {m : MethodId} {args : Array Value} {below : List Frame} {meth : Method} {c : Code} {X : Ec} {h0 : Hp} {o : Hp} {k_2 : Hp → Nat → Int32 → Option (Hp)} {k_30 : Hp → Nat → Int32 → Int32 → Int32 → Option (Hp)} {F : Nat} (C : Cx X p s m args meth c RX0 cX0_markAll 7 none "markAll") (hk_2 : ∀ (h : Hp) (x0 : Nat) (x1 : Int32) (H : Heap) (locs : List Loc), hK h x0 = 0 → Km h0 h → Wx X h H → va_S (aA (eB X)) s.heap H locs → ∀ (ls : Array Slot), lv_has ls 7 [(0, .ref x0), (1, .int x1)] → k_2 h x0 x1 = some o → W p l e (rm 4 91) s m args below meth c H locs 0 0 (MQ below (QV X h0 o) args s 0 0 (aA (eB X))) (F0 m 2 ls [])) (hk_30 : ∀ (h : Hp) (x0 : Nat) (x1 : Int32) (x2 : Int32) (x3 : Int32) (H : Heap) (locs : List Loc), hK h x0 = 0 → Km h0 h → Wx X h H → va_S (aA (eB X)) s.heap H locs → ∀ (ls : Array Slot), lv_has ls 7 [(0, .ref x0), (1, .int x1), (2, .int x2), (3, .int x3)] → k_30 h x0 x1 x2 x3 = some o → W p l e (rm 4 91) s m args below meth c H locs 0 0 (MQ below (QV X h0 o) args s 0 0 (aA (eB X))) (F0 m 30 ls [])) : ∀ (f : Nat) {h : Hp} {x0 : Nat} {x1 : Int32} {x2 : Int32} {x3 : Int32} {x4 : Int32} {x5 : Int32} {x6 : Int32} {H : Heap} {locs : List Loc} (k_x0 : hK h x0 = 0), Km h0 h → Wx X h H → va_S (aA (eB X)) s.heap H locs → ∀ (ls : Array Slot), lv_has ls 7 [(0, .ref x0), (1, .int x1), (2, .int x2), (3, .int x3), (4, .int x4), (5, .int x5), (6, .int x6)] → sX0_markAll_63 F k_2 k_30 f h x0 x1 x2 x3 x4 x5 x6 = some o → W p l e (rm 4 91) s m args below meth c H locs 0 0 (MQ below (QV X h0 o) args s 0 0 (aA (eB X))) (F0 m 63 ls []) := by
  intro f
  induction f with
  | zero =>
    intro h x0 x1 x2 x3 x4 x5 x6 H locs k_x0 hkm hW hZ ls hl hE
    rw [sX0_markAll_63] at hE
    cases hE
  | succ f ih =>
    intro h x0 x1 x2 x3 x4 x5 x6 H locs k_x0 hkm hW hZ ls hl hE
    rw [sX0_markAll_63] at hE
    have hk_63 : ∀ (h : Hp) (x0 : Nat) (x1 : Int32) (x2 : Int32) (x3 : Int32) (x4 : Int32) (x5 : Int32) (x6 : Int32) (H : Heap) (locs : List Loc), hK h x0 = 0 → Km h0 h → Wx X h H → va_S (aA (eB X)) s.heap H locs → ∀ (ls : Array Slot), lv_has ls 7 [(0, .ref x0), (1, .int x1), (2, .int x2), (3, .int x3), (4, .int x4), (5, .int x5), (6, .int x6)] → sX0_markAll_63 F k_2 k_30 f h x0 x1 x2 x3 x4 x5 x6 = some o → W p l e (rm 4 91) s m args below meth c H locs 0 0 (MQ below (QV X h0 o) args s 0 0 (aA (eB X))) (F0 m 63 ls []) := fun h x0 x1 x2 x3 x4 x5 x6 H locs k_x0 a b c ls hl hE => ih k_x0 a b c ls hl hE
    refine lv_iload C.1 C.2.1 dX0_markAll_63 (lv_at hl 6 rfl) ?_
    refine lv_iconst (v := (2 : Int32)) C.1 C.2.1 dX0_markAll_65 (by decide) ?_
    refine lv_icmp_ge (tgt := 112) C.1 C.2.1 dX0_markAll_66 (by decide) (fun c_1 => ?_) (fun c_1 => ?_)
    · have hE := br_p hE c_1
      obtain ⟨v_2, ev_2, hE⟩ := nm_e2 hE
      refine lv_iinc (v := v_2) (lv' := [(3, .int v_2), (0, .ref x0), (1, .int x1), (2, .int x2), (4, .int x4), (5, .int x5), (6, .int x6)]) C.1 C.2.1 dX0_markAll_112 hl (k := 3) rfl (by rw [ev_2]; rfl) (by decide) rfl (fun ls hl => ?_)
      refine lv_goto (tgt := 30) C.1 C.2.1 dX0_markAll_115 (by decide) ?_
      exact hk_30 _ _ _ _ _ _ _ k_x0 hkm hW hZ _ (lv_sub hl [1, 2, 3, 0] rfl) hE
    · have hE := br_n hE c_1
      refine lv_aload_n C.1 C.2.1 dX0_markAll_69 rfl (lv_at hl 0 rfl) ?_
      obtain ⟨r_3, er_3, hE⟩ := cl_e hE
      refine gf_X0_31 C hW k_x0 er_3 dX0_markAll_70 (fun k_r_3 => ?_)
      refine lv_iload C.1 C.2.1 dX0_markAll_73 (lv_at hl 5 rfl) ?_
      refine lv_iload C.1 C.2.1 dX0_markAll_75 (lv_at hl 6 rfl) ?_
      refine lv_iadd C.1 C.2.1 dX0_markAll_77 ?_
      refine lv_iload C.1 C.2.1 dX0_markAll_78 (lv_at hl 4 rfl) ?_
      refine lv_if_eq (tgt := 92) C.1 C.2.1 dX0_markAll_80 (by decide) (fun c_4 => ?_) (fun c_4 => ?_)
      · have hE := br_p hE c_4
        refine lv_ldc (v := (4000000 : Int32)) C.1 C.2.1 C.2.2.2.1 (C.2.2.2.2.1 _ m_1662) dX0_markAll_92 ?_
        exact bX0_markAll_94 C hk_2 hk_30 hk_63 k_x0 k_r_3 hkm hW hZ _ (lv_sub hl [0, 1, 2, 3, 4, 5, 6] rfl) hE
      · have hE := br_n hE c_4
        refine lv_aload_n C.1 C.2.1 dX0_markAll_83 rfl (lv_at hl 0 rfl) ?_
        refine lv_iload C.1 C.2.1 dX0_markAll_84 (lv_at hl 6 rfl) ?_
        obtain ⟨o_5, eo_5, hE⟩ := cl_e hE
        refine x_kI (o := o_5) (z_runV (As := [.int x6]) (rest := [.int (x5 + x6), .ref r_3]) C (ct_X0_earlyWorth l X F k_x0 eo_5) cw_X0_180 hW hZ k_x0 (by decide) rfl rfl rfl hl.1 (Nat.le_of_ble_eq_true rfl) rfl dX0_markAll_86 ⟨Nat.le_of_ble_eq_true rfl, Nat.le_of_ble_eq_true rfl⟩ ⟨Nat.le_refl _, Nat.le_refl _⟩) hZ (fun _ _ hW km hZ => ?_)
        replace hkm := hkm.tr km
        replace k_x0 := km.at k_x0 (by decide)
        replace k_r_3 := km.at k_r_3 (by decide)
        refine lv_goto (tgt := 94) C.1 C.2.1 dX0_markAll_89 (by decide) ?_
        exact bX0_markAll_94 C hk_2 hk_30 hk_63 k_x0 k_r_3 hkm hW hZ _ (lv_sub hl [0, 1, 2, 3, 4, 5, 6] rfl) hE
set_option maxRecDepth 20000 in
theorem bX0_markAll_30 {p : Program} {l : Launch} {e : Env} {s : State} {m : MethodId} {args : Array Value} {below : List Frame} {meth : Method} {c : Code} {X : Ec} {h0 : Hp} {o : Hp} {k_2 : Hp → Nat → Int32 → Option (Hp)} {F : Nat} (C : Cx X p s m args meth c RX0 cX0_markAll 7 none "markAll") (hk_2 : ∀ (h : Hp) (x0 : Nat) (x1 : Int32) (H : Heap) (locs : List Loc), hK h x0 = 0 → Km h0 h → Wx X h H → va_S (aA (eB X)) s.heap H locs → ∀ (ls : Array Slot), lv_has ls 7 [(0, .ref x0), (1, .int x1)] → k_2 h x0 x1 = some o → W p l e (rm 4 91) s m args below meth c H locs 0 0 (MQ below (QV X h0 o) args s 0 0 (aA (eB X))) (F0 m 2 ls [])) : ∀ (f : Nat) {h : Hp} {x0 : Nat} {x1 : Int32} {x2 : Int32} {x3 : Int32} {H : Heap} {locs : List Loc} (k_x0 : hK h x0 = 0), Km h0 h → Wx X h H → va_S (aA (eB X)) s.heap H locs → ∀ (ls : Array Slot), lv_has ls 7 [(0, .ref x0), (1, .int x1), (2, .int x2), (3, .int x3)] → sX0_markAll_30 F k_2 f h x0 x1 x2 x3 = some o → W p l e (rm 4 91) s m args below meth c H locs 0 0 (MQ below (QV X h0 o) args s 0 0 (aA (eB X))) (F0 m 30 ls []) := by
  intro f
  induction f with
  | zero =>
    intro h x0 x1 x2 x3 H locs k_x0 hkm hW hZ ls hl hE
    rw [sX0_markAll_30] at hE
    cases hE
  | succ f ih =>
    intro h x0 x1 x2 x3 H locs k_x0 hkm hW hZ ls hl hE
    rw [sX0_markAll_30] at hE
    have hk_30 : ∀ (h : Hp) (x0 : Nat) (x1 : Int32) (x2 : Int32) (x3 : Int32) (H : Heap) (locs : List Loc), hK h x0 = 0 → Km h0 h → Wx X h H → va_S (aA (eB X)) s.heap H locs → ∀ (ls : Array Slot), lv_has ls 7 [(0, .ref x0), (1, .int x1), (2, .int x2), (3, .int x3)] → sX0_markAll_30 F k_2 f h x0 x1 x2 x3 = some o → W p l e (rm 4 91) s m args below meth c H locs 0 0 (MQ below (QV X h0 o) args s 0 0 (aA (eB X))) (F0 m 30 ls []) := fun h x0 x1 x2 x3 H locs k_x0 a b c ls hl hE => ih k_x0 a b c ls hl hE
    refine lv_iload_n C.1 C.2.1 dX0_markAll_30 rfl (lv_at hl 3 rfl) ?_
    refine lv_iload_n C.1 C.2.1 dX0_markAll_31 rfl (lv_at hl 2 rfl) ?_
    refine lv_icmp_ge (tgt := 118) C.1 C.2.1 dX0_markAll_32 (by decide) (fun c_1 => ?_) (fun c_1 => ?_)
    · have hE := br_p hE c_1
      obtain ⟨v_2, ev_2, hE⟩ := nm_e2 hE
      refine lv_iinc (v := v_2) (lv' := [(1, .int v_2), (0, .ref x0), (2, .int x2), (3, .int x3)]) C.1 C.2.1 dX0_markAll_118 hl (k := 1) rfl (by rw [ev_2]; rfl) (by decide) rfl (fun ls hl => ?_)
      refine lv_goto (tgt := 2) C.1 C.2.1 dX0_markAll_121 (by decide) ?_
      exact hk_2 _ _ _ _ _ k_x0 hkm hW hZ _ (lv_sub hl [1, 0] rfl) hE
    · have hE := br_n hE c_1
      refine lv_aload_n C.1 C.2.1 dX0_markAll_35 rfl (lv_at hl 0 rfl) ?_
      refine lv_aload_n C.1 C.2.1 dX0_markAll_36 rfl (lv_at hl 0 rfl) ?_
      obtain ⟨r_3, er_3, hE⟩ := cl_e hE
      refine gf_X0_18 C hW k_x0 er_3 dX0_markAll_37 (fun k_r_3 => ?_)
      refine lv_iload_n C.1 C.2.1 dX0_markAll_40 rfl (lv_at hl 1 rfl) ?_
      obtain ⟨g_4, hE⟩ := gd_e hE
      refine y_iald C hW k_r_3 g_4 dX0_markAll_41 ?_
      refine lv_iload_n C.1 C.2.1 dX0_markAll_42 rfl (lv_at hl 3 rfl) ?_
      obtain ⟨o_5, eo_5, hE⟩ := cl_e hE
      refine x_kI (o := o_5) (z_runV (As := [.int (hI h r_3 x1.toNatClampNeg), .int x3]) (rest := []) C (ct_X0_layOut l X F k_x0 eo_5) cw_X0_111 hW hZ k_x0 (by decide) rfl rfl rfl hl.1 (Nat.le_of_ble_eq_true rfl) rfl dX0_markAll_43 ⟨Nat.le_of_ble_eq_true rfl, Nat.le_of_ble_eq_true rfl⟩ ⟨Nat.le_refl _, Nat.le_refl _⟩) hZ (fun _ _ hW km hZ => ?_)
      replace hkm := hkm.tr km
      replace k_x0 := km.at k_x0 (by decide)
      refine lv_istore (lv' := [(4, .int o_5.1), (0, .ref x0), (1, .int x1), (2, .int x2), (3, .int x3)]) C.1 C.2.1 dX0_markAll_46 hl (by decide) rfl (fun ls hl => ?_)
      refine lv_aload_n C.1 C.2.1 dX0_markAll_48 rfl (lv_at hl 1 rfl) ?_
      obtain ⟨r_6, er_6, hE⟩ := cl_e hE
      refine gf_X0_22 C hW k_x0 er_6 dX0_markAll_49 (fun k_r_6 => ?_)
      refine lv_iload_n C.1 C.2.1 dX0_markAll_52 rfl (lv_at hl 2 rfl) ?_
      obtain ⟨g_7, hE⟩ := gd_e hE
      refine y_iald C hW k_r_6 g_7 dX0_markAll_53 ?_
      refine lv_iconst (v := (2 : Int32)) C.1 C.2.1 dX0_markAll_54 (by decide) ?_
      refine lv_iload_n C.1 C.2.1 dX0_markAll_55 rfl (lv_at hl 4 rfl) ?_
      refine lv_imul C.1 C.2.1 dX0_markAll_56 ?_
      refine lv_iadd C.1 C.2.1 dX0_markAll_57 ?_
      obtain ⟨v_8, ev_8, hE⟩ := nm_e2 hE
      refine x_nmI ev_8 ?_
      refine lv_istore (lv' := [(5, .int v_8), (4, .int o_5.1), (0, .ref x0), (1, .int x1), (2, .int x2), (3, .int x3)]) C.1 C.2.1 dX0_markAll_58 hl (by decide) rfl (fun ls hl => ?_)
      refine lv_iconst (v := (0 : Int32)) C.1 C.2.1 dX0_markAll_60 (by decide) ?_
      refine lv_istore (lv' := [(6, .int (0 : Int32)), (5, .int v_8), (4, .int o_5.1), (0, .ref x0), (1, .int x1), (2, .int x2), (3, .int x3)]) C.1 C.2.1 dX0_markAll_61 hl (by decide) rfl (fun ls hl => ?_)
      exact bX0_markAll_63 C hk_2 hk_30 F k_x0 hkm hW hZ _ (lv_sub hl [3, 4, 5, 6, 2, 1, 0] rfl) hE
set_option maxRecDepth 20000 in
theorem bX0_markAll_2 {p : Program} {l : Launch} {e : Env} {s : State} {m : MethodId} {args : Array Value} {below : List Frame} {meth : Method} {c : Code} {X : Ec} {h0 : Hp} {o : Hp} {F : Nat} (C : Cx X p s m args meth c RX0 cX0_markAll 7 none "markAll") : ∀ (f : Nat) {h : Hp} {x0 : Nat} {x1 : Int32} {H : Heap} {locs : List Loc} (k_x0 : hK h x0 = 0), Km h0 h → Wx X h H → va_S (aA (eB X)) s.heap H locs → ∀ (ls : Array Slot), lv_has ls 7 [(0, .ref x0), (1, .int x1)] → sX0_markAll_2 F f h x0 x1 = some o → W p l e (rm 4 91) s m args below meth c H locs 0 0 (MQ below (QV X h0 o) args s 0 0 (aA (eB X))) (F0 m 2 ls []) := by
  intro f
  induction f with
  | zero =>
    intro h x0 x1 H locs k_x0 hkm hW hZ ls hl hE
    rw [sX0_markAll_2] at hE
    cases hE
  | succ f ih =>
    intro h x0 x1 H locs k_x0 hkm hW hZ ls hl hE
    rw [sX0_markAll_2] at hE
    have hk_2 : ∀ (h : Hp) (x0 : Nat) (x1 : Int32) (H : Heap) (locs : List Loc), hK h x0 = 0 → Km h0 h → Wx X h H → va_S (aA (eB X)) s.heap H locs → ∀ (ls : Array Slot), lv_has ls 7 [(0, .ref x0), (1, .int x1)] → sX0_markAll_2 F f h x0 x1 = some o → W p l e (rm 4 91) s m args below meth c H locs 0 0 (MQ below (QV X h0 o) args s 0 0 (aA (eB X))) (F0 m 2 ls []) := fun h x0 x1 H locs k_x0 a b c ls hl hE => ih k_x0 a b c ls hl hE
    refine lv_iload_n C.1 C.2.1 dX0_markAll_2 rfl (lv_at hl 1 rfl) ?_
    refine lv_aload_n C.1 C.2.1 dX0_markAll_3 rfl (lv_at hl 0 rfl) ?_
    refine gf_X0_129 C hW k_x0 dX0_markAll_4 ?_
    refine lv_icmp_ge (tgt := 124) C.1 C.2.1 dX0_markAll_7 (by decide) (fun c_1 => ?_) (fun c_1 => ?_)
    · have hE := br_p hE c_1
      exact x_vret C rfl hW hZ hkm hE dX0_markAll_124
    · have hE := br_n hE c_1
      refine lv_aload_n C.1 C.2.1 dX0_markAll_10 rfl (lv_at hl 0 rfl) ?_
      obtain ⟨r_2, er_2, hE⟩ := cl_e hE
      refine gf_X0_22 C hW k_x0 er_2 dX0_markAll_11 (fun k_r_2 => ?_)
      refine lv_iload_n C.1 C.2.1 dX0_markAll_14 rfl (lv_at hl 1 rfl) ?_
      refine lv_iconst (v := (1 : Int32)) C.1 C.2.1 dX0_markAll_15 (by decide) ?_
      refine lv_iadd C.1 C.2.1 dX0_markAll_16 ?_
      obtain ⟨g_3, hE⟩ := gd_e hE
      refine y_iald C hW k_r_2 g_3 dX0_markAll_17 ?_
      refine lv_aload_n C.1 C.2.1 dX0_markAll_18 rfl (lv_at hl 0 rfl) ?_
      obtain ⟨r_4, er_4, hE⟩ := cl_e hE
      refine gf_X0_22 C hW k_x0 er_4 dX0_markAll_19 (fun k_r_4 => ?_)
      refine lv_iload_n C.1 C.2.1 dX0_markAll_22 rfl (lv_at hl 1 rfl) ?_
      obtain ⟨g_5, hE⟩ := gd_e hE
      refine y_iald C hW k_r_4 g_5 dX0_markAll_23 ?_
      refine lv_isub C.1 C.2.1 dX0_markAll_24 ?_
      refine lv_iconst (v := (1 : Int32)) C.1 C.2.1 dX0_markAll_25 (by decide) ?_
      refine lv_ishr C.1 C.2.1 dX0_markAll_26 ?_
      obtain ⟨v_6, ev_6, hE⟩ := nm_e2 hE
      refine x_nmI ev_6 ?_
      refine lv_istore_n (lv' := [(2, .int v_6), (0, .ref x0), (1, .int x1)]) C.1 C.2.1 dX0_markAll_27 rfl hl (by decide) rfl (fun ls hl => ?_)
      refine lv_iconst (v := (0 : Int32)) C.1 C.2.1 dX0_markAll_28 (by decide) ?_
      refine lv_istore_n (lv' := [(3, .int (0 : Int32)), (2, .int v_6), (0, .ref x0), (1, .int x1)]) C.1 C.2.1 dX0_markAll_29 rfl hl (by decide) rfl (fun ls hl => ?_)
      exact bX0_markAll_30 C hk_2 F k_x0 hkm hW hZ _ (lv_sub hl [2, 3, 1, 0] rfl) hE
set_option maxRecDepth 20000 in
theorem ct_X0_markAll (l : Launch) (X : Ec) (F : Nat) {h : Hp} {x0 : Nat} {o : Hp} (k_x0 : hK h x0 = 0) (hE : sX0_markAll F h x0 = some o) : MetV l yX0_markAll cX0_markAll 7 none 4 91 X [.ref x0] h o := by
  refine x_met (by decide) (Nat.le_of_ble_eq_true rfl) ?_
  intro p e s m below meth c ls C hl hW hZ
  have hl : lv_has ls 7 [(0, .ref x0)] := hl
  have hkm : Km h h := Km.rf h
  refine lv_iconst (v := (0 : Int32)) C.1 C.2.1 dX0_markAll_0 (by decide) ?_
  refine lv_istore_n (lv' := [(1, .int (0 : Int32)), (0, .ref x0)]) C.1 C.2.1 dX0_markAll_1 rfl hl (by decide) rfl (fun ls hl => ?_)
  exact bX0_markAll_2 C F k_x0 hkm hW hZ _ (lv_sub hl [1, 0] rfl) hE
set_option maxRecDepth 100000 in
theorem m_465 : Cond.fieldLink RX0 265 (TX0 8).1 (TX0 8).2.1 (TX0 8).2.2.1 ∈ W0 := w0_in (List.mem_append_right _ (List.mem_of_getElem? (i := 465) rfl)) rfl
section
variable {p : Program} {l : Launch} {e : Env} {R : Room} {s : State} {m : MethodId} {args : Array Value} {below : List Frame} {meth : Method} {c : Code} {H : Heap} {locs : List Loc} {cells slots : Nat} {Q : State → Prop}
variable {cc : ByteArray} {pc : Nat} {ls : Array Slot} {rest : List Value} {X : Ec} {h h1 : Hp} {nL : Nat} {rt : Option FieldType} {mn : String}
theorem gf_X0_28 {a r : Nat} (C : Cx X p s m args meth c RX0 cc nL rt mn) (hW : Wx X h H) (ha : hK h a = 0) (hr : hR h a 7 = some r) (hdg : decode cc pc = .ok (.getfield 28, 3)) (kk : hK h r = 17 → W p l e R s m args below meth c H locs cells slots Q (F0 m (pc + 3) ls (.ref r :: rest))) : W p l e R s m args below meth c H locs cells slots Q (F0 m pc ls (.ref a :: rest)) :=
  y_getr C hW ha i_X0 (by decide) rfl (by decide) m_464 rfl rfl hr hdg kk
theorem gf_X0_265 {a : Nat} (C : Cx X p s m args meth c RX0 cc nL rt mn) (hW : Wx X h H) (ha : hK h a = 0) (hdg : decode cc pc = .ok (.getfield 265, 3)) (kk : W p l e R s m args below meth c H locs cells slots Q (F0 m (pc + 3) ls (.int (hI h a 8) :: rest))) : W p l e R s m args below meth c H locs cells slots Q (F0 m pc ls (.ref a :: rest)) :=
  y_geti C hW ha i_X0 (by decide) rfl (by decide) m_465 rfl hdg kk
theorem pf_X0_265 {a : Nat} {v : Int32} (C : Cx X p s m args meth c RX0 cc nL rt mn) (hW : Wx X h H) (hZ : va_S (aA (eB X)) s.heap H locs) (ha : hK h a = 0) (eh : h1 = wI h a 8 v) (hdg : decode cc pc = .ok (.putfield 265, 3)) (kk : ∀ (H1 : Heap) (locs1 : List Loc), Wx X h1 H1 → Km h h1 → va_S (aA (eB X)) s.heap H1 locs1 → W p l e R s m args below meth c H1 locs1 cells slots Q (F0 m (pc + 3) ls rest)) : W p l e R s m args below meth c H locs cells slots Q (F0 m pc ls (.int v :: .ref a :: rest)) :=
  y_puti (ty := .int) C hW hZ ha i_X0 tyX0 tyX0_ok nmX0 (by decide) rfl rfl (by decide) m_465 rfl (by decide +kernel) rfl rfl rfl eh hdg kk
end
theorem dX0_addToRow_0 : decode cX0_addToRow 0 = .ok (.aload_n 0, 1) := by decide +kernel
theorem dX0_addToRow_1 : decode cX0_addToRow 1 = .ok (.getfield 265, 3) := by decide +kernel
theorem dX0_addToRow_4 : decode cX0_addToRow 4 = .ok (.istore_n 2, 1) := by decide +kernel
theorem dX0_addToRow_5 : decode cX0_addToRow 5 = .ok (.iload_n 2, 1) := by decide +kernel
theorem dX0_addToRow_6 : decode cX0_addToRow 6 = .ok (.ifCond .le 35, 3) := by decide +kernel
theorem dX0_addToRow_9 : decode cX0_addToRow 9 = .ok (.aload_n 0, 1) := by decide +kernel
theorem dX0_addToRow_10 : decode cX0_addToRow 10 = .ok (.getfield 28, 3) := by decide +kernel
theorem dX0_addToRow_13 : decode cX0_addToRow 13 = .ok (.iload_n 2, 1) := by decide +kernel
theorem dX0_addToRow_14 : decode cX0_addToRow 14 = .ok (.iconst 1, 1) := by decide +kernel
theorem dX0_addToRow_15 : decode cX0_addToRow 15 = .ok (.isub, 1) := by decide +kernel
theorem dX0_addToRow_16 : decode cX0_addToRow 16 = .ok (.iaload, 1) := by decide +kernel
theorem dX0_addToRow_17 : decode cX0_addToRow 17 = .ok (.iload_n 1, 1) := by decide +kernel
theorem dX0_addToRow_18 : decode cX0_addToRow 18 = .ok (.if_icmp .le 23, 3) := by decide +kernel
theorem dX0_addToRow_21 : decode cX0_addToRow 21 = .ok (.aload_n 0, 1) := by decide +kernel
theorem dX0_addToRow_22 : decode cX0_addToRow 22 = .ok (.getfield 28, 3) := by decide +kernel
theorem dX0_addToRow_25 : decode cX0_addToRow 25 = .ok (.iload_n 2, 1) := by decide +kernel
theorem dX0_addToRow_26 : decode cX0_addToRow 26 = .ok (.aload_n 0, 1) := by decide +kernel
theorem dX0_addToRow_27 : decode cX0_addToRow 27 = .ok (.getfield 28, 3) := by decide +kernel
theorem dX0_addToRow_30 : decode cX0_addToRow 30 = .ok (.iload_n 2, 1) := by decide +kernel
theorem dX0_addToRow_31 : decode cX0_addToRow 31 = .ok (.iconst 1, 1) := by decide +kernel
theorem dX0_addToRow_32 : decode cX0_addToRow 32 = .ok (.isub, 1) := by decide +kernel
theorem dX0_addToRow_33 : decode cX0_addToRow 33 = .ok (.iaload, 1) := by decide +kernel
theorem dX0_addToRow_34 : decode cX0_addToRow 34 = .ok (.iastore, 1) := by decide +kernel
theorem dX0_addToRow_35 : decode cX0_addToRow 35 = .ok (.iinc 2 (-1), 3) := by decide +kernel
theorem dX0_addToRow_38 : decode cX0_addToRow 38 = .ok (.goto (-33), 3) := by decide +kernel
theorem dX0_addToRow_41 : decode cX0_addToRow 41 = .ok (.aload_n 0, 1) := by decide +kernel
theorem dX0_addToRow_42 : decode cX0_addToRow 42 = .ok (.getfield 28, 3) := by decide +kernel
theorem dX0_addToRow_45 : decode cX0_addToRow 45 = .ok (.iload_n 2, 1) := by decide +kernel
theorem dX0_addToRow_46 : decode cX0_addToRow 46 = .ok (.iload_n 1, 1) := by decide +kernel
theorem dX0_addToRow_47 : decode cX0_addToRow 47 = .ok (.iastore, 1) := by decide +kernel
theorem dX0_addToRow_48 : decode cX0_addToRow 48 = .ok (.aload_n 0, 1) := by decide +kernel
theorem dX0_addToRow_49 : decode cX0_addToRow 49 = .ok (.dup, 1) := by decide +kernel
theorem dX0_addToRow_50 : decode cX0_addToRow 50 = .ok (.getfield 265, 3) := by decide +kernel
theorem dX0_addToRow_53 : decode cX0_addToRow 53 = .ok (.iconst 1, 1) := by decide +kernel
theorem dX0_addToRow_54 : decode cX0_addToRow 54 = .ok (.iadd, 1) := by decide +kernel
theorem dX0_addToRow_55 : decode cX0_addToRow 55 = .ok (.putfield 265, 3) := by decide +kernel
theorem dX0_addToRow_58 : decode cX0_addToRow 58 = .ok (.return_, 1) := by decide +kernel
set_option maxRecDepth 20000 in
theorem moX0_addToRow_41 {o : Hp} {F : Nat} {h : Hp} {x0 : Nat} {x1 : Int32} {x2 : Int32} (hE : sX0_addToRow_41 F h x0 x1 x2 = some o) : Le h o := by
  obtain ⟨r_1, er_1, hE⟩ := cl_e hE
  obtain ⟨g_2, hE⟩ := gd_e hE
  obtain ⟨h_3, eh_3, hE⟩ := nm_e2 hE
  refine (le_I eh_3).tr ?_
  obtain ⟨h_4, eh_4, hE⟩ := nm_e2 hE
  refine (le_I eh_4).tr ?_
  exact le_some1 hE
set_option maxRecDepth 20000 in
theorem moX0_addToRow_5 {o : Hp} {F : Nat} : ∀ (f : Nat) {h : Hp} {x0 : Nat} {x1 : Int32} {x2 : Int32}, sX0_addToRow_5 F f h x0 x1 x2 = some o → Le h o := by
  intro f
  induction f with
  | zero =>
    intro h x0 x1 x2 hE
    rw [sX0_addToRow_5] at hE
    cases hE
  | succ f ih =>
    intro h x0 x1 x2 hE
    rw [sX0_addToRow_5] at hE
    have mk_5 : ∀ (h : Hp) (x0 : Nat) (x1 : Int32) (x2 : Int32), sX0_addToRow_5 F f h x0 x1 x2 = some o → Le h o := fun h x0 x1 x2 hE => ih hE
    rcases br_e hE with ⟨_, hE⟩ | ⟨_, hE⟩
    · exact moX0_addToRow_41 hE
    · obtain ⟨r_2, er_2, hE⟩ := cl_e hE
      obtain ⟨g_3, hE⟩ := gd_e hE
      rcases br_e hE with ⟨_, hE⟩ | ⟨_, hE⟩
      · exact moX0_addToRow_41 hE
      · obtain ⟨r_5, er_5, hE⟩ := cl_e hE
        obtain ⟨r_6, er_6, hE⟩ := cl_e hE
        obtain ⟨g_7, hE⟩ := gd_e hE
        obtain ⟨g_8, hE⟩ := gd_e hE
        obtain ⟨h_9, eh_9, hE⟩ := nm_e2 hE
        refine (le_I eh_9).tr ?_
        obtain ⟨v_10, ev_10, hE⟩ := nm_e2 hE
        exact mk_5 _ _ _ _ hE
set_option maxRecDepth 20000 in
theorem moX0_addToRow {o : Hp} {F : Nat} {h : Hp} {x0 : Nat} {x1 : Int32} (hE : sX0_addToRow F h x0 x1 = some o) : Le h o := by
  obtain ⟨v_1, ev_1, hE⟩ := nm_e2 hE
  exact moX0_addToRow_5 _ hE
set_option maxRecDepth 20000 in
theorem bX0_addToRow_41 {p : Program} {l : Launch} {e : Env} {s : State} {m : MethodId} {args : Array Value} {below : List Frame} {meth : Method} {c : Code} {X : Ec} {h0 : Hp} {o : Hp} {F : Nat} (C : Cx X p s m args meth c RX0 cX0_addToRow 3 none "addToRow") {h : Hp} {x0 : Nat} {x1 : Int32} {x2 : Int32} {H : Heap} {locs : List Loc} (k_x0 : hK h x0 = 0) (hkm : Km h0 h) (hW : Wx X h H) (hZ : va_S (aA (eB X)) s.heap H locs) (ls : Array Slot) (hl : lv_has ls 3 [(0, .ref x0), (1, .int x1), (2, .int x2)]) (hE : sX0_addToRow_41 F h x0 x1 x2 = some o) : W p l e (rm 0 0) s m args below meth c H locs 0 0 (MQ below (QV X h0 o) args s 0 0 (aA (eB X))) (F0 m 41 ls []) := by
  refine lv_aload_n C.1 C.2.1 dX0_addToRow_41 rfl (lv_at hl 0 rfl) ?_
  obtain ⟨r_1, er_1, hE⟩ := cl_e hE
  refine gf_X0_28 C hW k_x0 er_1 dX0_addToRow_42 (fun k_r_1 => ?_)
  refine lv_iload_n C.1 C.2.1 dX0_addToRow_45 rfl (lv_at hl 2 rfl) ?_
  refine lv_iload_n C.1 C.2.1 dX0_addToRow_46 rfl (lv_at hl 1 rfl) ?_
  obtain ⟨g_2, hE⟩ := gd_e hE
  obtain ⟨h_3, eh_3, hE⟩ := nm_e2 hE
  refine y_iast C hW hZ k_r_1 g_2 eh_3 dX0_addToRow_47 (fun _ _ hW km hZ => ?_)
  replace hkm := hkm.tr km
  replace k_x0 := km.at k_x0 (by decide)
  refine lv_aload_n C.1 C.2.1 dX0_addToRow_48 rfl (lv_at hl 0 rfl) ?_
  refine lv_dup C.1 C.2.1 dX0_addToRow_49 rfl ?_
  refine gf_X0_265 C hW k_x0 dX0_addToRow_50 ?_
  refine lv_iconst (v := (1 : Int32)) C.1 C.2.1 dX0_addToRow_53 (by decide) ?_
  refine lv_iadd C.1 C.2.1 dX0_addToRow_54 ?_
  obtain ⟨h_4, eh_4, hE⟩ := nm_e2 hE
  refine pf_X0_265 C hW hZ k_x0 eh_4 dX0_addToRow_55 (fun _ _ hW km hZ => ?_)
  replace hkm := hkm.tr km
  replace k_x0 := km.at k_x0 (by decide)
  exact x_vret C rfl hW hZ hkm hE dX0_addToRow_58
set_option maxRecDepth 20000 in
theorem bX0_addToRow_5 {p : Program} {l : Launch} {e : Env} {s : State} {m : MethodId} {args : Array Value} {below : List Frame} {meth : Method} {c : Code} {X : Ec} {h0 : Hp} {o : Hp} {F : Nat} (C : Cx X p s m args meth c RX0 cX0_addToRow 3 none "addToRow") : ∀ (f : Nat) {h : Hp} {x0 : Nat} {x1 : Int32} {x2 : Int32} {H : Heap} {locs : List Loc} (k_x0 : hK h x0 = 0), Km h0 h → Wx X h H → va_S (aA (eB X)) s.heap H locs → ∀ (ls : Array Slot), lv_has ls 3 [(0, .ref x0), (1, .int x1), (2, .int x2)] → sX0_addToRow_5 F f h x0 x1 x2 = some o → W p l e (rm 0 0) s m args below meth c H locs 0 0 (MQ below (QV X h0 o) args s 0 0 (aA (eB X))) (F0 m 5 ls []) := by
  intro f
  induction f with
  | zero =>
    intro h x0 x1 x2 H locs k_x0 hkm hW hZ ls hl hE
    rw [sX0_addToRow_5] at hE
    cases hE
  | succ f ih =>
    intro h x0 x1 x2 H locs k_x0 hkm hW hZ ls hl hE
    rw [sX0_addToRow_5] at hE
    have hk_5 : ∀ (h : Hp) (x0 : Nat) (x1 : Int32) (x2 : Int32) (H : Heap) (locs : List Loc), hK h x0 = 0 → Km h0 h → Wx X h H → va_S (aA (eB X)) s.heap H locs → ∀ (ls : Array Slot), lv_has ls 3 [(0, .ref x0), (1, .int x1), (2, .int x2)] → sX0_addToRow_5 F f h x0 x1 x2 = some o → W p l e (rm 0 0) s m args below meth c H locs 0 0 (MQ below (QV X h0 o) args s 0 0 (aA (eB X))) (F0 m 5 ls []) := fun h x0 x1 x2 H locs k_x0 a b c ls hl hE => ih k_x0 a b c ls hl hE
    refine lv_iload_n C.1 C.2.1 dX0_addToRow_5 rfl (lv_at hl 2 rfl) ?_
    refine lv_if_le (tgt := 41) C.1 C.2.1 dX0_addToRow_6 (by decide) (fun c_1 => ?_) (fun c_1 => ?_)
    · have hE := br_p hE c_1
      exact bX0_addToRow_41 C k_x0 hkm hW hZ _ (lv_sub hl [0, 1, 2] rfl) hE
    · have hE := br_n hE c_1
      refine lv_aload_n C.1 C.2.1 dX0_addToRow_9 rfl (lv_at hl 0 rfl) ?_
      obtain ⟨r_2, er_2, hE⟩ := cl_e hE
      refine gf_X0_28 C hW k_x0 er_2 dX0_addToRow_10 (fun k_r_2 => ?_)
      refine lv_iload_n C.1 C.2.1 dX0_addToRow_13 rfl (lv_at hl 2 rfl) ?_
      refine lv_iconst (v := (1 : Int32)) C.1 C.2.1 dX0_addToRow_14 (by decide) ?_
      refine lv_isub C.1 C.2.1 dX0_addToRow_15 ?_
      obtain ⟨g_3, hE⟩ := gd_e hE
      refine y_iald C hW k_r_2 g_3 dX0_addToRow_16 ?_
      refine lv_iload_n C.1 C.2.1 dX0_addToRow_17 rfl (lv_at hl 1 rfl) ?_
      refine lv_icmp_le (tgt := 41) C.1 C.2.1 dX0_addToRow_18 (by decide) (fun c_4 => ?_) (fun c_4 => ?_)
      · have hE := br_p hE c_4
        exact bX0_addToRow_41 C k_x0 hkm hW hZ _ (lv_sub hl [0, 1, 2] rfl) hE
      · have hE := br_n hE c_4
        refine lv_aload_n C.1 C.2.1 dX0_addToRow_21 rfl (lv_at hl 0 rfl) ?_
        obtain ⟨r_5, er_5, hE⟩ := cl_e hE
        refine gf_X0_28 C hW k_x0 er_5 dX0_addToRow_22 (fun k_r_5 => ?_)
        refine lv_iload_n C.1 C.2.1 dX0_addToRow_25 rfl (lv_at hl 2 rfl) ?_
        refine lv_aload_n C.1 C.2.1 dX0_addToRow_26 rfl (lv_at hl 0 rfl) ?_
        obtain ⟨r_6, er_6, hE⟩ := cl_e hE
        refine gf_X0_28 C hW k_x0 er_6 dX0_addToRow_27 (fun k_r_6 => ?_)
        refine lv_iload_n C.1 C.2.1 dX0_addToRow_30 rfl (lv_at hl 2 rfl) ?_
        refine lv_iconst (v := (1 : Int32)) C.1 C.2.1 dX0_addToRow_31 (by decide) ?_
        refine lv_isub C.1 C.2.1 dX0_addToRow_32 ?_
        obtain ⟨g_7, hE⟩ := gd_e hE
        refine y_iald C hW k_r_6 g_7 dX0_addToRow_33 ?_
        obtain ⟨g_8, hE⟩ := gd_e hE
        obtain ⟨h_9, eh_9, hE⟩ := nm_e2 hE
        refine y_iast C hW hZ k_r_5 g_8 eh_9 dX0_addToRow_34 (fun _ _ hW km hZ => ?_)
        replace hkm := hkm.tr km
        replace k_x0 := km.at k_x0 (by decide)
        obtain ⟨v_10, ev_10, hE⟩ := nm_e2 hE
        refine lv_iinc (v := v_10) (lv' := [(2, .int v_10), (0, .ref x0), (1, .int x1)]) C.1 C.2.1 dX0_addToRow_35 hl (k := 2) rfl (by rw [ev_10]; rfl) (by decide) rfl (fun ls hl => ?_)
        refine lv_goto (tgt := 5) C.1 C.2.1 dX0_addToRow_38 (by decide) ?_
        exact hk_5 _ _ _ _ _ _ k_x0 hkm hW hZ _ (lv_sub hl [1, 2, 0] rfl) hE
set_option maxRecDepth 20000 in
theorem ct_X0_addToRow (l : Launch) (X : Ec) (F : Nat) {h : Hp} {x0 : Nat} {x1 : Int32} {o : Hp} (k_x0 : hK h x0 = 0) (hE : sX0_addToRow F h x0 x1 = some o) : MetV l yX0_addToRow cX0_addToRow 3 none 0 0 X [.ref x0, .int x1] h o := by
  refine x_met (by decide) (Nat.le_of_ble_eq_true rfl) ?_
  intro p e s m below meth c ls C hl hW hZ
  have hl : lv_has ls 3 [(0, .ref x0), (1, .int x1)] := hl
  have hkm : Km h h := Km.rf h
  refine lv_aload_n C.1 C.2.1 dX0_addToRow_0 rfl (lv_at hl 0 rfl) ?_
  refine gf_X0_265 C hW k_x0 dX0_addToRow_1 ?_
  obtain ⟨v_1, ev_1, hE⟩ := nm_e2 hE
  refine x_nmI ev_1 ?_
  refine lv_istore_n (lv' := [(2, .int v_1), (0, .ref x0), (1, .int x1)]) C.1 C.2.1 dX0_addToRow_4 rfl hl (by decide) rfl (fun ls hl => ?_)
  exact bX0_addToRow_5 C F k_x0 hkm hW hZ _ (lv_sub hl [1, 2, 0] rfl) hE
set_option maxRecDepth 100000 in
theorem ms_103 : Cond.selects RX0 yX0_addToRow yX0_addToRow ∈ W0 := w0_in (List.mem_append_left _ (List.mem_of_getElem? (i := 103) rfl)) rfl
set_option maxRecDepth 100000 in
theorem m_1693 : Cond.methodLink RX0 268 yX0_addToRow ∈ W0 := w0_in (List.mem_append_right _ (List.mem_of_getElem? (i := 1693) rfl)) rfl
set_option maxRecDepth 100000 in
theorem m_1695 : Cond.instanceMethod yX0_addToRow ∈ W0 := w0_in (List.mem_append_right _ (List.mem_of_getElem? (i := 1695) rfl)) rfl
set_option maxRecDepth 100000 in
theorem m_1696 : Cond.code yX0_addToRow cX0_addToRow 3 none ∈ W0 := w0_in (List.mem_append_right _ (List.mem_of_getElem? (i := 1696) rfl)) rfl
theorem cw_X0_268 : cwd RX0 268 yX0_addToRow cX0_addToRow 3 none false 1 := ⟨m_1696, m_1693, m_13, ⟨m_1695, ms_103⟩, by decide, by decide, by decide +kernel⟩
theorem dX0_gatherRow_0 : decode cX0_gatherRow 0 = .ok (.aload_n 0, 1) := by decide +kernel
theorem dX0_gatherRow_1 : decode cX0_gatherRow 1 = .ok (.iconst 0, 1) := by decide +kernel
theorem dX0_gatherRow_2 : decode cX0_gatherRow 2 = .ok (.putfield 265, 3) := by decide +kernel
theorem dX0_gatherRow_5 : decode cX0_gatherRow 5 = .ok (.aload_n 1, 1) := by decide +kernel
theorem dX0_gatherRow_6 : decode cX0_gatherRow 6 = .ok (.invokevirtual 157, 3) := by decide +kernel
theorem dX0_gatherRow_9 : decode cX0_gatherRow 9 = .ok (.lstore 4, 2) := by decide +kernel
theorem dX0_gatherRow_11 : decode cX0_gatherRow 11 = .ok (.iconst 0, 1) := by decide +kernel
theorem dX0_gatherRow_12 : decode cX0_gatherRow 12 = .ok (.istore 6, 2) := by decide +kernel
theorem dX0_gatherRow_14 : decode cX0_gatherRow 14 = .ok (.iload 6, 2) := by decide +kernel
theorem dX0_gatherRow_16 : decode cX0_gatherRow 16 = .ok (.bipush 64, 2) := by decide +kernel
theorem dX0_gatherRow_18 : decode cX0_gatherRow 18 = .ok (.if_icmp .ge 77, 3) := by decide +kernel
theorem dX0_gatherRow_21 : decode cX0_gatherRow 21 = .ok (.lload 4, 2) := by decide +kernel
theorem dX0_gatherRow_23 : decode cX0_gatherRow 23 = .ok (.lconst 0, 1) := by decide +kernel
theorem dX0_gatherRow_24 : decode cX0_gatherRow 24 = .ok (.lcmp, 1) := by decide +kernel
theorem dX0_gatherRow_25 : decode cX0_gatherRow 25 = .ok (.ifCond .eq 70, 3) := by decide +kernel
theorem dX0_gatherRow_28 : decode cX0_gatherRow 28 = .ok (.lload 4, 2) := by decide +kernel
theorem dX0_gatherRow_30 : decode cX0_gatherRow 30 = .ok (.invokestatic 161, 3) := by decide +kernel
theorem dX0_gatherRow_33 : decode cX0_gatherRow 33 = .ok (.istore 7, 2) := by decide +kernel
theorem dX0_gatherRow_35 : decode cX0_gatherRow 35 = .ok (.lload 4, 2) := by decide +kernel
theorem dX0_gatherRow_37 : decode cX0_gatherRow 37 = .ok (.lload 4, 2) := by decide +kernel
theorem dX0_gatherRow_39 : decode cX0_gatherRow 39 = .ok (.lconst 1, 1) := by decide +kernel
theorem dX0_gatherRow_40 : decode cX0_gatherRow 40 = .ok (.lsub, 1) := by decide +kernel
theorem dX0_gatherRow_41 : decode cX0_gatherRow 41 = .ok (.land, 1) := by decide +kernel
theorem dX0_gatherRow_42 : decode cX0_gatherRow 42 = .ok (.lstore 4, 2) := by decide +kernel
theorem dX0_gatherRow_44 : decode cX0_gatherRow 44 = .ok (.iload 7, 2) := by decide +kernel
theorem dX0_gatherRow_46 : decode cX0_gatherRow 46 = .ok (.iload_n 2, 1) := by decide +kernel
theorem dX0_gatherRow_47 : decode cX0_gatherRow 47 = .ok (.if_icmp .ne 7, 3) := by decide +kernel
theorem dX0_gatherRow_50 : decode cX0_gatherRow 50 = .ok (.iload_n 3, 1) := by decide +kernel
theorem dX0_gatherRow_51 : decode cX0_gatherRow 51 = .ok (.goto 10, 3) := by decide +kernel
theorem dX0_gatherRow_54 : decode cX0_gatherRow 54 = .ok (.aload_n 1, 1) := by decide +kernel
theorem dX0_gatherRow_55 : decode cX0_gatherRow 55 = .ok (.getfield 176, 3) := by decide +kernel
theorem dX0_gatherRow_58 : decode cX0_gatherRow 58 = .ok (.iload 7, 2) := by decide +kernel
theorem dX0_gatherRow_60 : decode cX0_gatherRow 60 = .ok (.baload, 1) := by decide +kernel
theorem dX0_gatherRow_61 : decode cX0_gatherRow 61 = .ok (.istore 8, 2) := by decide +kernel
theorem dX0_gatherRow_63 : decode cX0_gatherRow 63 = .ok (.iload 8, 2) := by decide +kernel
theorem dX0_gatherRow_65 : decode cX0_gatherRow 65 = .ok (.iconst (-1), 1) := by decide +kernel
theorem dX0_gatherRow_66 : decode cX0_gatherRow 66 = .ok (.if_icmp .eq 23, 3) := by decide +kernel
theorem dX0_gatherRow_69 : decode cX0_gatherRow 69 = .ok (.aload_n 0, 1) := by decide +kernel
theorem dX0_gatherRow_70 : decode cX0_gatherRow 70 = .ok (.getfield 265, 3) := by decide +kernel
theorem dX0_gatherRow_73 : decode cX0_gatherRow 73 = .ok (.iconst 5, 1) := by decide +kernel
theorem dX0_gatherRow_74 : decode cX0_gatherRow 74 = .ok (.if_icmp .ge 15, 3) := by decide +kernel
theorem dX0_gatherRow_77 : decode cX0_gatherRow 77 = .ok (.aload_n 0, 1) := by decide +kernel
theorem dX0_gatherRow_78 : decode cX0_gatherRow 78 = .ok (.iload 8, 2) := by decide +kernel
theorem dX0_gatherRow_80 : decode cX0_gatherRow 80 = .ok (.bipush 6, 2) := by decide +kernel
theorem dX0_gatherRow_82 : decode cX0_gatherRow 82 = .ok (.ishl, 1) := by decide +kernel
theorem dX0_gatherRow_83 : decode cX0_gatherRow 83 = .ok (.iload 7, 2) := by decide +kernel
theorem dX0_gatherRow_85 : decode cX0_gatherRow 85 = .ok (.ior, 1) := by decide +kernel
theorem dX0_gatherRow_86 : decode cX0_gatherRow 86 = .ok (.invokevirtual 268, 3) := by decide +kernel
theorem dX0_gatherRow_89 : decode cX0_gatherRow 89 = .ok (.iinc 6 1, 3) := by decide +kernel
theorem dX0_gatherRow_92 : decode cX0_gatherRow 92 = .ok (.goto (-78), 3) := by decide +kernel
theorem dX0_gatherRow_95 : decode cX0_gatherRow 95 = .ok (.return_, 1) := by decide +kernel
set_option maxRecDepth 20000 in
theorem moX0_gatherRow_95 {o : Hp} {F : Nat} {h : Hp} (hE : sX0_gatherRow_95 F h  = some o) : Le h o := by
  exact le_some1 hE
set_option maxRecDepth 20000 in
theorem moX0_gatherRow_89 {o : Hp} {k_14 : Hp → Nat → Nat → Int32 → Int32 → Int64 → Int32 → Option (Hp)} {F : Nat} (mk_14 : ∀ (h : Hp) (x0 : Nat) (x1 : Nat) (x2 : Int32) (x3 : Int32) (x4 : Int64) (x6 : Int32), k_14 h x0 x1 x2 x3 x4 x6 = some o → Le h o) {h : Hp} {x0 : Nat} {x1 : Nat} {x2 : Int32} {x3 : Int32} {x4 : Int64} {x6 : Int32} (hE : sX0_gatherRow_89 F k_14 h x0 x1 x2 x3 x4 x6 = some o) : Le h o := by
  obtain ⟨v_1, ev_1, hE⟩ := nm_e2 hE
  exact mk_14 _ _ _ _ _ _ _ hE
set_option maxRecDepth 20000 in
theorem moX0_gatherRow_61 {o : Hp} {k_14 : Hp → Nat → Nat → Int32 → Int32 → Int64 → Int32 → Option (Hp)} {F : Nat} (mk_14 : ∀ (h : Hp) (x0 : Nat) (x1 : Nat) (x2 : Int32) (x3 : Int32) (x4 : Int64) (x6 : Int32), k_14 h x0 x1 x2 x3 x4 x6 = some o → Le h o) {h : Hp} {x0 : Nat} {x1 : Nat} {x2 : Int32} {x3 : Int32} {x4 : Int64} {x6 : Int32} {x7 : Int32} {t0 : Int32} (hE : sX0_gatherRow_61 F k_14 h x0 x1 x2 x3 x4 x6 x7 t0 = some o) : Le h o := by
  rcases br_e hE with ⟨_, hE⟩ | ⟨_, hE⟩
  · exact moX0_gatherRow_89 mk_14 hE
  · rcases br_e hE with ⟨_, hE⟩ | ⟨_, hE⟩
    · exact moX0_gatherRow_89 mk_14 hE
    · obtain ⟨o_3, eo_3, hE⟩ := cl_e hE
      refine (moX0_addToRow eo_3).tr ?_
      exact moX0_gatherRow_89 mk_14 hE
set_option maxRecDepth 20000 in
theorem moX0_gatherRow_14 {o : Hp} {F : Nat} : ∀ (f : Nat) {h : Hp} {x0 : Nat} {x1 : Nat} {x2 : Int32} {x3 : Int32} {x4 : Int64} {x6 : Int32}, sX0_gatherRow_14 F f h x0 x1 x2 x3 x4 x6 = some o → Le h o := by
  intro f
  induction f with
  | zero =>
    intro h x0 x1 x2 x3 x4 x6 hE
    rw [sX0_gatherRow_14] at hE
    cases hE
  | succ f ih =>
    intro h x0 x1 x2 x3 x4 x6 hE
    rw [sX0_gatherRow_14] at hE
    have mk_14 : ∀ (h : Hp) (x0 : Nat) (x1 : Nat) (x2 : Int32) (x3 : Int32) (x4 : Int64) (x6 : Int32), sX0_gatherRow_14 F f h x0 x1 x2 x3 x4 x6 = some o → Le h o := fun h x0 x1 x2 x3 x4 x6 hE => ih hE
    rcases br_e hE with ⟨_, hE⟩ | ⟨_, hE⟩
    · exact moX0_gatherRow_95 hE
    · rcases br_e hE with ⟨_, hE⟩ | ⟨_, hE⟩
      · exact moX0_gatherRow_95 hE
      · obtain ⟨o_3, eo_3, hE⟩ := cl_e hE
        refine (moX11_lowest eo_3).tr ?_
        obtain ⟨v_4, ev_4, hE⟩ := nm_e2 hE
        rcases br_e hE with ⟨_, hE⟩ | ⟨_, hE⟩
        · exact moX0_gatherRow_61 mk_14 hE
        · obtain ⟨r_6, er_6, hE⟩ := cl_e hE
          obtain ⟨g_7, hE⟩ := gd_e hE
          exact moX0_gatherRow_61 mk_14 hE
set_option maxRecDepth 20000 in
theorem moX0_gatherRow {o : Hp} {F : Nat} {h : Hp} {x0 : Nat} {x1 : Nat} {x2 : Int32} {x3 : Int32} (hE : sX0_gatherRow F h x0 x1 x2 x3 = some o) : Le h o := by
  obtain ⟨h_1, eh_1, hE⟩ := nm_e2 hE
  refine (le_I eh_1).tr ?_
  obtain ⟨o_2, eo_2, hE⟩ := cl_e hE
  refine (moX3_occupied eo_2).tr ?_
  exact moX0_gatherRow_14 _ hE
set_option maxRecDepth 20000 in
theorem bX0_gatherRow_95 {p : Program} {l : Launch} {e : Env} {s : State} {m : MethodId} {args : Array Value} {below : List Frame} {meth : Method} {c : Code} {X : Ec} {h0 : Hp} {o : Hp} {F : Nat} (C : Cx X p s m args meth c RX0 cX0_gatherRow 9 none "gatherRow") {h : Hp} {H : Heap} {locs : List Loc} (hkm : Km h0 h) (hW : Wx X h H) (hZ : va_S (aA (eB X)) s.heap H locs) (ls : Array Slot) (hl : lv_has ls 9 []) (hE : sX0_gatherRow_95 F h  = some o) : W p l e (rm 1 22) s m args below meth c H locs 0 0 (MQ below (QV X h0 o) args s 0 0 (aA (eB X))) (F0 m 95 ls []) := by
  exact x_vret C rfl hW hZ hkm hE dX0_gatherRow_95
set_option maxRecDepth 20000 in
theorem bX0_gatherRow_89 {p : Program} {l : Launch} {e : Env} {s : State} {m : MethodId} {args : Array Value} {below : List Frame} {meth : Method} {c : Code} {X : Ec} {h0 : Hp} {o : Hp} {k_14 : Hp → Nat → Nat → Int32 → Int32 → Int64 → Int32 → Option (Hp)} {F : Nat} (C : Cx X p s m args meth c RX0 cX0_gatherRow 9 none "gatherRow") (hk_14 : ∀ (h : Hp) (x0 : Nat) (x1 : Nat) (x2 : Int32) (x3 : Int32) (x4 : Int64) (x6 : Int32) (H : Heap) (locs : List Loc), hK h x0 = 0 → hK h x1 = 3 → Km h0 h → Wx X h H → va_S (aA (eB X)) s.heap H locs → ∀ (ls : Array Slot), lv_has ls 9 [(0, .ref x0), (1, .ref x1), (2, .int x2), (3, .int x3), (4, .long x4), (6, .int x6)] → k_14 h x0 x1 x2 x3 x4 x6 = some o → W p l e (rm 1 22) s m args below meth c H locs 0 0 (MQ below (QV X h0 o) args s 0 0 (aA (eB X))) (F0 m 14 ls [])) {h : Hp} {x0 : Nat} {x1 : Nat} {x2 : Int32} {x3 : Int32} {x4 : Int64} {x6 : Int32} {H : Heap} {locs : List Loc} (k_x0 : hK h x0 = 0) (k_x1 : hK h x1 = 3) (hkm : Km h0 h) (hW : Wx X h H) (hZ : va_S (aA (eB X)) s.heap H locs) (ls : Array Slot) (hl : lv_has ls 9 [(0, .ref x0), (1, .ref x1), (2, .int x2), (3, .int x3), (4, .long x4), (6, .int x6)]) (hE : sX0_gatherRow_89 F k_14 h x0 x1 x2 x3 x4 x6 = some o) : W p l e (rm 1 22) s m args below meth c H locs 0 0 (MQ below (QV X h0 o) args s 0 0 (aA (eB X))) (F0 m 89 ls []) := by
  obtain ⟨v_1, ev_1, hE⟩ := nm_e2 hE
  refine lv_iinc (v := v_1) (lv' := [(6, .int v_1), (0, .ref x0), (1, .ref x1), (2, .int x2), (3, .int x3), (4, .long x4)]) C.1 C.2.1 dX0_gatherRow_89 hl (k := 5) rfl (by rw [ev_1]; rfl) (by decide) rfl (fun ls hl => ?_)
  refine lv_goto (tgt := 14) C.1 C.2.1 dX0_gatherRow_92 (by decide) ?_
  exact hk_14 _ _ _ _ _ _ _ _ _ k_x0 k_x1 hkm hW hZ _ (lv_sub hl [1, 2, 3, 4, 5, 0] rfl) hE
set_option maxRecDepth 20000 in
theorem bX0_gatherRow_61 {p : Program} {l : Launch} {e : Env} {s : State} {m : MethodId} {args : Array Value} {below : List Frame} {meth : Method} {c : Code} {X : Ec} {h0 : Hp} {o : Hp} {k_14 : Hp → Nat → Nat → Int32 → Int32 → Int64 → Int32 → Option (Hp)} {F : Nat} (C : Cx X p s m args meth c RX0 cX0_gatherRow 9 none "gatherRow") (hk_14 : ∀ (h : Hp) (x0 : Nat) (x1 : Nat) (x2 : Int32) (x3 : Int32) (x4 : Int64) (x6 : Int32) (H : Heap) (locs : List Loc), hK h x0 = 0 → hK h x1 = 3 → Km h0 h → Wx X h H → va_S (aA (eB X)) s.heap H locs → ∀ (ls : Array Slot), lv_has ls 9 [(0, .ref x0), (1, .ref x1), (2, .int x2), (3, .int x3), (4, .long x4), (6, .int x6)] → k_14 h x0 x1 x2 x3 x4 x6 = some o → W p l e (rm 1 22) s m args below meth c H locs 0 0 (MQ below (QV X h0 o) args s 0 0 (aA (eB X))) (F0 m 14 ls [])) {h : Hp} {x0 : Nat} {x1 : Nat} {x2 : Int32} {x3 : Int32} {x4 : Int64} {x6 : Int32} {x7 : Int32} {t0 : Int32} {H : Heap} {locs : List Loc} (k_x0 : hK h x0 = 0) (k_x1 : hK h x1 = 3) (hkm : Km h0 h) (hW : Wx X h H) (hZ : va_S (aA (eB X)) s.heap H locs) (ls : Array Slot) (hl : lv_has ls 9 [(0, .ref x0), (1, .ref x1), (2, .int x2), (3, .int x3), (4, .long x4), (6, .int x6), (7, .int x7)]) (hE : sX0_gatherRow_61 F k_14 h x0 x1 x2 x3 x4 x6 x7 t0 = some o) : W p l e (rm 1 22) s m args below meth c H locs 0 0 (MQ below (QV X h0 o) args s 0 0 (aA (eB X))) (F0 m 61 ls [.int t0]) := by
  refine lv_istore (lv' := [(8, .int t0), (0, .ref x0), (1, .ref x1), (2, .int x2), (3, .int x3), (4, .long x4), (6, .int x6), (7, .int x7)]) C.1 C.2.1 dX0_gatherRow_61 hl (by decide) rfl (fun ls hl => ?_)
  refine lv_iload C.1 C.2.1 dX0_gatherRow_63 (lv_at hl 0 rfl) ?_
  refine lv_iconst (v := (-1 : Int32)) C.1 C.2.1 dX0_gatherRow_65 (by decide) ?_
  refine lv_icmp_eq (tgt := 89) C.1 C.2.1 dX0_gatherRow_66 (by decide) (fun c_1 => ?_) (fun c_1 => ?_)
  · have hE := br_p hE c_1
    exact bX0_gatherRow_89 C hk_14 k_x0 k_x1 hkm hW hZ _ (lv_sub hl [1, 2, 3, 4, 5, 6] rfl) hE
  · have hE := br_n hE c_1
    refine lv_aload_n C.1 C.2.1 dX0_gatherRow_69 rfl (lv_at hl 1 rfl) ?_
    refine gf_X0_265 C hW k_x0 dX0_gatherRow_70 ?_
    refine lv_iconst (v := (5 : Int32)) C.1 C.2.1 dX0_gatherRow_73 (by decide) ?_
    refine lv_icmp_ge (tgt := 89) C.1 C.2.1 dX0_gatherRow_74 (by decide) (fun c_2 => ?_) (fun c_2 => ?_)
    · have hE := br_p hE c_2
      exact bX0_gatherRow_89 C hk_14 k_x0 k_x1 hkm hW hZ _ (lv_sub hl [1, 2, 3, 4, 5, 6] rfl) hE
    · have hE := br_n hE c_2
      refine lv_aload_n C.1 C.2.1 dX0_gatherRow_77 rfl (lv_at hl 1 rfl) ?_
      refine lv_iload C.1 C.2.1 dX0_gatherRow_78 (lv_at hl 0 rfl) ?_
      refine lv_bipush (v := (6 : Int32)) C.1 C.2.1 dX0_gatherRow_80 (by decide) ?_
      refine lv_ishl C.1 C.2.1 dX0_gatherRow_82 ?_
      refine lv_iload C.1 C.2.1 dX0_gatherRow_83 (lv_at hl 7 rfl) ?_
      refine lv_ior C.1 C.2.1 dX0_gatherRow_85 ?_
      obtain ⟨o_3, eo_3, hE⟩ := cl_e hE
      refine x_kV (o := o_3) (z_runV (As := [.int ((t0 <<< ((6 : Int32) &&& 31)) ||| x7)]) (rest := []) C (ct_X0_addToRow l X F k_x0 eo_3) cw_X0_268 hW hZ k_x0 (by decide) rfl rfl rfl hl.1 (Nat.le_of_ble_eq_true rfl) rfl dX0_gatherRow_86 ⟨Nat.le_of_ble_eq_true rfl, Nat.le_of_ble_eq_true rfl⟩ ⟨Nat.le_refl _, Nat.le_refl _⟩) hZ (fun _ _ hW km hZ => ?_)
      replace hkm := hkm.tr km
      replace k_x0 := km.at k_x0 (by decide)
      replace k_x1 := km.at k_x1 (by decide)
      exact bX0_gatherRow_89 C hk_14 k_x0 k_x1 hkm hW hZ _ (lv_sub hl [1, 2, 3, 4, 5, 6] rfl) hE
set_option maxRecDepth 20000 in
theorem bX0_gatherRow_14 {p : Program} {l : Launch} {e : Env} {s : State} {m : MethodId} {args : Array Value} {below : List Frame} {meth : Method} {c : Code} {X : Ec} {h0 : Hp} {o : Hp} {F : Nat} (C : Cx X p s m args meth c RX0 cX0_gatherRow 9 none "gatherRow") : ∀ (f : Nat) {h : Hp} {x0 : Nat} {x1 : Nat} {x2 : Int32} {x3 : Int32} {x4 : Int64} {x6 : Int32} {H : Heap} {locs : List Loc} (k_x0 : hK h x0 = 0) (k_x1 : hK h x1 = 3), Km h0 h → Wx X h H → va_S (aA (eB X)) s.heap H locs → ∀ (ls : Array Slot), lv_has ls 9 [(0, .ref x0), (1, .ref x1), (2, .int x2), (3, .int x3), (4, .long x4), (6, .int x6)] → sX0_gatherRow_14 F f h x0 x1 x2 x3 x4 x6 = some o → W p l e (rm 1 22) s m args below meth c H locs 0 0 (MQ below (QV X h0 o) args s 0 0 (aA (eB X))) (F0 m 14 ls []) := by
  intro f
  induction f with
  | zero =>
    intro h x0 x1 x2 x3 x4 x6 H locs k_x0 k_x1 hkm hW hZ ls hl hE
    rw [sX0_gatherRow_14] at hE
    cases hE
  | succ f ih =>
    intro h x0 x1 x2 x3 x4 x6 H locs k_x0 k_x1 hkm hW hZ ls hl hE
    rw [sX0_gatherRow_14] at hE
    have hk_14 : ∀ (h : Hp) (x0 : Nat) (x1 : Nat) (x2 : Int32) (x3 : Int32) (x4 : Int64) (x6 : Int32) (H : Heap) (locs : List Loc), hK h x0 = 0 → hK h x1 = 3 → Km h0 h → Wx X h H → va_S (aA (eB X)) s.heap H locs → ∀ (ls : Array Slot), lv_has ls 9 [(0, .ref x0), (1, .ref x1), (2, .int x2), (3, .int x3), (4, .long x4), (6, .int x6)] → sX0_gatherRow_14 F f h x0 x1 x2 x3 x4 x6 = some o → W p l e (rm 1 22) s m args below meth c H locs 0 0 (MQ below (QV X h0 o) args s 0 0 (aA (eB X))) (F0 m 14 ls []) := fun h x0 x1 x2 x3 x4 x6 H locs k_x0 k_x1 a b c ls hl hE => ih k_x0 k_x1 a b c ls hl hE
    refine lv_iload C.1 C.2.1 dX0_gatherRow_14 (lv_at hl 5 rfl) ?_
    refine lv_bipush (v := (64 : Int32)) C.1 C.2.1 dX0_gatherRow_16 (by decide) ?_
    refine lv_icmp_ge (tgt := 95) C.1 C.2.1 dX0_gatherRow_18 (by decide) (fun c_1 => ?_) (fun c_1 => ?_)
    · have hE := br_p hE c_1
      exact bX0_gatherRow_95 C hkm hW hZ _ (lv_sub hl [] rfl) hE
    · have hE := br_n hE c_1
      refine lv_lload C.1 C.2.1 dX0_gatherRow_21 (lv_at hl 4 rfl) ?_
      refine lv_lconst (v := (0 : Int64)) C.1 C.2.1 dX0_gatherRow_23 (by decide) ?_
      refine W.lcmp C.1 C.2.1 dX0_gatherRow_24 ?_
      refine lv_if_eq (tgt := 95) C.1 C.2.1 dX0_gatherRow_25 (by decide) (fun c_2 => ?_) (fun c_2 => ?_)
      · have hE := br_p hE c_2
        exact bX0_gatherRow_95 C hkm hW hZ _ (lv_sub hl [] rfl) hE
      · have hE := br_n hE c_2
        refine lv_lload C.1 C.2.1 dX0_gatherRow_28 (lv_at hl 4 rfl) ?_
        obtain ⟨o_3, eo_3, hE⟩ := cl_e hE
        refine x_kI (o := o_3) (x_runSN (As := [.long x4]) (rest := []) C (ct_X11_lowest l X eo_3) cn_X0_161 hW hZ rfl hl.1 (Nat.le_of_ble_eq_true rfl) rfl dX0_gatherRow_30 ⟨Nat.le_of_ble_eq_true rfl, Nat.le_of_ble_eq_true rfl⟩ ⟨Nat.le_refl _, Nat.le_refl _⟩) hZ (fun _ _ hW km hZ => ?_)
        replace hkm := hkm.tr km
        replace k_x0 := km.at k_x0 (by decide)
        replace k_x1 := km.at k_x1 (by decide)
        refine lv_istore (lv' := [(7, .int o_3.1), (0, .ref x0), (1, .ref x1), (2, .int x2), (3, .int x3), (4, .long x4), (6, .int x6)]) C.1 C.2.1 dX0_gatherRow_33 hl (by decide) rfl (fun ls hl => ?_)
        refine lv_lload C.1 C.2.1 dX0_gatherRow_35 (lv_at hl 5 rfl) ?_
        refine lv_lload C.1 C.2.1 dX0_gatherRow_37 (lv_at hl 5 rfl) ?_
        refine lv_lconst (v := (1 : Int64)) C.1 C.2.1 dX0_gatherRow_39 (by decide) ?_
        refine lv_lsub C.1 C.2.1 dX0_gatherRow_40 ?_
        refine lv_land C.1 C.2.1 dX0_gatherRow_41 ?_
        obtain ⟨v_4, ev_4, hE⟩ := nm_e2 hE
        refine x_nmJ ev_4 ?_
        refine lv_lstore (lv' := [(4, .long v_4), (7, .int o_3.1), (0, .ref x0), (1, .ref x1), (2, .int x2), (3, .int x3), (6, .int x6)]) C.1 C.2.1 dX0_gatherRow_42 hl (by decide) rfl (fun ls hl => ?_)
        refine lv_iload C.1 C.2.1 dX0_gatherRow_44 (lv_at hl 1 rfl) ?_
        refine lv_iload_n C.1 C.2.1 dX0_gatherRow_46 rfl (lv_at hl 4 rfl) ?_
        refine lv_icmp_ne (tgt := 54) C.1 C.2.1 dX0_gatherRow_47 (by decide) (fun c_5 => ?_) (fun c_5 => ?_)
        · have hE := br_n hE c_5
          refine lv_aload_n C.1 C.2.1 dX0_gatherRow_54 rfl (lv_at hl 3 rfl) ?_
          obtain ⟨r_6, er_6, hE⟩ := cl_e hE
          refine gf_X0_176 C hW k_x1 er_6 dX0_gatherRow_55 (fun k_r_6 => ?_)
          refine lv_iload C.1 C.2.1 dX0_gatherRow_58 (lv_at hl 1 rfl) ?_
          obtain ⟨g_7, hE⟩ := gd_e hE
          refine y_bald C hW k_r_6 g_7 dX0_gatherRow_60 ?_
          exact bX0_gatherRow_61 C hk_14 k_x0 k_x1 hkm hW hZ _ (lv_sub hl [2, 3, 4, 5, 0, 6, 1] rfl) hE
        · have hE := br_p hE c_5
          refine lv_iload_n C.1 C.2.1 dX0_gatherRow_50 rfl (lv_at hl 5 rfl) ?_
          refine lv_goto (tgt := 61) C.1 C.2.1 dX0_gatherRow_51 (by decide) ?_
          exact bX0_gatherRow_61 C hk_14 k_x0 k_x1 hkm hW hZ _ (lv_sub hl [2, 3, 4, 5, 0, 6, 1] rfl) hE
set_option maxRecDepth 20000 in
theorem ct_X0_gatherRow (l : Launch) (X : Ec) (F : Nat) {h : Hp} {x0 : Nat} {x1 : Nat} {x2 : Int32} {x3 : Int32} {o : Hp} (k_x0 : hK h x0 = 0) (k_x1 : hK h x1 = 3) (hE : sX0_gatherRow F h x0 x1 x2 x3 = some o) : MetV l yX0_gatherRow cX0_gatherRow 9 none 1 22 X [.ref x0, .ref x1, .int x2, .int x3] h o := by
  refine x_met (by decide) (Nat.le_of_ble_eq_true rfl) ?_
  intro p e s m below meth c ls C hl hW hZ
  have hl : lv_has ls 9 [(0, .ref x0), (1, .ref x1), (2, .int x2), (3, .int x3)] := hl
  have hkm : Km h h := Km.rf h
  refine lv_aload_n C.1 C.2.1 dX0_gatherRow_0 rfl (lv_at hl 0 rfl) ?_
  refine lv_iconst (v := (0 : Int32)) C.1 C.2.1 dX0_gatherRow_1 (by decide) ?_
  obtain ⟨h_1, eh_1, hE⟩ := nm_e2 hE
  refine pf_X0_265 C hW hZ k_x0 eh_1 dX0_gatherRow_2 (fun _ _ hW km hZ => ?_)
  replace hkm := hkm.tr km
  replace k_x0 := km.at k_x0 (by decide)
  replace k_x1 := km.at k_x1 (by decide)
  refine lv_aload_n C.1 C.2.1 dX0_gatherRow_5 rfl (lv_at hl 1 rfl) ?_
  obtain ⟨o_2, eo_2, hE⟩ := cl_e hE
  refine x_kJ (o := o_2) (z_runV (As := []) (rest := []) C (ct_X3_occupied l X k_x1 eo_2) cw_X0_157 hW hZ k_x1 (by decide) rfl rfl rfl hl.1 (Nat.le_of_ble_eq_true rfl) rfl dX0_gatherRow_6 ⟨Nat.le_of_ble_eq_true rfl, Nat.le_of_ble_eq_true rfl⟩ ⟨Nat.le_refl _, Nat.le_refl _⟩) hZ (fun _ _ hW km hZ => ?_)
  replace hkm := hkm.tr km
  replace k_x0 := km.at k_x0 (by decide)
  replace k_x1 := km.at k_x1 (by decide)
  refine lv_lstore (lv' := [(4, .long o_2.1), (0, .ref x0), (1, .ref x1), (2, .int x2), (3, .int x3)]) C.1 C.2.1 dX0_gatherRow_9 hl (by decide) rfl (fun ls hl => ?_)
  refine lv_iconst (v := (0 : Int32)) C.1 C.2.1 dX0_gatherRow_11 (by decide) ?_
  refine lv_istore (lv' := [(6, .int (0 : Int32)), (4, .long o_2.1), (0, .ref x0), (1, .ref x1), (2, .int x2), (3, .int x3)]) C.1 C.2.1 dX0_gatherRow_12 hl (by decide) rfl (fun ls hl => ?_)
  exact bX0_gatherRow_14 C F k_x0 k_x1 hkm hW hZ _ (lv_sub hl [2, 3, 4, 5, 1, 0] rfl) hE
theorem dX0_keyOfRow_0 : decode cX0_keyOfRow 0 = .ok (.iconst 0, 1) := by decide +kernel
theorem dX0_keyOfRow_1 : decode cX0_keyOfRow 1 = .ok (.istore_n 1, 1) := by decide +kernel
theorem dX0_keyOfRow_2 : decode cX0_keyOfRow 2 = .ok (.iconst 0, 1) := by decide +kernel
theorem dX0_keyOfRow_3 : decode cX0_keyOfRow 3 = .ok (.istore_n 2, 1) := by decide +kernel
theorem dX0_keyOfRow_4 : decode cX0_keyOfRow 4 = .ok (.iload_n 2, 1) := by decide +kernel
theorem dX0_keyOfRow_5 : decode cX0_keyOfRow 5 = .ok (.aload_n 0, 1) := by decide +kernel
theorem dX0_keyOfRow_6 : decode cX0_keyOfRow 6 = .ok (.getfield 265, 3) := by decide +kernel
theorem dX0_keyOfRow_9 : decode cX0_keyOfRow 9 = .ok (.if_icmp .ge 27, 3) := by decide +kernel
theorem dX0_keyOfRow_12 : decode cX0_keyOfRow 12 = .ok (.iload_n 1, 1) := by decide +kernel
theorem dX0_keyOfRow_13 : decode cX0_keyOfRow 13 = .ok (.aload_n 0, 1) := by decide +kernel
theorem dX0_keyOfRow_14 : decode cX0_keyOfRow 14 = .ok (.getfield 28, 3) := by decide +kernel
theorem dX0_keyOfRow_17 : decode cX0_keyOfRow 17 = .ok (.iload_n 2, 1) := by decide +kernel
theorem dX0_keyOfRow_18 : decode cX0_keyOfRow 18 = .ok (.iaload, 1) := by decide +kernel
theorem dX0_keyOfRow_19 : decode cX0_keyOfRow 19 = .ok (.bipush 6, 2) := by decide +kernel
theorem dX0_keyOfRow_21 : decode cX0_keyOfRow 21 = .ok (.ishr, 1) := by decide +kernel
theorem dX0_keyOfRow_22 : decode cX0_keyOfRow 22 = .ok (.iconst 1, 1) := by decide +kernel
theorem dX0_keyOfRow_23 : decode cX0_keyOfRow 23 = .ok (.iadd, 1) := by decide +kernel
theorem dX0_keyOfRow_24 : decode cX0_keyOfRow 24 = .ok (.iconst 5, 1) := by decide +kernel
theorem dX0_keyOfRow_25 : decode cX0_keyOfRow 25 = .ok (.iload_n 2, 1) := by decide +kernel
theorem dX0_keyOfRow_26 : decode cX0_keyOfRow 26 = .ok (.imul, 1) := by decide +kernel
theorem dX0_keyOfRow_27 : decode cX0_keyOfRow 27 = .ok (.ishl, 1) := by decide +kernel
theorem dX0_keyOfRow_28 : decode cX0_keyOfRow 28 = .ok (.ior, 1) := by decide +kernel
theorem dX0_keyOfRow_29 : decode cX0_keyOfRow 29 = .ok (.istore_n 1, 1) := by decide +kernel
theorem dX0_keyOfRow_30 : decode cX0_keyOfRow 30 = .ok (.iinc 2 1, 3) := by decide +kernel
theorem dX0_keyOfRow_33 : decode cX0_keyOfRow 33 = .ok (.goto (-29), 3) := by decide +kernel
theorem dX0_keyOfRow_36 : decode cX0_keyOfRow 36 = .ok (.iload_n 1, 1) := by decide +kernel
theorem dX0_keyOfRow_37 : decode cX0_keyOfRow 37 = .ok (.ireturn, 1) := by decide +kernel
set_option maxRecDepth 20000 in
theorem moX0_keyOfRow_4 {o : Int32 × Hp} {F : Nat} : ∀ (f : Nat) {h : Hp} {x0 : Nat} {x1 : Int32} {x2 : Int32}, sX0_keyOfRow_4 F f h x0 x1 x2 = some o → Le h o.2 := by
  intro f
  induction f with
  | zero =>
    intro h x0 x1 x2 hE
    rw [sX0_keyOfRow_4] at hE
    cases hE
  | succ f ih =>
    intro h x0 x1 x2 hE
    rw [sX0_keyOfRow_4] at hE
    have mk_4 : ∀ (h : Hp) (x0 : Nat) (x1 : Int32) (x2 : Int32), sX0_keyOfRow_4 F f h x0 x1 x2 = some o → Le h o.2 := fun h x0 x1 x2 hE => ih hE
    rcases br_e hE with ⟨_, hE⟩ | ⟨_, hE⟩
    · exact le_some2 hE
    · obtain ⟨r_2, er_2, hE⟩ := cl_e hE
      obtain ⟨g_3, hE⟩ := gd_e hE
      obtain ⟨v_4, ev_4, hE⟩ := nm_e2 hE
      obtain ⟨v_5, ev_5, hE⟩ := nm_e2 hE
      exact mk_4 _ _ _ _ hE
set_option maxRecDepth 20000 in
theorem moX0_keyOfRow {o : Int32 × Hp} {F : Nat} {h : Hp} {x0 : Nat} (hE : sX0_keyOfRow F h x0 = some o) : Le h o.2 := by
  exact moX0_keyOfRow_4 _ hE
set_option maxRecDepth 20000 in
theorem bX0_keyOfRow_4 {p : Program} {l : Launch} {e : Env} {s : State} {m : MethodId} {args : Array Value} {below : List Frame} {meth : Method} {c : Code} {X : Ec} {h0 : Hp} {o : Int32 × Hp} {F : Nat} (C : Cx X p s m args meth c RX0 cX0_keyOfRow 3 (some .int) "keyOfRow") : ∀ (f : Nat) {h : Hp} {x0 : Nat} {x1 : Int32} {x2 : Int32} {H : Heap} {locs : List Loc} (k_x0 : hK h x0 = 0), Km h0 h → Wx X h H → va_S (aA (eB X)) s.heap H locs → ∀ (ls : Array Slot), lv_has ls 3 [(0, .ref x0), (1, .int x1), (2, .int x2)] → sX0_keyOfRow_4 F f h x0 x1 x2 = some o → W p l e (rm 0 0) s m args below meth c H locs 0 0 (MQ below (QI X h0 o.1 o.2) args s 0 0 (aA (eB X))) (F0 m 4 ls []) := by
  intro f
  induction f with
  | zero =>
    intro h x0 x1 x2 H locs k_x0 hkm hW hZ ls hl hE
    rw [sX0_keyOfRow_4] at hE
    cases hE
  | succ f ih =>
    intro h x0 x1 x2 H locs k_x0 hkm hW hZ ls hl hE
    rw [sX0_keyOfRow_4] at hE
    have hk_4 : ∀ (h : Hp) (x0 : Nat) (x1 : Int32) (x2 : Int32) (H : Heap) (locs : List Loc), hK h x0 = 0 → Km h0 h → Wx X h H → va_S (aA (eB X)) s.heap H locs → ∀ (ls : Array Slot), lv_has ls 3 [(0, .ref x0), (1, .int x1), (2, .int x2)] → sX0_keyOfRow_4 F f h x0 x1 x2 = some o → W p l e (rm 0 0) s m args below meth c H locs 0 0 (MQ below (QI X h0 o.1 o.2) args s 0 0 (aA (eB X))) (F0 m 4 ls []) := fun h x0 x1 x2 H locs k_x0 a b c ls hl hE => ih k_x0 a b c ls hl hE
    refine lv_iload_n C.1 C.2.1 dX0_keyOfRow_4 rfl (lv_at hl 2 rfl) ?_
    refine lv_aload_n C.1 C.2.1 dX0_keyOfRow_5 rfl (lv_at hl 0 rfl) ?_
    refine gf_X0_265 C hW k_x0 dX0_keyOfRow_6 ?_
    refine lv_icmp_ge (tgt := 36) C.1 C.2.1 dX0_keyOfRow_9 (by decide) (fun c_1 => ?_) (fun c_1 => ?_)
    · have hE := br_p hE c_1
      refine lv_iload_n C.1 C.2.1 dX0_keyOfRow_36 rfl (lv_at hl 1 rfl) ?_
      exact x_iret C rfl rfl hW hZ hkm hE dX0_keyOfRow_37
    · have hE := br_n hE c_1
      refine lv_iload_n C.1 C.2.1 dX0_keyOfRow_12 rfl (lv_at hl 1 rfl) ?_
      refine lv_aload_n C.1 C.2.1 dX0_keyOfRow_13 rfl (lv_at hl 0 rfl) ?_
      obtain ⟨r_2, er_2, hE⟩ := cl_e hE
      refine gf_X0_28 C hW k_x0 er_2 dX0_keyOfRow_14 (fun k_r_2 => ?_)
      refine lv_iload_n C.1 C.2.1 dX0_keyOfRow_17 rfl (lv_at hl 2 rfl) ?_
      obtain ⟨g_3, hE⟩ := gd_e hE
      refine y_iald C hW k_r_2 g_3 dX0_keyOfRow_18 ?_
      refine lv_bipush (v := (6 : Int32)) C.1 C.2.1 dX0_keyOfRow_19 (by decide) ?_
      refine lv_ishr C.1 C.2.1 dX0_keyOfRow_21 ?_
      refine lv_iconst (v := (1 : Int32)) C.1 C.2.1 dX0_keyOfRow_22 (by decide) ?_
      refine lv_iadd C.1 C.2.1 dX0_keyOfRow_23 ?_
      refine lv_iconst (v := (5 : Int32)) C.1 C.2.1 dX0_keyOfRow_24 (by decide) ?_
      refine lv_iload_n C.1 C.2.1 dX0_keyOfRow_25 rfl (lv_at hl 2 rfl) ?_
      refine lv_imul C.1 C.2.1 dX0_keyOfRow_26 ?_
      refine lv_ishl C.1 C.2.1 dX0_keyOfRow_27 ?_
      refine lv_ior C.1 C.2.1 dX0_keyOfRow_28 ?_
      obtain ⟨v_4, ev_4, hE⟩ := nm_e2 hE
      refine x_nmI ev_4 ?_
      refine lv_istore_n (lv' := [(1, .int v_4), (0, .ref x0), (2, .int x2)]) C.1 C.2.1 dX0_keyOfRow_29 rfl hl (by decide) rfl (fun ls hl => ?_)
      obtain ⟨v_5, ev_5, hE⟩ := nm_e2 hE
      refine lv_iinc (v := v_5) (lv' := [(2, .int v_5), (1, .int v_4), (0, .ref x0)]) C.1 C.2.1 dX0_keyOfRow_30 hl (k := 2) rfl (by rw [ev_5]; rfl) (by decide) rfl (fun ls hl => ?_)
      refine lv_goto (tgt := 4) C.1 C.2.1 dX0_keyOfRow_33 (by decide) ?_
      exact hk_4 _ _ _ _ _ _ k_x0 hkm hW hZ _ (lv_sub hl [2, 1, 0] rfl) hE
set_option maxRecDepth 20000 in
theorem ct_X0_keyOfRow (l : Launch) (X : Ec) (F : Nat) {h : Hp} {x0 : Nat} {o : Int32 × Hp} (k_x0 : hK h x0 = 0) (hE : sX0_keyOfRow F h x0 = some o) : MetI l yX0_keyOfRow cX0_keyOfRow 3 (some .int) 0 0 X [.ref x0] h o := by
  refine x_met (by decide) (Nat.le_of_ble_eq_true rfl) ?_
  intro p e s m below meth c ls C hl hW hZ
  have hl : lv_has ls 3 [(0, .ref x0)] := hl
  have hkm : Km h h := Km.rf h
  refine lv_iconst (v := (0 : Int32)) C.1 C.2.1 dX0_keyOfRow_0 (by decide) ?_
  refine lv_istore_n (lv' := [(1, .int (0 : Int32)), (0, .ref x0)]) C.1 C.2.1 dX0_keyOfRow_1 rfl hl (by decide) rfl (fun ls hl => ?_)
  refine lv_iconst (v := (0 : Int32)) C.1 C.2.1 dX0_keyOfRow_2 (by decide) ?_
  refine lv_istore_n (lv' := [(2, .int (0 : Int32)), (1, .int (0 : Int32)), (0, .ref x0)]) C.1 C.2.1 dX0_keyOfRow_3 rfl hl (by decide) rfl (fun ls hl => ?_)
  exact bX0_keyOfRow_4 C F k_x0 hkm hW hZ _ (lv_sub hl [2, 1, 0] rfl) hE
theorem dX0_findSet_0 : decode cX0_findSet 0 = .ok (.iconst 0, 1) := by decide +kernel
theorem dX0_findSet_1 : decode cX0_findSet 1 = .ok (.istore_n 2, 1) := by decide +kernel
theorem dX0_findSet_2 : decode cX0_findSet 2 = .ok (.aload_n 0, 1) := by decide +kernel
theorem dX0_findSet_3 : decode cX0_findSet 3 = .ok (.getfield 129, 3) := by decide +kernel
theorem dX0_findSet_6 : decode cX0_findSet 6 = .ok (.iconst 1, 1) := by decide +kernel
theorem dX0_findSet_7 : decode cX0_findSet 7 = .ok (.isub, 1) := by decide +kernel
theorem dX0_findSet_8 : decode cX0_findSet 8 = .ok (.istore_n 3, 1) := by decide +kernel
theorem dX0_findSet_9 : decode cX0_findSet 9 = .ok (.iload_n 2, 1) := by decide +kernel
theorem dX0_findSet_10 : decode cX0_findSet 10 = .ok (.iload_n 3, 1) := by decide +kernel
theorem dX0_findSet_11 : decode cX0_findSet 11 = .ok (.if_icmp .gt 51, 3) := by decide +kernel
theorem dX0_findSet_14 : decode cX0_findSet 14 = .ok (.iload_n 2, 1) := by decide +kernel
theorem dX0_findSet_15 : decode cX0_findSet 15 = .ok (.iload_n 3, 1) := by decide +kernel
theorem dX0_findSet_16 : decode cX0_findSet 16 = .ok (.iadd, 1) := by decide +kernel
theorem dX0_findSet_17 : decode cX0_findSet 17 = .ok (.iconst 1, 1) := by decide +kernel
theorem dX0_findSet_18 : decode cX0_findSet 18 = .ok (.ishr, 1) := by decide +kernel
theorem dX0_findSet_19 : decode cX0_findSet 19 = .ok (.istore 4, 2) := by decide +kernel
theorem dX0_findSet_21 : decode cX0_findSet 21 = .ok (.aload_n 0, 1) := by decide +kernel
theorem dX0_findSet_22 : decode cX0_findSet 22 = .ok (.getfield 18, 3) := by decide +kernel
theorem dX0_findSet_25 : decode cX0_findSet 25 = .ok (.iload 4, 2) := by decide +kernel
theorem dX0_findSet_27 : decode cX0_findSet 27 = .ok (.iaload, 1) := by decide +kernel
theorem dX0_findSet_28 : decode cX0_findSet 28 = .ok (.iload_n 1, 1) := by decide +kernel
theorem dX0_findSet_29 : decode cX0_findSet 29 = .ok (.if_icmp .ne 6, 3) := by decide +kernel
theorem dX0_findSet_32 : decode cX0_findSet 32 = .ok (.iload 4, 2) := by decide +kernel
theorem dX0_findSet_34 : decode cX0_findSet 34 = .ok (.ireturn, 1) := by decide +kernel
theorem dX0_findSet_35 : decode cX0_findSet 35 = .ok (.aload_n 0, 1) := by decide +kernel
theorem dX0_findSet_36 : decode cX0_findSet 36 = .ok (.getfield 18, 3) := by decide +kernel
theorem dX0_findSet_39 : decode cX0_findSet 39 = .ok (.iload 4, 2) := by decide +kernel
theorem dX0_findSet_41 : decode cX0_findSet 41 = .ok (.iaload, 1) := by decide +kernel
theorem dX0_findSet_42 : decode cX0_findSet 42 = .ok (.iload_n 1, 1) := by decide +kernel
theorem dX0_findSet_43 : decode cX0_findSet 43 = .ok (.if_icmp .ge 11, 3) := by decide +kernel
theorem dX0_findSet_46 : decode cX0_findSet 46 = .ok (.iload 4, 2) := by decide +kernel
theorem dX0_findSet_48 : decode cX0_findSet 48 = .ok (.iconst 1, 1) := by decide +kernel
theorem dX0_findSet_49 : decode cX0_findSet 49 = .ok (.iadd, 1) := by decide +kernel
theorem dX0_findSet_50 : decode cX0_findSet 50 = .ok (.istore_n 2, 1) := by decide +kernel
theorem dX0_findSet_51 : decode cX0_findSet 51 = .ok (.goto 8, 3) := by decide +kernel
theorem dX0_findSet_54 : decode cX0_findSet 54 = .ok (.iload 4, 2) := by decide +kernel
theorem dX0_findSet_56 : decode cX0_findSet 56 = .ok (.iconst 1, 1) := by decide +kernel
theorem dX0_findSet_57 : decode cX0_findSet 57 = .ok (.isub, 1) := by decide +kernel
theorem dX0_findSet_58 : decode cX0_findSet 58 = .ok (.istore_n 3, 1) := by decide +kernel
theorem dX0_findSet_59 : decode cX0_findSet 59 = .ok (.goto (-50), 3) := by decide +kernel
theorem dX0_findSet_62 : decode cX0_findSet 62 = .ok (.iconst (-1), 1) := by decide +kernel
theorem dX0_findSet_63 : decode cX0_findSet 63 = .ok (.ireturn, 1) := by decide +kernel
set_option maxRecDepth 20000 in
theorem moX0_findSet_59 {o : Int32 × Hp} {k_9 : Hp → Nat → Int32 → Int32 → Int32 → Option (Int32 × Hp)} {F : Nat} (mk_9 : ∀ (h : Hp) (x0 : Nat) (x1 : Int32) (x2 : Int32) (x3 : Int32), k_9 h x0 x1 x2 x3 = some o → Le h o.2) {h : Hp} {x0 : Nat} {x1 : Int32} {x2 : Int32} {x3 : Int32} (hE : sX0_findSet_59 F k_9 h x0 x1 x2 x3 = some o) : Le h o.2 := by
  exact mk_9 _ _ _ _ _ hE
set_option maxRecDepth 20000 in
theorem moX0_findSet_9 {o : Int32 × Hp} {F : Nat} : ∀ (f : Nat) {h : Hp} {x0 : Nat} {x1 : Int32} {x2 : Int32} {x3 : Int32}, sX0_findSet_9 F f h x0 x1 x2 x3 = some o → Le h o.2 := by
  intro f
  induction f with
  | zero =>
    intro h x0 x1 x2 x3 hE
    rw [sX0_findSet_9] at hE
    cases hE
  | succ f ih =>
    intro h x0 x1 x2 x3 hE
    rw [sX0_findSet_9] at hE
    have mk_9 : ∀ (h : Hp) (x0 : Nat) (x1 : Int32) (x2 : Int32) (x3 : Int32), sX0_findSet_9 F f h x0 x1 x2 x3 = some o → Le h o.2 := fun h x0 x1 x2 x3 hE => ih hE
    rcases br_e hE with ⟨_, hE⟩ | ⟨_, hE⟩
    · exact le_some2 hE
    · obtain ⟨v_2, ev_2, hE⟩ := nm_e2 hE
      obtain ⟨r_3, er_3, hE⟩ := cl_e hE
      obtain ⟨g_4, hE⟩ := gd_e hE
      rcases br_e hE with ⟨_, hE⟩ | ⟨_, hE⟩
      · exact le_some2 hE
      · obtain ⟨r_6, er_6, hE⟩ := cl_e hE
        obtain ⟨g_7, hE⟩ := gd_e hE
        rcases br_e hE with ⟨_, hE⟩ | ⟨_, hE⟩
        · obtain ⟨v_9, ev_9, hE⟩ := nm_e2 hE
          exact moX0_findSet_59 mk_9 hE
        · obtain ⟨v_10, ev_10, hE⟩ := nm_e2 hE
          exact moX0_findSet_59 mk_9 hE
set_option maxRecDepth 20000 in
theorem moX0_findSet {o : Int32 × Hp} {F : Nat} {h : Hp} {x0 : Nat} {x1 : Int32} (hE : sX0_findSet F h x0 x1 = some o) : Le h o.2 := by
  obtain ⟨v_1, ev_1, hE⟩ := nm_e2 hE
  exact moX0_findSet_9 _ hE
set_option maxRecDepth 20000 in
theorem bX0_findSet_59 {p : Program} {l : Launch} {e : Env} {s : State} {m : MethodId} {args : Array Value} {below : List Frame} {meth : Method} {c : Code} {X : Ec} {h0 : Hp} {o : Int32 × Hp} {k_9 : Hp → Nat → Int32 → Int32 → Int32 → Option (Int32 × Hp)} {F : Nat} (C : Cx X p s m args meth c RX0 cX0_findSet 5 (some .int) "findSet") (hk_9 : ∀ (h : Hp) (x0 : Nat) (x1 : Int32) (x2 : Int32) (x3 : Int32) (H : Heap) (locs : List Loc), hK h x0 = 0 → Km h0 h → Wx X h H → va_S (aA (eB X)) s.heap H locs → ∀ (ls : Array Slot), lv_has ls 5 [(0, .ref x0), (1, .int x1), (2, .int x2), (3, .int x3)] → k_9 h x0 x1 x2 x3 = some o → W p l e (rm 0 0) s m args below meth c H locs 0 0 (MQ below (QI X h0 o.1 o.2) args s 0 0 (aA (eB X))) (F0 m 9 ls [])) {h : Hp} {x0 : Nat} {x1 : Int32} {x2 : Int32} {x3 : Int32} {H : Heap} {locs : List Loc} (k_x0 : hK h x0 = 0) (hkm : Km h0 h) (hW : Wx X h H) (hZ : va_S (aA (eB X)) s.heap H locs) (ls : Array Slot) (hl : lv_has ls 5 [(0, .ref x0), (1, .int x1), (2, .int x2), (3, .int x3)]) (hE : sX0_findSet_59 F k_9 h x0 x1 x2 x3 = some o) : W p l e (rm 0 0) s m args below meth c H locs 0 0 (MQ below (QI X h0 o.1 o.2) args s 0 0 (aA (eB X))) (F0 m 59 ls []) := by
  refine lv_goto (tgt := 9) C.1 C.2.1 dX0_findSet_59 (by decide) ?_
  exact hk_9 _ _ _ _ _ _ _ k_x0 hkm hW hZ _ (lv_sub hl [0, 1, 2, 3] rfl) hE
set_option maxRecDepth 20000 in
theorem bX0_findSet_9 {p : Program} {l : Launch} {e : Env} {s : State} {m : MethodId} {args : Array Value} {below : List Frame} {meth : Method} {c : Code} {X : Ec} {h0 : Hp} {o : Int32 × Hp} {F : Nat} (C : Cx X p s m args meth c RX0 cX0_findSet 5 (some .int) "findSet") : ∀ (f : Nat) {h : Hp} {x0 : Nat} {x1 : Int32} {x2 : Int32} {x3 : Int32} {H : Heap} {locs : List Loc} (k_x0 : hK h x0 = 0), Km h0 h → Wx X h H → va_S (aA (eB X)) s.heap H locs → ∀ (ls : Array Slot), lv_has ls 5 [(0, .ref x0), (1, .int x1), (2, .int x2), (3, .int x3)] → sX0_findSet_9 F f h x0 x1 x2 x3 = some o → W p l e (rm 0 0) s m args below meth c H locs 0 0 (MQ below (QI X h0 o.1 o.2) args s 0 0 (aA (eB X))) (F0 m 9 ls []) := by
  intro f
  induction f with
  | zero =>
    intro h x0 x1 x2 x3 H locs k_x0 hkm hW hZ ls hl hE
    rw [sX0_findSet_9] at hE
    cases hE
  | succ f ih =>
    intro h x0 x1 x2 x3 H locs k_x0 hkm hW hZ ls hl hE
    rw [sX0_findSet_9] at hE
    have hk_9 : ∀ (h : Hp) (x0 : Nat) (x1 : Int32) (x2 : Int32) (x3 : Int32) (H : Heap) (locs : List Loc), hK h x0 = 0 → Km h0 h → Wx X h H → va_S (aA (eB X)) s.heap H locs → ∀ (ls : Array Slot), lv_has ls 5 [(0, .ref x0), (1, .int x1), (2, .int x2), (3, .int x3)] → sX0_findSet_9 F f h x0 x1 x2 x3 = some o → W p l e (rm 0 0) s m args below meth c H locs 0 0 (MQ below (QI X h0 o.1 o.2) args s 0 0 (aA (eB X))) (F0 m 9 ls []) := fun h x0 x1 x2 x3 H locs k_x0 a b c ls hl hE => ih k_x0 a b c ls hl hE
    refine lv_iload_n C.1 C.2.1 dX0_findSet_9 rfl (lv_at hl 2 rfl) ?_
    refine lv_iload_n C.1 C.2.1 dX0_findSet_10 rfl (lv_at hl 3 rfl) ?_
    refine lv_icmp_gt (tgt := 62) C.1 C.2.1 dX0_findSet_11 (by decide) (fun c_1 => ?_) (fun c_1 => ?_)
    · have hE := br_p hE c_1
      refine lv_iconst (v := (-1 : Int32)) C.1 C.2.1 dX0_findSet_62 (by decide) ?_
      exact x_iret C rfl rfl hW hZ hkm hE dX0_findSet_63
    · have hE := br_n hE c_1
      refine lv_iload_n C.1 C.2.1 dX0_findSet_14 rfl (lv_at hl 2 rfl) ?_
      refine lv_iload_n C.1 C.2.1 dX0_findSet_15 rfl (lv_at hl 3 rfl) ?_
      refine lv_iadd C.1 C.2.1 dX0_findSet_16 ?_
      refine lv_iconst (v := (1 : Int32)) C.1 C.2.1 dX0_findSet_17 (by decide) ?_
      refine lv_ishr C.1 C.2.1 dX0_findSet_18 ?_
      obtain ⟨v_2, ev_2, hE⟩ := nm_e2 hE
      refine x_nmI ev_2 ?_
      refine lv_istore (lv' := [(4, .int v_2), (0, .ref x0), (1, .int x1), (2, .int x2), (3, .int x3)]) C.1 C.2.1 dX0_findSet_19 hl (by decide) rfl (fun ls hl => ?_)
      refine lv_aload_n C.1 C.2.1 dX0_findSet_21 rfl (lv_at hl 1 rfl) ?_
      obtain ⟨r_3, er_3, hE⟩ := cl_e hE
      refine gf_X0_18 C hW k_x0 er_3 dX0_findSet_22 (fun k_r_3 => ?_)
      refine lv_iload C.1 C.2.1 dX0_findSet_25 (lv_at hl 0 rfl) ?_
      obtain ⟨g_4, hE⟩ := gd_e hE
      refine y_iald C hW k_r_3 g_4 dX0_findSet_27 ?_
      refine lv_iload_n C.1 C.2.1 dX0_findSet_28 rfl (lv_at hl 2 rfl) ?_
      refine lv_icmp_ne (tgt := 35) C.1 C.2.1 dX0_findSet_29 (by decide) (fun c_5 => ?_) (fun c_5 => ?_)
      · have hE := br_n hE c_5
        refine lv_aload_n C.1 C.2.1 dX0_findSet_35 rfl (lv_at hl 1 rfl) ?_
        obtain ⟨r_6, er_6, hE⟩ := cl_e hE
        refine gf_X0_18 C hW k_x0 er_6 dX0_findSet_36 (fun k_r_6 => ?_)
        refine lv_iload C.1 C.2.1 dX0_findSet_39 (lv_at hl 0 rfl) ?_
        obtain ⟨g_7, hE⟩ := gd_e hE
        refine y_iald C hW k_r_6 g_7 dX0_findSet_41 ?_
        refine lv_iload_n C.1 C.2.1 dX0_findSet_42 rfl (lv_at hl 2 rfl) ?_
        refine lv_icmp_ge (tgt := 54) C.1 C.2.1 dX0_findSet_43 (by decide) (fun c_8 => ?_) (fun c_8 => ?_)
        · have hE := br_p hE c_8
          refine lv_iload C.1 C.2.1 dX0_findSet_54 (lv_at hl 0 rfl) ?_
          refine lv_iconst (v := (1 : Int32)) C.1 C.2.1 dX0_findSet_56 (by decide) ?_
          refine lv_isub C.1 C.2.1 dX0_findSet_57 ?_
          obtain ⟨v_9, ev_9, hE⟩ := nm_e2 hE
          refine x_nmI ev_9 ?_
          refine lv_istore_n (lv' := [(3, .int v_9), (4, .int v_2), (0, .ref x0), (1, .int x1), (2, .int x2)]) C.1 C.2.1 dX0_findSet_58 rfl hl (by decide) rfl (fun ls hl => ?_)
          exact bX0_findSet_59 C hk_9 k_x0 hkm hW hZ _ (lv_sub hl [2, 3, 4, 0] rfl) hE
        · have hE := br_n hE c_8
          refine lv_iload C.1 C.2.1 dX0_findSet_46 (lv_at hl 0 rfl) ?_
          refine lv_iconst (v := (1 : Int32)) C.1 C.2.1 dX0_findSet_48 (by decide) ?_
          refine lv_iadd C.1 C.2.1 dX0_findSet_49 ?_
          obtain ⟨v_10, ev_10, hE⟩ := nm_e2 hE
          refine x_nmI ev_10 ?_
          refine lv_istore_n (lv' := [(2, .int v_10), (4, .int v_2), (0, .ref x0), (1, .int x1), (3, .int x3)]) C.1 C.2.1 dX0_findSet_50 rfl hl (by decide) rfl (fun ls hl => ?_)
          refine lv_goto (tgt := 59) C.1 C.2.1 dX0_findSet_51 (by decide) ?_
          exact bX0_findSet_59 C hk_9 k_x0 hkm hW hZ _ (lv_sub hl [2, 3, 0, 4] rfl) hE
      · have hE := br_p hE c_5
        refine lv_iload C.1 C.2.1 dX0_findSet_32 (lv_at hl 0 rfl) ?_
        exact x_iret C rfl rfl hW hZ hkm hE dX0_findSet_34
set_option maxRecDepth 20000 in
theorem ct_X0_findSet (l : Launch) (X : Ec) (F : Nat) {h : Hp} {x0 : Nat} {x1 : Int32} {o : Int32 × Hp} (k_x0 : hK h x0 = 0) (hE : sX0_findSet F h x0 x1 = some o) : MetI l yX0_findSet cX0_findSet 5 (some .int) 0 0 X [.ref x0, .int x1] h o := by
  refine x_met (by decide) (Nat.le_of_ble_eq_true rfl) ?_
  intro p e s m below meth c ls C hl hW hZ
  have hl : lv_has ls 5 [(0, .ref x0), (1, .int x1)] := hl
  have hkm : Km h h := Km.rf h
  refine lv_iconst (v := (0 : Int32)) C.1 C.2.1 dX0_findSet_0 (by decide) ?_
  refine lv_istore_n (lv' := [(2, .int (0 : Int32)), (0, .ref x0), (1, .int x1)]) C.1 C.2.1 dX0_findSet_1 rfl hl (by decide) rfl (fun ls hl => ?_)
  refine lv_aload_n C.1 C.2.1 dX0_findSet_2 rfl (lv_at hl 1 rfl) ?_
  refine gf_X0_129 C hW k_x0 dX0_findSet_3 ?_
  refine lv_iconst (v := (1 : Int32)) C.1 C.2.1 dX0_findSet_6 (by decide) ?_
  refine lv_isub C.1 C.2.1 dX0_findSet_7 ?_
  obtain ⟨v_1, ev_1, hE⟩ := nm_e2 hE
  refine x_nmI ev_1 ?_
  refine lv_istore_n (lv' := [(3, .int v_1), (2, .int (0 : Int32)), (0, .ref x0), (1, .int x1)]) C.1 C.2.1 dX0_findSet_8 rfl hl (by decide) rfl (fun ls hl => ?_)
  exact bX0_findSet_9 C F k_x0 hkm hW hZ _ (lv_sub hl [2, 3, 1, 0] rfl) hE
theorem dX0_numberOf_0 : decode cX0_numberOf 0 = .ok (.iconst 0, 1) := by decide +kernel
theorem dX0_numberOf_1 : decode cX0_numberOf 1 = .ok (.istore_n 2, 1) := by decide +kernel
theorem dX0_numberOf_2 : decode cX0_numberOf 2 = .ok (.iconst 0, 1) := by decide +kernel
theorem dX0_numberOf_3 : decode cX0_numberOf 3 = .ok (.istore_n 3, 1) := by decide +kernel
theorem dX0_numberOf_4 : decode cX0_numberOf 4 = .ok (.iload_n 1, 1) := by decide +kernel
theorem dX0_numberOf_5 : decode cX0_numberOf 5 = .ok (.iconst (-1), 1) := by decide +kernel
theorem dX0_numberOf_6 : decode cX0_numberOf 6 = .ok (.if_icmp .ne 7, 3) := by decide +kernel
theorem dX0_numberOf_9 : decode cX0_numberOf 9 = .ok (.iconst 1, 1) := by decide +kernel
theorem dX0_numberOf_10 : decode cX0_numberOf 10 = .ok (.goto 4, 3) := by decide +kernel
theorem dX0_numberOf_13 : decode cX0_numberOf 13 = .ok (.iconst 0, 1) := by decide +kernel
theorem dX0_numberOf_14 : decode cX0_numberOf 14 = .ok (.istore 4, 2) := by decide +kernel
theorem dX0_numberOf_16 : decode cX0_numberOf 16 = .ok (.iconst 0, 1) := by decide +kernel
theorem dX0_numberOf_17 : decode cX0_numberOf 17 = .ok (.istore 5, 2) := by decide +kernel
theorem dX0_numberOf_19 : decode cX0_numberOf 19 = .ok (.iload 5, 2) := by decide +kernel
theorem dX0_numberOf_21 : decode cX0_numberOf 21 = .ok (.aload_n 0, 1) := by decide +kernel
theorem dX0_numberOf_22 : decode cX0_numberOf 22 = .ok (.getfield 265, 3) := by decide +kernel
theorem dX0_numberOf_25 : decode cX0_numberOf 25 = .ok (.if_icmp .ge 68, 3) := by decide +kernel
theorem dX0_numberOf_28 : decode cX0_numberOf 28 = .ok (.iload 4, 2) := by decide +kernel
theorem dX0_numberOf_30 : decode cX0_numberOf 30 = .ok (.ifCond .ne 34, 3) := by decide +kernel
theorem dX0_numberOf_33 : decode cX0_numberOf 33 = .ok (.aload_n 0, 1) := by decide +kernel
theorem dX0_numberOf_34 : decode cX0_numberOf 34 = .ok (.getfield 28, 3) := by decide +kernel
theorem dX0_numberOf_37 : decode cX0_numberOf 37 = .ok (.iload 5, 2) := by decide +kernel
theorem dX0_numberOf_39 : decode cX0_numberOf 39 = .ok (.iaload, 1) := by decide +kernel
theorem dX0_numberOf_40 : decode cX0_numberOf 40 = .ok (.iload_n 1, 1) := by decide +kernel
theorem dX0_numberOf_41 : decode cX0_numberOf 41 = .ok (.if_icmp .le 23, 3) := by decide +kernel
theorem dX0_numberOf_44 : decode cX0_numberOf 44 = .ok (.iload_n 2, 1) := by decide +kernel
theorem dX0_numberOf_45 : decode cX0_numberOf 45 = .ok (.iload_n 1, 1) := by decide +kernel
theorem dX0_numberOf_46 : decode cX0_numberOf 46 = .ok (.bipush 63, 2) := by decide +kernel
theorem dX0_numberOf_48 : decode cX0_numberOf 48 = .ok (.iand, 1) := by decide +kernel
theorem dX0_numberOf_49 : decode cX0_numberOf 49 = .ok (.aload_n 0, 1) := by decide +kernel
theorem dX0_numberOf_50 : decode cX0_numberOf 50 = .ok (.getfield 25, 3) := by decide +kernel
theorem dX0_numberOf_53 : decode cX0_numberOf 53 = .ok (.iload_n 3, 1) := by decide +kernel
theorem dX0_numberOf_54 : decode cX0_numberOf 54 = .ok (.iaload, 1) := by decide +kernel
theorem dX0_numberOf_55 : decode cX0_numberOf 55 = .ok (.imul, 1) := by decide +kernel
theorem dX0_numberOf_56 : decode cX0_numberOf 56 = .ok (.iadd, 1) := by decide +kernel
theorem dX0_numberOf_57 : decode cX0_numberOf 57 = .ok (.istore_n 2, 1) := by decide +kernel
theorem dX0_numberOf_58 : decode cX0_numberOf 58 = .ok (.iinc 3 1, 3) := by decide +kernel
theorem dX0_numberOf_61 : decode cX0_numberOf 61 = .ok (.iconst 1, 1) := by decide +kernel
theorem dX0_numberOf_62 : decode cX0_numberOf 62 = .ok (.istore 4, 2) := by decide +kernel
theorem dX0_numberOf_64 : decode cX0_numberOf 64 = .ok (.iload_n 2, 1) := by decide +kernel
theorem dX0_numberOf_65 : decode cX0_numberOf 65 = .ok (.aload_n 0, 1) := by decide +kernel
theorem dX0_numberOf_66 : decode cX0_numberOf 66 = .ok (.getfield 28, 3) := by decide +kernel
theorem dX0_numberOf_69 : decode cX0_numberOf 69 = .ok (.iload 5, 2) := by decide +kernel
theorem dX0_numberOf_71 : decode cX0_numberOf 71 = .ok (.iaload, 1) := by decide +kernel
theorem dX0_numberOf_72 : decode cX0_numberOf 72 = .ok (.bipush 63, 2) := by decide +kernel
theorem dX0_numberOf_74 : decode cX0_numberOf 74 = .ok (.iand, 1) := by decide +kernel
theorem dX0_numberOf_75 : decode cX0_numberOf 75 = .ok (.aload_n 0, 1) := by decide +kernel
theorem dX0_numberOf_76 : decode cX0_numberOf 76 = .ok (.getfield 25, 3) := by decide +kernel
theorem dX0_numberOf_79 : decode cX0_numberOf 79 = .ok (.iload_n 3, 1) := by decide +kernel
theorem dX0_numberOf_80 : decode cX0_numberOf 80 = .ok (.iaload, 1) := by decide +kernel
theorem dX0_numberOf_81 : decode cX0_numberOf 81 = .ok (.imul, 1) := by decide +kernel
theorem dX0_numberOf_82 : decode cX0_numberOf 82 = .ok (.iadd, 1) := by decide +kernel
theorem dX0_numberOf_83 : decode cX0_numberOf 83 = .ok (.istore_n 2, 1) := by decide +kernel
theorem dX0_numberOf_84 : decode cX0_numberOf 84 = .ok (.iinc 3 1, 3) := by decide +kernel
theorem dX0_numberOf_87 : decode cX0_numberOf 87 = .ok (.iinc 5 1, 3) := by decide +kernel
theorem dX0_numberOf_90 : decode cX0_numberOf 90 = .ok (.goto (-71), 3) := by decide +kernel
theorem dX0_numberOf_93 : decode cX0_numberOf 93 = .ok (.iload 4, 2) := by decide +kernel
theorem dX0_numberOf_95 : decode cX0_numberOf 95 = .ok (.ifCond .eq 7, 3) := by decide +kernel
theorem dX0_numberOf_98 : decode cX0_numberOf 98 = .ok (.iload_n 2, 1) := by decide +kernel
theorem dX0_numberOf_99 : decode cX0_numberOf 99 = .ok (.goto 16, 3) := by decide +kernel
theorem dX0_numberOf_102 : decode cX0_numberOf 102 = .ok (.iload_n 2, 1) := by decide +kernel
theorem dX0_numberOf_103 : decode cX0_numberOf 103 = .ok (.iload_n 1, 1) := by decide +kernel
theorem dX0_numberOf_104 : decode cX0_numberOf 104 = .ok (.bipush 63, 2) := by decide +kernel
theorem dX0_numberOf_106 : decode cX0_numberOf 106 = .ok (.iand, 1) := by decide +kernel
theorem dX0_numberOf_107 : decode cX0_numberOf 107 = .ok (.aload_n 0, 1) := by decide +kernel
theorem dX0_numberOf_108 : decode cX0_numberOf 108 = .ok (.getfield 25, 3) := by decide +kernel
theorem dX0_numberOf_111 : decode cX0_numberOf 111 = .ok (.iload_n 3, 1) := by decide +kernel
theorem dX0_numberOf_112 : decode cX0_numberOf 112 = .ok (.iaload, 1) := by decide +kernel
theorem dX0_numberOf_113 : decode cX0_numberOf 113 = .ok (.imul, 1) := by decide +kernel
theorem dX0_numberOf_114 : decode cX0_numberOf 114 = .ok (.iadd, 1) := by decide +kernel
theorem dX0_numberOf_115 : decode cX0_numberOf 115 = .ok (.ireturn, 1) := by decide +kernel
set_option maxRecDepth 20000 in
theorem moX0_numberOf_115 {o : Int32 × Hp} {F : Nat} {h : Hp} {t0 : Int32} (hE : sX0_numberOf_115 F h  t0 = some o) : Le h o.2 := by
  exact le_some2 hE
set_option maxRecDepth 20000 in
theorem moX0_numberOf_64 {o : Int32 × Hp} {k_19 : Hp → Nat → Int32 → Int32 → Int32 → Int32 → Int32 → Option (Int32 × Hp)} {F : Nat} (mk_19 : ∀ (h : Hp) (x0 : Nat) (x1 : Int32) (x2 : Int32) (x3 : Int32) (x4 : Int32) (x5 : Int32), k_19 h x0 x1 x2 x3 x4 x5 = some o → Le h o.2) {h : Hp} {x0 : Nat} {x1 : Int32} {x2 : Int32} {x3 : Int32} {x4 : Int32} {x5 : Int32} (hE : sX0_numberOf_64 F k_19 h x0 x1 x2 x3 x4 x5 = some o) : Le h o.2 := by
  obtain ⟨r_1, er_1, hE⟩ := cl_e hE
  obtain ⟨g_2, hE⟩ := gd_e hE
  obtain ⟨r_3, er_3, hE⟩ := cl_e hE
  obtain ⟨g_4, hE⟩ := gd_e hE
  obtain ⟨v_5, ev_5, hE⟩ := nm_e2 hE
  obtain ⟨v_6, ev_6, hE⟩ := nm_e2 hE
  obtain ⟨v_7, ev_7, hE⟩ := nm_e2 hE
  exact mk_19 _ _ _ _ _ _ _ hE
set_option maxRecDepth 20000 in
theorem moX0_numberOf_19 {o : Int32 × Hp} {F : Nat} : ∀ (f : Nat) {h : Hp} {x0 : Nat} {x1 : Int32} {x2 : Int32} {x3 : Int32} {x4 : Int32} {x5 : Int32}, sX0_numberOf_19 F f h x0 x1 x2 x3 x4 x5 = some o → Le h o.2 := by
  intro f
  induction f with
  | zero =>
    intro h x0 x1 x2 x3 x4 x5 hE
    rw [sX0_numberOf_19] at hE
    cases hE
  | succ f ih =>
    intro h x0 x1 x2 x3 x4 x5 hE
    rw [sX0_numberOf_19] at hE
    have mk_19 : ∀ (h : Hp) (x0 : Nat) (x1 : Int32) (x2 : Int32) (x3 : Int32) (x4 : Int32) (x5 : Int32), sX0_numberOf_19 F f h x0 x1 x2 x3 x4 x5 = some o → Le h o.2 := fun h x0 x1 x2 x3 x4 x5 hE => ih hE
    rcases br_e hE with ⟨_, hE⟩ | ⟨_, hE⟩
    · rcases br_e hE with ⟨_, hE⟩ | ⟨_, hE⟩
      · obtain ⟨r_3, er_3, hE⟩ := cl_e hE
        obtain ⟨g_4, hE⟩ := gd_e hE
        exact moX0_numberOf_115 hE
      · exact moX0_numberOf_115 hE
    · rcases br_e hE with ⟨_, hE⟩ | ⟨_, hE⟩
      · obtain ⟨r_6, er_6, hE⟩ := cl_e hE
        obtain ⟨g_7, hE⟩ := gd_e hE
        rcases br_e hE with ⟨_, hE⟩ | ⟨_, hE⟩
        · exact moX0_numberOf_64 mk_19 hE
        · obtain ⟨r_9, er_9, hE⟩ := cl_e hE
          obtain ⟨g_10, hE⟩ := gd_e hE
          obtain ⟨v_11, ev_11, hE⟩ := nm_e2 hE
          obtain ⟨v_12, ev_12, hE⟩ := nm_e2 hE
          exact moX0_numberOf_64 mk_19 hE
      · exact moX0_numberOf_64 mk_19 hE
set_option maxRecDepth 20000 in
theorem moX0_numberOf_14 {o : Int32 × Hp} {F : Nat} {h : Hp} {x0 : Nat} {x1 : Int32} {x2 : Int32} {x3 : Int32} {t0 : Int32} (hE : sX0_numberOf_14 F h x0 x1 x2 x3 t0 = some o) : Le h o.2 := by
  exact moX0_numberOf_19 _ hE
set_option maxRecDepth 20000 in
theorem moX0_numberOf {o : Int32 × Hp} {F : Nat} {h : Hp} {x0 : Nat} {x1 : Int32} (hE : sX0_numberOf F h x0 x1 = some o) : Le h o.2 := by
  rcases br_e hE with ⟨_, hE⟩ | ⟨_, hE⟩
  · exact moX0_numberOf_14 hE
  · exact moX0_numberOf_14 hE
set_option maxRecDepth 20000 in
theorem bX0_numberOf_115 {p : Program} {l : Launch} {e : Env} {s : State} {m : MethodId} {args : Array Value} {below : List Frame} {meth : Method} {c : Code} {X : Ec} {h0 : Hp} {o : Int32 × Hp} {F : Nat} (C : Cx X p s m args meth c RX0 cX0_numberOf 6 (some .int) "numberOf") {h : Hp} {t0 : Int32} {H : Heap} {locs : List Loc} (hkm : Km h0 h) (hW : Wx X h H) (hZ : va_S (aA (eB X)) s.heap H locs) (ls : Array Slot) (hl : lv_has ls 6 []) (hE : sX0_numberOf_115 F h  t0 = some o) : W p l e (rm 0 0) s m args below meth c H locs 0 0 (MQ below (QI X h0 o.1 o.2) args s 0 0 (aA (eB X))) (F0 m 115 ls [.int t0]) := by
  exact x_iret C rfl rfl hW hZ hkm hE dX0_numberOf_115
set_option maxRecDepth 20000 in
theorem bX0_numberOf_64 {p : Program} {l : Launch} {e : Env} {s : State} {m : MethodId} {args : Array Value} {below : List Frame} {meth : Method} {c : Code} {X : Ec} {h0 : Hp} {o : Int32 × Hp} {k_19 : Hp → Nat → Int32 → Int32 → Int32 → Int32 → Int32 → Option (Int32 × Hp)} {F : Nat} (C : Cx X p s m args meth c RX0 cX0_numberOf 6 (some .int) "numberOf") (hk_19 : ∀ (h : Hp) (x0 : Nat) (x1 : Int32) (x2 : Int32) (x3 : Int32) (x4 : Int32) (x5 : Int32) (H : Heap) (locs : List Loc), hK h x0 = 0 → Km h0 h → Wx X h H → va_S (aA (eB X)) s.heap H locs → ∀ (ls : Array Slot), lv_has ls 6 [(0, .ref x0), (1, .int x1), (2, .int x2), (3, .int x3), (4, .int x4), (5, .int x5)] → k_19 h x0 x1 x2 x3 x4 x5 = some o → W p l e (rm 0 0) s m args below meth c H locs 0 0 (MQ below (QI X h0 o.1 o.2) args s 0 0 (aA (eB X))) (F0 m 19 ls [])) {h : Hp} {x0 : Nat} {x1 : Int32} {x2 : Int32} {x3 : Int32} {x4 : Int32} {x5 : Int32} {H : Heap} {locs : List Loc} (k_x0 : hK h x0 = 0) (hkm : Km h0 h) (hW : Wx X h H) (hZ : va_S (aA (eB X)) s.heap H locs) (ls : Array Slot) (hl : lv_has ls 6 [(0, .ref x0), (1, .int x1), (2, .int x2), (3, .int x3), (4, .int x4), (5, .int x5)]) (hE : sX0_numberOf_64 F k_19 h x0 x1 x2 x3 x4 x5 = some o) : W p l e (rm 0 0) s m args below meth c H locs 0 0 (MQ below (QI X h0 o.1 o.2) args s 0 0 (aA (eB X))) (F0 m 64 ls []) := by
  refine lv_iload_n C.1 C.2.1 dX0_numberOf_64 rfl (lv_at hl 2 rfl) ?_
  refine lv_aload_n C.1 C.2.1 dX0_numberOf_65 rfl (lv_at hl 0 rfl) ?_
  obtain ⟨r_1, er_1, hE⟩ := cl_e hE
  refine gf_X0_28 C hW k_x0 er_1 dX0_numberOf_66 (fun k_r_1 => ?_)
  refine lv_iload C.1 C.2.1 dX0_numberOf_69 (lv_at hl 5 rfl) ?_
  obtain ⟨g_2, hE⟩ := gd_e hE
  refine y_iald C hW k_r_1 g_2 dX0_numberOf_71 ?_
  refine lv_bipush (v := (63 : Int32)) C.1 C.2.1 dX0_numberOf_72 (by decide) ?_
  refine lv_iand C.1 C.2.1 dX0_numberOf_74 ?_
  refine lv_aload_n C.1 C.2.1 dX0_numberOf_75 rfl (lv_at hl 0 rfl) ?_
  obtain ⟨r_3, er_3, hE⟩ := cl_e hE
  refine gf_X0_25 C hW k_x0 er_3 dX0_numberOf_76 (fun k_r_3 => ?_)
  refine lv_iload_n C.1 C.2.1 dX0_numberOf_79 rfl (lv_at hl 3 rfl) ?_
  obtain ⟨g_4, hE⟩ := gd_e hE
  refine y_iald C hW k_r_3 g_4 dX0_numberOf_80 ?_
  refine lv_imul C.1 C.2.1 dX0_numberOf_81 ?_
  refine lv_iadd C.1 C.2.1 dX0_numberOf_82 ?_
  obtain ⟨v_5, ev_5, hE⟩ := nm_e2 hE
  refine x_nmI ev_5 ?_
  refine lv_istore_n (lv' := [(2, .int v_5), (0, .ref x0), (1, .int x1), (3, .int x3), (4, .int x4), (5, .int x5)]) C.1 C.2.1 dX0_numberOf_83 rfl hl (by decide) rfl (fun ls hl => ?_)
  obtain ⟨v_6, ev_6, hE⟩ := nm_e2 hE
  refine lv_iinc (v := v_6) (lv' := [(3, .int v_6), (2, .int v_5), (0, .ref x0), (1, .int x1), (4, .int x4), (5, .int x5)]) C.1 C.2.1 dX0_numberOf_84 hl (k := 3) rfl (by rw [ev_6]; rfl) (by decide) rfl (fun ls hl => ?_)
  obtain ⟨v_7, ev_7, hE⟩ := nm_e2 hE
  refine lv_iinc (v := v_7) (lv' := [(5, .int v_7), (3, .int v_6), (2, .int v_5), (0, .ref x0), (1, .int x1), (4, .int x4)]) C.1 C.2.1 dX0_numberOf_87 hl (k := 5) rfl (by rw [ev_7]; rfl) (by decide) rfl (fun ls hl => ?_)
  refine lv_goto (tgt := 19) C.1 C.2.1 dX0_numberOf_90 (by decide) ?_
  exact hk_19 _ _ _ _ _ _ _ _ _ k_x0 hkm hW hZ _ (lv_sub hl [3, 4, 2, 1, 5, 0] rfl) hE
set_option maxRecDepth 20000 in
theorem bX0_numberOf_19 {p : Program} {l : Launch} {e : Env} {s : State} {m : MethodId} {args : Array Value} {below : List Frame} {meth : Method} {c : Code} {X : Ec} {h0 : Hp} {o : Int32 × Hp} {F : Nat} (C : Cx X p s m args meth c RX0 cX0_numberOf 6 (some .int) "numberOf") : ∀ (f : Nat) {h : Hp} {x0 : Nat} {x1 : Int32} {x2 : Int32} {x3 : Int32} {x4 : Int32} {x5 : Int32} {H : Heap} {locs : List Loc} (k_x0 : hK h x0 = 0), Km h0 h → Wx X h H → va_S (aA (eB X)) s.heap H locs → ∀ (ls : Array Slot), lv_has ls 6 [(0, .ref x0), (1, .int x1), (2, .int x2), (3, .int x3), (4, .int x4), (5, .int x5)] → sX0_numberOf_19 F f h x0 x1 x2 x3 x4 x5 = some o → W p l e (rm 0 0) s m args below meth c H locs 0 0 (MQ below (QI X h0 o.1 o.2) args s 0 0 (aA (eB X))) (F0 m 19 ls []) := by
  intro f
  induction f with
  | zero =>
    intro h x0 x1 x2 x3 x4 x5 H locs k_x0 hkm hW hZ ls hl hE
    rw [sX0_numberOf_19] at hE
    cases hE
  | succ f ih =>
    intro h x0 x1 x2 x3 x4 x5 H locs k_x0 hkm hW hZ ls hl hE
    rw [sX0_numberOf_19] at hE
    have hk_19 : ∀ (h : Hp) (x0 : Nat) (x1 : Int32) (x2 : Int32) (x3 : Int32) (x4 : Int32) (x5 : Int32) (H : Heap) (locs : List Loc), hK h x0 = 0 → Km h0 h → Wx X h H → va_S (aA (eB X)) s.heap H locs → ∀ (ls : Array Slot), lv_has ls 6 [(0, .ref x0), (1, .int x1), (2, .int x2), (3, .int x3), (4, .int x4), (5, .int x5)] → sX0_numberOf_19 F f h x0 x1 x2 x3 x4 x5 = some o → W p l e (rm 0 0) s m args below meth c H locs 0 0 (MQ below (QI X h0 o.1 o.2) args s 0 0 (aA (eB X))) (F0 m 19 ls []) := fun h x0 x1 x2 x3 x4 x5 H locs k_x0 a b c ls hl hE => ih k_x0 a b c ls hl hE
    refine lv_iload C.1 C.2.1 dX0_numberOf_19 (lv_at hl 5 rfl) ?_
    refine lv_aload_n C.1 C.2.1 dX0_numberOf_21 rfl (lv_at hl 0 rfl) ?_
    refine gf_X0_265 C hW k_x0 dX0_numberOf_22 ?_
    refine lv_icmp_ge (tgt := 93) C.1 C.2.1 dX0_numberOf_25 (by decide) (fun c_1 => ?_) (fun c_1 => ?_)
    · have hE := br_p hE c_1
      refine lv_iload C.1 C.2.1 dX0_numberOf_93 (lv_at hl 4 rfl) ?_
      refine lv_if_eq (tgt := 102) C.1 C.2.1 dX0_numberOf_95 (by decide) (fun c_2 => ?_) (fun c_2 => ?_)
      · have hE := br_p hE c_2
        refine lv_iload_n C.1 C.2.1 dX0_numberOf_102 rfl (lv_at hl 2 rfl) ?_
        refine lv_iload_n C.1 C.2.1 dX0_numberOf_103 rfl (lv_at hl 1 rfl) ?_
        refine lv_bipush (v := (63 : Int32)) C.1 C.2.1 dX0_numberOf_104 (by decide) ?_
        refine lv_iand C.1 C.2.1 dX0_numberOf_106 ?_
        refine lv_aload_n C.1 C.2.1 dX0_numberOf_107 rfl (lv_at hl 0 rfl) ?_
        obtain ⟨r_3, er_3, hE⟩ := cl_e hE
        refine gf_X0_25 C hW k_x0 er_3 dX0_numberOf_108 (fun k_r_3 => ?_)
        refine lv_iload_n C.1 C.2.1 dX0_numberOf_111 rfl (lv_at hl 3 rfl) ?_
        obtain ⟨g_4, hE⟩ := gd_e hE
        refine y_iald C hW k_r_3 g_4 dX0_numberOf_112 ?_
        refine lv_imul C.1 C.2.1 dX0_numberOf_113 ?_
        refine lv_iadd C.1 C.2.1 dX0_numberOf_114 ?_
        exact bX0_numberOf_115 C hkm hW hZ _ (lv_sub hl [] rfl) hE
      · have hE := br_n hE c_2
        refine lv_iload_n C.1 C.2.1 dX0_numberOf_98 rfl (lv_at hl 2 rfl) ?_
        refine lv_goto (tgt := 115) C.1 C.2.1 dX0_numberOf_99 (by decide) ?_
        exact bX0_numberOf_115 C hkm hW hZ _ (lv_sub hl [] rfl) hE
    · have hE := br_n hE c_1
      refine lv_iload C.1 C.2.1 dX0_numberOf_28 (lv_at hl 4 rfl) ?_
      refine lv_if_ne (tgt := 64) C.1 C.2.1 dX0_numberOf_30 (by decide) (fun c_5 => ?_) (fun c_5 => ?_)
      · have hE := br_n hE c_5
        exact bX0_numberOf_64 C hk_19 k_x0 hkm hW hZ _ (lv_sub hl [0, 1, 2, 3, 4, 5] rfl) hE
      · have hE := br_p hE c_5
        refine lv_aload_n C.1 C.2.1 dX0_numberOf_33 rfl (lv_at hl 0 rfl) ?_
        obtain ⟨r_6, er_6, hE⟩ := cl_e hE
        refine gf_X0_28 C hW k_x0 er_6 dX0_numberOf_34 (fun k_r_6 => ?_)
        refine lv_iload C.1 C.2.1 dX0_numberOf_37 (lv_at hl 5 rfl) ?_
        obtain ⟨g_7, hE⟩ := gd_e hE
        refine y_iald C hW k_r_6 g_7 dX0_numberOf_39 ?_
        refine lv_iload_n C.1 C.2.1 dX0_numberOf_40 rfl (lv_at hl 1 rfl) ?_
        refine lv_icmp_le (tgt := 64) C.1 C.2.1 dX0_numberOf_41 (by decide) (fun c_8 => ?_) (fun c_8 => ?_)
        · have hE := br_p hE c_8
          exact bX0_numberOf_64 C hk_19 k_x0 hkm hW hZ _ (lv_sub hl [0, 1, 2, 3, 4, 5] rfl) hE
        · have hE := br_n hE c_8
          refine lv_iload_n C.1 C.2.1 dX0_numberOf_44 rfl (lv_at hl 2 rfl) ?_
          refine lv_iload_n C.1 C.2.1 dX0_numberOf_45 rfl (lv_at hl 1 rfl) ?_
          refine lv_bipush (v := (63 : Int32)) C.1 C.2.1 dX0_numberOf_46 (by decide) ?_
          refine lv_iand C.1 C.2.1 dX0_numberOf_48 ?_
          refine lv_aload_n C.1 C.2.1 dX0_numberOf_49 rfl (lv_at hl 0 rfl) ?_
          obtain ⟨r_9, er_9, hE⟩ := cl_e hE
          refine gf_X0_25 C hW k_x0 er_9 dX0_numberOf_50 (fun k_r_9 => ?_)
          refine lv_iload_n C.1 C.2.1 dX0_numberOf_53 rfl (lv_at hl 3 rfl) ?_
          obtain ⟨g_10, hE⟩ := gd_e hE
          refine y_iald C hW k_r_9 g_10 dX0_numberOf_54 ?_
          refine lv_imul C.1 C.2.1 dX0_numberOf_55 ?_
          refine lv_iadd C.1 C.2.1 dX0_numberOf_56 ?_
          obtain ⟨v_11, ev_11, hE⟩ := nm_e2 hE
          refine x_nmI ev_11 ?_
          refine lv_istore_n (lv' := [(2, .int v_11), (0, .ref x0), (1, .int x1), (3, .int x3), (4, .int x4), (5, .int x5)]) C.1 C.2.1 dX0_numberOf_57 rfl hl (by decide) rfl (fun ls hl => ?_)
          obtain ⟨v_12, ev_12, hE⟩ := nm_e2 hE
          refine lv_iinc (v := v_12) (lv' := [(3, .int v_12), (2, .int v_11), (0, .ref x0), (1, .int x1), (4, .int x4), (5, .int x5)]) C.1 C.2.1 dX0_numberOf_58 hl (k := 3) rfl (by rw [ev_12]; rfl) (by decide) rfl (fun ls hl => ?_)
          refine lv_iconst (v := (1 : Int32)) C.1 C.2.1 dX0_numberOf_61 (by decide) ?_
          refine lv_istore (lv' := [(4, .int (1 : Int32)), (3, .int v_12), (2, .int v_11), (0, .ref x0), (1, .int x1), (5, .int x5)]) C.1 C.2.1 dX0_numberOf_62 hl (by decide) rfl (fun ls hl => ?_)
          exact bX0_numberOf_64 C hk_19 k_x0 hkm hW hZ _ (lv_sub hl [3, 4, 2, 1, 0, 5] rfl) hE
set_option maxRecDepth 20000 in
theorem bX0_numberOf_14 {p : Program} {l : Launch} {e : Env} {s : State} {m : MethodId} {args : Array Value} {below : List Frame} {meth : Method} {c : Code} {X : Ec} {h0 : Hp} {o : Int32 × Hp} {F : Nat} (C : Cx X p s m args meth c RX0 cX0_numberOf 6 (some .int) "numberOf") {h : Hp} {x0 : Nat} {x1 : Int32} {x2 : Int32} {x3 : Int32} {t0 : Int32} {H : Heap} {locs : List Loc} (k_x0 : hK h x0 = 0) (hkm : Km h0 h) (hW : Wx X h H) (hZ : va_S (aA (eB X)) s.heap H locs) (ls : Array Slot) (hl : lv_has ls 6 [(0, .ref x0), (1, .int x1), (2, .int x2), (3, .int x3)]) (hE : sX0_numberOf_14 F h x0 x1 x2 x3 t0 = some o) : W p l e (rm 0 0) s m args below meth c H locs 0 0 (MQ below (QI X h0 o.1 o.2) args s 0 0 (aA (eB X))) (F0 m 14 ls [.int t0]) := by
  refine lv_istore (lv' := [(4, .int t0), (0, .ref x0), (1, .int x1), (2, .int x2), (3, .int x3)]) C.1 C.2.1 dX0_numberOf_14 hl (by decide) rfl (fun ls hl => ?_)
  refine lv_iconst (v := (0 : Int32)) C.1 C.2.1 dX0_numberOf_16 (by decide) ?_
  refine lv_istore (lv' := [(5, .int (0 : Int32)), (4, .int t0), (0, .ref x0), (1, .int x1), (2, .int x2), (3, .int x3)]) C.1 C.2.1 dX0_numberOf_17 hl (by decide) rfl (fun ls hl => ?_)
  exact bX0_numberOf_19 C F k_x0 hkm hW hZ _ (lv_sub hl [2, 3, 4, 5, 1, 0] rfl) hE
set_option maxRecDepth 20000 in
theorem ct_X0_numberOf (l : Launch) (X : Ec) (F : Nat) {h : Hp} {x0 : Nat} {x1 : Int32} {o : Int32 × Hp} (k_x0 : hK h x0 = 0) (hE : sX0_numberOf F h x0 x1 = some o) : MetI l yX0_numberOf cX0_numberOf 6 (some .int) 0 0 X [.ref x0, .int x1] h o := by
  refine x_met (by decide) (Nat.le_of_ble_eq_true rfl) ?_
  intro p e s m below meth c ls C hl hW hZ
  have hl : lv_has ls 6 [(0, .ref x0), (1, .int x1)] := hl
  have hkm : Km h h := Km.rf h
  refine lv_iconst (v := (0 : Int32)) C.1 C.2.1 dX0_numberOf_0 (by decide) ?_
  refine lv_istore_n (lv' := [(2, .int (0 : Int32)), (0, .ref x0), (1, .int x1)]) C.1 C.2.1 dX0_numberOf_1 rfl hl (by decide) rfl (fun ls hl => ?_)
  refine lv_iconst (v := (0 : Int32)) C.1 C.2.1 dX0_numberOf_2 (by decide) ?_
  refine lv_istore_n (lv' := [(3, .int (0 : Int32)), (2, .int (0 : Int32)), (0, .ref x0), (1, .int x1)]) C.1 C.2.1 dX0_numberOf_3 rfl hl (by decide) rfl (fun ls hl => ?_)
  refine lv_iload_n C.1 C.2.1 dX0_numberOf_4 rfl (lv_at hl 3 rfl) ?_
  refine lv_iconst (v := (-1 : Int32)) C.1 C.2.1 dX0_numberOf_5 (by decide) ?_
  refine lv_icmp_ne (tgt := 13) C.1 C.2.1 dX0_numberOf_6 (by decide) (fun c_1 => ?_) (fun c_1 => ?_)
  · have hE := br_n hE c_1
    refine lv_iconst (v := (0 : Int32)) C.1 C.2.1 dX0_numberOf_13 (by decide) ?_
    exact bX0_numberOf_14 C k_x0 hkm hW hZ _ (lv_sub hl [2, 3, 1, 0] rfl) hE
  · have hE := br_p hE c_1
    refine lv_iconst (v := (1 : Int32)) C.1 C.2.1 dX0_numberOf_9 (by decide) ?_
    refine lv_goto (tgt := 14) C.1 C.2.1 dX0_numberOf_10 (by decide) ?_
    exact bX0_numberOf_14 C k_x0 hkm hW hZ _ (lv_sub hl [2, 3, 1, 0] rfl) hE
