theorem m_77 : Cond.fieldLink RX11 399 (TX1 2).1 (TX1 2).2.1 (TX1 2).2.2.1 ∈ W0 := w0_in (List.mem_append_right _ (List.mem_of_getElem? (i := 77) (by decide +kernel))) rfl
section
variable {p : Program} {l : Launch} {e : Env} {R : Room} {s : State} {m : MethodId} {args : Array Value} {below : List Frame} {meth : Method} {c : Code} {H : Heap} {locs : List Loc} {cells slots : Nat} {Q : State → Prop}
variable {cc : ByteArray} {pc : Nat} {ls : Array Slot} {rest : List Value} {X : Ec} {h h1 : Hp} {nL : Nat} {rt : Option FieldType} {mn : String}
theorem gf_X11_399 {a : Nat} (C : Cx X p s m args meth c RX11 cc nL rt mn) (hW : Wx X h H) (ha : hK h a = 1) (hdg : decode cc pc = .ok (.getfield 399, 3)) (kk : W p l e R s m args below meth c H locs cells slots Q (F0 m (pc + 3) ls (.int (hI h a 2) :: rest))) : W p l e R s m args below meth c H locs cells slots Q (F0 m pc ls (.ref a :: rest)) :=
  y_geti C hW ha i_X1 (by decide) rfl (by decide) m_77 rfl hdg kk
end
theorem dX11_isSquare_0 : decode cX11_isSquare 0 = .ok (.iload_n 1, 1) := by decide +kernel
theorem dX11_isSquare_1 : decode cX11_isSquare 1 = .ok (.ifCond .lt 18, 3) := by decide +kernel
theorem dX11_isSquare_4 : decode cX11_isSquare 4 = .ok (.iload_n 1, 1) := by decide +kernel
theorem dX11_isSquare_5 : decode cX11_isSquare 5 = .ok (.aload_n 0, 1) := by decide +kernel
theorem dX11_isSquare_6 : decode cX11_isSquare 6 = .ok (.getfield 24, 3) := by decide +kernel
theorem dX11_isSquare_9 : decode cX11_isSquare 9 = .ok (.getfield 399, 3) := by decide +kernel
theorem dX11_isSquare_12 : decode cX11_isSquare 12 = .ok (.if_icmp .ge 7, 3) := by decide +kernel
theorem dX11_isSquare_15 : decode cX11_isSquare 15 = .ok (.iconst 1, 1) := by decide +kernel
theorem dX11_isSquare_16 : decode cX11_isSquare 16 = .ok (.goto 4, 3) := by decide +kernel
theorem dX11_isSquare_19 : decode cX11_isSquare 19 = .ok (.iconst 0, 1) := by decide +kernel
theorem dX11_isSquare_20 : decode cX11_isSquare 20 = .ok (.ireturn, 1) := by decide +kernel
def sX11_isSquare_20 (h : Hp) (t0 : Int32) : Option (Int32 × Hp) := gd (t0 &&& 1 = t0) <| some (t0, h)
def sX11_isSquare_19 (h : Hp) : Option (Int32 × Hp) := sX11_isSquare_20  h (0 : Int32)
def sX11_isSquare (h : Hp) (x0 : Nat) (x1 : Int32) : Option (Int32 × Hp) := br (x1 < 0) (sX11_isSquare_19  h ) (cl (hR h x0 2) fun r_2 => br ((hI h r_2 2) ≤ x1) (sX11_isSquare_19  h ) (sX11_isSquare_20  h (1 : Int32)))
set_option maxRecDepth 20000 in
theorem bX11_isSquare_20 {p : Program} {l : Launch} {e : Env} {s : State} {m : MethodId} {args : Array Value} {below : List Frame} {meth : Method} {c : Code} {X : Ec} {h0 : Hp} {o : Int32 × Hp} (C : Cx X p s m args meth c RX11 cX11_isSquare 2 (some .boolean) "isSquare") {h : Hp} {t0 : Int32} {H : Heap} {locs : List Loc} (hkm : Km h0 h) (hW : Wx X h H) (hZ : va_S (aA (eB X)) s.heap H locs) (ls : Array Slot) (hl : lv_has ls 2 []) (hE : sX11_isSquare_20 h  t0 = some o) : W p l e (rm 0 0) s m args below meth c H locs 0 0 (MQ below (QI X h0 o.1 o.2) args s 0 0 (aA (eB X))) (F0 m 20 ls [.int t0]) := by
  obtain ⟨g_1, hE⟩ := gd_e hE
  exact x_iret C rfl (narB g_1) hW hZ hkm hE dX11_isSquare_20
set_option maxRecDepth 20000 in
theorem bX11_isSquare_19 {p : Program} {l : Launch} {e : Env} {s : State} {m : MethodId} {args : Array Value} {below : List Frame} {meth : Method} {c : Code} {X : Ec} {h0 : Hp} {o : Int32 × Hp} (C : Cx X p s m args meth c RX11 cX11_isSquare 2 (some .boolean) "isSquare") {h : Hp} {H : Heap} {locs : List Loc} (hkm : Km h0 h) (hW : Wx X h H) (hZ : va_S (aA (eB X)) s.heap H locs) (ls : Array Slot) (hl : lv_has ls 2 []) (hE : sX11_isSquare_19 h  = some o) : W p l e (rm 0 0) s m args below meth c H locs 0 0 (MQ below (QI X h0 o.1 o.2) args s 0 0 (aA (eB X))) (F0 m 19 ls []) := by
  refine lv_iconst (v := (0 : Int32)) C.1 C.2.1 dX11_isSquare_19 (by decide) ?_
  exact bX11_isSquare_20 C hkm hW hZ _ (lv_sub hl [] rfl) hE
set_option maxRecDepth 20000 in
theorem ct_X11_isSquare (l : Launch) (X : Ec) {h : Hp} {x0 : Nat} {x1 : Int32} {o : Int32 × Hp} (k_x0 : hK h x0 = 11) (hE : sX11_isSquare h x0 x1 = some o) : MetI l yX11_isSquare cX11_isSquare 2 (some .boolean) 0 0 X [.ref x0, .int x1] h o := by
  refine x_met (by decide) (Nat.le_of_ble_eq_true rfl) ?_
  intro p e s m below meth c ls C hl hW hZ
  have hl : lv_has ls 2 [(0, .ref x0), (1, .int x1)] := hl
  have hkm : Km h h := Km.rf h
  refine lv_iload_n C.1 C.2.1 dX11_isSquare_0 rfl (lv_at hl 1 rfl) ?_
  refine lv_if_lt (tgt := 19) C.1 C.2.1 dX11_isSquare_1 (by decide) (fun c_1 => ?_) (fun c_1 => ?_)
  · have hE := br_p hE c_1
    exact bX11_isSquare_19 C hkm hW hZ _ (lv_sub hl [] rfl) hE
  · have hE := br_n hE c_1
    refine lv_iload_n C.1 C.2.1 dX11_isSquare_4 rfl (lv_at hl 1 rfl) ?_
    refine lv_aload_n C.1 C.2.1 dX11_isSquare_5 rfl (lv_at hl 0 rfl) ?_
    obtain ⟨r_2, er_2, hE⟩ := cl_e hE
    refine gf_X11_24 C hW k_x0 er_2 dX11_isSquare_6 (fun k_r_2 => ?_)
    refine gf_X11_399 C hW k_r_2 dX11_isSquare_9 ?_
    refine lv_icmp_ge (tgt := 19) C.1 C.2.1 dX11_isSquare_12 (by decide) (fun c_3 => ?_) (fun c_3 => ?_)
    · have hE := br_p hE c_3
      exact bX11_isSquare_19 C hkm hW hZ _ (lv_sub hl [] rfl) hE
    · have hE := br_n hE c_3
      refine lv_iconst (v := (1 : Int32)) C.1 C.2.1 dX11_isSquare_15 (by decide) ?_
      refine lv_goto (tgt := 20) C.1 C.2.1 dX11_isSquare_16 (by decide) ?_
      exact bX11_isSquare_20 C hkm hW hZ _ (lv_sub hl [] rfl) hE
theorem ms_67 : Cond.selects RX11 yX11_isSquare yX11_isSquare ∈ W0 := w0_in (List.mem_append_left _ (List.mem_of_getElem? (i := 67) (by decide +kernel))) rfl
theorem m_278 : Cond.fieldLink RX11 211 (TX3 0).1 (TX3 0).2.1 (TX3 0).2.2.1 ∈ W0 := w0_in (List.mem_append_right _ (List.mem_of_getElem? (i := 278) (by decide +kernel))) rfl
theorem m_1285 : Cond.methodLink RX11 208 yX11_isSquare ∈ W0 := w0_in (List.mem_append_right _ (List.mem_of_getElem? (i := 1285) (by decide +kernel))) rfl
theorem m_1287 : Cond.instanceMethod yX11_isSquare ∈ W0 := w0_in (List.mem_append_right _ (List.mem_of_getElem? (i := 1287) (by decide +kernel))) rfl
theorem m_1288 : Cond.code yX11_isSquare cX11_isSquare 2 (some .boolean) ∈ W0 := w0_in (List.mem_append_right _ (List.mem_of_getElem? (i := 1288) (by decide +kernel))) rfl
section
variable {p : Program} {l : Launch} {e : Env} {R : Room} {s : State} {m : MethodId} {args : Array Value} {below : List Frame} {meth : Method} {c : Code} {H : Heap} {locs : List Loc} {cells slots : Nat} {Q : State → Prop}
variable {cc : ByteArray} {pc : Nat} {ls : Array Slot} {rest : List Value} {X : Ec} {h h1 : Hp} {nL : Nat} {rt : Option FieldType} {mn : String}
theorem gf_X11_211 {a r : Nat} (C : Cx X p s m args meth c RX11 cc nL rt mn) (hW : Wx X h H) (ha : hK h a = 3) (hr : hR h a 0 = some r) (hdg : decode cc pc = .ok (.getfield 211, 3)) (kk : hK h r = 16 → W p l e R s m args below meth c H locs cells slots Q (F0 m (pc + 3) ls (.ref r :: rest))) : W p l e R s m args below meth c H locs cells slots Q (F0 m pc ls (.ref a :: rest)) :=
  y_getr C hW ha i_X3 (by decide) rfl (by decide) m_278 rfl rfl hr hdg kk
end
theorem cw_X11_208 : cwd RX11 208 yX11_isSquare cX11_isSquare 2 (some .boolean) false 1 := ⟨m_1288, m_1285, m_1, ⟨m_1287, ms_67⟩, by decide, by decide, by decide +kernel⟩
theorem dX11_at_0 : decode cX11_at 0 = .ok (.aload_n 0, 1) := by decide +kernel
theorem dX11_at_1 : decode cX11_at 1 = .ok (.iload_n 2, 1) := by decide +kernel
theorem dX11_at_2 : decode cX11_at 2 = .ok (.invokevirtual 208, 3) := by decide +kernel
theorem dX11_at_5 : decode cX11_at 5 = .ok (.ifCond .ne 6, 3) := by decide +kernel
theorem dX11_at_8 : decode cX11_at 8 = .ok (.bipush (-101), 2) := by decide +kernel
theorem dX11_at_10 : decode cX11_at 10 = .ok (.ireturn, 1) := by decide +kernel
theorem dX11_at_11 : decode cX11_at 11 = .ok (.aload_n 0, 1) := by decide +kernel
theorem dX11_at_12 : decode cX11_at 12 = .ok (.iload_n 1, 1) := by decide +kernel
theorem dX11_at_13 : decode cX11_at 13 = .ok (.invokevirtual 193, 3) := by decide +kernel
theorem dX11_at_16 : decode cX11_at 16 = .ok (.ifCond .eq 17, 3) := by decide +kernel
theorem dX11_at_19 : decode cX11_at 19 = .ok (.aload_n 0, 1) := by decide +kernel
theorem dX11_at_20 : decode cX11_at 20 = .ok (.getfield 103, 3) := by decide +kernel
theorem dX11_at_23 : decode cX11_at 23 = .ok (.iload_n 1, 1) := by decide +kernel
theorem dX11_at_24 : decode cX11_at 24 = .ok (.aaload, 1) := by decide +kernel
theorem dX11_at_25 : decode cX11_at 25 = .ok (.getfield 211, 3) := by decide +kernel
theorem dX11_at_28 : decode cX11_at 28 = .ok (.iload_n 2, 1) := by decide +kernel
theorem dX11_at_29 : decode cX11_at 29 = .ok (.baload, 1) := by decide +kernel
theorem dX11_at_30 : decode cX11_at 30 = .ok (.goto 5, 3) := by decide +kernel
theorem dX11_at_33 : decode cX11_at 33 = .ok (.bipush (-102), 2) := by decide +kernel
theorem dX11_at_35 : decode cX11_at 35 = .ok (.ireturn, 1) := by decide +kernel
def sX11_at_35 (h : Hp) (t0 : Int32) : Option (Int32 × Hp) := some (t0, h)
def sX11_at (h : Hp) (x0 : Nat) (x1 : Int32) (x2 : Int32) : Option (Int32 × Hp) := cl (sX11_isSquare h x0 x2) fun o_1 => br (o_1.1 = 0) (some ((-101 : Int32), o_1.2)) (cl (sX11_isPlace o_1.2 x0 x1) fun o_3 => br (o_3.1 = 0) (sX11_at_35  o_3.2 (-102 : Int32)) (cl (hR o_3.2 x0 13) fun r_5 => gd (inB x1 (hN o_3.2 r_5)) <| cl (hR o_3.2 r_5 x1.toNatClampNeg) fun r_7 => cl (hR o_3.2 r_7 0) fun r_8 => gd (inB x2 (hN o_3.2 r_8)) <| sX11_at_35  o_3.2 (hI o_3.2 r_8 x2.toNatClampNeg)))
set_option maxRecDepth 20000 in
theorem bX11_at_35 {p : Program} {l : Launch} {e : Env} {s : State} {m : MethodId} {args : Array Value} {below : List Frame} {meth : Method} {c : Code} {X : Ec} {h0 : Hp} {o : Int32 × Hp} (C : Cx X p s m args meth c RX11 cX11_at 3 (some .int) "at") {h : Hp} {t0 : Int32} {H : Heap} {locs : List Loc} (hkm : Km h0 h) (hW : Wx X h H) (hZ : va_S (aA (eB X)) s.heap H locs) (ls : Array Slot) (hl : lv_has ls 3 []) (hE : sX11_at_35 h  t0 = some o) : W p l e (rm 1 21) s m args below meth c H locs 0 0 (MQ below (QI X h0 o.1 o.2) args s 0 0 (aA (eB X))) (F0 m 35 ls [.int t0]) := by
  exact x_iret C rfl rfl hW hZ hkm hE dX11_at_35
set_option maxRecDepth 20000 in
theorem ct_X11_at (l : Launch) (X : Ec) {h : Hp} {x0 : Nat} {x1 : Int32} {x2 : Int32} {o : Int32 × Hp} (k_x0 : hK h x0 = 11) (hE : sX11_at h x0 x1 x2 = some o) : MetI l yX11_at cX11_at 3 (some .int) 1 21 X [.ref x0, .int x1, .int x2] h o := by
  refine x_met (by decide) (Nat.le_of_ble_eq_true rfl) ?_
  intro p e s m below meth c ls C hl hW hZ
  have hl : lv_has ls 3 [(0, .ref x0), (1, .int x1), (2, .int x2)] := hl
  have hkm : Km h h := Km.rf h
  refine lv_aload_n C.1 C.2.1 dX11_at_0 rfl (lv_at hl 0 rfl) ?_
  refine lv_iload_n C.1 C.2.1 dX11_at_1 rfl (lv_at hl 2 rfl) ?_
  obtain ⟨o_1, eo_1, hE⟩ := cl_e hE
  refine x_kI (o := o_1) (z_runV (As := [.int x2]) (rest := []) C (ct_X11_isSquare l X k_x0 eo_1) cw_X11_208 hW hZ k_x0 (by decide) rfl rfl rfl hl.1 (Nat.le_of_ble_eq_true rfl) rfl dX11_at_2 ⟨Nat.le_of_ble_eq_true rfl, Nat.le_of_ble_eq_true rfl⟩ ⟨Nat.le_refl _, Nat.le_refl _⟩) hZ (fun _ _ hW km hZ => ?_)
  replace hkm := hkm.tr km
  replace k_x0 := km.at k_x0 (by decide)
  refine lv_if_ne (tgt := 11) C.1 C.2.1 dX11_at_5 (by decide) (fun c_2 => ?_) (fun c_2 => ?_)
  · have hE := br_n hE c_2
    refine lv_aload_n C.1 C.2.1 dX11_at_11 rfl (lv_at hl 0 rfl) ?_
    refine lv_iload_n C.1 C.2.1 dX11_at_12 rfl (lv_at hl 1 rfl) ?_
    obtain ⟨o_3, eo_3, hE⟩ := cl_e hE
    refine x_kI (o := o_3) (z_runV (As := [.int x1]) (rest := []) C (ct_X11_isPlace l X k_x0 eo_3) cw_X11_193 hW hZ k_x0 (by decide) rfl rfl rfl hl.1 (Nat.le_of_ble_eq_true rfl) rfl dX11_at_13 ⟨Nat.le_of_ble_eq_true rfl, Nat.le_of_ble_eq_true rfl⟩ ⟨Nat.le_refl _, Nat.le_refl _⟩) hZ (fun _ _ hW km hZ => ?_)
    replace hkm := hkm.tr km
    replace k_x0 := km.at k_x0 (by decide)
    refine lv_if_eq (tgt := 33) C.1 C.2.1 dX11_at_16 (by decide) (fun c_4 => ?_) (fun c_4 => ?_)
    · have hE := br_p hE c_4
      refine lv_bipush (v := (-102 : Int32)) C.1 C.2.1 dX11_at_33 (by decide) ?_
      exact bX11_at_35 C hkm hW hZ _ (lv_sub hl [] rfl) hE
    · have hE := br_n hE c_4
      refine lv_aload_n C.1 C.2.1 dX11_at_19 rfl (lv_at hl 0 rfl) ?_
      obtain ⟨r_5, er_5, hE⟩ := cl_e hE
      refine gf_X11_103 C hW k_x0 er_5 dX11_at_20 (fun k_r_5 => ?_)
      refine lv_iload_n C.1 C.2.1 dX11_at_23 rfl (lv_at hl 1 rfl) ?_
      obtain ⟨g_6, hE⟩ := gd_e hE
      obtain ⟨r_7, er_7, hE⟩ := cl_e hE
      refine y_aald (t0 := 4) C hW k_r_5 (by decide) (by decide) rfl rfl rfl (fun _ => rfl) g_6 er_7 dX11_at_24 (fun k_r_7 => ?_)
      obtain ⟨r_8, er_8, hE⟩ := cl_e hE
      refine gf_X11_211 C hW k_r_7 er_8 dX11_at_25 (fun k_r_8 => ?_)
      refine lv_iload_n C.1 C.2.1 dX11_at_28 rfl (lv_at hl 2 rfl) ?_
      obtain ⟨g_9, hE⟩ := gd_e hE
      refine y_bald C hW k_r_8 g_9 dX11_at_29 ?_
      refine lv_goto (tgt := 35) C.1 C.2.1 dX11_at_30 (by decide) ?_
      exact bX11_at_35 C hkm hW hZ _ (lv_sub hl [] rfl) hE
  · have hE := br_p hE c_2
    refine lv_bipush (v := (-101 : Int32)) C.1 C.2.1 dX11_at_8 (by decide) ?_
    exact x_iret C rfl rfl hW hZ hkm hE dX11_at_10
theorem m_293 : Cond.fieldLink RX11 221 (TX3 4).1 (TX3 4).2.1 (TX3 4).2.2.1 ∈ W0 := w0_in (List.mem_append_right _ (List.mem_of_getElem? (i := 293) (by decide +kernel))) rfl
theorem m_300 : Cond.fieldLink RX11 215 (TX3 5).1 (TX3 5).2.1 (TX3 5).2.2.1 ∈ W0 := w0_in (List.mem_append_right _ (List.mem_of_getElem? (i := 300) (by decide +kernel))) rfl
theorem m_305 : Cond.fieldLink RX11 218 (TX3 6).1 (TX3 6).2.1 (TX3 6).2.2.1 ∈ W0 := w0_in (List.mem_append_right _ (List.mem_of_getElem? (i := 305) (by decide +kernel))) rfl
theorem m_311 : Cond.fieldLink RX11 224 (TX3 8).1 (TX3 8).2.1 (TX3 8).2.2.1 ∈ W0 := w0_in (List.mem_append_right _ (List.mem_of_getElem? (i := 311) (by decide +kernel))) rfl
theorem m_314 : Cond.fieldLink RX11 234 (TX3 9).1 (TX3 9).2.1 (TX3 9).2.2.1 ∈ W0 := w0_in (List.mem_append_right _ (List.mem_of_getElem? (i := 314) (by decide +kernel))) rfl
theorem m_1293 : Cond.methodLink RX11 228 yJ13_bitCount_95d88 ∈ W0 := w0_in (List.mem_append_right _ (List.mem_of_getElem? (i := 1293) (by decide +kernel))) rfl
theorem m_1299 : Cond.methodLink RX11 237 yX3_passSquare ∈ W0 := w0_in (List.mem_append_right _ (List.mem_of_getElem? (i := 1299) (by decide +kernel))) rfl
theorem m_1300 : Cond.methodLink RX11 240 yX3_handSize ∈ W0 := w0_in (List.mem_append_right _ (List.mem_of_getElem? (i := 1300) (by decide +kernel))) rfl
theorem m_1301 : Cond.instanceMethod yX3_handSize ∈ W0 := w0_in (List.mem_append_right _ (List.mem_of_getElem? (i := 1301) (by decide +kernel))) rfl
theorem m_1302 : Cond.selects RX3 yX3_handSize yX3_handSize ∈ W0 := w0_in (List.mem_append_right _ (List.mem_of_getElem? (i := 1302) (by decide +kernel))) rfl
theorem m_1303 : Cond.code yX3_handSize cX3_handSize 4 (some .int) ∈ W0 := w0_in (List.mem_append_right _ (List.mem_of_getElem? (i := 1303) (by decide +kernel))) rfl
theorem m_1305 : Cond.methodLink RX11 243 yX3_occupied ∈ W0 := w0_in (List.mem_append_right _ (List.mem_of_getElem? (i := 1305) (by decide +kernel))) rfl
section
variable {p : Program} {l : Launch} {e : Env} {R : Room} {s : State} {m : MethodId} {args : Array Value} {below : List Frame} {meth : Method} {c : Code} {H : Heap} {locs : List Loc} {cells slots : Nat} {Q : State → Prop}
variable {cc : ByteArray} {pc : Nat} {ls : Array Slot} {rest : List Value} {X : Ec} {h h1 : Hp} {nL : Nat} {rt : Option FieldType} {mn : String}
theorem gf_X11_215 {a : Nat} (C : Cx X p s m args meth c RX11 cc nL rt mn) (hW : Wx X h H) (ha : hK h a = 3) (hdg : decode cc pc = .ok (.getfield 215, 3)) (kk : W p l e R s m args below meth c H locs cells slots Q (F0 m (pc + 3) ls (.int (hI h a 5) :: rest))) : W p l e R s m args below meth c H locs cells slots Q (F0 m pc ls (.ref a :: rest)) :=
  y_geti C hW ha i_X3 (by decide) rfl (by decide) m_300 rfl hdg kk
theorem gf_X11_218 {a : Nat} (C : Cx X p s m args meth c RX11 cc nL rt mn) (hW : Wx X h H) (ha : hK h a = 3) (hdg : decode cc pc = .ok (.getfield 218, 3)) (kk : W p l e R s m args below meth c H locs cells slots Q (F0 m (pc + 3) ls (.int (hI h a 6) :: rest))) : W p l e R s m args below meth c H locs cells slots Q (F0 m pc ls (.ref a :: rest)) :=
  y_geti C hW ha i_X3 (by decide) rfl (by decide) m_305 rfl hdg kk
theorem gf_X11_221 {a r : Nat} (C : Cx X p s m args meth c RX11 cc nL rt mn) (hW : Wx X h H) (ha : hK h a = 3) (hr : hR h a 4 = some r) (hdg : decode cc pc = .ok (.getfield 221, 3)) (kk : hK h r = 17 → W p l e R s m args below meth c H locs cells slots Q (F0 m (pc + 3) ls (.ref r :: rest))) : W p l e R s m args below meth c H locs cells slots Q (F0 m pc ls (.ref a :: rest)) :=
  y_getr C hW ha i_X3 (by decide) rfl (by decide) m_293 rfl rfl hr hdg kk
theorem gf_X11_224 {a : Nat} (C : Cx X p s m args meth c RX11 cc nL rt mn) (hW : Wx X h H) (ha : hK h a = 3) (hdg : decode cc pc = .ok (.getfield 224, 3)) (kk : W p l e R s m args below meth c H locs cells slots Q (F0 m (pc + 3) ls (.long (hJ h a 8) :: rest))) : W p l e R s m args below meth c H locs cells slots Q (F0 m pc ls (.ref a :: rest)) :=
  y_getj C hW ha i_X3 (by decide) rfl (by decide) m_311 rfl hdg kk
theorem gf_X11_234 {a : Nat} (C : Cx X p s m args meth c RX11 cc nL rt mn) (hW : Wx X h H) (ha : hK h a = 3) (hdg : decode cc pc = .ok (.getfield 234, 3)) (kk : W p l e R s m args below meth c H locs cells slots Q (F0 m (pc + 3) ls (.long (hJ h a 9) :: rest))) : W p l e R s m args below meth c H locs cells slots Q (F0 m pc ls (.ref a :: rest)) :=
  y_getj C hW ha i_X3 (by decide) rfl (by decide) m_314 rfl hdg kk
end
theorem cw_X11_228 : cwd RX11 228 yJ13_bitCount_95d88 cJ13_bitCount_95d88 2 (some .int) true 1 := ⟨m_1295, m_1293, m_24, m_1294, by decide, by decide, by decide +kernel⟩
theorem cw_X11_237 : cwd RX11 237 yX3_passSquare cX3_passSquare 2 (some .int) false 1 := ⟨m_1080, m_1299, m_8, ⟨m_1078, m_1079⟩, by decide, by decide, by decide +kernel⟩
theorem cw_X11_240 : cwd RX11 240 yX3_handSize cX3_handSize 4 (some .int) false 1 := ⟨m_1303, m_1300, m_8, ⟨m_1301, m_1302⟩, by decide, by decide, by decide +kernel⟩
theorem cw_X11_243 : cwd RX11 243 yX3_occupied cX3_occupied 1 (some .long) false 0 := ⟨m_1084, m_1305, m_8, ⟨m_1082, m_1083⟩, by decide, by decide, by decide +kernel⟩
theorem dX11_figure_0 : decode cX11_figure 0 = .ok (.iload_n 2, 1) := by decide +kernel
theorem dX11_figure_1 : decode cX11_figure 1 = .ok (.ifCond .lt 9, 3) := by decide +kernel
theorem dX11_figure_4 : decode cX11_figure 4 = .ok (.iload_n 2, 1) := by decide +kernel
theorem dX11_figure_5 : decode cX11_figure 5 = .ok (.bipush 8, 2) := by decide +kernel
theorem dX11_figure_7 : decode cX11_figure 7 = .ok (.if_icmp .le 6, 3) := by decide +kernel
theorem dX11_figure_10 : decode cX11_figure 10 = .ok (.bipush (-101), 2) := by decide +kernel
theorem dX11_figure_12 : decode cX11_figure 12 = .ok (.ireturn, 1) := by decide +kernel
theorem dX11_figure_13 : decode cX11_figure 13 = .ok (.aload_n 0, 1) := by decide +kernel
theorem dX11_figure_14 : decode cX11_figure 14 = .ok (.iload_n 1, 1) := by decide +kernel
theorem dX11_figure_15 : decode cX11_figure 15 = .ok (.invokevirtual 193, 3) := by decide +kernel
theorem dX11_figure_18 : decode cX11_figure 18 = .ok (.ifCond .ne 6, 3) := by decide +kernel
theorem dX11_figure_21 : decode cX11_figure 21 = .ok (.bipush (-102), 2) := by decide +kernel
theorem dX11_figure_23 : decode cX11_figure 23 = .ok (.ireturn, 1) := by decide +kernel
theorem dX11_figure_24 : decode cX11_figure 24 = .ok (.aload_n 0, 1) := by decide +kernel
theorem dX11_figure_25 : decode cX11_figure 25 = .ok (.getfield 103, 3) := by decide +kernel
theorem dX11_figure_28 : decode cX11_figure 28 = .ok (.iload_n 1, 1) := by decide +kernel
theorem dX11_figure_29 : decode cX11_figure 29 = .ok (.aaload, 1) := by decide +kernel
theorem dX11_figure_30 : decode cX11_figure 30 = .ok (.astore_n 3, 1) := by decide +kernel
theorem dX11_figure_31 : decode cX11_figure 31 = .ok (.iload_n 2, 1) := by decide +kernel
theorem dX11_figure_32 : decode cX11_figure 32 = .ok (.tableswitch 111 0 7 #[48, 53, 58, 65, 72, 80, 99, 105], 48) := by decide +kernel
theorem dX11_figure_80 : decode cX11_figure 80 = .ok (.aload_n 3, 1) := by decide +kernel
theorem dX11_figure_81 : decode cX11_figure 81 = .ok (.getfield 215, 3) := by decide +kernel
theorem dX11_figure_84 : decode cX11_figure 84 = .ok (.ireturn, 1) := by decide +kernel
theorem dX11_figure_85 : decode cX11_figure 85 = .ok (.aload_n 3, 1) := by decide +kernel
theorem dX11_figure_86 : decode cX11_figure 86 = .ok (.getfield 218, 3) := by decide +kernel
theorem dX11_figure_89 : decode cX11_figure 89 = .ok (.ireturn, 1) := by decide +kernel
theorem dX11_figure_90 : decode cX11_figure 90 = .ok (.aload_n 3, 1) := by decide +kernel
theorem dX11_figure_91 : decode cX11_figure 91 = .ok (.getfield 221, 3) := by decide +kernel
theorem dX11_figure_94 : decode cX11_figure 94 = .ok (.iconst 0, 1) := by decide +kernel
theorem dX11_figure_95 : decode cX11_figure 95 = .ok (.iaload, 1) := by decide +kernel
theorem dX11_figure_96 : decode cX11_figure 96 = .ok (.ireturn, 1) := by decide +kernel
theorem dX11_figure_97 : decode cX11_figure 97 = .ok (.aload_n 3, 1) := by decide +kernel
theorem dX11_figure_98 : decode cX11_figure 98 = .ok (.getfield 221, 3) := by decide +kernel
theorem dX11_figure_101 : decode cX11_figure 101 = .ok (.iconst 1, 1) := by decide +kernel
theorem dX11_figure_102 : decode cX11_figure 102 = .ok (.iaload, 1) := by decide +kernel
theorem dX11_figure_103 : decode cX11_figure 103 = .ok (.ireturn, 1) := by decide +kernel
theorem dX11_figure_104 : decode cX11_figure 104 = .ok (.aload_n 3, 1) := by decide +kernel
theorem dX11_figure_105 : decode cX11_figure 105 = .ok (.getfield 224, 3) := by decide +kernel
theorem dX11_figure_108 : decode cX11_figure 108 = .ok (.invokestatic 228, 3) := by decide +kernel
theorem dX11_figure_111 : decode cX11_figure 111 = .ok (.ireturn, 1) := by decide +kernel
theorem dX11_figure_112 : decode cX11_figure 112 = .ok (.aload_n 3, 1) := by decide +kernel
theorem dX11_figure_113 : decode cX11_figure 113 = .ok (.getfield 234, 3) := by decide +kernel
theorem dX11_figure_116 : decode cX11_figure 116 = .ok (.lconst 0, 1) := by decide +kernel
theorem dX11_figure_117 : decode cX11_figure 117 = .ok (.lcmp, 1) := by decide +kernel
theorem dX11_figure_118 : decode cX11_figure 118 = .ok (.ifCond .ne 7, 3) := by decide +kernel
theorem dX11_figure_121 : decode cX11_figure 121 = .ok (.iconst (-1), 1) := by decide +kernel
theorem dX11_figure_122 : decode cX11_figure 122 = .ok (.goto 8, 3) := by decide +kernel
theorem dX11_figure_125 : decode cX11_figure 125 = .ok (.aload_n 3, 1) := by decide +kernel
theorem dX11_figure_126 : decode cX11_figure 126 = .ok (.iconst 0, 1) := by decide +kernel
theorem dX11_figure_127 : decode cX11_figure 127 = .ok (.invokevirtual 237, 3) := by decide +kernel
theorem dX11_figure_130 : decode cX11_figure 130 = .ok (.ireturn, 1) := by decide +kernel
theorem dX11_figure_131 : decode cX11_figure 131 = .ok (.aload_n 3, 1) := by decide +kernel
theorem dX11_figure_132 : decode cX11_figure 132 = .ok (.iconst 0, 1) := by decide +kernel
theorem dX11_figure_133 : decode cX11_figure 133 = .ok (.invokevirtual 240, 3) := by decide +kernel
theorem dX11_figure_136 : decode cX11_figure 136 = .ok (.ireturn, 1) := by decide +kernel
theorem dX11_figure_137 : decode cX11_figure 137 = .ok (.aload_n 3, 1) := by decide +kernel
theorem dX11_figure_138 : decode cX11_figure 138 = .ok (.iconst 1, 1) := by decide +kernel
theorem dX11_figure_139 : decode cX11_figure 139 = .ok (.invokevirtual 240, 3) := by decide +kernel
theorem dX11_figure_142 : decode cX11_figure 142 = .ok (.ireturn, 1) := by decide +kernel
theorem dX11_figure_143 : decode cX11_figure 143 = .ok (.aload_n 3, 1) := by decide +kernel
theorem dX11_figure_144 : decode cX11_figure 144 = .ok (.invokevirtual 243, 3) := by decide +kernel
theorem dX11_figure_147 : decode cX11_figure 147 = .ok (.invokestatic 228, 3) := by decide +kernel
theorem dX11_figure_150 : decode cX11_figure 150 = .ok (.ireturn, 1) := by decide +kernel
def sX11_figure_10 (F : Nat) (h : Hp) : Option (Int32 × Hp) := some ((-101 : Int32), h)
def sX11_figure_130 (F : Nat) (h : Hp) (t0 : Int32) : Option (Int32 × Hp) := some (t0, h)
def sX11_figure (F : Nat) (h : Hp) (x0 : Nat) (x1 : Int32) (x2 : Int32) : Option (Int32 × Hp) := br (x2 < 0) (sX11_figure_10 F h ) (br (x2 ≤ (8 : Int32)) (cl (sX11_isPlace h x0 x1) fun o_3 => br (o_3.1 = 0) (some ((-102 : Int32), o_3.2)) (cl (hR o_3.2 x0 13) fun r_5 => gd (inB x1 (hN o_3.2 r_5)) <| cl (hR o_3.2 r_5 x1.toNatClampNeg) fun r_7 => br (x2 = (0 : Int32)) (some (hI o_3.2 r_7 5, o_3.2)) (br (x2 = (1 : Int32)) (some (hI o_3.2 r_7 6, o_3.2)) (br (x2 = (2 : Int32)) (cl (hR o_3.2 r_7 4) fun r_10 => gd (inB (0 : Int32) (hN o_3.2 r_10)) <| some (hI o_3.2 r_10 (0 : Int32).toNatClampNeg, o_3.2)) (br (x2 = (3 : Int32)) (cl (hR o_3.2 r_7 4) fun r_13 => gd (inB (1 : Int32) (hN o_3.2 r_13)) <| some (hI o_3.2 r_13 (1 : Int32).toNatClampNeg, o_3.2)) (br (x2 = (4 : Int32)) (cl (sJ13_bitCount_95d88 o_3.2 (hJ o_3.2 r_7 8)) fun o_16 => some (o_16.1, o_16.2)) (br (x2 = (5 : Int32)) (br ((lg_cmp (hJ o_3.2 r_7 9) (0 : Int64)) = 0) (sX11_figure_130 F o_3.2 (-1 : Int32)) (cl (sX3_passSquare o_3.2 r_7 (0 : Int32)) fun o_19 => sX11_figure_130 F o_19.2 o_19.1)) (br (x2 = (6 : Int32)) (cl (sX3_handSize F o_3.2 r_7 (0 : Int32)) fun o_21 => some (o_21.1, o_21.2)) (br (x2 = (7 : Int32)) (cl (sX3_handSize F o_3.2 r_7 (1 : Int32)) fun o_23 => some (o_23.1, o_23.2)) (cl (sX3_occupied o_3.2 r_7) fun o_25 => cl (sJ13_bitCount_95d88 o_25.2 o_25.1) fun o_26 => some (o_26.1, o_26.2))))))))))) (sX11_figure_10 F h ))
set_option maxRecDepth 20000 in
theorem bX11_figure_10 {p : Program} {l : Launch} {e : Env} {s : State} {m : MethodId} {args : Array Value} {below : List Frame} {meth : Method} {c : Code} {X : Ec} {h0 : Hp} {o : Int32 × Hp} {F : Nat} (C : Cx X p s m args meth c RX11 cX11_figure 4 (some .int) "figure") {h : Hp} {H : Heap} {locs : List Loc} (hkm : Km h0 h) (hW : Wx X h H) (hZ : va_S (aA (eB X)) s.heap H locs) (ls : Array Slot) (hl : lv_has ls 4 []) (hE : sX11_figure_10 F h  = some o) : W p l e (rm 2 45) s m args below meth c H locs 0 0 (MQ below (QI X h0 o.1 o.2) args s 0 0 (aA (eB X))) (F0 m 10 ls []) := by
  refine lv_bipush (v := (-101 : Int32)) C.1 C.2.1 dX11_figure_10 (by decide) ?_
  exact x_iret C rfl rfl hW hZ hkm hE dX11_figure_12
set_option maxRecDepth 20000 in
theorem bX11_figure_130 {p : Program} {l : Launch} {e : Env} {s : State} {m : MethodId} {args : Array Value} {below : List Frame} {meth : Method} {c : Code} {X : Ec} {h0 : Hp} {o : Int32 × Hp} {F : Nat} (C : Cx X p s m args meth c RX11 cX11_figure 4 (some .int) "figure") {h : Hp} {t0 : Int32} {H : Heap} {locs : List Loc} (hkm : Km h0 h) (hW : Wx X h H) (hZ : va_S (aA (eB X)) s.heap H locs) (ls : Array Slot) (hl : lv_has ls 4 []) (hE : sX11_figure_130 F h  t0 = some o) : W p l e (rm 2 45) s m args below meth c H locs 0 0 (MQ below (QI X h0 o.1 o.2) args s 0 0 (aA (eB X))) (F0 m 130 ls [.int t0]) := by
  exact x_iret C rfl rfl hW hZ hkm hE dX11_figure_130
set_option maxRecDepth 20000 in
theorem ct_X11_figure (l : Launch) (X : Ec) (F : Nat) {h : Hp} {x0 : Nat} {x1 : Int32} {x2 : Int32} {o : Int32 × Hp} (k_x0 : hK h x0 = 11) (hE : sX11_figure F h x0 x1 x2 = some o) : MetI l yX11_figure cX11_figure 4 (some .int) 2 45 X [.ref x0, .int x1, .int x2] h o := by
  refine x_met (by decide) (Nat.le_of_ble_eq_true rfl) ?_
  intro p e s m below meth c ls C hl hW hZ
  have hl : lv_has ls 4 [(0, .ref x0), (1, .int x1), (2, .int x2)] := hl
  have hkm : Km h h := Km.rf h
  refine lv_iload_n C.1 C.2.1 dX11_figure_0 rfl (lv_at hl 2 rfl) ?_
  refine lv_if_lt (tgt := 10) C.1 C.2.1 dX11_figure_1 (by decide) (fun c_1 => ?_) (fun c_1 => ?_)
  · have hE := br_p hE c_1
    exact bX11_figure_10 C hkm hW hZ _ (lv_sub hl [] rfl) hE
  · have hE := br_n hE c_1
    refine lv_iload_n C.1 C.2.1 dX11_figure_4 rfl (lv_at hl 2 rfl) ?_
    refine lv_bipush (v := (8 : Int32)) C.1 C.2.1 dX11_figure_5 (by decide) ?_
    refine lv_icmp_le (tgt := 13) C.1 C.2.1 dX11_figure_7 (by decide) (fun c_2 => ?_) (fun c_2 => ?_)
    · have hE := br_p hE c_2
      refine lv_aload_n C.1 C.2.1 dX11_figure_13 rfl (lv_at hl 0 rfl) ?_
      refine lv_iload_n C.1 C.2.1 dX11_figure_14 rfl (lv_at hl 1 rfl) ?_
      obtain ⟨o_3, eo_3, hE⟩ := cl_e hE
      refine x_kI (o := o_3) (z_runV (As := [.int x1]) (rest := []) C (ct_X11_isPlace l X k_x0 eo_3) cw_X11_193 hW hZ k_x0 (by decide) rfl rfl rfl hl.1 (Nat.le_of_ble_eq_true rfl) rfl dX11_figure_15 ⟨Nat.le_of_ble_eq_true rfl, Nat.le_of_ble_eq_true rfl⟩ ⟨Nat.le_refl _, Nat.le_refl _⟩) hZ (fun _ _ hW km hZ => ?_)
      replace hkm := hkm.tr km
      replace k_x0 := km.at k_x0 (by decide)
      refine lv_if_ne (tgt := 24) C.1 C.2.1 dX11_figure_18 (by decide) (fun c_4 => ?_) (fun c_4 => ?_)
      · have hE := br_n hE c_4
        refine lv_aload_n C.1 C.2.1 dX11_figure_24 rfl (lv_at hl 0 rfl) ?_
        obtain ⟨r_5, er_5, hE⟩ := cl_e hE
        refine gf_X11_103 C hW k_x0 er_5 dX11_figure_25 (fun k_r_5 => ?_)
        refine lv_iload_n C.1 C.2.1 dX11_figure_28 rfl (lv_at hl 1 rfl) ?_
        obtain ⟨g_6, hE⟩ := gd_e hE
        obtain ⟨r_7, er_7, hE⟩ := cl_e hE
        refine y_aald (t0 := 4) C hW k_r_5 (by decide) (by decide) rfl rfl rfl (fun _ => rfl) g_6 er_7 dX11_figure_29 (fun k_r_7 => ?_)
        refine lv_astore_n (lv' := [(3, .ref r_7), (0, .ref x0), (1, .int x1), (2, .int x2)]) C.1 C.2.1 dX11_figure_30 rfl hl (by decide) rfl (fun ls hl => ?_)
        refine lv_iload_n C.1 C.2.1 dX11_figure_31 rfl (lv_at hl 3 rfl) ?_
        by_cases c_8 : x2 = (0 : Int32)
        · have hE := br_p hE c_8
          refine lv_tableIn (off := 48) (tgt := 80) C.1 C.2.1 dX11_figure_32 (by rw [c_8]; decide) (by rw [c_8]; decide) (by rw [c_8]; rfl) (by decide) ?_
          refine lv_aload_n C.1 C.2.1 dX11_figure_80 rfl (lv_at hl 0 rfl) ?_
          refine gf_X11_215 C hW k_r_7 dX11_figure_81 ?_
          exact x_iret C rfl rfl hW hZ hkm hE dX11_figure_84
        have hE := br_n hE c_8
        by_cases c_9 : x2 = (1 : Int32)
        · have hE := br_p hE c_9
          refine lv_tableIn (off := 53) (tgt := 85) C.1 C.2.1 dX11_figure_32 (by rw [c_9]; decide) (by rw [c_9]; decide) (by rw [c_9]; rfl) (by decide) ?_
          refine lv_aload_n C.1 C.2.1 dX11_figure_85 rfl (lv_at hl 0 rfl) ?_
          refine gf_X11_218 C hW k_r_7 dX11_figure_86 ?_
          exact x_iret C rfl rfl hW hZ hkm hE dX11_figure_89
        have hE := br_n hE c_9
        by_cases c_12 : x2 = (2 : Int32)
        · have hE := br_p hE c_12
          refine lv_tableIn (off := 58) (tgt := 90) C.1 C.2.1 dX11_figure_32 (by rw [c_12]; decide) (by rw [c_12]; decide) (by rw [c_12]; rfl) (by decide) ?_
          refine lv_aload_n C.1 C.2.1 dX11_figure_90 rfl (lv_at hl 0 rfl) ?_
          obtain ⟨r_10, er_10, hE⟩ := cl_e hE
          refine gf_X11_221 C hW k_r_7 er_10 dX11_figure_91 (fun k_r_10 => ?_)
          refine lv_iconst (v := (0 : Int32)) C.1 C.2.1 dX11_figure_94 (by decide) ?_
          obtain ⟨g_11, hE⟩ := gd_e hE
          refine y_iald C hW k_r_10 g_11 dX11_figure_95 ?_
          exact x_iret C rfl rfl hW hZ hkm hE dX11_figure_96
        have hE := br_n hE c_12
        by_cases c_15 : x2 = (3 : Int32)
        · have hE := br_p hE c_15
          refine lv_tableIn (off := 65) (tgt := 97) C.1 C.2.1 dX11_figure_32 (by rw [c_15]; decide) (by rw [c_15]; decide) (by rw [c_15]; rfl) (by decide) ?_
          refine lv_aload_n C.1 C.2.1 dX11_figure_97 rfl (lv_at hl 0 rfl) ?_
          obtain ⟨r_13, er_13, hE⟩ := cl_e hE
          refine gf_X11_221 C hW k_r_7 er_13 dX11_figure_98 (fun k_r_13 => ?_)
          refine lv_iconst (v := (1 : Int32)) C.1 C.2.1 dX11_figure_101 (by decide) ?_
          obtain ⟨g_14, hE⟩ := gd_e hE
          refine y_iald C hW k_r_13 g_14 dX11_figure_102 ?_
          exact x_iret C rfl rfl hW hZ hkm hE dX11_figure_103
        have hE := br_n hE c_15
        by_cases c_17 : x2 = (4 : Int32)
        · have hE := br_p hE c_17
          refine lv_tableIn (off := 72) (tgt := 104) C.1 C.2.1 dX11_figure_32 (by rw [c_17]; decide) (by rw [c_17]; decide) (by rw [c_17]; rfl) (by decide) ?_
          refine lv_aload_n C.1 C.2.1 dX11_figure_104 rfl (lv_at hl 0 rfl) ?_
          refine gf_X11_224 C hW k_r_7 dX11_figure_105 ?_
          obtain ⟨o_16, eo_16, hE⟩ := cl_e hE
          refine x_kI (o := o_16) (z_runS (As := [.long (hJ o_3.2 r_7 8)]) (rest := []) C (ct_J13_bitCount_95d88 l X eo_16) cw_X11_228 hW hZ rfl hl.1 (Nat.le_of_ble_eq_true rfl) rfl dX11_figure_108 ⟨Nat.le_of_ble_eq_true rfl, Nat.le_of_ble_eq_true rfl⟩ ⟨Nat.le_refl _, Nat.le_refl _⟩) hZ (fun _ _ hW km hZ => ?_)
          replace hkm := hkm.tr km
          replace k_r_7 := km.at k_r_7 (by decide)
          replace k_x0 := km.at k_x0 (by decide)
          exact x_iret C rfl rfl hW hZ hkm hE dX11_figure_111
        have hE := br_n hE c_17
        by_cases c_20 : x2 = (5 : Int32)
        · have hE := br_p hE c_20
          refine lv_tableIn (off := 80) (tgt := 112) C.1 C.2.1 dX11_figure_32 (by rw [c_20]; decide) (by rw [c_20]; decide) (by rw [c_20]; rfl) (by decide) ?_
          refine lv_aload_n C.1 C.2.1 dX11_figure_112 rfl (lv_at hl 0 rfl) ?_
          refine gf_X11_234 C hW k_r_7 dX11_figure_113 ?_
          refine lv_lconst (v := (0 : Int64)) C.1 C.2.1 dX11_figure_116 (by decide) ?_
          refine W.lcmp C.1 C.2.1 dX11_figure_117 ?_
          refine lv_if_ne (tgt := 125) C.1 C.2.1 dX11_figure_118 (by decide) (fun c_18 => ?_) (fun c_18 => ?_)
          · have hE := br_n hE c_18
            refine lv_aload_n C.1 C.2.1 dX11_figure_125 rfl (lv_at hl 0 rfl) ?_
            refine lv_iconst (v := (0 : Int32)) C.1 C.2.1 dX11_figure_126 (by decide) ?_
            obtain ⟨o_19, eo_19, hE⟩ := cl_e hE
            refine x_kI (o := o_19) (z_runV (As := [.int (0 : Int32)]) (rest := []) C (ct_X3_passSquare l X k_r_7 eo_19) cw_X11_237 hW hZ k_r_7 (by decide) rfl rfl rfl hl.1 (Nat.le_of_ble_eq_true rfl) rfl dX11_figure_127 ⟨Nat.le_of_ble_eq_true rfl, Nat.le_of_ble_eq_true rfl⟩ ⟨Nat.le_refl _, Nat.le_refl _⟩) hZ (fun _ _ hW km hZ => ?_)
            replace hkm := hkm.tr km
            replace k_r_7 := km.at k_r_7 (by decide)
            replace k_x0 := km.at k_x0 (by decide)
            exact bX11_figure_130 C hkm hW hZ _ (lv_sub hl [] rfl) hE
          · have hE := br_p hE c_18
            refine lv_iconst (v := (-1 : Int32)) C.1 C.2.1 dX11_figure_121 (by decide) ?_
            refine lv_goto (tgt := 130) C.1 C.2.1 dX11_figure_122 (by decide) ?_
            exact bX11_figure_130 C hkm hW hZ _ (lv_sub hl [] rfl) hE
        have hE := br_n hE c_20
        by_cases c_22 : x2 = (6 : Int32)
        · have hE := br_p hE c_22
          refine lv_tableIn (off := 99) (tgt := 131) C.1 C.2.1 dX11_figure_32 (by rw [c_22]; decide) (by rw [c_22]; decide) (by rw [c_22]; rfl) (by decide) ?_
          refine lv_aload_n C.1 C.2.1 dX11_figure_131 rfl (lv_at hl 0 rfl) ?_
          refine lv_iconst (v := (0 : Int32)) C.1 C.2.1 dX11_figure_132 (by decide) ?_
          obtain ⟨o_21, eo_21, hE⟩ := cl_e hE
          refine x_kI (o := o_21) (z_runV (As := [.int (0 : Int32)]) (rest := []) C (ct_X3_handSize l X F k_r_7 eo_21) cw_X11_240 hW hZ k_r_7 (by decide) rfl rfl rfl hl.1 (Nat.le_of_ble_eq_true rfl) rfl dX11_figure_133 ⟨Nat.le_of_ble_eq_true rfl, Nat.le_of_ble_eq_true rfl⟩ ⟨Nat.le_refl _, Nat.le_refl _⟩) hZ (fun _ _ hW km hZ => ?_)
          replace hkm := hkm.tr km
          replace k_r_7 := km.at k_r_7 (by decide)
          replace k_x0 := km.at k_x0 (by decide)
          exact x_iret C rfl rfl hW hZ hkm hE dX11_figure_136
        have hE := br_n hE c_22
        by_cases c_24 : x2 = (7 : Int32)
        · have hE := br_p hE c_24
          refine lv_tableIn (off := 105) (tgt := 137) C.1 C.2.1 dX11_figure_32 (by rw [c_24]; decide) (by rw [c_24]; decide) (by rw [c_24]; rfl) (by decide) ?_
          refine lv_aload_n C.1 C.2.1 dX11_figure_137 rfl (lv_at hl 0 rfl) ?_
          refine lv_iconst (v := (1 : Int32)) C.1 C.2.1 dX11_figure_138 (by decide) ?_
          obtain ⟨o_23, eo_23, hE⟩ := cl_e hE
          refine x_kI (o := o_23) (z_runV (As := [.int (1 : Int32)]) (rest := []) C (ct_X3_handSize l X F k_r_7 eo_23) cw_X11_240 hW hZ k_r_7 (by decide) rfl rfl rfl hl.1 (Nat.le_of_ble_eq_true rfl) rfl dX11_figure_139 ⟨Nat.le_of_ble_eq_true rfl, Nat.le_of_ble_eq_true rfl⟩ ⟨Nat.le_refl _, Nat.le_refl _⟩) hZ (fun _ _ hW km hZ => ?_)
          replace hkm := hkm.tr km
          replace k_r_7 := km.at k_r_7 (by decide)
          replace k_x0 := km.at k_x0 (by decide)
          exact x_iret C rfl rfl hW hZ hkm hE dX11_figure_142
        have hE := br_n hE c_24
        refine lv_tableOut (tgt := 143) C.1 C.2.1 dX11_figure_32 (by have zc_8 := lv_neT (a := 0) c_8 (by decide); have zc_9 := lv_neT (a := 1) c_9 (by decide); have zc_12 := lv_neT (a := 2) c_12 (by decide); have zc_15 := lv_neT (a := 3) c_15 (by decide); have zc_17 := lv_neT (a := 4) c_17 (by decide); have zc_20 := lv_neT (a := 5) c_20 (by decide); have zc_22 := lv_neT (a := 6) c_22 (by decide); have zc_24 := lv_neT (a := 7) c_24 (by decide); omega) (by decide) ?_
        refine lv_aload_n C.1 C.2.1 dX11_figure_143 rfl (lv_at hl 0 rfl) ?_
        obtain ⟨o_25, eo_25, hE⟩ := cl_e hE
        refine x_kJ (o := o_25) (z_runV (As := []) (rest := []) C (ct_X3_occupied l X k_r_7 eo_25) cw_X11_243 hW hZ k_r_7 (by decide) rfl rfl rfl hl.1 (Nat.le_of_ble_eq_true rfl) rfl dX11_figure_144 ⟨Nat.le_of_ble_eq_true rfl, Nat.le_of_ble_eq_true rfl⟩ ⟨Nat.le_refl _, Nat.le_refl _⟩) hZ (fun _ _ hW km hZ => ?_)
        replace hkm := hkm.tr km
        replace k_r_7 := km.at k_r_7 (by decide)
        replace k_x0 := km.at k_x0 (by decide)
        obtain ⟨o_26, eo_26, hE⟩ := cl_e hE
        refine x_kI (o := o_26) (z_runS (As := [.long o_25.1]) (rest := []) C (ct_J13_bitCount_95d88 l X eo_26) cw_X11_228 hW hZ rfl hl.1 (Nat.le_of_ble_eq_true rfl) rfl dX11_figure_147 ⟨Nat.le_of_ble_eq_true rfl, Nat.le_of_ble_eq_true rfl⟩ ⟨Nat.le_refl _, Nat.le_refl _⟩) hZ (fun _ _ hW km hZ => ?_)
        replace hkm := hkm.tr km
        replace k_r_7 := km.at k_r_7 (by decide)
        replace k_x0 := km.at k_x0 (by decide)
        exact x_iret C rfl rfl hW hZ hkm hE dX11_figure_150
      · have hE := br_p hE c_4
        refine lv_bipush (v := (-102 : Int32)) C.1 C.2.1 dX11_figure_21 (by decide) ?_
        exact x_iret C rfl rfl hW hZ hkm hE dX11_figure_23
    · have hE := br_n hE c_2
      exact bX11_figure_10 C hkm hW hZ _ (lv_sub hl [] rfl) hE
theorem dX11_isSide_0 : decode cX11_isSide 0 = .ok (.iload_n 0, 1) := by decide +kernel
theorem dX11_isSide_1 : decode cX11_isSide 1 = .ok (.ifCond .eq 8, 3) := by decide +kernel
theorem dX11_isSide_4 : decode cX11_isSide 4 = .ok (.iload_n 0, 1) := by decide +kernel
theorem dX11_isSide_5 : decode cX11_isSide 5 = .ok (.iconst 1, 1) := by decide +kernel
theorem dX11_isSide_6 : decode cX11_isSide 6 = .ok (.if_icmp .ne 7, 3) := by decide +kernel
theorem dX11_isSide_9 : decode cX11_isSide 9 = .ok (.iconst 1, 1) := by decide +kernel
theorem dX11_isSide_10 : decode cX11_isSide 10 = .ok (.goto 4, 3) := by decide +kernel
theorem dX11_isSide_13 : decode cX11_isSide 13 = .ok (.iconst 0, 1) := by decide +kernel
theorem dX11_isSide_14 : decode cX11_isSide 14 = .ok (.ireturn, 1) := by decide +kernel
def sX11_isSide_14 (h : Hp) (t0 : Int32) : Option (Int32 × Hp) := gd (t0 &&& 1 = t0) <| some (t0, h)
def sX11_isSide_9 (h : Hp) : Option (Int32 × Hp) := sX11_isSide_14  h (1 : Int32)
def sX11_isSide (h : Hp) (x0 : Int32) : Option (Int32 × Hp) := br (x0 = 0) (sX11_isSide_9  h ) (br (x0 = (1 : Int32)) (sX11_isSide_9  h ) (sX11_isSide_14  h (0 : Int32)))
set_option maxRecDepth 20000 in
theorem bX11_isSide_14 {p : Program} {l : Launch} {e : Env} {s : State} {m : MethodId} {args : Array Value} {below : List Frame} {meth : Method} {c : Code} {X : Ec} {h0 : Hp} {o : Int32 × Hp} (C : Cx X p s m args meth c RX11 cX11_isSide 1 (some .boolean) "isSide") {h : Hp} {t0 : Int32} {H : Heap} {locs : List Loc} (hkm : Km h0 h) (hW : Wx X h H) (hZ : va_S (aA (eB X)) s.heap H locs) (ls : Array Slot) (hl : lv_has ls 1 []) (hE : sX11_isSide_14 h  t0 = some o) : W p l e (rm 0 0) s m args below meth c H locs 0 0 (MQ below (QI X h0 o.1 o.2) args s 0 0 (aA (eB X))) (F0 m 14 ls [.int t0]) := by
  obtain ⟨g_1, hE⟩ := gd_e hE
  exact x_iret C rfl (narB g_1) hW hZ hkm hE dX11_isSide_14
set_option maxRecDepth 20000 in
theorem bX11_isSide_9 {p : Program} {l : Launch} {e : Env} {s : State} {m : MethodId} {args : Array Value} {below : List Frame} {meth : Method} {c : Code} {X : Ec} {h0 : Hp} {o : Int32 × Hp} (C : Cx X p s m args meth c RX11 cX11_isSide 1 (some .boolean) "isSide") {h : Hp} {H : Heap} {locs : List Loc} (hkm : Km h0 h) (hW : Wx X h H) (hZ : va_S (aA (eB X)) s.heap H locs) (ls : Array Slot) (hl : lv_has ls 1 []) (hE : sX11_isSide_9 h  = some o) : W p l e (rm 0 0) s m args below meth c H locs 0 0 (MQ below (QI X h0 o.1 o.2) args s 0 0 (aA (eB X))) (F0 m 9 ls []) := by
  refine lv_iconst (v := (1 : Int32)) C.1 C.2.1 dX11_isSide_9 (by decide) ?_
  refine lv_goto (tgt := 14) C.1 C.2.1 dX11_isSide_10 (by decide) ?_
  exact bX11_isSide_14 C hkm hW hZ _ (lv_sub hl [] rfl) hE
set_option maxRecDepth 20000 in
theorem ct_X11_isSide (l : Launch) (X : Ec) {h : Hp} {x0 : Int32} {o : Int32 × Hp} (hE : sX11_isSide h x0 = some o) : MetI l yX11_isSide cX11_isSide 1 (some .boolean) 0 0 X [.int x0] h o := by
  refine x_met (by decide) (Nat.le_of_ble_eq_true rfl) ?_
  intro p e s m below meth c ls C hl hW hZ
  have hl : lv_has ls 1 [(0, .int x0)] := hl
  have hkm : Km h h := Km.rf h
  refine lv_iload_n C.1 C.2.1 dX11_isSide_0 rfl (lv_at hl 0 rfl) ?_
  refine lv_if_eq (tgt := 9) C.1 C.2.1 dX11_isSide_1 (by decide) (fun c_1 => ?_) (fun c_1 => ?_)
  · have hE := br_p hE c_1
    exact bX11_isSide_9 C hkm hW hZ _ (lv_sub hl [] rfl) hE
  · have hE := br_n hE c_1
    refine lv_iload_n C.1 C.2.1 dX11_isSide_4 rfl (lv_at hl 0 rfl) ?_
    refine lv_iconst (v := (1 : Int32)) C.1 C.2.1 dX11_isSide_5 (by decide) ?_
    refine lv_icmp_ne (tgt := 13) C.1 C.2.1 dX11_isSide_6 (by decide) (fun c_2 => ?_) (fun c_2 => ?_)
    · have hE := br_n hE c_2
      refine lv_iconst (v := (0 : Int32)) C.1 C.2.1 dX11_isSide_13 (by decide) ?_
      exact bX11_isSide_14 C hkm hW hZ _ (lv_sub hl [] rfl) hE
    · have hE := br_p hE c_2
      exact bX11_isSide_9 C hkm hW hZ _ (lv_sub hl [] rfl) hE
theorem m_1310 : Cond.methodLink RX11 247 yX11_isSide ∈ W0 := w0_in (List.mem_append_right _ (List.mem_of_getElem? (i := 1310) (by decide +kernel))) rfl
theorem m_1311 : Cond.static yX11_isSide ∈ W0 := w0_in (List.mem_append_right _ (List.mem_of_getElem? (i := 1311) (by decide +kernel))) rfl
theorem m_1312 : Cond.code yX11_isSide cX11_isSide 1 (some .boolean) ∈ W0 := w0_in (List.mem_append_right _ (List.mem_of_getElem? (i := 1312) (by decide +kernel))) rfl
theorem m_1313 : Cond.methodLink RX11 250 yX5_isHit ∈ W0 := w0_in (List.mem_append_right _ (List.mem_of_getElem? (i := 1313) (by decide +kernel))) rfl
theorem cw_X11_247 : cwd RX11 247 yX11_isSide cX11_isSide 1 (some .boolean) true 1 := ⟨m_1312, m_1310, m_1, m_1311, by decide, by decide, by decide +kernel⟩
theorem cw_X11_250 : cwd RX11 250 yX5_isHit cX5_isHit 19 (some .boolean) false 3 := ⟨m_1096, m_1313, m_7, ⟨m_1094, m_1095⟩, by decide, by decide, by decide +kernel⟩
theorem dX11_attacked_0 : decode cX11_attacked 0 = .ok (.aload_n 0, 1) := by decide +kernel
theorem dX11_attacked_1 : decode cX11_attacked 1 = .ok (.iload_n 2, 1) := by decide +kernel
theorem dX11_attacked_2 : decode cX11_attacked 2 = .ok (.invokevirtual 208, 3) := by decide +kernel
theorem dX11_attacked_5 : decode cX11_attacked 5 = .ok (.ifCond .eq 10, 3) := by decide +kernel
theorem dX11_attacked_8 : decode cX11_attacked 8 = .ok (.iload_n 3, 1) := by decide +kernel
theorem dX11_attacked_9 : decode cX11_attacked 9 = .ok (.invokestatic 247, 3) := by decide +kernel
theorem dX11_attacked_12 : decode cX11_attacked 12 = .ok (.ifCond .ne 6, 3) := by decide +kernel
theorem dX11_attacked_15 : decode cX11_attacked 15 = .ok (.bipush (-101), 2) := by decide +kernel
theorem dX11_attacked_17 : decode cX11_attacked 17 = .ok (.ireturn, 1) := by decide +kernel
theorem dX11_attacked_18 : decode cX11_attacked 18 = .ok (.aload_n 0, 1) := by decide +kernel
theorem dX11_attacked_19 : decode cX11_attacked 19 = .ok (.iload_n 1, 1) := by decide +kernel
theorem dX11_attacked_20 : decode cX11_attacked 20 = .ok (.invokevirtual 193, 3) := by decide +kernel
theorem dX11_attacked_23 : decode cX11_attacked 23 = .ok (.ifCond .ne 6, 3) := by decide +kernel
theorem dX11_attacked_26 : decode cX11_attacked 26 = .ok (.bipush (-102), 2) := by decide +kernel
theorem dX11_attacked_28 : decode cX11_attacked 28 = .ok (.ireturn, 1) := by decide +kernel
theorem dX11_attacked_29 : decode cX11_attacked 29 = .ok (.aload_n 0, 1) := by decide +kernel
theorem dX11_attacked_30 : decode cX11_attacked 30 = .ok (.getfield 50, 3) := by decide +kernel
theorem dX11_attacked_33 : decode cX11_attacked 33 = .ok (.aload_n 0, 1) := by decide +kernel
theorem dX11_attacked_34 : decode cX11_attacked 34 = .ok (.getfield 103, 3) := by decide +kernel
theorem dX11_attacked_37 : decode cX11_attacked 37 = .ok (.iload_n 1, 1) := by decide +kernel
theorem dX11_attacked_38 : decode cX11_attacked 38 = .ok (.aaload, 1) := by decide +kernel
theorem dX11_attacked_39 : decode cX11_attacked 39 = .ok (.iload_n 2, 1) := by decide +kernel
theorem dX11_attacked_40 : decode cX11_attacked 40 = .ok (.iload_n 3, 1) := by decide +kernel
theorem dX11_attacked_41 : decode cX11_attacked 41 = .ok (.invokevirtual 250, 3) := by decide +kernel
theorem dX11_attacked_44 : decode cX11_attacked 44 = .ok (.ifCond .eq 7, 3) := by decide +kernel
theorem dX11_attacked_47 : decode cX11_attacked 47 = .ok (.iconst 1, 1) := by decide +kernel
theorem dX11_attacked_48 : decode cX11_attacked 48 = .ok (.goto 4, 3) := by decide +kernel
theorem dX11_attacked_51 : decode cX11_attacked 51 = .ok (.iconst 0, 1) := by decide +kernel
theorem dX11_attacked_52 : decode cX11_attacked 52 = .ok (.ireturn, 1) := by decide +kernel
def sX11_attacked_15 (F : Nat) (h : Hp) : Option (Int32 × Hp) := some ((-101 : Int32), h)
def sX11_attacked_52 (F : Nat) (h : Hp) (t0 : Int32) : Option (Int32 × Hp) := some (t0, h)
def sX11_attacked (F : Nat) (h : Hp) (x0 : Nat) (x1 : Int32) (x2 : Int32) (x3 : Int32) : Option (Int32 × Hp) := cl (sX11_isSquare h x0 x2) fun o_1 => br (o_1.1 = 0) (sX11_attacked_15 F o_1.2 ) (cl (sX11_isSide o_1.2 x3) fun o_3 => br (o_3.1 = 0) (sX11_attacked_15 F o_3.2 ) (cl (sX11_isPlace o_3.2 x0 x1) fun o_5 => br (o_5.1 = 0) (some ((-102 : Int32), o_5.2)) (cl (hR o_5.2 x0 6) fun r_7 => cl (hR o_5.2 x0 13) fun r_8 => gd (inB x1 (hN o_5.2 r_8)) <| cl (hR o_5.2 r_8 x1.toNatClampNeg) fun r_10 => cl (sX5_isHit F o_5.2 r_7 r_10 x2 x3) fun o_11 => br (o_11.1 = 0) (sX11_attacked_52 F o_11.2 (0 : Int32)) (sX11_attacked_52 F o_11.2 (1 : Int32)))))
set_option maxRecDepth 20000 in
theorem bX11_attacked_15 {p : Program} {l : Launch} {e : Env} {s : State} {m : MethodId} {args : Array Value} {below : List Frame} {meth : Method} {c : Code} {X : Ec} {h0 : Hp} {o : Int32 × Hp} {F : Nat} (C : Cx X p s m args meth c RX11 cX11_attacked 4 (some .int) "attacked") {h : Hp} {H : Heap} {locs : List Loc} (hkm : Km h0 h) (hW : Wx X h H) (hZ : va_S (aA (eB X)) s.heap H locs) (ls : Array Slot) (hl : lv_has ls 4 []) (hE : sX11_attacked_15 F h  = some o) : W p l e (rm 1 38) s m args below meth c H locs 0 0 (MQ below (QI X h0 o.1 o.2) args s 0 0 (aA (eB X))) (F0 m 15 ls []) := by
  refine lv_bipush (v := (-101 : Int32)) C.1 C.2.1 dX11_attacked_15 (by decide) ?_
  exact x_iret C rfl rfl hW hZ hkm hE dX11_attacked_17
set_option maxRecDepth 20000 in
theorem bX11_attacked_52 {p : Program} {l : Launch} {e : Env} {s : State} {m : MethodId} {args : Array Value} {below : List Frame} {meth : Method} {c : Code} {X : Ec} {h0 : Hp} {o : Int32 × Hp} {F : Nat} (C : Cx X p s m args meth c RX11 cX11_attacked 4 (some .int) "attacked") {h : Hp} {t0 : Int32} {H : Heap} {locs : List Loc} (hkm : Km h0 h) (hW : Wx X h H) (hZ : va_S (aA (eB X)) s.heap H locs) (ls : Array Slot) (hl : lv_has ls 4 []) (hE : sX11_attacked_52 F h  t0 = some o) : W p l e (rm 1 38) s m args below meth c H locs 0 0 (MQ below (QI X h0 o.1 o.2) args s 0 0 (aA (eB X))) (F0 m 52 ls [.int t0]) := by
  exact x_iret C rfl rfl hW hZ hkm hE dX11_attacked_52
set_option maxRecDepth 20000 in
theorem ct_X11_attacked (l : Launch) (X : Ec) (F : Nat) {h : Hp} {x0 : Nat} {x1 : Int32} {x2 : Int32} {x3 : Int32} {o : Int32 × Hp} (k_x0 : hK h x0 = 11) (hE : sX11_attacked F h x0 x1 x2 x3 = some o) : MetI l yX11_attacked cX11_attacked 4 (some .int) 1 38 X [.ref x0, .int x1, .int x2, .int x3] h o := by
  refine x_met (by decide) (Nat.le_of_ble_eq_true rfl) ?_
  intro p e s m below meth c ls C hl hW hZ
  have hl : lv_has ls 4 [(0, .ref x0), (1, .int x1), (2, .int x2), (3, .int x3)] := hl
  have hkm : Km h h := Km.rf h
  refine lv_aload_n C.1 C.2.1 dX11_attacked_0 rfl (lv_at hl 0 rfl) ?_
  refine lv_iload_n C.1 C.2.1 dX11_attacked_1 rfl (lv_at hl 2 rfl) ?_
  obtain ⟨o_1, eo_1, hE⟩ := cl_e hE
  refine x_kI (o := o_1) (z_runV (As := [.int x2]) (rest := []) C (ct_X11_isSquare l X k_x0 eo_1) cw_X11_208 hW hZ k_x0 (by decide) rfl rfl rfl hl.1 (Nat.le_of_ble_eq_true rfl) rfl dX11_attacked_2 ⟨Nat.le_of_ble_eq_true rfl, Nat.le_of_ble_eq_true rfl⟩ ⟨Nat.le_refl _, Nat.le_refl _⟩) hZ (fun _ _ hW km hZ => ?_)
  replace hkm := hkm.tr km
  replace k_x0 := km.at k_x0 (by decide)
  refine lv_if_eq (tgt := 15) C.1 C.2.1 dX11_attacked_5 (by decide) (fun c_2 => ?_) (fun c_2 => ?_)
  · have hE := br_p hE c_2
    exact bX11_attacked_15 C hkm hW hZ _ (lv_sub hl [] rfl) hE
  · have hE := br_n hE c_2
    refine lv_iload_n C.1 C.2.1 dX11_attacked_8 rfl (lv_at hl 3 rfl) ?_
    obtain ⟨o_3, eo_3, hE⟩ := cl_e hE
    refine x_kI (o := o_3) (z_runS (As := [.int x3]) (rest := []) C (ct_X11_isSide l X eo_3) cw_X11_247 hW hZ rfl hl.1 (Nat.le_of_ble_eq_true rfl) rfl dX11_attacked_9 ⟨Nat.le_of_ble_eq_true rfl, Nat.le_of_ble_eq_true rfl⟩ ⟨Nat.le_refl _, Nat.le_refl _⟩) hZ (fun _ _ hW km hZ => ?_)
    replace hkm := hkm.tr km
    replace k_x0 := km.at k_x0 (by decide)
    refine lv_if_ne (tgt := 18) C.1 C.2.1 dX11_attacked_12 (by decide) (fun c_4 => ?_) (fun c_4 => ?_)
    · have hE := br_n hE c_4
      refine lv_aload_n C.1 C.2.1 dX11_attacked_18 rfl (lv_at hl 0 rfl) ?_
      refine lv_iload_n C.1 C.2.1 dX11_attacked_19 rfl (lv_at hl 1 rfl) ?_
      obtain ⟨o_5, eo_5, hE⟩ := cl_e hE
      refine x_kI (o := o_5) (z_runV (As := [.int x1]) (rest := []) C (ct_X11_isPlace l X k_x0 eo_5) cw_X11_193 hW hZ k_x0 (by decide) rfl rfl rfl hl.1 (Nat.le_of_ble_eq_true rfl) rfl dX11_attacked_20 ⟨Nat.le_of_ble_eq_true rfl, Nat.le_of_ble_eq_true rfl⟩ ⟨Nat.le_refl _, Nat.le_refl _⟩) hZ (fun _ _ hW km hZ => ?_)
      replace hkm := hkm.tr km
      replace k_x0 := km.at k_x0 (by decide)
      refine lv_if_ne (tgt := 29) C.1 C.2.1 dX11_attacked_23 (by decide) (fun c_6 => ?_) (fun c_6 => ?_)
      · have hE := br_n hE c_6
        refine lv_aload_n C.1 C.2.1 dX11_attacked_29 rfl (lv_at hl 0 rfl) ?_
        obtain ⟨r_7, er_7, hE⟩ := cl_e hE
        refine gf_X11_50 C hW k_x0 er_7 dX11_attacked_30 (fun k_r_7 => ?_)
        refine lv_aload_n C.1 C.2.1 dX11_attacked_33 rfl (lv_at hl 0 rfl) ?_
        obtain ⟨r_8, er_8, hE⟩ := cl_e hE
        refine gf_X11_103 C hW k_x0 er_8 dX11_attacked_34 (fun k_r_8 => ?_)
        refine lv_iload_n C.1 C.2.1 dX11_attacked_37 rfl (lv_at hl 1 rfl) ?_
        obtain ⟨g_9, hE⟩ := gd_e hE
        obtain ⟨r_10, er_10, hE⟩ := cl_e hE
        refine y_aald (t0 := 4) C hW k_r_8 (by decide) (by decide) rfl rfl rfl (fun _ => rfl) g_9 er_10 dX11_attacked_38 (fun k_r_10 => ?_)
        refine lv_iload_n C.1 C.2.1 dX11_attacked_39 rfl (lv_at hl 2 rfl) ?_
        refine lv_iload_n C.1 C.2.1 dX11_attacked_40 rfl (lv_at hl 3 rfl) ?_
        obtain ⟨o_11, eo_11, hE⟩ := cl_e hE
        refine x_kI (o := o_11) (z_runV (As := [.ref r_10, .int x2, .int x3]) (rest := []) C (ct_X5_isHit l X F k_r_7 k_r_10 eo_11) cw_X11_250 hW hZ k_r_7 (by decide) rfl rfl rfl hl.1 (Nat.le_of_ble_eq_true rfl) rfl dX11_attacked_41 ⟨Nat.le_of_ble_eq_true rfl, Nat.le_of_ble_eq_true rfl⟩ ⟨Nat.le_refl _, Nat.le_refl _⟩) hZ (fun _ _ hW km hZ => ?_)
        replace hkm := hkm.tr km
        replace k_x0 := km.at k_x0 (by decide)
        refine lv_if_eq (tgt := 51) C.1 C.2.1 dX11_attacked_44 (by decide) (fun c_12 => ?_) (fun c_12 => ?_)
        · have hE := br_p hE c_12
          refine lv_iconst (v := (0 : Int32)) C.1 C.2.1 dX11_attacked_51 (by decide) ?_
          exact bX11_attacked_52 C hkm hW hZ _ (lv_sub hl [] rfl) hE
        · have hE := br_n hE c_12
          refine lv_iconst (v := (1 : Int32)) C.1 C.2.1 dX11_attacked_47 (by decide) ?_
          refine lv_goto (tgt := 52) C.1 C.2.1 dX11_attacked_48 (by decide) ?_
          exact bX11_attacked_52 C hkm hW hZ _ (lv_sub hl [] rfl) hE
      · have hE := br_p hE c_6
        refine lv_bipush (v := (-102 : Int32)) C.1 C.2.1 dX11_attacked_26 (by decide) ?_
        exact x_iret C rfl rfl hW hZ hkm hE dX11_attacked_28
    · have hE := br_p hE c_4
      exact bX11_attacked_15 C hkm hW hZ _ (lv_sub hl [] rfl) hE
theorem m_1322 : Cond.methodLink RX11 329 yX5_collect ∈ W0 := w0_in (List.mem_append_right _ (List.mem_of_getElem? (i := 1322) (by decide +kernel))) rfl
section
variable {p : Program} {l : Launch} {e : Env} {R : Room} {s : State} {m : MethodId} {args : Array Value} {below : List Frame} {meth : Method} {c : Code} {H : Heap} {locs : List Loc} {cells slots : Nat} {Q : State → Prop}
variable {cc : ByteArray} {pc : Nat} {ls : Array Slot} {rest : List Value} {X : Ec} {h h1 : Hp} {nL : Nat} {rt : Option FieldType} {mn : String}
theorem gf_X11_97 {a r : Nat} (C : Cx X p s m args meth c RX11 cc nL rt mn) (hW : Wx X h H) (ha : hK h a = 11) (hr : hR h a 12 = some r) (hdg : decode cc pc = .ok (.getfield 97, 3)) (kk : hK h r = 17 → W p l e R s m args below meth c H locs cells slots Q (F0 m (pc + 3) ls (.ref r :: rest))) : W p l e R s m args below meth c H locs cells slots Q (F0 m pc ls (.ref a :: rest)) :=
  y_getr C hW ha i_X11 (by decide) rfl (by decide) m_864 rfl rfl hr hdg kk
end
theorem cw_X11_329 : cwd RX11 329 yX5_collect cX5_collect 9 (some .int) false 3 := ⟨m_1163, m_1322, m_7, ⟨m_1161, m_1162⟩, by decide, by decide, by decide +kernel⟩
theorem dX11_listMoves_0 : decode cX11_listMoves 0 = .ok (.aload_n 0, 1) := by decide +kernel
theorem dX11_listMoves_1 : decode cX11_listMoves 1 = .ok (.iload_n 1, 1) := by decide +kernel
theorem dX11_listMoves_2 : decode cX11_listMoves 2 = .ok (.invokevirtual 193, 3) := by decide +kernel
theorem dX11_listMoves_5 : decode cX11_listMoves 5 = .ok (.ifCond .eq 26, 3) := by decide +kernel
theorem dX11_listMoves_8 : decode cX11_listMoves 8 = .ok (.aload_n 0, 1) := by decide +kernel
theorem dX11_listMoves_9 : decode cX11_listMoves 9 = .ok (.getfield 50, 3) := by decide +kernel
theorem dX11_listMoves_12 : decode cX11_listMoves 12 = .ok (.aload_n 0, 1) := by decide +kernel
theorem dX11_listMoves_13 : decode cX11_listMoves 13 = .ok (.getfield 103, 3) := by decide +kernel
theorem dX11_listMoves_16 : decode cX11_listMoves 16 = .ok (.iload_n 1, 1) := by decide +kernel
theorem dX11_listMoves_17 : decode cX11_listMoves 17 = .ok (.aaload, 1) := by decide +kernel
theorem dX11_listMoves_18 : decode cX11_listMoves 18 = .ok (.aload_n 0, 1) := by decide +kernel
theorem dX11_listMoves_19 : decode cX11_listMoves 19 = .ok (.getfield 97, 3) := by decide +kernel
theorem dX11_listMoves_22 : decode cX11_listMoves 22 = .ok (.sipush 4096, 3) := by decide +kernel
theorem dX11_listMoves_25 : decode cX11_listMoves 25 = .ok (.invokevirtual 329, 3) := by decide +kernel
theorem dX11_listMoves_28 : decode cX11_listMoves 28 = .ok (.goto 4, 3) := by decide +kernel
theorem dX11_listMoves_31 : decode cX11_listMoves 31 = .ok (.iconst 0, 1) := by decide +kernel
theorem dX11_listMoves_32 : decode cX11_listMoves 32 = .ok (.ireturn, 1) := by decide +kernel
def sX11_listMoves_32 (F : Nat) (h : Hp) (t0 : Int32) : Option (Int32 × Hp) := some (t0, h)
def sX11_listMoves (F : Nat) (h : Hp) (x0 : Nat) (x1 : Int32) : Option (Int32 × Hp) := cl (sX11_isPlace h x0 x1) fun o_1 => br (o_1.1 = 0) (sX11_listMoves_32 F o_1.2 (0 : Int32)) (cl (hR o_1.2 x0 6) fun r_3 => cl (hR o_1.2 x0 13) fun r_4 => gd (inB x1 (hN o_1.2 r_4)) <| cl (hR o_1.2 r_4 x1.toNatClampNeg) fun r_6 => cl (hR o_1.2 x0 12) fun r_7 => cl (sX5_collect F o_1.2 r_3 r_6 r_7 (4096 : Int32)) fun o_8 => sX11_listMoves_32 F o_8.2 o_8.1)
set_option maxRecDepth 20000 in
theorem moX11_listMoves_32 {o : Int32 × Hp} {F : Nat} {h : Hp} {t0 : Int32} (hE : sX11_listMoves_32 F h  t0 = some o) : Le h o.2 := by
  cases hE
  exact Le.rf _
set_option maxRecDepth 20000 in
theorem moX11_listMoves {o : Int32 × Hp} {F : Nat} {h : Hp} {x0 : Nat} {x1 : Int32} (hE : sX11_listMoves F h x0 x1 = some o) : Le h o.2 := by
  obtain ⟨o_1, eo_1, hE⟩ := cl_e hE
  refine (moX11_isPlace eo_1).tr ?_
  rcases br_e hE with ⟨_, hE⟩ | ⟨_, hE⟩
  · exact moX11_listMoves_32 hE
  · obtain ⟨r_3, er_3, hE⟩ := cl_e hE
    obtain ⟨r_4, er_4, hE⟩ := cl_e hE
    obtain ⟨g_5, hE⟩ := gd_e hE
    obtain ⟨r_6, er_6, hE⟩ := cl_e hE
    obtain ⟨r_7, er_7, hE⟩ := cl_e hE
    obtain ⟨o_8, eo_8, hE⟩ := cl_e hE
    refine (moX5_collect eo_8).tr ?_
    exact moX11_listMoves_32 hE
set_option maxRecDepth 20000 in
theorem bX11_listMoves_32 {p : Program} {l : Launch} {e : Env} {s : State} {m : MethodId} {args : Array Value} {below : List Frame} {meth : Method} {c : Code} {X : Ec} {h0 : Hp} {o : Int32 × Hp} {F : Nat} (C : Cx X p s m args meth c RX11 cX11_listMoves 2 (some .int) "listMoves") {h : Hp} {t0 : Int32} {H : Heap} {locs : List Loc} (hkm : Km h0 h) (hW : Wx X h H) (hZ : va_S (aA (eB X)) s.heap H locs) (ls : Array Slot) (hl : lv_has ls 2 []) (hE : sX11_listMoves_32 F h  t0 = some o) : W p l e (rm 4 139) s m args below meth c H locs 0 0 (MQ below (QI X h0 o.1 o.2) args s 0 0 (aA (eB X))) (F0 m 32 ls [.int t0]) := by
  exact x_iret C rfl rfl hW hZ hkm hE dX11_listMoves_32
set_option maxRecDepth 20000 in
theorem ct_X11_listMoves (l : Launch) (X : Ec) (F : Nat) {h : Hp} {x0 : Nat} {x1 : Int32} {o : Int32 × Hp} (k_x0 : hK h x0 = 11) (hE : sX11_listMoves F h x0 x1 = some o) : MetI l yX11_listMoves cX11_listMoves 2 (some .int) 4 139 X [.ref x0, .int x1] h o := by
  refine x_met (by decide) (Nat.le_of_ble_eq_true rfl) ?_
  intro p e s m below meth c ls C hl hW hZ
  have hl : lv_has ls 2 [(0, .ref x0), (1, .int x1)] := hl
  have hkm : Km h h := Km.rf h
  refine lv_aload_n C.1 C.2.1 dX11_listMoves_0 rfl (lv_at hl 0 rfl) ?_
  refine lv_iload_n C.1 C.2.1 dX11_listMoves_1 rfl (lv_at hl 1 rfl) ?_
  obtain ⟨o_1, eo_1, hE⟩ := cl_e hE
  refine x_kI (o := o_1) (z_runV (As := [.int x1]) (rest := []) C (ct_X11_isPlace l X k_x0 eo_1) cw_X11_193 hW hZ k_x0 (by decide) rfl rfl rfl hl.1 (Nat.le_of_ble_eq_true rfl) rfl dX11_listMoves_2 ⟨Nat.le_of_ble_eq_true rfl, Nat.le_of_ble_eq_true rfl⟩ ⟨Nat.le_refl _, Nat.le_refl _⟩) hZ (fun _ _ hW km hZ => ?_)
  replace hkm := hkm.tr km
  replace k_x0 := km.at k_x0 (by decide)
  refine lv_if_eq (tgt := 31) C.1 C.2.1 dX11_listMoves_5 (by decide) (fun c_2 => ?_) (fun c_2 => ?_)
  · have hE := br_p hE c_2
    refine lv_iconst (v := (0 : Int32)) C.1 C.2.1 dX11_listMoves_31 (by decide) ?_
    exact bX11_listMoves_32 C hkm hW hZ _ (lv_sub hl [] rfl) hE
  · have hE := br_n hE c_2
    refine lv_aload_n C.1 C.2.1 dX11_listMoves_8 rfl (lv_at hl 0 rfl) ?_
    obtain ⟨r_3, er_3, hE⟩ := cl_e hE
    refine gf_X11_50 C hW k_x0 er_3 dX11_listMoves_9 (fun k_r_3 => ?_)
    refine lv_aload_n C.1 C.2.1 dX11_listMoves_12 rfl (lv_at hl 0 rfl) ?_
    obtain ⟨r_4, er_4, hE⟩ := cl_e hE
    refine gf_X11_103 C hW k_x0 er_4 dX11_listMoves_13 (fun k_r_4 => ?_)
    refine lv_iload_n C.1 C.2.1 dX11_listMoves_16 rfl (lv_at hl 1 rfl) ?_
    obtain ⟨g_5, hE⟩ := gd_e hE
    obtain ⟨r_6, er_6, hE⟩ := cl_e hE
    refine y_aald (t0 := 4) C hW k_r_4 (by decide) (by decide) rfl rfl rfl (fun _ => rfl) g_5 er_6 dX11_listMoves_17 (fun k_r_6 => ?_)
    refine lv_aload_n C.1 C.2.1 dX11_listMoves_18 rfl (lv_at hl 0 rfl) ?_
    obtain ⟨r_7, er_7, hE⟩ := cl_e hE
    refine gf_X11_97 C hW k_x0 er_7 dX11_listMoves_19 (fun k_r_7 => ?_)
    refine lv_sipush (v := (4096 : Int32)) C.1 C.2.1 dX11_listMoves_22 (by decide) ?_
    obtain ⟨o_8, eo_8, hE⟩ := cl_e hE
    refine x_kI (o := o_8) (z_runV (As := [.ref r_6, .ref r_7, .int (4096 : Int32)]) (rest := []) C (ct_X5_collect l X F k_r_3 k_r_6 k_r_7 eo_8) cw_X11_329 hW hZ k_r_3 (by decide) rfl rfl rfl hl.1 (Nat.le_of_ble_eq_true rfl) rfl dX11_listMoves_25 ⟨Nat.le_of_ble_eq_true rfl, Nat.le_of_ble_eq_true rfl⟩ ⟨Nat.le_refl _, Nat.le_refl _⟩) hZ (fun _ _ hW km hZ => ?_)
    replace hkm := hkm.tr km
    replace k_x0 := km.at k_x0 (by decide)
    refine lv_goto (tgt := 32) C.1 C.2.1 dX11_listMoves_28 (by decide) ?_
    exact bX11_listMoves_32 C hkm hW hZ _ (lv_sub hl [] rfl) hE
theorem ms_68 : Cond.selects RX11 yX11_listMoves yX11_listMoves ∈ W0 := w0_in (List.mem_append_left _ (List.mem_of_getElem? (i := 68) (by decide +kernel))) rfl
theorem m_1318 : Cond.methodLink RX11 254 yX11_listMoves ∈ W0 := w0_in (List.mem_append_right _ (List.mem_of_getElem? (i := 1318) (by decide +kernel))) rfl
theorem m_1320 : Cond.instanceMethod yX11_listMoves ∈ W0 := w0_in (List.mem_append_right _ (List.mem_of_getElem? (i := 1320) (by decide +kernel))) rfl
theorem m_1321 : Cond.code yX11_listMoves cX11_listMoves 2 (some .int) ∈ W0 := w0_in (List.mem_append_right _ (List.mem_of_getElem? (i := 1321) (by decide +kernel))) rfl
theorem cw_X11_254 : cwd RX11 254 yX11_listMoves cX11_listMoves 2 (some .int) false 1 := ⟨m_1321, m_1318, m_1, ⟨m_1320, ms_68⟩, by decide, by decide, by decide +kernel⟩
theorem dX11_moves_0 : decode cX11_moves 0 = .ok (.aload_n 0, 1) := by decide +kernel
theorem dX11_moves_1 : decode cX11_moves 1 = .ok (.iload_n 1, 1) := by decide +kernel
theorem dX11_moves_2 : decode cX11_moves 2 = .ok (.invokevirtual 193, 3) := by decide +kernel
theorem dX11_moves_5 : decode cX11_moves 5 = .ok (.ifCond .eq 11, 3) := by decide +kernel
theorem dX11_moves_8 : decode cX11_moves 8 = .ok (.aload_n 0, 1) := by decide +kernel
theorem dX11_moves_9 : decode cX11_moves 9 = .ok (.iload_n 1, 1) := by decide +kernel
theorem dX11_moves_10 : decode cX11_moves 10 = .ok (.invokevirtual 254, 3) := by decide +kernel
theorem dX11_moves_13 : decode cX11_moves 13 = .ok (.goto 5, 3) := by decide +kernel
theorem dX11_moves_16 : decode cX11_moves 16 = .ok (.bipush (-102), 2) := by decide +kernel
theorem dX11_moves_18 : decode cX11_moves 18 = .ok (.ireturn, 1) := by decide +kernel
def sX11_moves_18 (F : Nat) (h : Hp) (t0 : Int32) : Option (Int32 × Hp) := some (t0, h)
def sX11_moves (F : Nat) (h : Hp) (x0 : Nat) (x1 : Int32) : Option (Int32 × Hp) := cl (sX11_isPlace h x0 x1) fun o_1 => br (o_1.1 = 0) (sX11_moves_18 F o_1.2 (-102 : Int32)) (cl (sX11_listMoves F o_1.2 x0 x1) fun o_3 => sX11_moves_18 F o_3.2 o_3.1)
set_option maxRecDepth 20000 in
theorem bX11_moves_18 {p : Program} {l : Launch} {e : Env} {s : State} {m : MethodId} {args : Array Value} {below : List Frame} {meth : Method} {c : Code} {X : Ec} {h0 : Hp} {o : Int32 × Hp} {F : Nat} (C : Cx X p s m args meth c RX11 cX11_moves 2 (some .int) "moves") {h : Hp} {t0 : Int32} {H : Heap} {locs : List Loc} (hkm : Km h0 h) (hW : Wx X h H) (hZ : va_S (aA (eB X)) s.heap H locs) (ls : Array Slot) (hl : lv_has ls 2 []) (hE : sX11_moves_18 F h  t0 = some o) : W p l e (rm 5 160) s m args below meth c H locs 0 0 (MQ below (QI X h0 o.1 o.2) args s 0 0 (aA (eB X))) (F0 m 18 ls [.int t0]) := by
  exact x_iret C rfl rfl hW hZ hkm hE dX11_moves_18
set_option maxRecDepth 20000 in
theorem ct_X11_moves (l : Launch) (X : Ec) (F : Nat) {h : Hp} {x0 : Nat} {x1 : Int32} {o : Int32 × Hp} (k_x0 : hK h x0 = 11) (hE : sX11_moves F h x0 x1 = some o) : MetI l yX11_moves cX11_moves 2 (some .int) 5 160 X [.ref x0, .int x1] h o := by
  refine x_met (by decide) (Nat.le_of_ble_eq_true rfl) ?_
  intro p e s m below meth c ls C hl hW hZ
  have hl : lv_has ls 2 [(0, .ref x0), (1, .int x1)] := hl
  have hkm : Km h h := Km.rf h
  refine lv_aload_n C.1 C.2.1 dX11_moves_0 rfl (lv_at hl 0 rfl) ?_
  refine lv_iload_n C.1 C.2.1 dX11_moves_1 rfl (lv_at hl 1 rfl) ?_
  obtain ⟨o_1, eo_1, hE⟩ := cl_e hE
  refine x_kI (o := o_1) (z_runV (As := [.int x1]) (rest := []) C (ct_X11_isPlace l X k_x0 eo_1) cw_X11_193 hW hZ k_x0 (by decide) rfl rfl rfl hl.1 (Nat.le_of_ble_eq_true rfl) rfl dX11_moves_2 ⟨Nat.le_of_ble_eq_true rfl, Nat.le_of_ble_eq_true rfl⟩ ⟨Nat.le_refl _, Nat.le_refl _⟩) hZ (fun _ _ hW km hZ => ?_)
  replace hkm := hkm.tr km
  replace k_x0 := km.at k_x0 (by decide)
  refine lv_if_eq (tgt := 16) C.1 C.2.1 dX11_moves_5 (by decide) (fun c_2 => ?_) (fun c_2 => ?_)
  · have hE := br_p hE c_2
    refine lv_bipush (v := (-102 : Int32)) C.1 C.2.1 dX11_moves_16 (by decide) ?_
    exact bX11_moves_18 C hkm hW hZ _ (lv_sub hl [] rfl) hE
  · have hE := br_n hE c_2
    refine lv_aload_n C.1 C.2.1 dX11_moves_8 rfl (lv_at hl 0 rfl) ?_
    refine lv_iload_n C.1 C.2.1 dX11_moves_9 rfl (lv_at hl 1 rfl) ?_
    obtain ⟨o_3, eo_3, hE⟩ := cl_e hE
    refine x_kI (o := o_3) (z_runV (As := [.int x1]) (rest := []) C (ct_X11_listMoves l X F k_x0 eo_3) cw_X11_254 hW hZ k_x0 (by decide) rfl rfl rfl hl.1 (Nat.le_of_ble_eq_true rfl) rfl dX11_moves_10 ⟨Nat.le_of_ble_eq_true rfl, Nat.le_of_ble_eq_true rfl⟩ ⟨Nat.le_refl _, Nat.le_refl _⟩) hZ (fun _ _ hW km hZ => ?_)
    replace hkm := hkm.tr km
    replace k_x0 := km.at k_x0 (by decide)
    refine lv_goto (tgt := 18) C.1 C.2.1 dX11_moves_13 (by decide) ?_
    exact bX11_moves_18 C hkm hW hZ _ (lv_sub hl [] rfl) hE
theorem m_1327 : Cond.methodLink RX11 257 yX5_kindOf ∈ W0 := w0_in (List.mem_append_right _ (List.mem_of_getElem? (i := 1327) (by decide +kernel))) rfl
theorem m_1328 : Cond.methodLink RX11 260 yX5_leftBy ∈ W0 := w0_in (List.mem_append_right _ (List.mem_of_getElem? (i := 1328) (by decide +kernel))) rfl
theorem m_1329 : Cond.methodLink RX11 263 yX5_comeTo ∈ W0 := w0_in (List.mem_append_right _ (List.mem_of_getElem? (i := 1329) (by decide +kernel))) rfl
theorem m_1330 : Cond.methodLink RX11 266 yX5_manOf ∈ W0 := w0_in (List.mem_append_right _ (List.mem_of_getElem? (i := 1330) (by decide +kernel))) rfl
theorem m_1331 : Cond.methodLink RX11 269 yX5_becomes ∈ W0 := w0_in (List.mem_append_right _ (List.mem_of_getElem? (i := 1331) (by decide +kernel))) rfl
theorem m_1332 : Cond.methodLink RX11 272 yX5_takenBy ∈ W0 := w0_in (List.mem_append_right _ (List.mem_of_getElem? (i := 1332) (by decide +kernel))) rfl
theorem cw_X11_257 : cwd RX11 257 yX5_kindOf cX5_kindOf 1 (some .int) true 1 := ⟨m_1248, m_1327, m_7, m_1247, by decide, by decide, by decide +kernel⟩
theorem cw_X11_260 : cwd RX11 260 yX5_leftBy cX5_leftBy 1 (some .int) true 1 := ⟨m_1251, m_1328, m_7, m_1250, by decide, by decide, by decide +kernel⟩
theorem cw_X11_263 : cwd RX11 263 yX5_comeTo cX5_comeTo 1 (some .int) true 1 := ⟨m_1215, m_1329, m_7, m_1214, by decide, by decide, by decide +kernel⟩
theorem cw_X11_266 : cwd RX11 266 yX5_manOf cX5_manOf 1 (some .int) true 1 := ⟨m_1218, m_1330, m_7, m_1217, by decide, by decide, by decide +kernel⟩
theorem cw_X11_269 : cwd RX11 269 yX5_becomes cX5_becomes 2 (some .int) true 1 := ⟨m_1264, m_1331, m_7, m_1263, by decide, by decide, by decide +kernel⟩
theorem cw_X11_272 : cwd RX11 272 yX5_takenBy cX5_takenBy 2 (some .int) true 1 := ⟨m_1212, m_1332, m_7, m_1211, by decide, by decide, by decide +kernel⟩
theorem dX11_move_0 : decode cX11_move 0 = .ok (.iload_n 3, 1) := by decide +kernel
theorem dX11_move_1 : decode cX11_move 1 = .ok (.ifCond .lt 8, 3) := by decide +kernel
theorem dX11_move_4 : decode cX11_move 4 = .ok (.iload_n 3, 1) := by decide +kernel
theorem dX11_move_5 : decode cX11_move 5 = .ok (.iconst 5, 1) := by decide +kernel
theorem dX11_move_6 : decode cX11_move 6 = .ok (.if_icmp .le 6, 3) := by decide +kernel
theorem dX11_move_9 : decode cX11_move 9 = .ok (.bipush (-101), 2) := by decide +kernel
theorem dX11_move_11 : decode cX11_move 11 = .ok (.ireturn, 1) := by decide +kernel
theorem dX11_move_12 : decode cX11_move 12 = .ok (.iload_n 2, 1) := by decide +kernel
theorem dX11_move_13 : decode cX11_move 13 = .ok (.ifCond .lt 12, 3) := by decide +kernel
theorem dX11_move_16 : decode cX11_move 16 = .ok (.iload_n 2, 1) := by decide +kernel
theorem dX11_move_17 : decode cX11_move 17 = .ok (.aload_n 0, 1) := by decide +kernel
theorem dX11_move_18 : decode cX11_move 18 = .ok (.iload_n 1, 1) := by decide +kernel
theorem dX11_move_19 : decode cX11_move 19 = .ok (.invokevirtual 254, 3) := by decide +kernel
theorem dX11_move_22 : decode cX11_move 22 = .ok (.if_icmp .lt 6, 3) := by decide +kernel
theorem dX11_move_25 : decode cX11_move 25 = .ok (.bipush (-102), 2) := by decide +kernel
theorem dX11_move_27 : decode cX11_move 27 = .ok (.ireturn, 1) := by decide +kernel
theorem dX11_move_28 : decode cX11_move 28 = .ok (.aload_n 0, 1) := by decide +kernel
theorem dX11_move_29 : decode cX11_move 29 = .ok (.getfield 97, 3) := by decide +kernel
theorem dX11_move_32 : decode cX11_move 32 = .ok (.iload_n 2, 1) := by decide +kernel
theorem dX11_move_33 : decode cX11_move 33 = .ok (.iaload, 1) := by decide +kernel
theorem dX11_move_34 : decode cX11_move 34 = .ok (.istore 4, 2) := by decide +kernel
theorem dX11_move_36 : decode cX11_move 36 = .ok (.iload_n 3, 1) := by decide +kernel
theorem dX11_move_37 : decode cX11_move 37 = .ok (.tableswitch 78 0 4 #[35, 54, 60, 66, 72], 35) := by decide +kernel
theorem dX11_move_72 : decode cX11_move 72 = .ok (.iload 4, 2) := by decide +kernel
theorem dX11_move_74 : decode cX11_move 74 = .ok (.invokestatic 257, 3) := by decide +kernel
theorem dX11_move_77 : decode cX11_move 77 = .ok (.iconst 3, 1) := by decide +kernel
theorem dX11_move_78 : decode cX11_move 78 = .ok (.if_icmp .ne 7, 3) := by decide +kernel
theorem dX11_move_81 : decode cX11_move 81 = .ok (.iconst (-1), 1) := by decide +kernel
theorem dX11_move_82 : decode cX11_move 82 = .ok (.goto 8, 3) := by decide +kernel
theorem dX11_move_85 : decode cX11_move 85 = .ok (.iload 4, 2) := by decide +kernel
theorem dX11_move_87 : decode cX11_move 87 = .ok (.invokestatic 260, 3) := by decide +kernel
theorem dX11_move_90 : decode cX11_move 90 = .ok (.ireturn, 1) := by decide +kernel
theorem dX11_move_91 : decode cX11_move 91 = .ok (.iload 4, 2) := by decide +kernel
theorem dX11_move_93 : decode cX11_move 93 = .ok (.invokestatic 263, 3) := by decide +kernel
theorem dX11_move_96 : decode cX11_move 96 = .ok (.ireturn, 1) := by decide +kernel
theorem dX11_move_97 : decode cX11_move 97 = .ok (.iload 4, 2) := by decide +kernel
theorem dX11_move_99 : decode cX11_move 99 = .ok (.invokestatic 266, 3) := by decide +kernel
theorem dX11_move_102 : decode cX11_move 102 = .ok (.ireturn, 1) := by decide +kernel
theorem dX11_move_103 : decode cX11_move 103 = .ok (.iload 4, 2) := by decide +kernel
theorem dX11_move_105 : decode cX11_move 105 = .ok (.invokestatic 269, 3) := by decide +kernel
theorem dX11_move_108 : decode cX11_move 108 = .ok (.ireturn, 1) := by decide +kernel
theorem dX11_move_109 : decode cX11_move 109 = .ok (.iload 4, 2) := by decide +kernel
theorem dX11_move_111 : decode cX11_move 111 = .ok (.invokestatic 272, 3) := by decide +kernel
theorem dX11_move_114 : decode cX11_move 114 = .ok (.ireturn, 1) := by decide +kernel
theorem dX11_move_115 : decode cX11_move 115 = .ok (.iload 4, 2) := by decide +kernel
theorem dX11_move_117 : decode cX11_move 117 = .ok (.invokestatic 257, 3) := by decide +kernel
theorem dX11_move_120 : decode cX11_move 120 = .ok (.ireturn, 1) := by decide +kernel
def sX11_move_9 (F : Nat) (h : Hp) : Option (Int32 × Hp) := some ((-101 : Int32), h)
def sX11_move_25 (F : Nat) (h : Hp) : Option (Int32 × Hp) := some ((-102 : Int32), h)
def sX11_move_90 (F : Nat) (h : Hp) (t0 : Int32) : Option (Int32 × Hp) := some (t0, h)
def sX11_move (F : Nat) (h : Hp) (x0 : Nat) (x1 : Int32) (x2 : Int32) (x3 : Int32) : Option (Int32 × Hp) := br (x3 < 0) (sX11_move_9 F h ) (br (x3 ≤ (5 : Int32)) (br (x2 < 0) (sX11_move_25 F h ) (cl (sX11_listMoves F h x0 x1) fun o_4 => br (x2 < o_4.1) (cl (hR o_4.2 x0 12) fun r_6 => gd (inB x2 (hN o_4.2 r_6)) <| nm (hI o_4.2 r_6 x2.toNatClampNeg) fun v_8 => br (x3 = (0 : Int32)) (cl (sX5_kindOf o_4.2 v_8) fun o_9 => br (o_9.1 = (3 : Int32)) (sX11_move_90 F o_9.2 (-1 : Int32)) (cl (sX5_leftBy o_9.2 v_8) fun o_11 => sX11_move_90 F o_11.2 o_11.1)) (br (x3 = (1 : Int32)) (cl (sX5_comeTo o_4.2 v_8) fun o_13 => some (o_13.1, o_13.2)) (br (x3 = (2 : Int32)) (cl (sX5_manOf o_4.2 v_8) fun o_15 => some (o_15.1, o_15.2)) (br (x3 = (3 : Int32)) (cl (sX5_becomes o_4.2 v_8) fun o_17 => some (o_17.1, o_17.2)) (br (x3 = (4 : Int32)) (cl (sX5_takenBy o_4.2 v_8) fun o_19 => some (o_19.1, o_19.2)) (cl (sX5_kindOf o_4.2 v_8) fun o_21 => some (o_21.1, o_21.2))))))) (sX11_move_25 F o_4.2 ))) (sX11_move_9 F h ))
set_option maxRecDepth 20000 in
theorem bX11_move_9 {p : Program} {l : Launch} {e : Env} {s : State} {m : MethodId} {args : Array Value} {below : List Frame} {meth : Method} {c : Code} {X : Ec} {h0 : Hp} {o : Int32 × Hp} {F : Nat} (C : Cx X p s m args meth c RX11 cX11_move 5 (some .int) "move") {h : Hp} {H : Heap} {locs : List Loc} (hkm : Km h0 h) (hW : Wx X h H) (hZ : va_S (aA (eB X)) s.heap H locs) (ls : Array Slot) (hl : lv_has ls 5 []) (hE : sX11_move_9 F h  = some o) : W p l e (rm 5 160) s m args below meth c H locs 0 0 (MQ below (QI X h0 o.1 o.2) args s 0 0 (aA (eB X))) (F0 m 9 ls []) := by
  refine lv_bipush (v := (-101 : Int32)) C.1 C.2.1 dX11_move_9 (by decide) ?_
  exact x_iret C rfl rfl hW hZ hkm hE dX11_move_11
set_option maxRecDepth 20000 in
theorem bX11_move_25 {p : Program} {l : Launch} {e : Env} {s : State} {m : MethodId} {args : Array Value} {below : List Frame} {meth : Method} {c : Code} {X : Ec} {h0 : Hp} {o : Int32 × Hp} {F : Nat} (C : Cx X p s m args meth c RX11 cX11_move 5 (some .int) "move") {h : Hp} {H : Heap} {locs : List Loc} (hkm : Km h0 h) (hW : Wx X h H) (hZ : va_S (aA (eB X)) s.heap H locs) (ls : Array Slot) (hl : lv_has ls 5 []) (hE : sX11_move_25 F h  = some o) : W p l e (rm 5 160) s m args below meth c H locs 0 0 (MQ below (QI X h0 o.1 o.2) args s 0 0 (aA (eB X))) (F0 m 25 ls []) := by
  refine lv_bipush (v := (-102 : Int32)) C.1 C.2.1 dX11_move_25 (by decide) ?_
  exact x_iret C rfl rfl hW hZ hkm hE dX11_move_27
set_option maxRecDepth 20000 in
theorem bX11_move_90 {p : Program} {l : Launch} {e : Env} {s : State} {m : MethodId} {args : Array Value} {below : List Frame} {meth : Method} {c : Code} {X : Ec} {h0 : Hp} {o : Int32 × Hp} {F : Nat} (C : Cx X p s m args meth c RX11 cX11_move 5 (some .int) "move") {h : Hp} {t0 : Int32} {H : Heap} {locs : List Loc} (hkm : Km h0 h) (hW : Wx X h H) (hZ : va_S (aA (eB X)) s.heap H locs) (ls : Array Slot) (hl : lv_has ls 5 []) (hE : sX11_move_90 F h  t0 = some o) : W p l e (rm 5 160) s m args below meth c H locs 0 0 (MQ below (QI X h0 o.1 o.2) args s 0 0 (aA (eB X))) (F0 m 90 ls [.int t0]) := by
  exact x_iret C rfl rfl hW hZ hkm hE dX11_move_90
set_option maxRecDepth 20000 in
theorem ct_X11_move (l : Launch) (X : Ec) (F : Nat) {h : Hp} {x0 : Nat} {x1 : Int32} {x2 : Int32} {x3 : Int32} {o : Int32 × Hp} (k_x0 : hK h x0 = 11) (hE : sX11_move F h x0 x1 x2 x3 = some o) : MetI l yX11_move cX11_move 5 (some .int) 5 160 X [.ref x0, .int x1, .int x2, .int x3] h o := by
  refine x_met (by decide) (Nat.le_of_ble_eq_true rfl) ?_
  intro p e s m below meth c ls C hl hW hZ
  have hl : lv_has ls 5 [(0, .ref x0), (1, .int x1), (2, .int x2), (3, .int x3)] := hl
  have hkm : Km h h := Km.rf h
  refine lv_iload_n C.1 C.2.1 dX11_move_0 rfl (lv_at hl 3 rfl) ?_
  refine lv_if_lt (tgt := 9) C.1 C.2.1 dX11_move_1 (by decide) (fun c_1 => ?_) (fun c_1 => ?_)
  · have hE := br_p hE c_1
    exact bX11_move_9 C hkm hW hZ _ (lv_sub hl [] rfl) hE
  · have hE := br_n hE c_1
    refine lv_iload_n C.1 C.2.1 dX11_move_4 rfl (lv_at hl 3 rfl) ?_
    refine lv_iconst (v := (5 : Int32)) C.1 C.2.1 dX11_move_5 (by decide) ?_
    refine lv_icmp_le (tgt := 12) C.1 C.2.1 dX11_move_6 (by decide) (fun c_2 => ?_) (fun c_2 => ?_)
    · have hE := br_p hE c_2
      refine lv_iload_n C.1 C.2.1 dX11_move_12 rfl (lv_at hl 2 rfl) ?_
      refine lv_if_lt (tgt := 25) C.1 C.2.1 dX11_move_13 (by decide) (fun c_3 => ?_) (fun c_3 => ?_)
      · have hE := br_p hE c_3
        exact bX11_move_25 C hkm hW hZ _ (lv_sub hl [] rfl) hE
      · have hE := br_n hE c_3
        refine lv_iload_n C.1 C.2.1 dX11_move_16 rfl (lv_at hl 2 rfl) ?_
        refine lv_aload_n C.1 C.2.1 dX11_move_17 rfl (lv_at hl 0 rfl) ?_
        refine lv_iload_n C.1 C.2.1 dX11_move_18 rfl (lv_at hl 1 rfl) ?_
        obtain ⟨o_4, eo_4, hE⟩ := cl_e hE
        refine x_kI (o := o_4) (z_runV (As := [.int x1]) (rest := [.int x2]) C (ct_X11_listMoves l X F k_x0 eo_4) cw_X11_254 hW hZ k_x0 (by decide) rfl rfl rfl hl.1 (Nat.le_of_ble_eq_true rfl) rfl dX11_move_19 ⟨Nat.le_of_ble_eq_true rfl, Nat.le_of_ble_eq_true rfl⟩ ⟨Nat.le_refl _, Nat.le_refl _⟩) hZ (fun _ _ hW km hZ => ?_)
        replace hkm := hkm.tr km
        replace k_x0 := km.at k_x0 (by decide)
        refine lv_icmp_lt (tgt := 28) C.1 C.2.1 dX11_move_22 (by decide) (fun c_5 => ?_) (fun c_5 => ?_)
        · have hE := br_p hE c_5
          refine lv_aload_n C.1 C.2.1 dX11_move_28 rfl (lv_at hl 0 rfl) ?_
          obtain ⟨r_6, er_6, hE⟩ := cl_e hE
          refine gf_X11_97 C hW k_x0 er_6 dX11_move_29 (fun k_r_6 => ?_)
          refine lv_iload_n C.1 C.2.1 dX11_move_32 rfl (lv_at hl 2 rfl) ?_
          obtain ⟨g_7, hE⟩ := gd_e hE
          refine y_iald C hW k_r_6 g_7 dX11_move_33 ?_
          obtain ⟨v_8, ev_8, hE⟩ := nm_e2 hE
          refine x_nmI ev_8 ?_
          refine lv_istore (lv' := [(4, .int v_8), (0, .ref x0), (1, .int x1), (2, .int x2), (3, .int x3)]) C.1 C.2.1 dX11_move_34 hl (by decide) rfl (fun ls hl => ?_)
          refine lv_iload_n C.1 C.2.1 dX11_move_36 rfl (lv_at hl 4 rfl) ?_
          by_cases c_12 : x3 = (0 : Int32)
          · have hE := br_p hE c_12
            refine lv_tableIn (off := 35) (tgt := 72) C.1 C.2.1 dX11_move_37 (by rw [c_12]; decide) (by rw [c_12]; decide) (by rw [c_12]; rfl) (by decide) ?_
            refine lv_iload C.1 C.2.1 dX11_move_72 (lv_at hl 0 rfl) ?_
            obtain ⟨o_9, eo_9, hE⟩ := cl_e hE
            refine x_kI (o := o_9) (z_runS (As := [.int v_8]) (rest := []) C (ct_X5_kindOf l X eo_9) cw_X11_257 hW hZ rfl hl.1 (Nat.le_of_ble_eq_true rfl) rfl dX11_move_74 ⟨Nat.le_of_ble_eq_true rfl, Nat.le_of_ble_eq_true rfl⟩ ⟨Nat.le_refl _, Nat.le_refl _⟩) hZ (fun _ _ hW km hZ => ?_)
            replace hkm := hkm.tr km
            replace k_x0 := km.at k_x0 (by decide)
            refine lv_iconst (v := (3 : Int32)) C.1 C.2.1 dX11_move_77 (by decide) ?_
            refine lv_icmp_ne (tgt := 85) C.1 C.2.1 dX11_move_78 (by decide) (fun c_10 => ?_) (fun c_10 => ?_)
            · have hE := br_n hE c_10
              refine lv_iload C.1 C.2.1 dX11_move_85 (lv_at hl 0 rfl) ?_
              obtain ⟨o_11, eo_11, hE⟩ := cl_e hE
              refine x_kI (o := o_11) (z_runS (As := [.int v_8]) (rest := []) C (ct_X5_leftBy l X eo_11) cw_X11_260 hW hZ rfl hl.1 (Nat.le_of_ble_eq_true rfl) rfl dX11_move_87 ⟨Nat.le_of_ble_eq_true rfl, Nat.le_of_ble_eq_true rfl⟩ ⟨Nat.le_refl _, Nat.le_refl _⟩) hZ (fun _ _ hW km hZ => ?_)
              replace hkm := hkm.tr km
              replace k_x0 := km.at k_x0 (by decide)
              exact bX11_move_90 C hkm hW hZ _ (lv_sub hl [] rfl) hE
            · have hE := br_p hE c_10
              refine lv_iconst (v := (-1 : Int32)) C.1 C.2.1 dX11_move_81 (by decide) ?_
              refine lv_goto (tgt := 90) C.1 C.2.1 dX11_move_82 (by decide) ?_
              exact bX11_move_90 C hkm hW hZ _ (lv_sub hl [] rfl) hE
          have hE := br_n hE c_12
          by_cases c_14 : x3 = (1 : Int32)
          · have hE := br_p hE c_14
            refine lv_tableIn (off := 54) (tgt := 91) C.1 C.2.1 dX11_move_37 (by rw [c_14]; decide) (by rw [c_14]; decide) (by rw [c_14]; rfl) (by decide) ?_
            refine lv_iload C.1 C.2.1 dX11_move_91 (lv_at hl 0 rfl) ?_
            obtain ⟨o_13, eo_13, hE⟩ := cl_e hE
            refine x_kI (o := o_13) (z_runS (As := [.int v_8]) (rest := []) C (ct_X5_comeTo l X eo_13) cw_X11_263 hW hZ rfl hl.1 (Nat.le_of_ble_eq_true rfl) rfl dX11_move_93 ⟨Nat.le_of_ble_eq_true rfl, Nat.le_of_ble_eq_true rfl⟩ ⟨Nat.le_refl _, Nat.le_refl _⟩) hZ (fun _ _ hW km hZ => ?_)
            replace hkm := hkm.tr km
            replace k_x0 := km.at k_x0 (by decide)
            exact x_iret C rfl rfl hW hZ hkm hE dX11_move_96
          have hE := br_n hE c_14
          by_cases c_16 : x3 = (2 : Int32)
          · have hE := br_p hE c_16
            refine lv_tableIn (off := 60) (tgt := 97) C.1 C.2.1 dX11_move_37 (by rw [c_16]; decide) (by rw [c_16]; decide) (by rw [c_16]; rfl) (by decide) ?_
            refine lv_iload C.1 C.2.1 dX11_move_97 (lv_at hl 0 rfl) ?_
            obtain ⟨o_15, eo_15, hE⟩ := cl_e hE
            refine x_kI (o := o_15) (z_runS (As := [.int v_8]) (rest := []) C (ct_X5_manOf l X eo_15) cw_X11_266 hW hZ rfl hl.1 (Nat.le_of_ble_eq_true rfl) rfl dX11_move_99 ⟨Nat.le_of_ble_eq_true rfl, Nat.le_of_ble_eq_true rfl⟩ ⟨Nat.le_refl _, Nat.le_refl _⟩) hZ (fun _ _ hW km hZ => ?_)
            replace hkm := hkm.tr km
            replace k_x0 := km.at k_x0 (by decide)
            exact x_iret C rfl rfl hW hZ hkm hE dX11_move_102
          have hE := br_n hE c_16
          by_cases c_18 : x3 = (3 : Int32)
          · have hE := br_p hE c_18
            refine lv_tableIn (off := 66) (tgt := 103) C.1 C.2.1 dX11_move_37 (by rw [c_18]; decide) (by rw [c_18]; decide) (by rw [c_18]; rfl) (by decide) ?_
            refine lv_iload C.1 C.2.1 dX11_move_103 (lv_at hl 0 rfl) ?_
            obtain ⟨o_17, eo_17, hE⟩ := cl_e hE
            refine x_kI (o := o_17) (z_runS (As := [.int v_8]) (rest := []) C (ct_X5_becomes l X eo_17) cw_X11_269 hW hZ rfl hl.1 (Nat.le_of_ble_eq_true rfl) rfl dX11_move_105 ⟨Nat.le_of_ble_eq_true rfl, Nat.le_of_ble_eq_true rfl⟩ ⟨Nat.le_refl _, Nat.le_refl _⟩) hZ (fun _ _ hW km hZ => ?_)
            replace hkm := hkm.tr km
            replace k_x0 := km.at k_x0 (by decide)
            exact x_iret C rfl rfl hW hZ hkm hE dX11_move_108
          have hE := br_n hE c_18
          by_cases c_20 : x3 = (4 : Int32)
          · have hE := br_p hE c_20
            refine lv_tableIn (off := 72) (tgt := 109) C.1 C.2.1 dX11_move_37 (by rw [c_20]; decide) (by rw [c_20]; decide) (by rw [c_20]; rfl) (by decide) ?_
            refine lv_iload C.1 C.2.1 dX11_move_109 (lv_at hl 0 rfl) ?_
            obtain ⟨o_19, eo_19, hE⟩ := cl_e hE
            refine x_kI (o := o_19) (z_runS (As := [.int v_8]) (rest := []) C (ct_X5_takenBy l X eo_19) cw_X11_272 hW hZ rfl hl.1 (Nat.le_of_ble_eq_true rfl) rfl dX11_move_111 ⟨Nat.le_of_ble_eq_true rfl, Nat.le_of_ble_eq_true rfl⟩ ⟨Nat.le_refl _, Nat.le_refl _⟩) hZ (fun _ _ hW km hZ => ?_)
            replace hkm := hkm.tr km
            replace k_x0 := km.at k_x0 (by decide)
            exact x_iret C rfl rfl hW hZ hkm hE dX11_move_114
          have hE := br_n hE c_20
          refine lv_tableOut (tgt := 115) C.1 C.2.1 dX11_move_37 (by have zc_12 := lv_neT (a := 0) c_12 (by decide); have zc_14 := lv_neT (a := 1) c_14 (by decide); have zc_16 := lv_neT (a := 2) c_16 (by decide); have zc_18 := lv_neT (a := 3) c_18 (by decide); have zc_20 := lv_neT (a := 4) c_20 (by decide); omega) (by decide) ?_
          refine lv_iload C.1 C.2.1 dX11_move_115 (lv_at hl 0 rfl) ?_
          obtain ⟨o_21, eo_21, hE⟩ := cl_e hE
          refine x_kI (o := o_21) (z_runS (As := [.int v_8]) (rest := []) C (ct_X5_kindOf l X eo_21) cw_X11_257 hW hZ rfl hl.1 (Nat.le_of_ble_eq_true rfl) rfl dX11_move_117 ⟨Nat.le_of_ble_eq_true rfl, Nat.le_of_ble_eq_true rfl⟩ ⟨Nat.le_refl _, Nat.le_refl _⟩) hZ (fun _ _ hW km hZ => ?_)
          replace hkm := hkm.tr km
          replace k_x0 := km.at k_x0 (by decide)
          exact x_iret C rfl rfl hW hZ hkm hE dX11_move_120
        · have hE := br_n hE c_5
          exact bX11_move_25 C hkm hW hZ _ (lv_sub hl [] rfl) hE
    · have hE := br_n hE c_2
      exact bX11_move_9 C hkm hW hZ _ (lv_sub hl [] rfl) hE
theorem m_1341 : Cond.methodLink RX11 325 yX3_copyFrom ∈ W0 := w0_in (List.mem_append_right _ (List.mem_of_getElem? (i := 1341) (by decide +kernel))) rfl
theorem cw_X11_325 : cwd RX11 325 yX3_copyFrom cX3_copyFrom 3 none false 1 := ⟨m_1255, m_1341, m_8, ⟨m_1253, m_1254⟩, by decide, by decide, by decide +kernel⟩
theorem dX11_settle_0 : decode cX11_settle 0 = .ok (.aload_n 0, 1) := by decide +kernel
theorem dX11_settle_1 : decode cX11_settle 1 = .ok (.getfield 107, 3) := by decide +kernel
theorem dX11_settle_4 : decode cX11_settle 4 = .ok (.iload_n 1, 1) := by decide +kernel
theorem dX11_settle_5 : decode cX11_settle 5 = .ok (.iconst 1, 1) := by decide +kernel
theorem dX11_settle_6 : decode cX11_settle 6 = .ok (.bastore, 1) := by decide +kernel
theorem dX11_settle_7 : decode cX11_settle 7 = .ok (.aload_n 0, 1) := by decide +kernel
theorem dX11_settle_8 : decode cX11_settle 8 = .ok (.getfield 103, 3) := by decide +kernel
theorem dX11_settle_11 : decode cX11_settle 11 = .ok (.iload_n 1, 1) := by decide +kernel
theorem dX11_settle_12 : decode cX11_settle 12 = .ok (.aaload, 1) := by decide +kernel
theorem dX11_settle_13 : decode cX11_settle 13 = .ok (.aload_n 2, 1) := by decide +kernel
theorem dX11_settle_14 : decode cX11_settle 14 = .ok (.invokevirtual 325, 3) := by decide +kernel
theorem dX11_settle_17 : decode cX11_settle 17 = .ok (.return_, 1) := by decide +kernel
def sX11_settle (F : Nat) (h : Hp) (x0 : Nat) (x1 : Int32) (x2 : Nat) : Option (Hp) := cl (hR h x0 14) fun r_1 => gd (inB x1 (hN h r_1)) <| nm (wI h r_1 x1.toNatClampNeg (vp_nar .boolean (1 : Int32))) fun h_3 => cl (hR h_3 x0 13) fun r_4 => gd (inB x1 (hN h_3 r_4)) <| cl (hR h_3 r_4 x1.toNatClampNeg) fun r_6 => cl (sX3_copyFrom F h_3 r_6 x2) fun o_7 => some o_7
set_option maxRecDepth 20000 in
theorem moX11_settle {o : Hp} {F : Nat} {h : Hp} {x0 : Nat} {x1 : Int32} {x2 : Nat} (hE : sX11_settle F h x0 x1 x2 = some o) : Le h o := by
  obtain ⟨r_1, er_1, hE⟩ := cl_e hE
  obtain ⟨g_2, hE⟩ := gd_e hE
  obtain ⟨h_3, eh_3, hE⟩ := nm_e2 hE
  refine (le_I eh_3).tr ?_
  obtain ⟨r_4, er_4, hE⟩ := cl_e hE
  obtain ⟨g_5, hE⟩ := gd_e hE
  obtain ⟨r_6, er_6, hE⟩ := cl_e hE
  obtain ⟨o_7, eo_7, hE⟩ := cl_e hE
  refine (moX3_copyFrom eo_7).tr ?_
  cases hE
  exact Le.rf _
set_option maxRecDepth 20000 in
theorem ct_X11_settle (l : Launch) (X : Ec) (F : Nat) {h : Hp} {x0 : Nat} {x1 : Int32} {x2 : Nat} {o : Hp} (k_x0 : hK h x0 = 11) (k_x2 : hK h x2 = 3) (hE : sX11_settle F h x0 x1 x2 = some o) : MetV l yX11_settle cX11_settle 3 none 2 86 X [.ref x0, .int x1, .ref x2] h o := by
  refine x_met (by decide) (Nat.le_of_ble_eq_true rfl) ?_
  intro p e s m below meth c ls C hl hW hZ
  have hl : lv_has ls 3 [(0, .ref x0), (1, .int x1), (2, .ref x2)] := hl
  have hkm : Km h h := Km.rf h
  refine lv_aload_n C.1 C.2.1 dX11_settle_0 rfl (lv_at hl 0 rfl) ?_
  obtain ⟨r_1, er_1, hE⟩ := cl_e hE
  refine gf_X11_107 C hW k_x0 er_1 dX11_settle_1 (fun k_r_1 => ?_)
  refine lv_iload_n C.1 C.2.1 dX11_settle_4 rfl (lv_at hl 1 rfl) ?_
  refine lv_iconst (v := (1 : Int32)) C.1 C.2.1 dX11_settle_5 (by decide) ?_
  obtain ⟨g_2, hE⟩ := gd_e hE
  obtain ⟨h_3, eh_3, hE⟩ := nm_e2 hE
  refine y_zast C hW hZ k_r_1 g_2 eh_3 dX11_settle_6 (fun _ _ hW km hZ => ?_)
  replace hkm := hkm.tr km
  replace k_x0 := km.at k_x0 (by decide)
  replace k_x2 := km.at k_x2 (by decide)
  refine lv_aload_n C.1 C.2.1 dX11_settle_7 rfl (lv_at hl 0 rfl) ?_
  obtain ⟨r_4, er_4, hE⟩ := cl_e hE
  refine gf_X11_103 C hW k_x0 er_4 dX11_settle_8 (fun k_r_4 => ?_)
  refine lv_iload_n C.1 C.2.1 dX11_settle_11 rfl (lv_at hl 1 rfl) ?_
  obtain ⟨g_5, hE⟩ := gd_e hE
  obtain ⟨r_6, er_6, hE⟩ := cl_e hE
  refine y_aald (t0 := 4) C hW k_r_4 (by decide) (by decide) rfl rfl rfl (fun _ => rfl) g_5 er_6 dX11_settle_12 (fun k_r_6 => ?_)
  refine lv_aload_n C.1 C.2.1 dX11_settle_13 rfl (lv_at hl 2 rfl) ?_
  obtain ⟨o_7, eo_7, hE⟩ := cl_e hE
  refine x_kV (o := o_7) (z_runV (As := [.ref x2]) (rest := []) C (ct_X3_copyFrom l X F k_r_6 k_x2 eo_7) cw_X11_325 hW hZ k_r_6 (by decide) rfl rfl rfl hl.1 (Nat.le_of_ble_eq_true rfl) rfl dX11_settle_14 ⟨Nat.le_of_ble_eq_true rfl, Nat.le_of_ble_eq_true rfl⟩ ⟨Nat.le_refl _, Nat.le_refl _⟩) hZ (fun _ _ hW km hZ => ?_)
  replace hkm := hkm.tr km
  replace k_x0 := km.at k_x0 (by decide)
  replace k_x2 := km.at k_x2 (by decide)
  exact x_vret C rfl hW hZ hkm hE dX11_settle_17
theorem ms_69 : Cond.selects RX11 yX11_settle yX11_settle ∈ W0 := w0_in (List.mem_append_left _ (List.mem_of_getElem? (i := 69) (by decide +kernel))) rfl
theorem m_1337 : Cond.methodLink RX11 275 yX11_settle ∈ W0 := w0_in (List.mem_append_right _ (List.mem_of_getElem? (i := 1337) (by decide +kernel))) rfl
theorem m_1339 : Cond.instanceMethod yX11_settle ∈ W0 := w0_in (List.mem_append_right _ (List.mem_of_getElem? (i := 1339) (by decide +kernel))) rfl
theorem m_1340 : Cond.code yX11_settle cX11_settle 3 none ∈ W0 := w0_in (List.mem_append_right _ (List.mem_of_getElem? (i := 1340) (by decide +kernel))) rfl
theorem m_1342 : Cond.methodLink RX11 279 yX5_make ∈ W0 := w0_in (List.mem_append_right _ (List.mem_of_getElem? (i := 1342) (by decide +kernel))) rfl
theorem cw_X11_275 : cwd RX11 275 yX11_settle cX11_settle 3 none false 2 := ⟨m_1340, m_1337, m_1, ⟨m_1339, ms_69⟩, by decide, by decide, by decide +kernel⟩
theorem cw_X11_279 : cwd RX11 279 yX5_make cX5_make 8 none false 2 := ⟨m_1345, m_1342, m_7, ⟨m_1343, m_1344⟩, by decide, by decide, by decide +kernel⟩
theorem dX11_go_0 : decode cX11_go 0 = .ok (.iload_n 2, 1) := by decide +kernel
theorem dX11_go_1 : decode cX11_go 1 = .ok (.ifCond .lt 12, 3) := by decide +kernel
theorem dX11_go_4 : decode cX11_go 4 = .ok (.iload_n 2, 1) := by decide +kernel
theorem dX11_go_5 : decode cX11_go 5 = .ok (.aload_n 0, 1) := by decide +kernel
theorem dX11_go_6 : decode cX11_go 6 = .ok (.iload_n 1, 1) := by decide +kernel
theorem dX11_go_7 : decode cX11_go 7 = .ok (.invokevirtual 254, 3) := by decide +kernel
theorem dX11_go_10 : decode cX11_go 10 = .ok (.if_icmp .lt 6, 3) := by decide +kernel
theorem dX11_go_13 : decode cX11_go 13 = .ok (.bipush (-102), 2) := by decide +kernel
theorem dX11_go_15 : decode cX11_go 15 = .ok (.ireturn, 1) := by decide +kernel
theorem dX11_go_16 : decode cX11_go 16 = .ok (.aload_n 0, 1) := by decide +kernel
theorem dX11_go_17 : decode cX11_go 17 = .ok (.invokevirtual 183, 3) := by decide +kernel
theorem dX11_go_20 : decode cX11_go 20 = .ok (.istore_n 3, 1) := by decide +kernel
theorem dX11_go_21 : decode cX11_go 21 = .ok (.iload_n 3, 1) := by decide +kernel
theorem dX11_go_22 : decode cX11_go 22 = .ok (.iconst (-1), 1) := by decide +kernel
theorem dX11_go_23 : decode cX11_go 23 = .ok (.if_icmp .ne 6, 3) := by decide +kernel
theorem dX11_go_26 : decode cX11_go 26 = .ok (.bipush (-104), 2) := by decide +kernel
theorem dX11_go_28 : decode cX11_go 28 = .ok (.ireturn, 1) := by decide +kernel
theorem dX11_go_29 : decode cX11_go 29 = .ok (.aload_n 0, 1) := by decide +kernel
theorem dX11_go_30 : decode cX11_go 30 = .ok (.iload_n 3, 1) := by decide +kernel
theorem dX11_go_31 : decode cX11_go 31 = .ok (.aload_n 0, 1) := by decide +kernel
theorem dX11_go_32 : decode cX11_go 32 = .ok (.getfield 103, 3) := by decide +kernel
theorem dX11_go_35 : decode cX11_go 35 = .ok (.iload_n 1, 1) := by decide +kernel
theorem dX11_go_36 : decode cX11_go 36 = .ok (.aaload, 1) := by decide +kernel
theorem dX11_go_37 : decode cX11_go 37 = .ok (.invokevirtual 275, 3) := by decide +kernel
theorem dX11_go_40 : decode cX11_go 40 = .ok (.aload_n 0, 1) := by decide +kernel
theorem dX11_go_41 : decode cX11_go 41 = .ok (.getfield 50, 3) := by decide +kernel
theorem dX11_go_44 : decode cX11_go 44 = .ok (.aload_n 0, 1) := by decide +kernel
theorem dX11_go_45 : decode cX11_go 45 = .ok (.getfield 103, 3) := by decide +kernel
theorem dX11_go_48 : decode cX11_go 48 = .ok (.iload_n 3, 1) := by decide +kernel
theorem dX11_go_49 : decode cX11_go 49 = .ok (.aaload, 1) := by decide +kernel
theorem dX11_go_50 : decode cX11_go 50 = .ok (.aload_n 0, 1) := by decide +kernel
theorem dX11_go_51 : decode cX11_go 51 = .ok (.getfield 97, 3) := by decide +kernel
theorem dX11_go_54 : decode cX11_go 54 = .ok (.iload_n 2, 1) := by decide +kernel
theorem dX11_go_55 : decode cX11_go 55 = .ok (.iaload, 1) := by decide +kernel
theorem dX11_go_56 : decode cX11_go 56 = .ok (.invokevirtual 279, 3) := by decide +kernel
theorem dX11_go_59 : decode cX11_go 59 = .ok (.iload_n 3, 1) := by decide +kernel
theorem dX11_go_60 : decode cX11_go 60 = .ok (.ireturn, 1) := by decide +kernel
def sX11_go_13 (F : Nat) (h : Hp) : Option (Int32 × Hp) := some ((-102 : Int32), h)
def sX11_go (F : Nat) (h : Hp) (x0 : Nat) (x1 : Int32) (x2 : Int32) : Option (Int32 × Hp) := br (x2 < 0) (sX11_go_13 F h ) (cl (sX11_listMoves F h x0 x1) fun o_2 => br (x2 < o_2.1) (cl (sX11_freePlace F o_2.2 x0) fun o_4 => br (o_4.1 = (-1 : Int32)) (some ((-104 : Int32), o_4.2)) (cl (hR o_4.2 x0 13) fun r_6 => gd (inB x1 (hN o_4.2 r_6)) <| cl (hR o_4.2 r_6 x1.toNatClampNeg) fun r_8 => cl (sX11_settle F o_4.2 x0 o_4.1 r_8) fun o_9 => cl (hR o_9 x0 6) fun r_10 => cl (hR o_9 x0 13) fun r_11 => gd (inB o_4.1 (hN o_9 r_11)) <| cl (hR o_9 r_11 o_4.1.toNatClampNeg) fun r_13 => cl (hR o_9 x0 12) fun r_14 => gd (inB x2 (hN o_9 r_14)) <| cl (sX5_make F o_9 r_10 r_13 (hI o_9 r_14 x2.toNatClampNeg)) fun o_16 => some (o_4.1, o_16))) (sX11_go_13 F o_2.2 ))
set_option maxRecDepth 20000 in
theorem bX11_go_13 {p : Program} {l : Launch} {e : Env} {s : State} {m : MethodId} {args : Array Value} {below : List Frame} {meth : Method} {c : Code} {X : Ec} {h0 : Hp} {o : Int32 × Hp} {F : Nat} (C : Cx X p s m args meth c RX11 cX11_go 4 (some .int) "go") {h : Hp} {H : Heap} {locs : List Loc} (hkm : Km h0 h) (hW : Wx X h H) (hZ : va_S (aA (eB X)) s.heap H locs) (ls : Array Slot) (hl : lv_has ls 4 []) (hE : sX11_go_13 F h  = some o) : W p l e (rm 5 160) s m args below meth c H locs 0 0 (MQ below (QI X h0 o.1 o.2) args s 0 0 (aA (eB X))) (F0 m 13 ls []) := by
  refine lv_bipush (v := (-102 : Int32)) C.1 C.2.1 dX11_go_13 (by decide) ?_
  exact x_iret C rfl rfl hW hZ hkm hE dX11_go_15
set_option maxRecDepth 20000 in
theorem ct_X11_go (l : Launch) (X : Ec) (F : Nat) {h : Hp} {x0 : Nat} {x1 : Int32} {x2 : Int32} {o : Int32 × Hp} (k_x0 : hK h x0 = 11) (hE : sX11_go F h x0 x1 x2 = some o) : MetI l yX11_go cX11_go 4 (some .int) 5 160 X [.ref x0, .int x1, .int x2] h o := by
  refine x_met (by decide) (Nat.le_of_ble_eq_true rfl) ?_
  intro p e s m below meth c ls C hl hW hZ
  have hl : lv_has ls 4 [(0, .ref x0), (1, .int x1), (2, .int x2)] := hl
  have hkm : Km h h := Km.rf h
  refine lv_iload_n C.1 C.2.1 dX11_go_0 rfl (lv_at hl 2 rfl) ?_
  refine lv_if_lt (tgt := 13) C.1 C.2.1 dX11_go_1 (by decide) (fun c_1 => ?_) (fun c_1 => ?_)
  · have hE := br_p hE c_1
    exact bX11_go_13 C hkm hW hZ _ (lv_sub hl [] rfl) hE
  · have hE := br_n hE c_1
    refine lv_iload_n C.1 C.2.1 dX11_go_4 rfl (lv_at hl 2 rfl) ?_
    refine lv_aload_n C.1 C.2.1 dX11_go_5 rfl (lv_at hl 0 rfl) ?_
    refine lv_iload_n C.1 C.2.1 dX11_go_6 rfl (lv_at hl 1 rfl) ?_
    obtain ⟨o_2, eo_2, hE⟩ := cl_e hE
    refine x_kI (o := o_2) (z_runV (As := [.int x1]) (rest := [.int x2]) C (ct_X11_listMoves l X F k_x0 eo_2) cw_X11_254 hW hZ k_x0 (by decide) rfl rfl rfl hl.1 (Nat.le_of_ble_eq_true rfl) rfl dX11_go_7 ⟨Nat.le_of_ble_eq_true rfl, Nat.le_of_ble_eq_true rfl⟩ ⟨Nat.le_refl _, Nat.le_refl _⟩) hZ (fun _ _ hW km hZ => ?_)
    replace hkm := hkm.tr km
    replace k_x0 := km.at k_x0 (by decide)
    refine lv_icmp_lt (tgt := 16) C.1 C.2.1 dX11_go_10 (by decide) (fun c_3 => ?_) (fun c_3 => ?_)
    · have hE := br_p hE c_3
      refine lv_aload_n C.1 C.2.1 dX11_go_16 rfl (lv_at hl 0 rfl) ?_
      obtain ⟨o_4, eo_4, hE⟩ := cl_e hE
      refine x_kI (o := o_4) (z_runV (As := []) (rest := []) C (ct_X11_freePlace l X F k_x0 eo_4) cw_X11_183 hW hZ k_x0 (by decide) rfl rfl rfl hl.1 (Nat.le_of_ble_eq_true rfl) rfl dX11_go_17 ⟨Nat.le_of_ble_eq_true rfl, Nat.le_of_ble_eq_true rfl⟩ ⟨Nat.le_refl _, Nat.le_refl _⟩) hZ (fun _ _ hW km hZ => ?_)
      replace hkm := hkm.tr km
      replace k_x0 := km.at k_x0 (by decide)
      refine lv_istore_n (lv' := [(3, .int o_4.1), (0, .ref x0), (1, .int x1), (2, .int x2)]) C.1 C.2.1 dX11_go_20 rfl hl (by decide) rfl (fun ls hl => ?_)
      refine lv_iload_n C.1 C.2.1 dX11_go_21 rfl (lv_at hl 0 rfl) ?_
      refine lv_iconst (v := (-1 : Int32)) C.1 C.2.1 dX11_go_22 (by decide) ?_
      refine lv_icmp_ne (tgt := 29) C.1 C.2.1 dX11_go_23 (by decide) (fun c_5 => ?_) (fun c_5 => ?_)
      · have hE := br_n hE c_5
        refine lv_aload_n C.1 C.2.1 dX11_go_29 rfl (lv_at hl 1 rfl) ?_
        refine lv_iload_n C.1 C.2.1 dX11_go_30 rfl (lv_at hl 0 rfl) ?_
        refine lv_aload_n C.1 C.2.1 dX11_go_31 rfl (lv_at hl 1 rfl) ?_
        obtain ⟨r_6, er_6, hE⟩ := cl_e hE
        refine gf_X11_103 C hW k_x0 er_6 dX11_go_32 (fun k_r_6 => ?_)
        refine lv_iload_n C.1 C.2.1 dX11_go_35 rfl (lv_at hl 2 rfl) ?_
        obtain ⟨g_7, hE⟩ := gd_e hE
        obtain ⟨r_8, er_8, hE⟩ := cl_e hE
        refine y_aald (t0 := 4) C hW k_r_6 (by decide) (by decide) rfl rfl rfl (fun _ => rfl) g_7 er_8 dX11_go_36 (fun k_r_8 => ?_)
        obtain ⟨o_9, eo_9, hE⟩ := cl_e hE
        refine x_kV (o := o_9) (z_runV (As := [.int o_4.1, .ref r_8]) (rest := []) C (ct_X11_settle l X F k_x0 k_r_8 eo_9) cw_X11_275 hW hZ k_x0 (by decide) rfl rfl rfl hl.1 (Nat.le_of_ble_eq_true rfl) rfl dX11_go_37 ⟨Nat.le_of_ble_eq_true rfl, Nat.le_of_ble_eq_true rfl⟩ ⟨Nat.le_refl _, Nat.le_refl _⟩) hZ (fun _ _ hW km hZ => ?_)
        replace hkm := hkm.tr km
        replace k_x0 := km.at k_x0 (by decide)
        refine lv_aload_n C.1 C.2.1 dX11_go_40 rfl (lv_at hl 1 rfl) ?_
        obtain ⟨r_10, er_10, hE⟩ := cl_e hE
        refine gf_X11_50 C hW k_x0 er_10 dX11_go_41 (fun k_r_10 => ?_)
        refine lv_aload_n C.1 C.2.1 dX11_go_44 rfl (lv_at hl 1 rfl) ?_
        obtain ⟨r_11, er_11, hE⟩ := cl_e hE
        refine gf_X11_103 C hW k_x0 er_11 dX11_go_45 (fun k_r_11 => ?_)
        refine lv_iload_n C.1 C.2.1 dX11_go_48 rfl (lv_at hl 0 rfl) ?_
        obtain ⟨g_12, hE⟩ := gd_e hE
        obtain ⟨r_13, er_13, hE⟩ := cl_e hE
        refine y_aald (t0 := 4) C hW k_r_11 (by decide) (by decide) rfl rfl rfl (fun _ => rfl) g_12 er_13 dX11_go_49 (fun k_r_13 => ?_)
        refine lv_aload_n C.1 C.2.1 dX11_go_50 rfl (lv_at hl 1 rfl) ?_
        obtain ⟨r_14, er_14, hE⟩ := cl_e hE
        refine gf_X11_97 C hW k_x0 er_14 dX11_go_51 (fun k_r_14 => ?_)
        refine lv_iload_n C.1 C.2.1 dX11_go_54 rfl (lv_at hl 3 rfl) ?_
        obtain ⟨g_15, hE⟩ := gd_e hE
        refine y_iald C hW k_r_14 g_15 dX11_go_55 ?_
        obtain ⟨o_16, eo_16, hE⟩ := cl_e hE
        refine x_kV (o := o_16) (z_runV (As := [.ref r_13, .int (hI o_9 r_14 x2.toNatClampNeg)]) (rest := []) C (ct_X5_make l X F k_r_10 k_r_13 eo_16) cw_X11_279 hW hZ k_r_10 (by decide) rfl rfl rfl hl.1 (Nat.le_of_ble_eq_true rfl) rfl dX11_go_56 ⟨Nat.le_of_ble_eq_true rfl, Nat.le_of_ble_eq_true rfl⟩ ⟨Nat.le_refl _, Nat.le_refl _⟩) hZ (fun _ _ hW km hZ => ?_)
        replace hkm := hkm.tr km
        replace k_x0 := km.at k_x0 (by decide)
        refine lv_iload_n C.1 C.2.1 dX11_go_59 rfl (lv_at hl 0 rfl) ?_
        exact x_iret C rfl rfl hW hZ hkm hE dX11_go_60
      · have hE := br_p hE c_5
        refine lv_bipush (v := (-104 : Int32)) C.1 C.2.1 dX11_go_26 (by decide) ?_
        exact x_iret C rfl rfl hW hZ hkm hE dX11_go_28
    · have hE := br_n hE c_3
      exact bX11_go_13 C hkm hW hZ _ (lv_sub hl [] rfl) hE
theorem ms_71 : Cond.selects RX4 yX4_tree yX4_tree ∈ W0 := w0_in (List.mem_append_left _ (List.mem_of_getElem? (i := 71) (by decide +kernel))) rfl
theorem m_538 : Cond.fieldLink RX11 289 (TX4 9).1 (TX4 9).2.1 (TX4 9).2.2.1 ∈ W0 := w0_in (List.mem_append_right _ (List.mem_of_getElem? (i := 538) (by decide +kernel))) rfl
theorem m_1365 : Cond.methodLink RX11 283 yX4_setRows ∈ W0 := w0_in (List.mem_append_right _ (List.mem_of_getElem? (i := 1365) (by decide +kernel))) rfl
theorem m_1366 : Cond.instanceMethod yX4_setRows ∈ W0 := w0_in (List.mem_append_right _ (List.mem_of_getElem? (i := 1366) (by decide +kernel))) rfl
theorem m_1367 : Cond.selects RX4 yX4_setRows yX4_setRows ∈ W0 := w0_in (List.mem_append_right _ (List.mem_of_getElem? (i := 1367) (by decide +kernel))) rfl
theorem m_1368 : Cond.code yX4_setRows cX4_setRows 3 none ∈ W0 := w0_in (List.mem_append_right _ (List.mem_of_getElem? (i := 1368) (by decide +kernel))) rfl
theorem n_1375 : Cond.methodLinkNest RX11 286 yX4_tree "GameRules" ∈ tables_1 := List.mem_of_getElem? (i := 1375) (by decide +kernel)
theorem m_1377 : Cond.instanceMethod yX4_tree ∈ W0 := w0_in (List.mem_append_right _ (List.mem_of_getElem? (i := 1377) (by decide +kernel))) rfl
theorem m_1378 : Cond.code yX4_tree cX4_tree 8 (some .int) ∈ W0 := w0_in (List.mem_append_right _ (List.mem_of_getElem? (i := 1378) (by decide +kernel))) rfl
section
variable {p : Program} {l : Launch} {e : Env} {R : Room} {s : State} {m : MethodId} {args : Array Value} {below : List Frame} {meth : Method} {c : Code} {H : Heap} {locs : List Loc} {cells slots : Nat} {Q : State → Prop}
variable {cc : ByteArray} {pc : Nat} {ls : Array Slot} {rest : List Value} {X : Ec} {h h1 : Hp} {nL : Nat} {rt : Option FieldType} {mn : String}
theorem gf_X11_289 {a : Nat} (C : Cx X p s m args meth c RX11 cc nL rt mn) (hW : Wx X h H) (ha : hK h a = 4) (hdg : decode cc pc = .ok (.getfield 289, 3)) (kk : W p l e R s m args below meth c H locs cells slots Q (F0 m (pc + 3) ls (.int (hI h a 9) :: rest))) : W p l e R s m args below meth c H locs cells slots Q (F0 m pc ls (.ref a :: rest)) :=
  y_geti C hW ha i_X4 (by decide) rfl (by decide) m_538 rfl hdg kk
end
theorem cw_X11_283 : cwd RX11 283 yX4_setRows cX4_setRows 3 none false 2 := ⟨m_1368, m_1365, m_14, ⟨m_1366, m_1367⟩, by decide, by decide, by decide +kernel⟩
theorem cn_X11_286 : cwn RX11 286 "GameRules" yX4_tree cX4_tree 8 (some .int) false 1 := ⟨m_1378, n_1375, m_14, ⟨m_1377, ms_71⟩, by decide, by decide, by decide +kernel⟩
theorem dX11_rows_0 : decode cX11_rows 0 = .ok (.iload_n 2, 1) := by decide +kernel
theorem dX11_rows_1 : decode cX11_rows 1 = .ok (.ifCond .lt 9, 3) := by decide +kernel
theorem dX11_rows_4 : decode cX11_rows 4 = .ok (.iload_n 2, 1) := by decide +kernel
theorem dX11_rows_5 : decode cX11_rows 5 = .ok (.bipush 6, 2) := by decide +kernel
theorem dX11_rows_7 : decode cX11_rows 7 = .ok (.if_icmp .le 6, 3) := by decide +kernel
theorem dX11_rows_10 : decode cX11_rows 10 = .ok (.bipush (-101), 2) := by decide +kernel
theorem dX11_rows_12 : decode cX11_rows 12 = .ok (.ireturn, 1) := by decide +kernel
theorem dX11_rows_13 : decode cX11_rows 13 = .ok (.aload_n 0, 1) := by decide +kernel
theorem dX11_rows_14 : decode cX11_rows 14 = .ok (.iload_n 1, 1) := by decide +kernel
theorem dX11_rows_15 : decode cX11_rows 15 = .ok (.invokevirtual 193, 3) := by decide +kernel
theorem dX11_rows_18 : decode cX11_rows 18 = .ok (.ifCond .ne 6, 3) := by decide +kernel
theorem dX11_rows_21 : decode cX11_rows 21 = .ok (.bipush (-102), 2) := by decide +kernel
theorem dX11_rows_23 : decode cX11_rows 23 = .ok (.ireturn, 1) := by decide +kernel
theorem dX11_rows_24 : decode cX11_rows 24 = .ok (.iload_n 2, 1) := by decide +kernel
theorem dX11_rows_25 : decode cX11_rows 25 = .ok (.ifCond .ne 5, 3) := by decide +kernel
theorem dX11_rows_28 : decode cX11_rows 28 = .ok (.iconst 1, 1) := by decide +kernel
theorem dX11_rows_29 : decode cX11_rows 29 = .ok (.ireturn, 1) := by decide +kernel
theorem dX11_rows_30 : decode cX11_rows 30 = .ok (.aload_n 0, 1) := by decide +kernel
theorem dX11_rows_31 : decode cX11_rows 31 = .ok (.getfield 93, 3) := by decide +kernel
theorem dX11_rows_34 : decode cX11_rows 34 = .ok (.aload_n 0, 1) := by decide +kernel
theorem dX11_rows_35 : decode cX11_rows 35 = .ok (.getfield 103, 3) := by decide +kernel
theorem dX11_rows_38 : decode cX11_rows 38 = .ok (.iload_n 1, 1) := by decide +kernel
theorem dX11_rows_39 : decode cX11_rows 39 = .ok (.aaload, 1) := by decide +kernel
theorem dX11_rows_40 : decode cX11_rows 40 = .ok (.iload_n 2, 1) := by decide +kernel
theorem dX11_rows_41 : decode cX11_rows 41 = .ok (.invokevirtual 283, 3) := by decide +kernel
theorem dX11_rows_44 : decode cX11_rows 44 = .ok (.aload_n 0, 1) := by decide +kernel
theorem dX11_rows_45 : decode cX11_rows 45 = .ok (.getfield 93, 3) := by decide +kernel
theorem dX11_rows_48 : decode cX11_rows 48 = .ok (.iconst 0, 1) := by decide +kernel
theorem dX11_rows_49 : decode cX11_rows 49 = .ok (.invokevirtual 286, 3) := by decide +kernel
theorem dX11_rows_52 : decode cX11_rows 52 = .ok (.istore_n 3, 1) := by decide +kernel
theorem dX11_rows_53 : decode cX11_rows 53 = .ok (.aload_n 0, 1) := by decide +kernel
theorem dX11_rows_54 : decode cX11_rows 54 = .ok (.getfield 93, 3) := by decide +kernel
theorem dX11_rows_57 : decode cX11_rows 57 = .ok (.getfield 289, 3) := by decide +kernel
theorem dX11_rows_60 : decode cX11_rows 60 = .ok (.ifCond .eq 8, 3) := by decide +kernel
theorem dX11_rows_63 : decode cX11_rows 63 = .ok (.bipush (-104), 2) := by decide +kernel
theorem dX11_rows_65 : decode cX11_rows 65 = .ok (.goto 4, 3) := by decide +kernel
theorem dX11_rows_68 : decode cX11_rows 68 = .ok (.iload_n 3, 1) := by decide +kernel
theorem dX11_rows_69 : decode cX11_rows 69 = .ok (.ireturn, 1) := by decide +kernel
def sX11_rows_10 (F : Nat) (h : Hp) : Option (Int32 × Hp) := some ((-101 : Int32), h)
def sX11_rows_69 (F : Nat) (h : Hp) (t0 : Int32) : Option (Int32 × Hp) := some (t0, h)
def sX11_rows (F : Nat) (h : Hp) (x0 : Nat) (x1 : Int32) (x2 : Int32) : Option (Int32 × Hp) := br (x2 < 0) (sX11_rows_10 F h ) (br (x2 ≤ (6 : Int32)) (cl (sX11_isPlace h x0 x1) fun o_3 => br (o_3.1 = 0) (some ((-102 : Int32), o_3.2)) (br (x2 = 0) (some ((1 : Int32), o_3.2)) (cl (hR o_3.2 x0 11) fun r_6 => cl (hR o_3.2 x0 13) fun r_7 => gd (inB x1 (hN o_3.2 r_7)) <| cl (hR o_3.2 r_7 x1.toNatClampNeg) fun r_9 => cl (sX4_setRows F o_3.2 r_6 r_9 x2) fun o_10 => cl (hR o_10 x0 11) fun r_11 => cl (sX4_tree F o_10 r_11 (0 : Int32)) fun o_12 => cl (hR o_12.2 x0 11) fun r_13 => br ((hI o_12.2 r_13 9) = 0) (sX11_rows_69 F o_12.2 o_12.1) (sX11_rows_69 F o_12.2 (-104 : Int32))))) (sX11_rows_10 F h ))
set_option maxRecDepth 20000 in
theorem bX11_rows_10 {p : Program} {l : Launch} {e : Env} {s : State} {m : MethodId} {args : Array Value} {below : List Frame} {meth : Method} {c : Code} {X : Ec} {h0 : Hp} {o : Int32 × Hp} {F : Nat} (C : Cx X p s m args meth c RX11 cX11_rows 4 (some .int) "rows") {h : Hp} {H : Heap} {locs : List Loc} (hkm : Km h0 h) (hW : Wx X h H) (hZ : va_S (aA (eB X)) s.heap H locs) (ls : Array Slot) (hl : lv_has ls 4 []) (hE : sX11_rows_10 F h  = some o) : W p l e (rm 7 213) s m args below meth c H locs 0 0 (MQ below (QI X h0 o.1 o.2) args s 0 0 (aA (eB X))) (F0 m 10 ls []) := by
  refine lv_bipush (v := (-101 : Int32)) C.1 C.2.1 dX11_rows_10 (by decide) ?_
  exact x_iret C rfl rfl hW hZ hkm hE dX11_rows_12
set_option maxRecDepth 20000 in
theorem bX11_rows_69 {p : Program} {l : Launch} {e : Env} {s : State} {m : MethodId} {args : Array Value} {below : List Frame} {meth : Method} {c : Code} {X : Ec} {h0 : Hp} {o : Int32 × Hp} {F : Nat} (C : Cx X p s m args meth c RX11 cX11_rows 4 (some .int) "rows") {h : Hp} {t0 : Int32} {H : Heap} {locs : List Loc} (hkm : Km h0 h) (hW : Wx X h H) (hZ : va_S (aA (eB X)) s.heap H locs) (ls : Array Slot) (hl : lv_has ls 4 []) (hE : sX11_rows_69 F h  t0 = some o) : W p l e (rm 7 213) s m args below meth c H locs 0 0 (MQ below (QI X h0 o.1 o.2) args s 0 0 (aA (eB X))) (F0 m 69 ls [.int t0]) := by
  exact x_iret C rfl rfl hW hZ hkm hE dX11_rows_69
set_option maxRecDepth 20000 in
theorem ct_X11_rows (l : Launch) (X : Ec) (F : Nat) {h : Hp} {x0 : Nat} {x1 : Int32} {x2 : Int32} {o : Int32 × Hp} (k_x0 : hK h x0 = 11) (hE : sX11_rows F h x0 x1 x2 = some o) : MetI l yX11_rows cX11_rows 4 (some .int) 7 213 X [.ref x0, .int x1, .int x2] h o := by
  refine x_met (by decide) (Nat.le_of_ble_eq_true rfl) ?_
  intro p e s m below meth c ls C hl hW hZ
  have hl : lv_has ls 4 [(0, .ref x0), (1, .int x1), (2, .int x2)] := hl
  have hkm : Km h h := Km.rf h
  refine lv_iload_n C.1 C.2.1 dX11_rows_0 rfl (lv_at hl 2 rfl) ?_
  refine lv_if_lt (tgt := 10) C.1 C.2.1 dX11_rows_1 (by decide) (fun c_1 => ?_) (fun c_1 => ?_)
  · have hE := br_p hE c_1
    exact bX11_rows_10 C hkm hW hZ _ (lv_sub hl [] rfl) hE
  · have hE := br_n hE c_1
    refine lv_iload_n C.1 C.2.1 dX11_rows_4 rfl (lv_at hl 2 rfl) ?_
    refine lv_bipush (v := (6 : Int32)) C.1 C.2.1 dX11_rows_5 (by decide) ?_
    refine lv_icmp_le (tgt := 13) C.1 C.2.1 dX11_rows_7 (by decide) (fun c_2 => ?_) (fun c_2 => ?_)
    · have hE := br_p hE c_2
      refine lv_aload_n C.1 C.2.1 dX11_rows_13 rfl (lv_at hl 0 rfl) ?_
      refine lv_iload_n C.1 C.2.1 dX11_rows_14 rfl (lv_at hl 1 rfl) ?_
      obtain ⟨o_3, eo_3, hE⟩ := cl_e hE
      refine x_kI (o := o_3) (z_runV (As := [.int x1]) (rest := []) C (ct_X11_isPlace l X k_x0 eo_3) cw_X11_193 hW hZ k_x0 (by decide) rfl rfl rfl hl.1 (Nat.le_of_ble_eq_true rfl) rfl dX11_rows_15 ⟨Nat.le_of_ble_eq_true rfl, Nat.le_of_ble_eq_true rfl⟩ ⟨Nat.le_refl _, Nat.le_refl _⟩) hZ (fun _ _ hW km hZ => ?_)
      replace hkm := hkm.tr km
      replace k_x0 := km.at k_x0 (by decide)
      refine lv_if_ne (tgt := 24) C.1 C.2.1 dX11_rows_18 (by decide) (fun c_4 => ?_) (fun c_4 => ?_)
      · have hE := br_n hE c_4
        refine lv_iload_n C.1 C.2.1 dX11_rows_24 rfl (lv_at hl 2 rfl) ?_
        refine lv_if_ne (tgt := 30) C.1 C.2.1 dX11_rows_25 (by decide) (fun c_5 => ?_) (fun c_5 => ?_)
        · have hE := br_n hE c_5
          refine lv_aload_n C.1 C.2.1 dX11_rows_30 rfl (lv_at hl 0 rfl) ?_
          obtain ⟨r_6, er_6, hE⟩ := cl_e hE
          refine gf_X11_93 C hW k_x0 er_6 dX11_rows_31 (fun k_r_6 => ?_)
          refine lv_aload_n C.1 C.2.1 dX11_rows_34 rfl (lv_at hl 0 rfl) ?_
          obtain ⟨r_7, er_7, hE⟩ := cl_e hE
          refine gf_X11_103 C hW k_x0 er_7 dX11_rows_35 (fun k_r_7 => ?_)
          refine lv_iload_n C.1 C.2.1 dX11_rows_38 rfl (lv_at hl 1 rfl) ?_
          obtain ⟨g_8, hE⟩ := gd_e hE
          obtain ⟨r_9, er_9, hE⟩ := cl_e hE
          refine y_aald (t0 := 4) C hW k_r_7 (by decide) (by decide) rfl rfl rfl (fun _ => rfl) g_8 er_9 dX11_rows_39 (fun k_r_9 => ?_)
          refine lv_iload_n C.1 C.2.1 dX11_rows_40 rfl (lv_at hl 2 rfl) ?_
          obtain ⟨o_10, eo_10, hE⟩ := cl_e hE
          refine x_kV (o := o_10) (z_runV (As := [.ref r_9, .int x2]) (rest := []) C (ct_X4_setRows l X F k_r_6 k_r_9 eo_10) cw_X11_283 hW hZ k_r_6 (by decide) rfl rfl rfl hl.1 (Nat.le_of_ble_eq_true rfl) rfl dX11_rows_41 ⟨Nat.le_of_ble_eq_true rfl, Nat.le_of_ble_eq_true rfl⟩ ⟨Nat.le_refl _, Nat.le_refl _⟩) hZ (fun _ _ hW km hZ => ?_)
          replace hkm := hkm.tr km
          replace k_x0 := km.at k_x0 (by decide)
          refine lv_aload_n C.1 C.2.1 dX11_rows_44 rfl (lv_at hl 0 rfl) ?_
          obtain ⟨r_11, er_11, hE⟩ := cl_e hE
          refine gf_X11_93 C hW k_x0 er_11 dX11_rows_45 (fun k_r_11 => ?_)
          refine lv_iconst (v := (0 : Int32)) C.1 C.2.1 dX11_rows_48 (by decide) ?_
          obtain ⟨o_12, eo_12, hE⟩ := cl_e hE
          refine x_kI (o := o_12) (z_runVN (As := [.int (0 : Int32)]) (rest := []) C (ct_X4_tree l X F k_r_11 eo_12) cn_X11_286 hW hZ k_r_11 (by decide) rfl rfl rfl hl.1 (Nat.le_of_ble_eq_true rfl) rfl dX11_rows_49 ⟨Nat.le_of_ble_eq_true rfl, Nat.le_of_ble_eq_true rfl⟩ ⟨Nat.le_refl _, Nat.le_refl _⟩) hZ (fun _ _ hW km hZ => ?_)
          replace hkm := hkm.tr km
          replace k_x0 := km.at k_x0 (by decide)
          refine lv_istore_n (lv' := [(3, .int o_12.1), (0, .ref x0), (1, .int x1), (2, .int x2)]) C.1 C.2.1 dX11_rows_52 rfl hl (by decide) rfl (fun ls hl => ?_)
          refine lv_aload_n C.1 C.2.1 dX11_rows_53 rfl (lv_at hl 1 rfl) ?_
          obtain ⟨r_13, er_13, hE⟩ := cl_e hE
          refine gf_X11_93 C hW k_x0 er_13 dX11_rows_54 (fun k_r_13 => ?_)
          refine gf_X11_289 C hW k_r_13 dX11_rows_57 ?_
          refine lv_if_eq (tgt := 68) C.1 C.2.1 dX11_rows_60 (by decide) (fun c_14 => ?_) (fun c_14 => ?_)
          · have hE := br_p hE c_14
            refine lv_iload_n C.1 C.2.1 dX11_rows_68 rfl (lv_at hl 0 rfl) ?_
            exact bX11_rows_69 C hkm hW hZ _ (lv_sub hl [] rfl) hE
          · have hE := br_n hE c_14
            refine lv_bipush (v := (-104 : Int32)) C.1 C.2.1 dX11_rows_63 (by decide) ?_
            refine lv_goto (tgt := 69) C.1 C.2.1 dX11_rows_65 (by decide) ?_
            exact bX11_rows_69 C hkm hW hZ _ (lv_sub hl [] rfl) hE
        · have hE := br_p hE c_5
          refine lv_iconst (v := (1 : Int32)) C.1 C.2.1 dX11_rows_28 (by decide) ?_
          exact x_iret C rfl rfl hW hZ hkm hE dX11_rows_29
      · have hE := br_p hE c_4
        refine lv_bipush (v := (-102 : Int32)) C.1 C.2.1 dX11_rows_21 (by decide) ?_
        exact x_iret C rfl rfl hW hZ hkm hE dX11_rows_23
    · have hE := br_n hE c_2
      exact bX11_rows_10 C hkm hW hZ _ (lv_sub hl [] rfl) hE
theorem m_1417 : Cond.methodLink RX11 293 yX5_endOf ∈ W0 := w0_in (List.mem_append_right _ (List.mem_of_getElem? (i := 1417) (by decide +kernel))) rfl
theorem cw_X11_293 : cwd RX11 293 yX5_endOf cX5_endOf 3 (some .int) false 1 := ⟨m_1383, m_1417, m_7, ⟨m_1381, m_1382⟩, by decide, by decide, by decide +kernel⟩
theorem dX11_ended_0 : decode cX11_ended 0 = .ok (.aload_n 0, 1) := by decide +kernel
theorem dX11_ended_1 : decode cX11_ended 1 = .ok (.iload_n 1, 1) := by decide +kernel
theorem dX11_ended_2 : decode cX11_ended 2 = .ok (.invokevirtual 193, 3) := by decide +kernel
theorem dX11_ended_5 : decode cX11_ended 5 = .ok (.ifCond .eq 19, 3) := by decide +kernel
theorem dX11_ended_8 : decode cX11_ended 8 = .ok (.aload_n 0, 1) := by decide +kernel
theorem dX11_ended_9 : decode cX11_ended 9 = .ok (.getfield 50, 3) := by decide +kernel
theorem dX11_ended_12 : decode cX11_ended 12 = .ok (.aload_n 0, 1) := by decide +kernel
theorem dX11_ended_13 : decode cX11_ended 13 = .ok (.getfield 103, 3) := by decide +kernel
theorem dX11_ended_16 : decode cX11_ended 16 = .ok (.iload_n 1, 1) := by decide +kernel
theorem dX11_ended_17 : decode cX11_ended 17 = .ok (.aaload, 1) := by decide +kernel
theorem dX11_ended_18 : decode cX11_ended 18 = .ok (.invokevirtual 293, 3) := by decide +kernel
theorem dX11_ended_21 : decode cX11_ended 21 = .ok (.goto 5, 3) := by decide +kernel
theorem dX11_ended_24 : decode cX11_ended 24 = .ok (.bipush (-102), 2) := by decide +kernel
theorem dX11_ended_26 : decode cX11_ended 26 = .ok (.ireturn, 1) := by decide +kernel
def sX11_ended_26 (F : Nat) (h : Hp) (t0 : Int32) : Option (Int32 × Hp) := some (t0, h)
def sX11_ended (F : Nat) (h : Hp) (x0 : Nat) (x1 : Int32) : Option (Int32 × Hp) := cl (sX11_isPlace h x0 x1) fun o_1 => br (o_1.1 = 0) (sX11_ended_26 F o_1.2 (-102 : Int32)) (cl (hR o_1.2 x0 6) fun r_3 => cl (hR o_1.2 x0 13) fun r_4 => gd (inB x1 (hN o_1.2 r_4)) <| cl (hR o_1.2 r_4 x1.toNatClampNeg) fun r_6 => cl (sX5_endOf F o_1.2 r_3 r_6) fun o_7 => sX11_ended_26 F o_7.2 o_7.1)
set_option maxRecDepth 20000 in
theorem bX11_ended_26 {p : Program} {l : Launch} {e : Env} {s : State} {m : MethodId} {args : Array Value} {below : List Frame} {meth : Method} {c : Code} {X : Ec} {h0 : Hp} {o : Int32 × Hp} {F : Nat} (C : Cx X p s m args meth c RX11 cX11_ended 2 (some .int) "ended") {h : Hp} {t0 : Int32} {H : Heap} {locs : List Loc} (hkm : Km h0 h) (hW : Wx X h H) (hZ : va_S (aA (eB X)) s.heap H locs) (ls : Array Slot) (hl : lv_has ls 2 []) (hE : sX11_ended_26 F h  t0 = some o) : W p l e (rm 5 161) s m args below meth c H locs 0 0 (MQ below (QI X h0 o.1 o.2) args s 0 0 (aA (eB X))) (F0 m 26 ls [.int t0]) := by
  exact x_iret C rfl rfl hW hZ hkm hE dX11_ended_26
set_option maxRecDepth 20000 in
theorem ct_X11_ended (l : Launch) (X : Ec) (F : Nat) {h : Hp} {x0 : Nat} {x1 : Int32} {o : Int32 × Hp} (k_x0 : hK h x0 = 11) (hE : sX11_ended F h x0 x1 = some o) : MetI l yX11_ended cX11_ended 2 (some .int) 5 161 X [.ref x0, .int x1] h o := by
  refine x_met (by decide) (Nat.le_of_ble_eq_true rfl) ?_
  intro p e s m below meth c ls C hl hW hZ
  have hl : lv_has ls 2 [(0, .ref x0), (1, .int x1)] := hl
  have hkm : Km h h := Km.rf h
  refine lv_aload_n C.1 C.2.1 dX11_ended_0 rfl (lv_at hl 0 rfl) ?_
  refine lv_iload_n C.1 C.2.1 dX11_ended_1 rfl (lv_at hl 1 rfl) ?_
  obtain ⟨o_1, eo_1, hE⟩ := cl_e hE
  refine x_kI (o := o_1) (z_runV (As := [.int x1]) (rest := []) C (ct_X11_isPlace l X k_x0 eo_1) cw_X11_193 hW hZ k_x0 (by decide) rfl rfl rfl hl.1 (Nat.le_of_ble_eq_true rfl) rfl dX11_ended_2 ⟨Nat.le_of_ble_eq_true rfl, Nat.le_of_ble_eq_true rfl⟩ ⟨Nat.le_refl _, Nat.le_refl _⟩) hZ (fun _ _ hW km hZ => ?_)
  replace hkm := hkm.tr km
  replace k_x0 := km.at k_x0 (by decide)
  refine lv_if_eq (tgt := 24) C.1 C.2.1 dX11_ended_5 (by decide) (fun c_2 => ?_) (fun c_2 => ?_)
  · have hE := br_p hE c_2
    refine lv_bipush (v := (-102 : Int32)) C.1 C.2.1 dX11_ended_24 (by decide) ?_
    exact bX11_ended_26 C hkm hW hZ _ (lv_sub hl [] rfl) hE
  · have hE := br_n hE c_2
    refine lv_aload_n C.1 C.2.1 dX11_ended_8 rfl (lv_at hl 0 rfl) ?_
    obtain ⟨r_3, er_3, hE⟩ := cl_e hE
    refine gf_X11_50 C hW k_x0 er_3 dX11_ended_9 (fun k_r_3 => ?_)
    refine lv_aload_n C.1 C.2.1 dX11_ended_12 rfl (lv_at hl 0 rfl) ?_
    obtain ⟨r_4, er_4, hE⟩ := cl_e hE
    refine gf_X11_103 C hW k_x0 er_4 dX11_ended_13 (fun k_r_4 => ?_)
    refine lv_iload_n C.1 C.2.1 dX11_ended_16 rfl (lv_at hl 1 rfl) ?_
    obtain ⟨g_5, hE⟩ := gd_e hE
    obtain ⟨r_6, er_6, hE⟩ := cl_e hE
    refine y_aald (t0 := 4) C hW k_r_4 (by decide) (by decide) rfl rfl rfl (fun _ => rfl) g_5 er_6 dX11_ended_17 (fun k_r_6 => ?_)
    obtain ⟨o_7, eo_7, hE⟩ := cl_e hE
    refine x_kI (o := o_7) (z_runV (As := [.ref r_6]) (rest := []) C (ct_X5_endOf l X F k_r_3 k_r_6 eo_7) cw_X11_293 hW hZ k_r_3 (by decide) rfl rfl rfl hl.1 (Nat.le_of_ble_eq_true rfl) rfl dX11_ended_18 ⟨Nat.le_of_ble_eq_true rfl, Nat.le_of_ble_eq_true rfl⟩ ⟨Nat.le_refl _, Nat.le_refl _⟩) hZ (fun _ _ hW km hZ => ?_)
    replace hkm := hkm.tr km
    replace k_x0 := km.at k_x0 (by decide)
    refine lv_goto (tgt := 26) C.1 C.2.1 dX11_ended_21 (by decide) ?_
    exact bX11_ended_26 C hkm hW hZ _ (lv_sub hl [] rfl) hE
theorem m_1422 : Cond.methodLink RX11 296 yX5_winnerOf ∈ W0 := w0_in (List.mem_append_right _ (List.mem_of_getElem? (i := 1422) (by decide +kernel))) rfl
theorem cw_X11_296 : cwd RX11 296 yX5_winnerOf cX5_winnerOf 6 (some .int) false 2 := ⟨m_1402, m_1422, m_7, ⟨m_1400, m_1401⟩, by decide, by decide, by decide +kernel⟩
theorem dX11_result_0 : decode cX11_result 0 = .ok (.aload_n 0, 1) := by decide +kernel
theorem dX11_result_1 : decode cX11_result 1 = .ok (.iload_n 1, 1) := by decide +kernel
theorem dX11_result_2 : decode cX11_result 2 = .ok (.invokevirtual 193, 3) := by decide +kernel
theorem dX11_result_5 : decode cX11_result 5 = .ok (.ifCond .ne 6, 3) := by decide +kernel
theorem dX11_result_8 : decode cX11_result 8 = .ok (.bipush (-102), 2) := by decide +kernel
theorem dX11_result_10 : decode cX11_result 10 = .ok (.ireturn, 1) := by decide +kernel
theorem dX11_result_11 : decode cX11_result 11 = .ok (.aload_n 0, 1) := by decide +kernel
theorem dX11_result_12 : decode cX11_result 12 = .ok (.getfield 50, 3) := by decide +kernel
theorem dX11_result_15 : decode cX11_result 15 = .ok (.aload_n 0, 1) := by decide +kernel
theorem dX11_result_16 : decode cX11_result 16 = .ok (.getfield 103, 3) := by decide +kernel
theorem dX11_result_19 : decode cX11_result 19 = .ok (.iload_n 1, 1) := by decide +kernel
theorem dX11_result_20 : decode cX11_result 20 = .ok (.aaload, 1) := by decide +kernel
theorem dX11_result_21 : decode cX11_result 21 = .ok (.aload_n 0, 1) := by decide +kernel
theorem dX11_result_22 : decode cX11_result 22 = .ok (.getfield 50, 3) := by decide +kernel
theorem dX11_result_25 : decode cX11_result 25 = .ok (.aload_n 0, 1) := by decide +kernel
theorem dX11_result_26 : decode cX11_result 26 = .ok (.getfield 103, 3) := by decide +kernel
theorem dX11_result_29 : decode cX11_result 29 = .ok (.iload_n 1, 1) := by decide +kernel
theorem dX11_result_30 : decode cX11_result 30 = .ok (.aaload, 1) := by decide +kernel
theorem dX11_result_31 : decode cX11_result 31 = .ok (.invokevirtual 293, 3) := by decide +kernel
theorem dX11_result_34 : decode cX11_result 34 = .ok (.invokevirtual 296, 3) := by decide +kernel
theorem dX11_result_37 : decode cX11_result 37 = .ok (.ireturn, 1) := by decide +kernel
def sX11_result (F : Nat) (h : Hp) (x0 : Nat) (x1 : Int32) : Option (Int32 × Hp) := cl (sX11_isPlace h x0 x1) fun o_1 => br (o_1.1 = 0) (some ((-102 : Int32), o_1.2)) (cl (hR o_1.2 x0 6) fun r_3 => cl (hR o_1.2 x0 13) fun r_4 => gd (inB x1 (hN o_1.2 r_4)) <| cl (hR o_1.2 r_4 x1.toNatClampNeg) fun r_6 => cl (hR o_1.2 x0 6) fun r_7 => cl (hR o_1.2 x0 13) fun r_8 => gd (inB x1 (hN o_1.2 r_8)) <| cl (hR o_1.2 r_8 x1.toNatClampNeg) fun r_10 => cl (sX5_endOf F o_1.2 r_7 r_10) fun o_11 => cl (sX5_winnerOf o_11.2 r_3 r_6 o_11.1) fun o_12 => some (o_12.1, o_12.2))
set_option maxRecDepth 20000 in
theorem ct_X11_result (l : Launch) (X : Ec) (F : Nat) {h : Hp} {x0 : Nat} {x1 : Int32} {o : Int32 × Hp} (k_x0 : hK h x0 = 11) (hE : sX11_result F h x0 x1 = some o) : MetI l yX11_result cX11_result 2 (some .int) 5 161 X [.ref x0, .int x1] h o := by
  refine x_met (by decide) (Nat.le_of_ble_eq_true rfl) ?_
  intro p e s m below meth c ls C hl hW hZ
  have hl : lv_has ls 2 [(0, .ref x0), (1, .int x1)] := hl
  have hkm : Km h h := Km.rf h
  refine lv_aload_n C.1 C.2.1 dX11_result_0 rfl (lv_at hl 0 rfl) ?_
  refine lv_iload_n C.1 C.2.1 dX11_result_1 rfl (lv_at hl 1 rfl) ?_
  obtain ⟨o_1, eo_1, hE⟩ := cl_e hE
  refine x_kI (o := o_1) (z_runV (As := [.int x1]) (rest := []) C (ct_X11_isPlace l X k_x0 eo_1) cw_X11_193 hW hZ k_x0 (by decide) rfl rfl rfl hl.1 (Nat.le_of_ble_eq_true rfl) rfl dX11_result_2 ⟨Nat.le_of_ble_eq_true rfl, Nat.le_of_ble_eq_true rfl⟩ ⟨Nat.le_refl _, Nat.le_refl _⟩) hZ (fun _ _ hW km hZ => ?_)
  replace hkm := hkm.tr km
  replace k_x0 := km.at k_x0 (by decide)
  refine lv_if_ne (tgt := 11) C.1 C.2.1 dX11_result_5 (by decide) (fun c_2 => ?_) (fun c_2 => ?_)
  · have hE := br_n hE c_2
    refine lv_aload_n C.1 C.2.1 dX11_result_11 rfl (lv_at hl 0 rfl) ?_
    obtain ⟨r_3, er_3, hE⟩ := cl_e hE
    refine gf_X11_50 C hW k_x0 er_3 dX11_result_12 (fun k_r_3 => ?_)
    refine lv_aload_n C.1 C.2.1 dX11_result_15 rfl (lv_at hl 0 rfl) ?_
    obtain ⟨r_4, er_4, hE⟩ := cl_e hE
    refine gf_X11_103 C hW k_x0 er_4 dX11_result_16 (fun k_r_4 => ?_)
    refine lv_iload_n C.1 C.2.1 dX11_result_19 rfl (lv_at hl 1 rfl) ?_
    obtain ⟨g_5, hE⟩ := gd_e hE
    obtain ⟨r_6, er_6, hE⟩ := cl_e hE
    refine y_aald (t0 := 4) C hW k_r_4 (by decide) (by decide) rfl rfl rfl (fun _ => rfl) g_5 er_6 dX11_result_20 (fun k_r_6 => ?_)
    refine lv_aload_n C.1 C.2.1 dX11_result_21 rfl (lv_at hl 0 rfl) ?_
    obtain ⟨r_7, er_7, hE⟩ := cl_e hE
    refine gf_X11_50 C hW k_x0 er_7 dX11_result_22 (fun k_r_7 => ?_)
    refine lv_aload_n C.1 C.2.1 dX11_result_25 rfl (lv_at hl 0 rfl) ?_
    obtain ⟨r_8, er_8, hE⟩ := cl_e hE
    refine gf_X11_103 C hW k_x0 er_8 dX11_result_26 (fun k_r_8 => ?_)
    refine lv_iload_n C.1 C.2.1 dX11_result_29 rfl (lv_at hl 1 rfl) ?_
    obtain ⟨g_9, hE⟩ := gd_e hE
    obtain ⟨r_10, er_10, hE⟩ := cl_e hE
    refine y_aald (t0 := 4) C hW k_r_8 (by decide) (by decide) rfl rfl rfl (fun _ => rfl) g_9 er_10 dX11_result_30 (fun k_r_10 => ?_)
    obtain ⟨o_11, eo_11, hE⟩ := cl_e hE
    refine x_kI (o := o_11) (z_runV (As := [.ref r_10]) (rest := [.ref r_6, .ref r_3]) C (ct_X5_endOf l X F k_r_7 k_r_10 eo_11) cw_X11_293 hW hZ k_r_7 (by decide) rfl rfl rfl hl.1 (Nat.le_of_ble_eq_true rfl) rfl dX11_result_31 ⟨Nat.le_of_ble_eq_true rfl, Nat.le_of_ble_eq_true rfl⟩ ⟨Nat.le_refl _, Nat.le_refl _⟩) hZ (fun _ _ hW km hZ => ?_)
    replace hkm := hkm.tr km
    replace k_x0 := km.at k_x0 (by decide)
    replace k_r_6 := km.at k_r_6 (by decide)
    replace k_r_3 := km.at k_r_3 (by decide)
    obtain ⟨o_12, eo_12, hE⟩ := cl_e hE
    refine x_kI (o := o_12) (z_runV (As := [.ref r_6, .int o_11.1]) (rest := []) C (ct_X5_winnerOf l X k_r_3 k_r_6 eo_12) cw_X11_296 hW hZ k_r_3 (by decide) rfl rfl rfl hl.1 (Nat.le_of_ble_eq_true rfl) rfl dX11_result_34 ⟨Nat.le_of_ble_eq_true rfl, Nat.le_of_ble_eq_true rfl⟩ ⟨Nat.le_refl _, Nat.le_refl _⟩) hZ (fun _ _ hW km hZ => ?_)
    replace hkm := hkm.tr km
    replace k_x0 := km.at k_x0 (by decide)
    exact x_iret C rfl rfl hW hZ hkm hE dX11_result_37
  · have hE := br_p hE c_2
    refine lv_bipush (v := (-102 : Int32)) C.1 C.2.1 dX11_result_8 (by decide) ?_
    exact x_iret C rfl rfl hW hZ hkm hE dX11_result_10
theorem m_1427 : Cond.methodLink RX11 300 yX8_writeMove ∈ W0 := w0_in (List.mem_append_right _ (List.mem_of_getElem? (i := 1427) (by decide +kernel))) rfl
theorem m_1450 : Cond.methodLink RX11 304 yX8_markOf ∈ W0 := w0_in (List.mem_append_right _ (List.mem_of_getElem? (i := 1450) (by decide +kernel))) rfl
theorem m_1451 : Cond.instanceMethod yX8_markOf ∈ W0 := w0_in (List.mem_append_right _ (List.mem_of_getElem? (i := 1451) (by decide +kernel))) rfl
theorem m_1452 : Cond.selects RX8 yX8_markOf yX8_markOf ∈ W0 := w0_in (List.mem_append_right _ (List.mem_of_getElem? (i := 1452) (by decide +kernel))) rfl
theorem m_1453 : Cond.code yX8_markOf cX8_markOf 4 (some .int) ∈ W0 := w0_in (List.mem_append_right _ (List.mem_of_getElem? (i := 1453) (by decide +kernel))) rfl
theorem m_1459 : Cond.methodLink RX11 307 yX9_append ∈ W0 := w0_in (List.mem_append_right _ (List.mem_of_getElem? (i := 1459) (by decide +kernel))) rfl
section
variable {p : Program} {l : Launch} {e : Env} {R : Room} {s : State} {m : MethodId} {args : Array Value} {below : List Frame} {meth : Method} {c : Code} {H : Heap} {locs : List Loc} {cells slots : Nat} {Q : State → Prop}
variable {cc : ByteArray} {pc : Nat} {ls : Array Slot} {rest : List Value} {X : Ec} {h h1 : Hp} {nL : Nat} {rt : Option FieldType} {mn : String}
theorem gf_X11_68 {a r : Nat} (C : Cx X p s m args meth c RX11 cc nL rt mn) (hW : Wx X h H) (ha : hK h a = 11) (hr : hR h a 8 = some r) (hdg : decode cc pc = .ok (.getfield 68, 3)) (kk : hK h r = 8 → W p l e R s m args below meth c H locs cells slots Q (F0 m (pc + 3) ls (.ref r :: rest))) : W p l e R s m args below meth c H locs cells slots Q (F0 m pc ls (.ref a :: rest)) :=
  y_getr C hW ha i_X11 (by decide) rfl (by decide) m_860 rfl rfl hr hdg kk
end
theorem cw_X11_300 : cwd RX11 300 yX8_writeMove cX8_writeMove 9 none false 4 := ⟨m_1430, m_1427, m_11, ⟨m_1428, m_1429⟩, by decide, by decide, by decide +kernel⟩
theorem cw_X11_304 : cwd RX11 304 yX8_markOf cX8_markOf 4 (some .int) false 2 := ⟨m_1453, m_1450, m_11, ⟨m_1451, m_1452⟩, by decide, by decide, by decide +kernel⟩
theorem cw_X11_307 : cwd RX11 307 yX9_append cX9_append 2 none false 1 := ⟨m_640, m_1459, m_2, ⟨m_638, m_639⟩, by decide, by decide, by decide +kernel⟩
theorem dX11_say_0 : decode cX11_say 0 = .ok (.aload_n 0, 1) := by decide +kernel
theorem dX11_say_1 : decode cX11_say 1 = .ok (.iload_n 1, 1) := by decide +kernel
theorem dX11_say_2 : decode cX11_say 2 = .ok (.invokevirtual 254, 3) := by decide +kernel
theorem dX11_say_5 : decode cX11_say 5 = .ok (.istore_n 3, 1) := by decide +kernel
theorem dX11_say_6 : decode cX11_say 6 = .ok (.iload_n 2, 1) := by decide +kernel
theorem dX11_say_7 : decode cX11_say 7 = .ok (.ifCond .lt 8, 3) := by decide +kernel
theorem dX11_say_10 : decode cX11_say 10 = .ok (.iload_n 2, 1) := by decide +kernel
theorem dX11_say_11 : decode cX11_say 11 = .ok (.iload_n 3, 1) := by decide +kernel
theorem dX11_say_12 : decode cX11_say 12 = .ok (.if_icmp .lt 6, 3) := by decide +kernel
theorem dX11_say_15 : decode cX11_say 15 = .ok (.bipush (-102), 2) := by decide +kernel
theorem dX11_say_17 : decode cX11_say 17 = .ok (.ireturn, 1) := by decide +kernel
theorem dX11_say_18 : decode cX11_say 18 = .ok (.aload_n 0, 1) := by decide +kernel
theorem dX11_say_19 : decode cX11_say 19 = .ok (.getfield 18, 3) := by decide +kernel
theorem dX11_say_22 : decode cX11_say 22 = .ok (.invokevirtual 144, 3) := by decide +kernel
theorem dX11_say_25 : decode cX11_say 25 = .ok (.aload_n 0, 1) := by decide +kernel
theorem dX11_say_26 : decode cX11_say 26 = .ok (.getfield 68, 3) := by decide +kernel
theorem dX11_say_29 : decode cX11_say 29 = .ok (.aload_n 0, 1) := by decide +kernel
theorem dX11_say_30 : decode cX11_say 30 = .ok (.getfield 97, 3) := by decide +kernel
theorem dX11_say_33 : decode cX11_say 33 = .ok (.iload_n 3, 1) := by decide +kernel
theorem dX11_say_34 : decode cX11_say 34 = .ok (.iload_n 2, 1) := by decide +kernel
theorem dX11_say_35 : decode cX11_say 35 = .ok (.aload_n 0, 1) := by decide +kernel
theorem dX11_say_36 : decode cX11_say 36 = .ok (.getfield 18, 3) := by decide +kernel
theorem dX11_say_39 : decode cX11_say 39 = .ok (.invokevirtual 300, 3) := by decide +kernel
theorem dX11_say_42 : decode cX11_say 42 = .ok (.aload_n 0, 1) := by decide +kernel
theorem dX11_say_43 : decode cX11_say 43 = .ok (.getfield 68, 3) := by decide +kernel
theorem dX11_say_46 : decode cX11_say 46 = .ok (.aload_n 0, 1) := by decide +kernel
theorem dX11_say_47 : decode cX11_say 47 = .ok (.getfield 103, 3) := by decide +kernel
theorem dX11_say_50 : decode cX11_say 50 = .ok (.iload_n 1, 1) := by decide +kernel
theorem dX11_say_51 : decode cX11_say 51 = .ok (.aaload, 1) := by decide +kernel
theorem dX11_say_52 : decode cX11_say 52 = .ok (.aload_n 0, 1) := by decide +kernel
theorem dX11_say_53 : decode cX11_say 53 = .ok (.getfield 97, 3) := by decide +kernel
theorem dX11_say_56 : decode cX11_say 56 = .ok (.iload_n 2, 1) := by decide +kernel
theorem dX11_say_57 : decode cX11_say 57 = .ok (.iaload, 1) := by decide +kernel
theorem dX11_say_58 : decode cX11_say 58 = .ok (.invokevirtual 304, 3) := by decide +kernel
theorem dX11_say_61 : decode cX11_say 61 = .ok (.istore 4, 2) := by decide +kernel
theorem dX11_say_63 : decode cX11_say 63 = .ok (.iload 4, 2) := by decide +kernel
theorem dX11_say_65 : decode cX11_say 65 = .ok (.iconst (-1), 1) := by decide +kernel
theorem dX11_say_66 : decode cX11_say 66 = .ok (.if_icmp .eq 12, 3) := by decide +kernel
theorem dX11_say_69 : decode cX11_say 69 = .ok (.aload_n 0, 1) := by decide +kernel
theorem dX11_say_70 : decode cX11_say 70 = .ok (.getfield 18, 3) := by decide +kernel
theorem dX11_say_73 : decode cX11_say 73 = .ok (.iload 4, 2) := by decide +kernel
theorem dX11_say_75 : decode cX11_say 75 = .ok (.invokevirtual 307, 3) := by decide +kernel
theorem dX11_say_78 : decode cX11_say 78 = .ok (.aload_n 0, 1) := by decide +kernel
theorem dX11_say_79 : decode cX11_say 79 = .ok (.getfield 18, 3) := by decide +kernel
theorem dX11_say_82 : decode cX11_say 82 = .ok (.getfield 147, 3) := by decide +kernel
theorem dX11_say_85 : decode cX11_say 85 = .ok (.ireturn, 1) := by decide +kernel
def sX11_say_15 (F : Nat) (h : Hp) : Option (Int32 × Hp) := some ((-102 : Int32), h)
def sX11_say_78 (F : Nat) (h : Hp) (x0 : Nat) : Option (Int32 × Hp) := cl (hR h x0 1) fun r_1 => some (hI h r_1 1, h)
def sX11_say (F : Nat) (h : Hp) (x0 : Nat) (x1 : Int32) (x2 : Int32) : Option (Int32 × Hp) := cl (sX11_listMoves F h x0 x1) fun o_1 => br (x2 < 0) (sX11_say_15 F o_1.2 ) (br (x2 < o_1.1) (cl (hR o_1.2 x0 1) fun r_4 => cl (sX9_clear o_1.2 r_4) fun o_5 => cl (hR o_5 x0 8) fun r_6 => cl (hR o_5 x0 12) fun r_7 => cl (hR o_5 x0 1) fun r_8 => cl (sX8_writeMove F o_5 r_6 r_7 o_1.1 x2 r_8) fun o_9 => cl (hR o_9 x0 8) fun r_10 => cl (hR o_9 x0 13) fun r_11 => gd (inB x1 (hN o_9 r_11)) <| cl (hR o_9 r_11 x1.toNatClampNeg) fun r_13 => cl (hR o_9 x0 12) fun r_14 => gd (inB x2 (hN o_9 r_14)) <| cl (sX8_markOf F o_9 r_10 r_13 (hI o_9 r_14 x2.toNatClampNeg)) fun o_16 => br (o_16.1 = (-1 : Int32)) (sX11_say_78 F o_16.2 x0) (cl (hR o_16.2 x0 1) fun r_18 => cl (sX9_append o_16.2 r_18 o_16.1) fun o_19 => sX11_say_78 F o_19 x0)) (sX11_say_15 F o_1.2 ))
set_option maxRecDepth 20000 in
theorem bX11_say_15 {p : Program} {l : Launch} {e : Env} {s : State} {m : MethodId} {args : Array Value} {below : List Frame} {meth : Method} {c : Code} {X : Ec} {h0 : Hp} {o : Int32 × Hp} {F : Nat} (C : Cx X p s m args meth c RX11 cX11_say 5 (some .int) "say") {h : Hp} {H : Heap} {locs : List Loc} (hkm : Km h0 h) (hW : Wx X h H) (hZ : va_S (aA (eB X)) s.heap H locs) (ls : Array Slot) (hl : lv_has ls 5 []) (hE : sX11_say_15 F h  = some o) : W p l e (rm 6 184) s m args below meth c H locs 0 0 (MQ below (QI X h0 o.1 o.2) args s 0 0 (aA (eB X))) (F0 m 15 ls []) := by
  refine lv_bipush (v := (-102 : Int32)) C.1 C.2.1 dX11_say_15 (by decide) ?_
  exact x_iret C rfl rfl hW hZ hkm hE dX11_say_17
set_option maxRecDepth 20000 in
theorem bX11_say_78 {p : Program} {l : Launch} {e : Env} {s : State} {m : MethodId} {args : Array Value} {below : List Frame} {meth : Method} {c : Code} {X : Ec} {h0 : Hp} {o : Int32 × Hp} {F : Nat} (C : Cx X p s m args meth c RX11 cX11_say 5 (some .int) "say") {h : Hp} {x0 : Nat} {H : Heap} {locs : List Loc} (k_x0 : hK h x0 = 11) (hkm : Km h0 h) (hW : Wx X h H) (hZ : va_S (aA (eB X)) s.heap H locs) (ls : Array Slot) (hl : lv_has ls 5 [(0, .ref x0)]) (hE : sX11_say_78 F h x0 = some o) : W p l e (rm 6 184) s m args below meth c H locs 0 0 (MQ below (QI X h0 o.1 o.2) args s 0 0 (aA (eB X))) (F0 m 78 ls []) := by
  refine lv_aload_n C.1 C.2.1 dX11_say_78 rfl (lv_at hl 0 rfl) ?_
  obtain ⟨r_1, er_1, hE⟩ := cl_e hE
  refine gf_X11_18 C hW k_x0 er_1 dX11_say_79 (fun k_r_1 => ?_)
  refine gf_X11_147 C hW k_r_1 dX11_say_82 ?_
  exact x_iret C rfl rfl hW hZ hkm hE dX11_say_85
set_option maxRecDepth 20000 in
theorem ct_X11_say (l : Launch) (X : Ec) (F : Nat) {h : Hp} {x0 : Nat} {x1 : Int32} {x2 : Int32} {o : Int32 × Hp} (k_x0 : hK h x0 = 11) (hE : sX11_say F h x0 x1 x2 = some o) : MetI l yX11_say cX11_say 5 (some .int) 6 184 X [.ref x0, .int x1, .int x2] h o := by
  refine x_met (by decide) (Nat.le_of_ble_eq_true rfl) ?_
  intro p e s m below meth c ls C hl hW hZ
  have hl : lv_has ls 5 [(0, .ref x0), (1, .int x1), (2, .int x2)] := hl
  have hkm : Km h h := Km.rf h
  refine lv_aload_n C.1 C.2.1 dX11_say_0 rfl (lv_at hl 0 rfl) ?_
  refine lv_iload_n C.1 C.2.1 dX11_say_1 rfl (lv_at hl 1 rfl) ?_
  obtain ⟨o_1, eo_1, hE⟩ := cl_e hE
  refine x_kI (o := o_1) (z_runV (As := [.int x1]) (rest := []) C (ct_X11_listMoves l X F k_x0 eo_1) cw_X11_254 hW hZ k_x0 (by decide) rfl rfl rfl hl.1 (Nat.le_of_ble_eq_true rfl) rfl dX11_say_2 ⟨Nat.le_of_ble_eq_true rfl, Nat.le_of_ble_eq_true rfl⟩ ⟨Nat.le_refl _, Nat.le_refl _⟩) hZ (fun _ _ hW km hZ => ?_)
  replace hkm := hkm.tr km
  replace k_x0 := km.at k_x0 (by decide)
  refine lv_istore_n (lv' := [(3, .int o_1.1), (0, .ref x0), (1, .int x1), (2, .int x2)]) C.1 C.2.1 dX11_say_5 rfl hl (by decide) rfl (fun ls hl => ?_)
  refine lv_iload_n C.1 C.2.1 dX11_say_6 rfl (lv_at hl 3 rfl) ?_
  refine lv_if_lt (tgt := 15) C.1 C.2.1 dX11_say_7 (by decide) (fun c_2 => ?_) (fun c_2 => ?_)
  · have hE := br_p hE c_2
    exact bX11_say_15 C hkm hW hZ _ (lv_sub hl [] rfl) hE
  · have hE := br_n hE c_2
    refine lv_iload_n C.1 C.2.1 dX11_say_10 rfl (lv_at hl 3 rfl) ?_
    refine lv_iload_n C.1 C.2.1 dX11_say_11 rfl (lv_at hl 0 rfl) ?_
    refine lv_icmp_lt (tgt := 18) C.1 C.2.1 dX11_say_12 (by decide) (fun c_3 => ?_) (fun c_3 => ?_)
    · have hE := br_p hE c_3
      refine lv_aload_n C.1 C.2.1 dX11_say_18 rfl (lv_at hl 1 rfl) ?_
      obtain ⟨r_4, er_4, hE⟩ := cl_e hE
      refine gf_X11_18 C hW k_x0 er_4 dX11_say_19 (fun k_r_4 => ?_)
      obtain ⟨o_5, eo_5, hE⟩ := cl_e hE
      refine x_kV (o := o_5) (z_runV (As := []) (rest := []) C (ct_X9_clear l X k_r_4 eo_5) cw_X11_144 hW hZ k_r_4 (by decide) rfl rfl rfl hl.1 (Nat.le_of_ble_eq_true rfl) rfl dX11_say_22 ⟨Nat.le_of_ble_eq_true rfl, Nat.le_of_ble_eq_true rfl⟩ ⟨Nat.le_refl _, Nat.le_refl _⟩) hZ (fun _ _ hW km hZ => ?_)
      replace hkm := hkm.tr km
      replace k_x0 := km.at k_x0 (by decide)
      refine lv_aload_n C.1 C.2.1 dX11_say_25 rfl (lv_at hl 1 rfl) ?_
      obtain ⟨r_6, er_6, hE⟩ := cl_e hE
      refine gf_X11_68 C hW k_x0 er_6 dX11_say_26 (fun k_r_6 => ?_)
      refine lv_aload_n C.1 C.2.1 dX11_say_29 rfl (lv_at hl 1 rfl) ?_
      obtain ⟨r_7, er_7, hE⟩ := cl_e hE
      refine gf_X11_97 C hW k_x0 er_7 dX11_say_30 (fun k_r_7 => ?_)
      refine lv_iload_n C.1 C.2.1 dX11_say_33 rfl (lv_at hl 0 rfl) ?_
      refine lv_iload_n C.1 C.2.1 dX11_say_34 rfl (lv_at hl 3 rfl) ?_
      refine lv_aload_n C.1 C.2.1 dX11_say_35 rfl (lv_at hl 1 rfl) ?_
      obtain ⟨r_8, er_8, hE⟩ := cl_e hE
      refine gf_X11_18 C hW k_x0 er_8 dX11_say_36 (fun k_r_8 => ?_)
      obtain ⟨o_9, eo_9, hE⟩ := cl_e hE
      refine x_kV (o := o_9) (z_runV (As := [.ref r_7, .int o_1.1, .int x2, .ref r_8]) (rest := []) C (ct_X8_writeMove l X F k_r_6 k_r_7 k_r_8 eo_9) cw_X11_300 hW hZ k_r_6 (by decide) rfl rfl rfl hl.1 (Nat.le_of_ble_eq_true rfl) rfl dX11_say_39 ⟨Nat.le_of_ble_eq_true rfl, Nat.le_of_ble_eq_true rfl⟩ ⟨Nat.le_refl _, Nat.le_refl _⟩) hZ (fun _ _ hW km hZ => ?_)
      replace hkm := hkm.tr km
      replace k_x0 := km.at k_x0 (by decide)
      refine lv_aload_n C.1 C.2.1 dX11_say_42 rfl (lv_at hl 1 rfl) ?_
      obtain ⟨r_10, er_10, hE⟩ := cl_e hE
      refine gf_X11_68 C hW k_x0 er_10 dX11_say_43 (fun k_r_10 => ?_)
      refine lv_aload_n C.1 C.2.1 dX11_say_46 rfl (lv_at hl 1 rfl) ?_
      obtain ⟨r_11, er_11, hE⟩ := cl_e hE
      refine gf_X11_103 C hW k_x0 er_11 dX11_say_47 (fun k_r_11 => ?_)
      refine lv_iload_n C.1 C.2.1 dX11_say_50 rfl (lv_at hl 2 rfl) ?_
      obtain ⟨g_12, hE⟩ := gd_e hE
      obtain ⟨r_13, er_13, hE⟩ := cl_e hE
      refine y_aald (t0 := 4) C hW k_r_11 (by decide) (by decide) rfl rfl rfl (fun _ => rfl) g_12 er_13 dX11_say_51 (fun k_r_13 => ?_)
      refine lv_aload_n C.1 C.2.1 dX11_say_52 rfl (lv_at hl 1 rfl) ?_
      obtain ⟨r_14, er_14, hE⟩ := cl_e hE
      refine gf_X11_97 C hW k_x0 er_14 dX11_say_53 (fun k_r_14 => ?_)
      refine lv_iload_n C.1 C.2.1 dX11_say_56 rfl (lv_at hl 3 rfl) ?_
      obtain ⟨g_15, hE⟩ := gd_e hE
      refine y_iald C hW k_r_14 g_15 dX11_say_57 ?_
      obtain ⟨o_16, eo_16, hE⟩ := cl_e hE
      refine x_kI (o := o_16) (z_runV (As := [.ref r_13, .int (hI o_9 r_14 x2.toNatClampNeg)]) (rest := []) C (ct_X8_markOf l X F k_r_10 k_r_13 eo_16) cw_X11_304 hW hZ k_r_10 (by decide) rfl rfl rfl hl.1 (Nat.le_of_ble_eq_true rfl) rfl dX11_say_58 ⟨Nat.le_of_ble_eq_true rfl, Nat.le_of_ble_eq_true rfl⟩ ⟨Nat.le_refl _, Nat.le_refl _⟩) hZ (fun _ _ hW km hZ => ?_)
      replace hkm := hkm.tr km
      replace k_x0 := km.at k_x0 (by decide)
      refine lv_istore (lv' := [(4, .int o_16.1), (3, .int o_1.1), (0, .ref x0), (1, .int x1), (2, .int x2)]) C.1 C.2.1 dX11_say_61 hl (by decide) rfl (fun ls hl => ?_)
      refine lv_iload C.1 C.2.1 dX11_say_63 (lv_at hl 0 rfl) ?_
      refine lv_iconst (v := (-1 : Int32)) C.1 C.2.1 dX11_say_65 (by decide) ?_
      refine lv_icmp_eq (tgt := 78) C.1 C.2.1 dX11_say_66 (by decide) (fun c_17 => ?_) (fun c_17 => ?_)
      · have hE := br_p hE c_17
        exact bX11_say_78 C k_x0 hkm hW hZ _ (lv_sub hl [2] rfl) hE
      · have hE := br_n hE c_17
        refine lv_aload_n C.1 C.2.1 dX11_say_69 rfl (lv_at hl 2 rfl) ?_
        obtain ⟨r_18, er_18, hE⟩ := cl_e hE
        refine gf_X11_18 C hW k_x0 er_18 dX11_say_70 (fun k_r_18 => ?_)
        refine lv_iload C.1 C.2.1 dX11_say_73 (lv_at hl 0 rfl) ?_
        obtain ⟨o_19, eo_19, hE⟩ := cl_e hE
        refine x_kV (o := o_19) (z_runV (As := [.int o_16.1]) (rest := []) C (ct_X9_append l X k_r_18 eo_19) cw_X11_307 hW hZ k_r_18 (by decide) rfl rfl rfl hl.1 (Nat.le_of_ble_eq_true rfl) rfl dX11_say_75 ⟨Nat.le_of_ble_eq_true rfl, Nat.le_of_ble_eq_true rfl⟩ ⟨Nat.le_refl _, Nat.le_refl _⟩) hZ (fun _ _ hW km hZ => ?_)
        replace hkm := hkm.tr km
        replace k_x0 := km.at k_x0 (by decide)
        exact bX11_say_78 C k_x0 hkm hW hZ _ (lv_sub hl [2] rfl) hE
    · have hE := br_n hE c_3
      exact bX11_say_15 C hkm hW hZ _ (lv_sub hl [] rfl) hE
theorem m_1464 : Cond.methodLink RX11 310 yX8_find ∈ W0 := w0_in (List.mem_append_right _ (List.mem_of_getElem? (i := 1464) (by decide +kernel))) rfl
theorem m_1465 : Cond.instanceMethod yX8_find ∈ W0 := w0_in (List.mem_append_right _ (List.mem_of_getElem? (i := 1465) (by decide +kernel))) rfl
theorem m_1466 : Cond.selects RX8 yX8_find yX8_find ∈ W0 := w0_in (List.mem_append_right _ (List.mem_of_getElem? (i := 1466) (by decide +kernel))) rfl
theorem m_1467 : Cond.code yX8_find cX8_find 6 (some .int) ∈ W0 := w0_in (List.mem_append_right _ (List.mem_of_getElem? (i := 1467) (by decide +kernel))) rfl
theorem m_1475 : Cond.methodLink RX11 314 yX8_isWhole ∈ W0 := w0_in (List.mem_append_right _ (List.mem_of_getElem? (i := 1475) (by decide +kernel))) rfl
theorem m_1476 : Cond.instanceMethod yX8_isWhole ∈ W0 := w0_in (List.mem_append_right _ (List.mem_of_getElem? (i := 1476) (by decide +kernel))) rfl
theorem m_1477 : Cond.selects RX8 yX8_isWhole yX8_isWhole ∈ W0 := w0_in (List.mem_append_right _ (List.mem_of_getElem? (i := 1477) (by decide +kernel))) rfl
theorem m_1478 : Cond.code yX8_isWhole cX8_isWhole 2 (some .boolean) ∈ W0 := w0_in (List.mem_append_right _ (List.mem_of_getElem? (i := 1478) (by decide +kernel))) rfl
theorem cw_X11_310 : cwd RX11 310 yX8_find cX8_find 6 (some .int) false 3 := ⟨m_1467, m_1464, m_11, ⟨m_1465, m_1466⟩, by decide, by decide, by decide +kernel⟩
theorem cw_X11_314 : cwd RX11 314 yX8_isWhole cX8_isWhole 2 (some .boolean) false 1 := ⟨m_1478, m_1475, m_11, ⟨m_1476, m_1477⟩, by decide, by decide, by decide +kernel⟩
theorem dX11_hear_0 : decode cX11_hear 0 = .ok (.bipush (-102), 2) := by decide +kernel
theorem dX11_hear_2 : decode cX11_hear 2 = .ok (.istore_n 2, 1) := by decide +kernel
theorem dX11_hear_3 : decode cX11_hear 3 = .ok (.aload_n 0, 1) := by decide +kernel
theorem dX11_hear_4 : decode cX11_hear 4 = .ok (.iload_n 1, 1) := by decide +kernel
theorem dX11_hear_5 : decode cX11_hear 5 = .ok (.invokevirtual 193, 3) := by decide +kernel
theorem dX11_hear_8 : decode cX11_hear 8 = .ok (.ifCond .eq 97, 3) := by decide +kernel
theorem dX11_hear_11 : decode cX11_hear 11 = .ok (.aload_n 0, 1) := by decide +kernel
theorem dX11_hear_12 : decode cX11_hear 12 = .ok (.getfield 68, 3) := by decide +kernel
theorem dX11_hear_15 : decode cX11_hear 15 = .ok (.aload_n 0, 1) := by decide +kernel
theorem dX11_hear_16 : decode cX11_hear 16 = .ok (.getfield 97, 3) := by decide +kernel
theorem dX11_hear_19 : decode cX11_hear 19 = .ok (.aload_n 0, 1) := by decide +kernel
theorem dX11_hear_20 : decode cX11_hear 20 = .ok (.iload_n 1, 1) := by decide +kernel
theorem dX11_hear_21 : decode cX11_hear 21 = .ok (.invokevirtual 254, 3) := by decide +kernel
theorem dX11_hear_24 : decode cX11_hear 24 = .ok (.aload_n 0, 1) := by decide +kernel
theorem dX11_hear_25 : decode cX11_hear 25 = .ok (.getfield 14, 3) := by decide +kernel
theorem dX11_hear_28 : decode cX11_hear 28 = .ok (.invokevirtual 310, 3) := by decide +kernel
theorem dX11_hear_31 : decode cX11_hear 31 = .ok (.istore_n 2, 1) := by decide +kernel
theorem dX11_hear_32 : decode cX11_hear 32 = .ok (.iload_n 2, 1) := by decide +kernel
theorem dX11_hear_33 : decode cX11_hear 33 = .ok (.iconst (-1), 1) := by decide +kernel
theorem dX11_hear_34 : decode cX11_hear 34 = .ok (.if_icmp .eq 71, 3) := by decide +kernel
theorem dX11_hear_37 : decode cX11_hear 37 = .ok (.aload_n 0, 1) := by decide +kernel
theorem dX11_hear_38 : decode cX11_hear 38 = .ok (.getfield 68, 3) := by decide +kernel
theorem dX11_hear_41 : decode cX11_hear 41 = .ok (.aload_n 0, 1) := by decide +kernel
theorem dX11_hear_42 : decode cX11_hear 42 = .ok (.getfield 14, 3) := by decide +kernel
theorem dX11_hear_45 : decode cX11_hear 45 = .ok (.invokevirtual 314, 3) := by decide +kernel
theorem dX11_hear_48 : decode cX11_hear 48 = .ok (.ifCond .ne 57, 3) := by decide +kernel
theorem dX11_hear_51 : decode cX11_hear 51 = .ok (.aload_n 0, 1) := by decide +kernel
theorem dX11_hear_52 : decode cX11_hear 52 = .ok (.getfield 14, 3) := by decide +kernel
theorem dX11_hear_55 : decode cX11_hear 55 = .ok (.aload_n 0, 1) := by decide +kernel
theorem dX11_hear_56 : decode cX11_hear 56 = .ok (.getfield 14, 3) := by decide +kernel
theorem dX11_hear_59 : decode cX11_hear 59 = .ok (.getfield 147, 3) := by decide +kernel
theorem dX11_hear_62 : decode cX11_hear 62 = .ok (.iconst 1, 1) := by decide +kernel
theorem dX11_hear_63 : decode cX11_hear 63 = .ok (.isub, 1) := by decide +kernel
theorem dX11_hear_64 : decode cX11_hear 64 = .ok (.invokevirtual 179, 3) := by decide +kernel
theorem dX11_hear_67 : decode cX11_hear 67 = .ok (.aload_n 0, 1) := by decide +kernel
theorem dX11_hear_68 : decode cX11_hear 68 = .ok (.getfield 68, 3) := by decide +kernel
theorem dX11_hear_71 : decode cX11_hear 71 = .ok (.aload_n 0, 1) := by decide +kernel
theorem dX11_hear_72 : decode cX11_hear 72 = .ok (.getfield 103, 3) := by decide +kernel
theorem dX11_hear_75 : decode cX11_hear 75 = .ok (.iload_n 1, 1) := by decide +kernel
theorem dX11_hear_76 : decode cX11_hear 76 = .ok (.aaload, 1) := by decide +kernel
theorem dX11_hear_77 : decode cX11_hear 77 = .ok (.aload_n 0, 1) := by decide +kernel
theorem dX11_hear_78 : decode cX11_hear 78 = .ok (.getfield 97, 3) := by decide +kernel
theorem dX11_hear_81 : decode cX11_hear 81 = .ok (.iload_n 2, 1) := by decide +kernel
theorem dX11_hear_82 : decode cX11_hear 82 = .ok (.iaload, 1) := by decide +kernel
theorem dX11_hear_83 : decode cX11_hear 83 = .ok (.invokevirtual 304, 3) := by decide +kernel
theorem dX11_hear_86 : decode cX11_hear 86 = .ok (.if_icmp .ne 7, 3) := by decide +kernel
theorem dX11_hear_89 : decode cX11_hear 89 = .ok (.iconst 1, 1) := by decide +kernel
theorem dX11_hear_90 : decode cX11_hear 90 = .ok (.goto 4, 3) := by decide +kernel
theorem dX11_hear_93 : decode cX11_hear 93 = .ok (.iconst 0, 1) := by decide +kernel
theorem dX11_hear_94 : decode cX11_hear 94 = .ok (.istore_n 3, 1) := by decide +kernel
theorem dX11_hear_95 : decode cX11_hear 95 = .ok (.iload_n 3, 1) := by decide +kernel
theorem dX11_hear_96 : decode cX11_hear 96 = .ok (.ifCond .eq 7, 3) := by decide +kernel
theorem dX11_hear_99 : decode cX11_hear 99 = .ok (.iload_n 2, 1) := by decide +kernel
theorem dX11_hear_100 : decode cX11_hear 100 = .ok (.goto 4, 3) := by decide +kernel
theorem dX11_hear_103 : decode cX11_hear 103 = .ok (.iconst (-1), 1) := by decide +kernel
theorem dX11_hear_104 : decode cX11_hear 104 = .ok (.istore_n 2, 1) := by decide +kernel
theorem dX11_hear_105 : decode cX11_hear 105 = .ok (.aload_n 0, 1) := by decide +kernel
theorem dX11_hear_106 : decode cX11_hear 106 = .ok (.getfield 14, 3) := by decide +kernel
theorem dX11_hear_109 : decode cX11_hear 109 = .ok (.invokevirtual 144, 3) := by decide +kernel
theorem dX11_hear_112 : decode cX11_hear 112 = .ok (.iload_n 2, 1) := by decide +kernel
theorem dX11_hear_113 : decode cX11_hear 113 = .ok (.ireturn, 1) := by decide +kernel
def sX11_hear_105 (F : Nat) (h : Hp) (x0 : Nat) (x2 : Int32) : Option (Int32 × Hp) := cl (hR h x0 0) fun r_1 => cl (sX9_clear h r_1) fun o_2 => some (x2, o_2)
def sX11_hear_104 (F : Nat) (h : Hp) (x0 : Nat) (t0 : Int32) : Option (Int32 × Hp) := sX11_hear_105 F h x0 t0
def sX11_hear_94 (F : Nat) (h : Hp) (x0 : Nat) (x2 : Int32) (t0 : Int32) : Option (Int32 × Hp) := br (t0 = 0) (sX11_hear_104 F h x0 (-1 : Int32)) (sX11_hear_104 F h x0 x2)
def sX11_hear (F : Nat) (h : Hp) (x0 : Nat) (x1 : Int32) : Option (Int32 × Hp) := cl (sX11_isPlace h x0 x1) fun o_1 => br (o_1.1 = 0) (sX11_hear_105 F o_1.2 x0 (-102 : Int32)) (cl (hR o_1.2 x0 8) fun r_3 => cl (hR o_1.2 x0 12) fun r_4 => cl (sX11_listMoves F o_1.2 x0 x1) fun o_5 => cl (hR o_5.2 x0 0) fun r_6 => cl (sX8_find F o_5.2 r_3 r_4 o_5.1 r_6) fun o_7 => br (o_7.1 = (-1 : Int32)) (sX11_hear_105 F o_7.2 x0 o_7.1) (cl (hR o_7.2 x0 8) fun r_9 => cl (hR o_7.2 x0 0) fun r_10 => cl (sX8_isWhole o_7.2 r_9 r_10) fun o_11 => br (o_11.1 = 0) (cl (hR o_11.2 x0 0) fun r_13 => cl (hR o_11.2 x0 0) fun r_14 => cl (sX9_byteAt o_11.2 r_13 ((hI o_11.2 r_14 1) - (1 : Int32))) fun o_15 => cl (hR o_15.2 x0 8) fun r_16 => cl (hR o_15.2 x0 13) fun r_17 => gd (inB x1 (hN o_15.2 r_17)) <| cl (hR o_15.2 r_17 x1.toNatClampNeg) fun r_19 => cl (hR o_15.2 x0 12) fun r_20 => gd (inB o_7.1 (hN o_15.2 r_20)) <| cl (sX8_markOf F o_15.2 r_16 r_19 (hI o_15.2 r_20 o_7.1.toNatClampNeg)) fun o_22 => br (o_15.1 = o_22.1) (sX11_hear_94 F o_22.2 x0 o_7.1 (1 : Int32)) (sX11_hear_94 F o_22.2 x0 o_7.1 (0 : Int32))) (sX11_hear_105 F o_11.2 x0 o_7.1)))
set_option maxRecDepth 20000 in
theorem bX11_hear_105 {p : Program} {l : Launch} {e : Env} {s : State} {m : MethodId} {args : Array Value} {below : List Frame} {meth : Method} {c : Code} {X : Ec} {h0 : Hp} {o : Int32 × Hp} {F : Nat} (C : Cx X p s m args meth c RX11 cX11_hear 4 (some .int) "hear") {h : Hp} {x0 : Nat} {x2 : Int32} {H : Heap} {locs : List Loc} (k_x0 : hK h x0 = 11) (hkm : Km h0 h) (hW : Wx X h H) (hZ : va_S (aA (eB X)) s.heap H locs) (ls : Array Slot) (hl : lv_has ls 4 [(0, .ref x0), (2, .int x2)]) (hE : sX11_hear_105 F h x0 x2 = some o) : W p l e (rm 7 184) s m args below meth c H locs 0 0 (MQ below (QI X h0 o.1 o.2) args s 0 0 (aA (eB X))) (F0 m 105 ls []) := by
  refine lv_aload_n C.1 C.2.1 dX11_hear_105 rfl (lv_at hl 0 rfl) ?_
  obtain ⟨r_1, er_1, hE⟩ := cl_e hE
  refine gf_X11_14 C hW k_x0 er_1 dX11_hear_106 (fun k_r_1 => ?_)
  obtain ⟨o_2, eo_2, hE⟩ := cl_e hE
  refine x_kV (o := o_2) (z_runV (As := []) (rest := []) C (ct_X9_clear l X k_r_1 eo_2) cw_X11_144 hW hZ k_r_1 (by decide) rfl rfl rfl hl.1 (Nat.le_of_ble_eq_true rfl) rfl dX11_hear_109 ⟨Nat.le_of_ble_eq_true rfl, Nat.le_of_ble_eq_true rfl⟩ ⟨Nat.le_refl _, Nat.le_refl _⟩) hZ (fun _ _ hW km hZ => ?_)
  replace hkm := hkm.tr km
  replace k_x0 := km.at k_x0 (by decide)
  refine lv_iload_n C.1 C.2.1 dX11_hear_112 rfl (lv_at hl 1 rfl) ?_
  exact x_iret C rfl rfl hW hZ hkm hE dX11_hear_113
set_option maxRecDepth 20000 in
theorem bX11_hear_104 {p : Program} {l : Launch} {e : Env} {s : State} {m : MethodId} {args : Array Value} {below : List Frame} {meth : Method} {c : Code} {X : Ec} {h0 : Hp} {o : Int32 × Hp} {F : Nat} (C : Cx X p s m args meth c RX11 cX11_hear 4 (some .int) "hear") {h : Hp} {x0 : Nat} {t0 : Int32} {H : Heap} {locs : List Loc} (k_x0 : hK h x0 = 11) (hkm : Km h0 h) (hW : Wx X h H) (hZ : va_S (aA (eB X)) s.heap H locs) (ls : Array Slot) (hl : lv_has ls 4 [(0, .ref x0)]) (hE : sX11_hear_104 F h x0 t0 = some o) : W p l e (rm 7 184) s m args below meth c H locs 0 0 (MQ below (QI X h0 o.1 o.2) args s 0 0 (aA (eB X))) (F0 m 104 ls [.int t0]) := by
  refine lv_istore_n (lv' := [(2, .int t0), (0, .ref x0)]) C.1 C.2.1 dX11_hear_104 rfl hl (by decide) rfl (fun ls hl => ?_)
  exact bX11_hear_105 C k_x0 hkm hW hZ _ (lv_sub hl [1, 0] rfl) hE
set_option maxRecDepth 20000 in
theorem bX11_hear_94 {p : Program} {l : Launch} {e : Env} {s : State} {m : MethodId} {args : Array Value} {below : List Frame} {meth : Method} {c : Code} {X : Ec} {h0 : Hp} {o : Int32 × Hp} {F : Nat} (C : Cx X p s m args meth c RX11 cX11_hear 4 (some .int) "hear") {h : Hp} {x0 : Nat} {x2 : Int32} {t0 : Int32} {H : Heap} {locs : List Loc} (k_x0 : hK h x0 = 11) (hkm : Km h0 h) (hW : Wx X h H) (hZ : va_S (aA (eB X)) s.heap H locs) (ls : Array Slot) (hl : lv_has ls 4 [(0, .ref x0), (2, .int x2)]) (hE : sX11_hear_94 F h x0 x2 t0 = some o) : W p l e (rm 7 184) s m args below meth c H locs 0 0 (MQ below (QI X h0 o.1 o.2) args s 0 0 (aA (eB X))) (F0 m 94 ls [.int t0]) := by
  refine lv_istore_n (lv' := [(3, .int t0), (0, .ref x0), (2, .int x2)]) C.1 C.2.1 dX11_hear_94 rfl hl (by decide) rfl (fun ls hl => ?_)
  refine lv_iload_n C.1 C.2.1 dX11_hear_95 rfl (lv_at hl 0 rfl) ?_
  refine lv_if_eq (tgt := 103) C.1 C.2.1 dX11_hear_96 (by decide) (fun c_1 => ?_) (fun c_1 => ?_)
  · have hE := br_p hE c_1
    refine lv_iconst (v := (-1 : Int32)) C.1 C.2.1 dX11_hear_103 (by decide) ?_
    exact bX11_hear_104 C k_x0 hkm hW hZ _ (lv_sub hl [1] rfl) hE
  · have hE := br_n hE c_1
    refine lv_iload_n C.1 C.2.1 dX11_hear_99 rfl (lv_at hl 2 rfl) ?_
    refine lv_goto (tgt := 104) C.1 C.2.1 dX11_hear_100 (by decide) ?_
    exact bX11_hear_104 C k_x0 hkm hW hZ _ (lv_sub hl [1] rfl) hE
set_option maxRecDepth 20000 in
theorem ct_X11_hear (l : Launch) (X : Ec) (F : Nat) {h : Hp} {x0 : Nat} {x1 : Int32} {o : Int32 × Hp} (k_x0 : hK h x0 = 11) (hE : sX11_hear F h x0 x1 = some o) : MetI l yX11_hear cX11_hear 4 (some .int) 7 184 X [.ref x0, .int x1] h o := by
  refine x_met (by decide) (Nat.le_of_ble_eq_true rfl) ?_
  intro p e s m below meth c ls C hl hW hZ
  have hl : lv_has ls 4 [(0, .ref x0), (1, .int x1)] := hl
  have hkm : Km h h := Km.rf h
  refine lv_bipush (v := (-102 : Int32)) C.1 C.2.1 dX11_hear_0 (by decide) ?_
  refine lv_istore_n (lv' := [(2, .int (-102 : Int32)), (0, .ref x0), (1, .int x1)]) C.1 C.2.1 dX11_hear_2 rfl hl (by decide) rfl (fun ls hl => ?_)
  refine lv_aload_n C.1 C.2.1 dX11_hear_3 rfl (lv_at hl 1 rfl) ?_
  refine lv_iload_n C.1 C.2.1 dX11_hear_4 rfl (lv_at hl 2 rfl) ?_
  obtain ⟨o_1, eo_1, hE⟩ := cl_e hE
  refine x_kI (o := o_1) (z_runV (As := [.int x1]) (rest := []) C (ct_X11_isPlace l X k_x0 eo_1) cw_X11_193 hW hZ k_x0 (by decide) rfl rfl rfl hl.1 (Nat.le_of_ble_eq_true rfl) rfl dX11_hear_5 ⟨Nat.le_of_ble_eq_true rfl, Nat.le_of_ble_eq_true rfl⟩ ⟨Nat.le_refl _, Nat.le_refl _⟩) hZ (fun _ _ hW km hZ => ?_)
  replace hkm := hkm.tr km
  replace k_x0 := km.at k_x0 (by decide)
  refine lv_if_eq (tgt := 105) C.1 C.2.1 dX11_hear_8 (by decide) (fun c_2 => ?_) (fun c_2 => ?_)
  · have hE := br_p hE c_2
    exact bX11_hear_105 C k_x0 hkm hW hZ _ (lv_sub hl [1, 0] rfl) hE
  · have hE := br_n hE c_2
    refine lv_aload_n C.1 C.2.1 dX11_hear_11 rfl (lv_at hl 1 rfl) ?_
    obtain ⟨r_3, er_3, hE⟩ := cl_e hE
    refine gf_X11_68 C hW k_x0 er_3 dX11_hear_12 (fun k_r_3 => ?_)
    refine lv_aload_n C.1 C.2.1 dX11_hear_15 rfl (lv_at hl 1 rfl) ?_
    obtain ⟨r_4, er_4, hE⟩ := cl_e hE
    refine gf_X11_97 C hW k_x0 er_4 dX11_hear_16 (fun k_r_4 => ?_)
    refine lv_aload_n C.1 C.2.1 dX11_hear_19 rfl (lv_at hl 1 rfl) ?_
    refine lv_iload_n C.1 C.2.1 dX11_hear_20 rfl (lv_at hl 2 rfl) ?_
    obtain ⟨o_5, eo_5, hE⟩ := cl_e hE
    refine x_kI (o := o_5) (z_runV (As := [.int x1]) (rest := [.ref r_4, .ref r_3]) C (ct_X11_listMoves l X F k_x0 eo_5) cw_X11_254 hW hZ k_x0 (by decide) rfl rfl rfl hl.1 (Nat.le_of_ble_eq_true rfl) rfl dX11_hear_21 ⟨Nat.le_of_ble_eq_true rfl, Nat.le_of_ble_eq_true rfl⟩ ⟨Nat.le_refl _, Nat.le_refl _⟩) hZ (fun _ _ hW km hZ => ?_)
    replace hkm := hkm.tr km
    replace k_x0 := km.at k_x0 (by decide)
    replace k_r_4 := km.at k_r_4 (by decide)
    replace k_r_3 := km.at k_r_3 (by decide)
    refine lv_aload_n C.1 C.2.1 dX11_hear_24 rfl (lv_at hl 1 rfl) ?_
    obtain ⟨r_6, er_6, hE⟩ := cl_e hE
    refine gf_X11_14 C hW k_x0 er_6 dX11_hear_25 (fun k_r_6 => ?_)
    obtain ⟨o_7, eo_7, hE⟩ := cl_e hE
    refine x_kI (o := o_7) (z_runV (As := [.ref r_4, .int o_5.1, .ref r_6]) (rest := []) C (ct_X8_find l X F k_r_3 k_r_4 k_r_6 eo_7) cw_X11_310 hW hZ k_r_3 (by decide) rfl rfl rfl hl.1 (Nat.le_of_ble_eq_true rfl) rfl dX11_hear_28 ⟨Nat.le_of_ble_eq_true rfl, Nat.le_of_ble_eq_true rfl⟩ ⟨Nat.le_refl _, Nat.le_refl _⟩) hZ (fun _ _ hW km hZ => ?_)
    replace hkm := hkm.tr km
    replace k_x0 := km.at k_x0 (by decide)
    refine lv_istore_n (lv' := [(2, .int o_7.1), (0, .ref x0), (1, .int x1)]) C.1 C.2.1 dX11_hear_31 rfl hl (by decide) rfl (fun ls hl => ?_)
    refine lv_iload_n C.1 C.2.1 dX11_hear_32 rfl (lv_at hl 0 rfl) ?_
    refine lv_iconst (v := (-1 : Int32)) C.1 C.2.1 dX11_hear_33 (by decide) ?_
    refine lv_icmp_eq (tgt := 105) C.1 C.2.1 dX11_hear_34 (by decide) (fun c_8 => ?_) (fun c_8 => ?_)
    · have hE := br_p hE c_8
      exact bX11_hear_105 C k_x0 hkm hW hZ _ (lv_sub hl [1, 0] rfl) hE
    · have hE := br_n hE c_8
      refine lv_aload_n C.1 C.2.1 dX11_hear_37 rfl (lv_at hl 1 rfl) ?_
      obtain ⟨r_9, er_9, hE⟩ := cl_e hE
      refine gf_X11_68 C hW k_x0 er_9 dX11_hear_38 (fun k_r_9 => ?_)
      refine lv_aload_n C.1 C.2.1 dX11_hear_41 rfl (lv_at hl 1 rfl) ?_
      obtain ⟨r_10, er_10, hE⟩ := cl_e hE
      refine gf_X11_14 C hW k_x0 er_10 dX11_hear_42 (fun k_r_10 => ?_)
      obtain ⟨o_11, eo_11, hE⟩ := cl_e hE
      refine x_kI (o := o_11) (z_runV (As := [.ref r_10]) (rest := []) C (ct_X8_isWhole l X k_r_9 k_r_10 eo_11) cw_X11_314 hW hZ k_r_9 (by decide) rfl rfl rfl hl.1 (Nat.le_of_ble_eq_true rfl) rfl dX11_hear_45 ⟨Nat.le_of_ble_eq_true rfl, Nat.le_of_ble_eq_true rfl⟩ ⟨Nat.le_refl _, Nat.le_refl _⟩) hZ (fun _ _ hW km hZ => ?_)
      replace hkm := hkm.tr km
      replace k_x0 := km.at k_x0 (by decide)
      refine lv_if_ne (tgt := 105) C.1 C.2.1 dX11_hear_48 (by decide) (fun c_12 => ?_) (fun c_12 => ?_)
      · have hE := br_n hE c_12
        exact bX11_hear_105 C k_x0 hkm hW hZ _ (lv_sub hl [1, 0] rfl) hE
      · have hE := br_p hE c_12
        refine lv_aload_n C.1 C.2.1 dX11_hear_51 rfl (lv_at hl 1 rfl) ?_
        obtain ⟨r_13, er_13, hE⟩ := cl_e hE
        refine gf_X11_14 C hW k_x0 er_13 dX11_hear_52 (fun k_r_13 => ?_)
        refine lv_aload_n C.1 C.2.1 dX11_hear_55 rfl (lv_at hl 1 rfl) ?_
        obtain ⟨r_14, er_14, hE⟩ := cl_e hE
        refine gf_X11_14 C hW k_x0 er_14 dX11_hear_56 (fun k_r_14 => ?_)
        refine gf_X11_147 C hW k_r_14 dX11_hear_59 ?_
        refine lv_iconst (v := (1 : Int32)) C.1 C.2.1 dX11_hear_62 (by decide) ?_
        refine lv_isub C.1 C.2.1 dX11_hear_63 ?_
        obtain ⟨o_15, eo_15, hE⟩ := cl_e hE
        refine x_kI (o := o_15) (z_runV (As := [.int ((hI o_11.2 r_14 1) - (1 : Int32))]) (rest := []) C (ct_X9_byteAt l X k_r_13 eo_15) cw_X11_179 hW hZ k_r_13 (by decide) rfl rfl rfl hl.1 (Nat.le_of_ble_eq_true rfl) rfl dX11_hear_64 ⟨Nat.le_of_ble_eq_true rfl, Nat.le_of_ble_eq_true rfl⟩ ⟨Nat.le_refl _, Nat.le_refl _⟩) hZ (fun _ _ hW km hZ => ?_)
        replace hkm := hkm.tr km
        replace k_x0 := km.at k_x0 (by decide)
        refine lv_aload_n C.1 C.2.1 dX11_hear_67 rfl (lv_at hl 1 rfl) ?_
        obtain ⟨r_16, er_16, hE⟩ := cl_e hE
        refine gf_X11_68 C hW k_x0 er_16 dX11_hear_68 (fun k_r_16 => ?_)
        refine lv_aload_n C.1 C.2.1 dX11_hear_71 rfl (lv_at hl 1 rfl) ?_
        obtain ⟨r_17, er_17, hE⟩ := cl_e hE
        refine gf_X11_103 C hW k_x0 er_17 dX11_hear_72 (fun k_r_17 => ?_)
        refine lv_iload_n C.1 C.2.1 dX11_hear_75 rfl (lv_at hl 2 rfl) ?_
        obtain ⟨g_18, hE⟩ := gd_e hE
        obtain ⟨r_19, er_19, hE⟩ := cl_e hE
        refine y_aald (t0 := 4) C hW k_r_17 (by decide) (by decide) rfl rfl rfl (fun _ => rfl) g_18 er_19 dX11_hear_76 (fun k_r_19 => ?_)
        refine lv_aload_n C.1 C.2.1 dX11_hear_77 rfl (lv_at hl 1 rfl) ?_
        obtain ⟨r_20, er_20, hE⟩ := cl_e hE
        refine gf_X11_97 C hW k_x0 er_20 dX11_hear_78 (fun k_r_20 => ?_)
        refine lv_iload_n C.1 C.2.1 dX11_hear_81 rfl (lv_at hl 0 rfl) ?_
        obtain ⟨g_21, hE⟩ := gd_e hE
        refine y_iald C hW k_r_20 g_21 dX11_hear_82 ?_
        obtain ⟨o_22, eo_22, hE⟩ := cl_e hE
        refine x_kI (o := o_22) (z_runV (As := [.ref r_19, .int (hI o_15.2 r_20 o_7.1.toNatClampNeg)]) (rest := [.int o_15.1]) C (ct_X8_markOf l X F k_r_16 k_r_19 eo_22) cw_X11_304 hW hZ k_r_16 (by decide) rfl rfl rfl hl.1 (Nat.le_of_ble_eq_true rfl) rfl dX11_hear_83 ⟨Nat.le_of_ble_eq_true rfl, Nat.le_of_ble_eq_true rfl⟩ ⟨Nat.le_refl _, Nat.le_refl _⟩) hZ (fun _ _ hW km hZ => ?_)
        replace hkm := hkm.tr km
        replace k_x0 := km.at k_x0 (by decide)
        refine lv_icmp_ne (tgt := 93) C.1 C.2.1 dX11_hear_86 (by decide) (fun c_23 => ?_) (fun c_23 => ?_)
        · have hE := br_n hE c_23
          refine lv_iconst (v := (0 : Int32)) C.1 C.2.1 dX11_hear_93 (by decide) ?_
          exact bX11_hear_94 C k_x0 hkm hW hZ _ (lv_sub hl [1, 0] rfl) hE
        · have hE := br_p hE c_23
          refine lv_iconst (v := (1 : Int32)) C.1 C.2.1 dX11_hear_89 (by decide) ?_
          refine lv_goto (tgt := 94) C.1 C.2.1 dX11_hear_90 (by decide) ?_
          exact bX11_hear_94 C k_x0 hkm hW hZ _ (lv_sub hl [1, 0] rfl) hE
theorem dX11_isGame_0 : decode cX11_isGame 0 = .ok (.iload_n 0, 1) := by decide +kernel
theorem dX11_isGame_1 : decode cX11_isGame 1 = .ok (.ifCond .lt 13, 3) := by decide +kernel
theorem dX11_isGame_4 : decode cX11_isGame 4 = .ok (.iload_n 0, 1) := by decide +kernel
theorem dX11_isGame_5 : decode cX11_isGame 5 = .ok (.bipush 8, 2) := by decide +kernel
theorem dX11_isGame_7 : decode cX11_isGame 7 = .ok (.if_icmp .ge 7, 3) := by decide +kernel
theorem dX11_isGame_10 : decode cX11_isGame 10 = .ok (.iconst 1, 1) := by decide +kernel
theorem dX11_isGame_11 : decode cX11_isGame 11 = .ok (.goto 4, 3) := by decide +kernel
theorem dX11_isGame_14 : decode cX11_isGame 14 = .ok (.iconst 0, 1) := by decide +kernel
theorem dX11_isGame_15 : decode cX11_isGame 15 = .ok (.ireturn, 1) := by decide +kernel
def sX11_isGame_15 (h : Hp) (t0 : Int32) : Option (Int32 × Hp) := gd (t0 &&& 1 = t0) <| some (t0, h)
def sX11_isGame_14 (h : Hp) : Option (Int32 × Hp) := sX11_isGame_15  h (0 : Int32)
def sX11_isGame (h : Hp) (x0 : Int32) : Option (Int32 × Hp) := br (x0 < 0) (sX11_isGame_14  h ) (br ((8 : Int32) ≤ x0) (sX11_isGame_14  h ) (sX11_isGame_15  h (1 : Int32)))
set_option maxRecDepth 20000 in
theorem moX11_isGame_15 {o : Int32 × Hp} {h : Hp} {t0 : Int32} (hE : sX11_isGame_15 h  t0 = some o) : Le h o.2 := by
  obtain ⟨g_1, hE⟩ := gd_e hE
  cases hE
  exact Le.rf _
set_option maxRecDepth 20000 in
theorem moX11_isGame_14 {o : Int32 × Hp} {h : Hp} (hE : sX11_isGame_14 h  = some o) : Le h o.2 := by
  exact moX11_isGame_15 hE
set_option maxRecDepth 20000 in
theorem moX11_isGame {o : Int32 × Hp} {h : Hp} {x0 : Int32} (hE : sX11_isGame h x0 = some o) : Le h o.2 := by
  rcases br_e hE with ⟨_, hE⟩ | ⟨_, hE⟩
  · exact moX11_isGame_14 hE
  · rcases br_e hE with ⟨_, hE⟩ | ⟨_, hE⟩
    · exact moX11_isGame_14 hE
    · exact moX11_isGame_15 hE
set_option maxRecDepth 20000 in
theorem bX11_isGame_15 {p : Program} {l : Launch} {e : Env} {s : State} {m : MethodId} {args : Array Value} {below : List Frame} {meth : Method} {c : Code} {X : Ec} {h0 : Hp} {o : Int32 × Hp} (C : Cx X p s m args meth c RX11 cX11_isGame 1 (some .boolean) "isGame") {h : Hp} {t0 : Int32} {H : Heap} {locs : List Loc} (hkm : Km h0 h) (hW : Wx X h H) (hZ : va_S (aA (eB X)) s.heap H locs) (ls : Array Slot) (hl : lv_has ls 1 []) (hE : sX11_isGame_15 h  t0 = some o) : W p l e (rm 0 0) s m args below meth c H locs 0 0 (MQ below (QI X h0 o.1 o.2) args s 0 0 (aA (eB X))) (F0 m 15 ls [.int t0]) := by
  obtain ⟨g_1, hE⟩ := gd_e hE
  exact x_iret C rfl (narB g_1) hW hZ hkm hE dX11_isGame_15
set_option maxRecDepth 20000 in
theorem bX11_isGame_14 {p : Program} {l : Launch} {e : Env} {s : State} {m : MethodId} {args : Array Value} {below : List Frame} {meth : Method} {c : Code} {X : Ec} {h0 : Hp} {o : Int32 × Hp} (C : Cx X p s m args meth c RX11 cX11_isGame 1 (some .boolean) "isGame") {h : Hp} {H : Heap} {locs : List Loc} (hkm : Km h0 h) (hW : Wx X h H) (hZ : va_S (aA (eB X)) s.heap H locs) (ls : Array Slot) (hl : lv_has ls 1 []) (hE : sX11_isGame_14 h  = some o) : W p l e (rm 0 0) s m args below meth c H locs 0 0 (MQ below (QI X h0 o.1 o.2) args s 0 0 (aA (eB X))) (F0 m 14 ls []) := by
  refine lv_iconst (v := (0 : Int32)) C.1 C.2.1 dX11_isGame_14 (by decide) ?_
  exact bX11_isGame_15 C hkm hW hZ _ (lv_sub hl [] rfl) hE
set_option maxRecDepth 20000 in
theorem ct_X11_isGame (l : Launch) (X : Ec) {h : Hp} {x0 : Int32} {o : Int32 × Hp} (hE : sX11_isGame h x0 = some o) : MetI l yX11_isGame cX11_isGame 1 (some .boolean) 0 0 X [.int x0] h o := by
  refine x_met (by decide) (Nat.le_of_ble_eq_true rfl) ?_
  intro p e s m below meth c ls C hl hW hZ
  have hl : lv_has ls 1 [(0, .int x0)] := hl
  have hkm : Km h h := Km.rf h
  refine lv_iload_n C.1 C.2.1 dX11_isGame_0 rfl (lv_at hl 0 rfl) ?_
  refine lv_if_lt (tgt := 14) C.1 C.2.1 dX11_isGame_1 (by decide) (fun c_1 => ?_) (fun c_1 => ?_)
  · have hE := br_p hE c_1
    exact bX11_isGame_14 C hkm hW hZ _ (lv_sub hl [] rfl) hE
  · have hE := br_n hE c_1
    refine lv_iload_n C.1 C.2.1 dX11_isGame_4 rfl (lv_at hl 0 rfl) ?_
    refine lv_bipush (v := (8 : Int32)) C.1 C.2.1 dX11_isGame_5 (by decide) ?_
    refine lv_icmp_ge (tgt := 14) C.1 C.2.1 dX11_isGame_7 (by decide) (fun c_2 => ?_) (fun c_2 => ?_)
    · have hE := br_p hE c_2
      exact bX11_isGame_14 C hkm hW hZ _ (lv_sub hl [] rfl) hE
    · have hE := br_n hE c_2
      refine lv_iconst (v := (1 : Int32)) C.1 C.2.1 dX11_isGame_10 (by decide) ?_
      refine lv_goto (tgt := 15) C.1 C.2.1 dX11_isGame_11 (by decide) ?_
      exact bX11_isGame_15 C hkm hW hZ _ (lv_sub hl [] rfl) hE
section
variable {p : Program} {l : Launch} {e : Env} {R : Room} {s : State} {m : MethodId} {args : Array Value} {below : List Frame} {meth : Method} {c : Code} {H : Heap} {locs : List Loc} {cells slots : Nat} {Q : State → Prop}
variable {cc : ByteArray} {pc : Nat} {ls : Array Slot} {rest : List Value} {X : Ec} {h h1 : Hp} {nL : Nat} {rt : Option FieldType} {mn : String}
theorem gf_X11_111 {a r : Nat} (C : Cx X p s m args meth c RX11 cc nL rt mn) (hW : Wx X h H) (ha : hK h a = 11) (hr : hR h a 15 = some r) (hdg : decode cc pc = .ok (.getfield 111, 3)) (kk : hK h r = 20 → W p l e R s m args below meth c H locs cells slots Q (F0 m (pc + 3) ls (.ref r :: rest))) : W p l e R s m args below meth c H locs cells slots Q (F0 m pc ls (.ref a :: rest)) :=
  y_getr C hW ha i_X11 (by decide) rfl (by decide) m_867 rfl rfl hr hdg kk
end
theorem dX11_page_0 : decode cX11_page 0 = .ok (.iload_n 1, 1) := by decide +kernel
theorem dX11_page_1 : decode cX11_page 1 = .ok (.sipush 301, 3) := by decide +kernel
theorem dX11_page_4 : decode cX11_page 4 = .ok (.imul, 1) := by decide +kernel
theorem dX11_page_5 : decode cX11_page 5 = .ok (.iload_n 2, 1) := by decide +kernel
theorem dX11_page_6 : decode cX11_page 6 = .ok (.iadd, 1) := by decide +kernel
theorem dX11_page_7 : decode cX11_page 7 = .ok (.istore_n 3, 1) := by decide +kernel
theorem dX11_page_8 : decode cX11_page 8 = .ok (.aload_n 0, 1) := by decide +kernel
theorem dX11_page_9 : decode cX11_page 9 = .ok (.getfield 111, 3) := by decide +kernel
theorem dX11_page_12 : decode cX11_page 12 = .ok (.iload_n 3, 1) := by decide +kernel
theorem dX11_page_13 : decode cX11_page 13 = .ok (.aaload, 1) := by decide +kernel
theorem dX11_page_14 : decode cX11_page 14 = .ok (.ifnonnull 16, 3) := by decide +kernel
theorem dX11_page_17 : decode cX11_page 17 = .ok (.aload_n 0, 1) := by decide +kernel
theorem dX11_page_18 : decode cX11_page 18 = .ok (.getfield 111, 3) := by decide +kernel
theorem dX11_page_21 : decode cX11_page 21 = .ok (.iload_n 3, 1) := by decide +kernel
theorem dX11_page_22 : decode cX11_page 22 = .ok (.new 101, 3) := by decide +kernel
theorem dX11_page_25 : decode cX11_page 25 = .ok (.dup, 1) := by decide +kernel
theorem dX11_page_26 : decode cX11_page 26 = .ok (.invokespecial 120, 3) := by decide +kernel
theorem dX11_page_29 : decode cX11_page 29 = .ok (.aastore, 1) := by decide +kernel
theorem dX11_page_30 : decode cX11_page 30 = .ok (.aload_n 0, 1) := by decide +kernel
theorem dX11_page_31 : decode cX11_page 31 = .ok (.getfield 111, 3) := by decide +kernel
theorem dX11_page_34 : decode cX11_page 34 = .ok (.iload_n 3, 1) := by decide +kernel
theorem dX11_page_35 : decode cX11_page 35 = .ok (.aaload, 1) := by decide +kernel
theorem dX11_page_36 : decode cX11_page 36 = .ok (.areturn, 1) := by decide +kernel
def sX11_page_30 (F : Nat) (h : Hp) (x0 : Nat) (x3 : Int32) : Option (Nat × Hp) := cl (hR h x0 15) fun r_1 => gd (inB x3 (hN h r_1)) <| cl (hR h r_1 x3.toNatClampNeg) fun r_3 => some (r_3, h)
def sX11_page_29 (F : Nat) (h : Hp) (x0 : Nat) (x3 : Int32) (t0 : Nat) (t1 : Int32) (t2 : Nat) : Option (Nat × Hp) := gd (inB t1 (hN h t2)) <| nm (wR h t2 t1.toNatClampNeg (some t0)) fun h_2 => sX11_page_30 F h_2 x0 x3
def sX11_page_25 (F : Nat) (h : Hp) (x0 : Nat) (x3 : Int32) (t0 : Nat) (t1 : Int32) (t2 : Nat) : Option (Nat × Hp) := cl (sX3_init F h t0) fun o_1 => sX11_page_29 F o_1 x0 x3 t0 t1 t2
def sX11_page (F : Nat) (h : Hp) (x0 : Nat) (x1 : Int32) (x2 : Int32) : Option (Nat × Hp) := nm ((x1 * (301 : Int32)) + x2) fun v_1 => cl (hR h x0 15) fun r_2 => gd (inB v_1 (hN h r_2)) <| onr (hR h r_2 v_1.toNatClampNeg) (cl (hR h x0 15) fun r_6 => nm (hS h) fun a_7 => nm (nC h 3 0 11) fun h_8 => sX11_page_25 F h_8 x0 v_1 a_7 v_1 r_6) (fun r_4 => sX11_page_30 F h x0 v_1)
set_option maxRecDepth 20000 in
theorem moX11_page_30 {o : Nat × Hp} {F : Nat} {h : Hp} {x0 : Nat} {x3 : Int32} (hE : sX11_page_30 F h x0 x3 = some o) : Le h o.2 := by
  obtain ⟨r_1, er_1, hE⟩ := cl_e hE
  obtain ⟨g_2, hE⟩ := gd_e hE
  obtain ⟨r_3, er_3, hE⟩ := cl_e hE
  cases hE
  exact Le.rf _
set_option maxRecDepth 20000 in
theorem moX11_page_29 {o : Nat × Hp} {F : Nat} {h : Hp} {x0 : Nat} {x3 : Int32} {t0 : Nat} {t1 : Int32} {t2 : Nat} (hE : sX11_page_29 F h x0 x3 t0 t1 t2 = some o) : Le h o.2 := by
  obtain ⟨g_1, hE⟩ := gd_e hE
  obtain ⟨h_2, eh_2, hE⟩ := nm_e2 hE
  refine (le_R eh_2).tr ?_
  exact moX11_page_30 hE
set_option maxRecDepth 20000 in
theorem moX11_page_25 {o : Nat × Hp} {F : Nat} {h : Hp} {x0 : Nat} {x3 : Int32} {t0 : Nat} {t1 : Int32} {t2 : Nat} (hE : sX11_page_25 F h x0 x3 t0 t1 t2 = some o) : Le h o.2 := by
  obtain ⟨o_1, eo_1, hE⟩ := cl_e hE
  refine (moX3_init eo_1).tr ?_
  exact moX11_page_29 hE
set_option maxRecDepth 20000 in
theorem moX11_page {o : Nat × Hp} {F : Nat} {h : Hp} {x0 : Nat} {x1 : Int32} {x2 : Int32} (hE : sX11_page F h x0 x1 x2 = some o) : Le h o.2 := by
  obtain ⟨v_1, ev_1, hE⟩ := nm_e2 hE
  obtain ⟨r_2, er_2, hE⟩ := cl_e hE
  obtain ⟨g_3, hE⟩ := gd_e hE
  rcases onr_e hE with hE | ⟨r_4, hE⟩
  · obtain ⟨r_6, er_6, hE⟩ := cl_e hE
    obtain ⟨a_7, ea_7, hE⟩ := nm_e2 hE
    obtain ⟨h_8, eh_8, hE⟩ := nm_e2 hE
    refine (le_C eh_8).tr ?_
    exact moX11_page_25 hE
  · exact moX11_page_30 hE
set_option maxRecDepth 20000 in
theorem bX11_page_30 {p : Program} {l : Launch} {e : Env} {s : State} {m : MethodId} {args : Array Value} {below : List Frame} {meth : Method} {c : Code} {X : Ec} {h0 : Hp} {o : Nat × Hp} {F : Nat} (C : Cx X p s m args meth c RX11 cX11_page 4 (some (.object "GameRules$Position")) "page") {h : Hp} {x0 : Nat} {x3 : Int32} {H : Heap} {locs : List Loc} (k_x0 : hK h x0 = 11) (hkl : Kl h0 h) (hW : Wx X h H) (hZ : va_S (aA (eB X)) s.heap H locs) (ls : Array Slot) (hl : lv_has ls 4 [(0, .ref x0), (3, .int x3)]) (hE : sX11_page_30 F h x0 x3 = some o) : W p l e (rmA 2 43 h0 o.2) s m args below meth c H locs (hS h - hS h0) (hL h - hL h0) (MQ below (QRA X 3 h0 o.1 o.2) args s (hS o.2 - hS h0) (hL o.2 - hL h0) (aA (eB X))) (F0 m 30 ls []) := by
  refine lv_aload_n C.1 C.2.1 dX11_page_30 rfl (lv_at hl 0 rfl) ?_
  obtain ⟨r_1, er_1, hE⟩ := cl_e hE
  refine gf_X11_111 C hW k_x0 er_1 dX11_page_31 (fun k_r_1 => ?_)
  refine lv_iload_n C.1 C.2.1 dX11_page_34 rfl (lv_at hl 1 rfl) ?_
  obtain ⟨g_2, hE⟩ := gd_e hE
  obtain ⟨r_3, er_3, hE⟩ := cl_e hE
  refine y_aald (t0 := 4) C hW k_r_1 (by decide) (by decide) rfl rfl rfl (fun _ => rfl) g_2 er_3 dX11_page_35 (fun k_r_3 => ?_)
  exact x_aretA C rfl (by first | exact Or.inl ⟨_, rfl⟩ | exact Or.inr ⟨_, rfl⟩) hW hZ hkl k_r_3 hE dX11_page_36
set_option maxRecDepth 20000 in
theorem bX11_page_29 {p : Program} {l : Launch} {e : Env} {s : State} {m : MethodId} {args : Array Value} {below : List Frame} {meth : Method} {c : Code} {X : Ec} {h0 : Hp} {o : Nat × Hp} {F : Nat} (C : Cx X p s m args meth c RX11 cX11_page 4 (some (.object "GameRules$Position")) "page") {h : Hp} {x0 : Nat} {x3 : Int32} {t0 : Nat} {t1 : Int32} {t2 : Nat} {H : Heap} {locs : List Loc} (k_x0 : hK h x0 = 11) (k_t0 : hK h t0 = 3) (k_t2 : hK h t2 = 20) (hkl : Kl h0 h) (hW : Wx X h H) (hZ : va_S (aA (eB X)) s.heap H locs) (ls : Array Slot) (hl : lv_has ls 4 [(0, .ref x0), (3, .int x3)]) (hE : sX11_page_29 F h x0 x3 t0 t1 t2 = some o) : W p l e (rmA 2 43 h0 o.2) s m args below meth c H locs (hS h - hS h0) (hL h - hL h0) (MQ below (QRA X 3 h0 o.1 o.2) args s (hS o.2 - hS h0) (hL o.2 - hL h0) (aA (eB X))) (F0 m 29 ls [.ref t0, .int t1, .ref t2]) := by
  obtain ⟨g_1, hE⟩ := gd_e hE
  obtain ⟨h_2, eh_2, hE⟩ := nm_e2 hE
  refine y_aast (t0 := 4) C hW hZ k_t2 (by decide) (by decide) rfl k_t0 (by decide) rfl (fun _ => rfl) g_1 eh_2 dX11_page_29 (fun _ _ hW km hZ => ?_)
  replace hkl := hkl.tr km.l
  refine x_wc km ?_
  replace k_x0 := km.at k_x0 (by decide)
  exact bX11_page_30 C k_x0 hkl hW hZ _ (lv_sub hl [0, 1] rfl) hE
set_option maxRecDepth 20000 in
theorem bX11_page_25 {p : Program} {l : Launch} {e : Env} {s : State} {m : MethodId} {args : Array Value} {below : List Frame} {meth : Method} {c : Code} {X : Ec} {h0 : Hp} {o : Nat × Hp} {F : Nat} (C : Cx X p s m args meth c RX11 cX11_page 4 (some (.object "GameRules$Position")) "page") {h : Hp} {x0 : Nat} {x3 : Int32} {t0 : Nat} {t1 : Int32} {t2 : Nat} {H : Heap} {locs : List Loc} (k_x0 : hK h x0 = 11) (k_t0 : hK h t0 = 3) (k_t2 : hK h t2 = 20) (hkl : Kl h0 h) (hW : Wx X h H) (hZ : va_S (aA (eB X)) s.heap H locs) (ls : Array Slot) (hl : lv_has ls 4 [(0, .ref x0), (3, .int x3)]) (hE : sX11_page_25 F h x0 x3 t0 t1 t2 = some o) : W p l e (rmA 2 43 h0 o.2) s m args below meth c H locs (hS h - hS h0) (hL h - hL h0) (MQ below (QRA X 3 h0 o.1 o.2) args s (hS o.2 - hS h0) (hL o.2 - hL h0) (aA (eB X))) (F0 m 25 ls [.ref t0, .int t1, .ref t2]) := by
  refine lv_dup C.1 C.2.1 dX11_page_25 rfl ?_
  obtain ⟨o_1, eo_1, hE⟩ := cl_e hE
  have m1 := moX3_init eo_1
  have m2 := moX11_page_29 hE
  refine x_kVA (o := o_1) hkl (z_runI (As := []) (rest := [.ref t0, .int t1, .ref t2]) C (ct_X3_init l X F k_t0 eo_1) ci_X11_120 hW hZ rfl hl.1 (Nat.le_of_ble_eq_true rfl) rfl dX11_page_26 ⟨Nat.le_of_ble_eq_true rfl, Nat.le_of_ble_eq_true rfl⟩ (rm_ok hkl m1 m2)) hZ (fun _ _ hW km hZ => ?_)
  replace hkl := hkl.tr km
  replace k_x0 := km.at k_x0 (by decide)
  replace k_t0 := km.at k_t0 (by decide)
  replace k_t2 := km.at k_t2 (by decide)
  exact bX11_page_29 C k_x0 k_t0 k_t2 hkl hW hZ _ (lv_sub hl [0, 1] rfl) hE
set_option maxRecDepth 20000 in
theorem ct_X11_page (l : Launch) (X : Ec) (F : Nat) {h : Hp} {x0 : Nat} {x1 : Int32} {x2 : Int32} {o : Nat × Hp} (k_x0 : hK h x0 = 11) (hE : sX11_page F h x0 x1 x2 = some o) : MetRA 3 l yX11_page cX11_page 4 (some (.object "GameRules$Position")) 2 43 X [.ref x0, .int x1, .int x2] h o := by
  refine x_metA (oh := o.2) (by decide) (Nat.le_of_ble_eq_true rfl) ?_
  intro p e s m below meth c ls C hl hW hZ
  have hl : lv_has ls 4 [(0, .ref x0), (1, .int x1), (2, .int x2)] := hl
  have hkl : Kl h h := Kl.rf h
  refine lv_iload_n C.1 C.2.1 dX11_page_0 rfl (lv_at hl 1 rfl) ?_
  refine lv_sipush (v := (301 : Int32)) C.1 C.2.1 dX11_page_1 (by decide) ?_
  refine lv_imul C.1 C.2.1 dX11_page_4 ?_
  refine lv_iload_n C.1 C.2.1 dX11_page_5 rfl (lv_at hl 2 rfl) ?_
  refine lv_iadd C.1 C.2.1 dX11_page_6 ?_
  obtain ⟨v_1, ev_1, hE⟩ := nm_e2 hE
  refine x_nmI ev_1 ?_
  refine lv_istore_n (lv' := [(3, .int v_1), (0, .ref x0), (1, .int x1), (2, .int x2)]) C.1 C.2.1 dX11_page_7 rfl hl (by decide) rfl (fun ls hl => ?_)
  refine lv_aload_n C.1 C.2.1 dX11_page_8 rfl (lv_at hl 1 rfl) ?_
  obtain ⟨r_2, er_2, hE⟩ := cl_e hE
  refine gf_X11_111 C hW k_x0 er_2 dX11_page_9 (fun k_r_2 => ?_)
  refine lv_iload_n C.1 C.2.1 dX11_page_12 rfl (lv_at hl 0 rfl) ?_
  obtain ⟨g_3, hE⟩ := gd_e hE
  rcases e_5 : hR h r_2 v_1.toNatClampNeg with _ | r_4
  · have hE := onr_n hE e_5
    refine y_aald0 (t0 := 4) C hW k_r_2 (by decide) (by decide) rfl rfl g_3 e_5 dX11_page_13 ?_
    refine lv_ifnonnullN C.1 C.2.1 dX11_page_14 ?_
    refine lv_aload_n C.1 C.2.1 dX11_page_17 rfl (lv_at hl 1 rfl) ?_
    obtain ⟨r_6, er_6, hE⟩ := cl_e hE
    refine gf_X11_111 C hW k_x0 er_6 dX11_page_18 (fun k_r_6 => ?_)
    refine lv_iload_n C.1 C.2.1 dX11_page_21 rfl (lv_at hl 0 rfl) ?_
    obtain ⟨a_7, ea_7, hE⟩ := nm_e2 hE
    obtain ⟨h_8, eh_8, hE⟩ := nm_e2 hE
    refine y_new C hW hZ hkl (moX11_page_25 hE) ⟨rfl, rfl⟩ i_X3 tyX3 tyX3_ok (by decide) rfl rfl dv_X3 m_581 m_265 m_8 eh_8 dX11_page_22 (fun _ hW km k_a_7 hZ => ?_)
    replace hkl := hkl.tr km
    refine x_nmA ea_7 ?_
    rw [← ea_7] at k_a_7
    replace k_x0 := km.at k_x0 (by decide)
    replace k_r_6 := km.at k_r_6 (by decide)
    exact bX11_page_25 C k_x0 k_a_7 k_r_6 hkl hW hZ _ (lv_sub hl [1, 0] rfl) hE
  · have hE := onr_s hE e_5
    refine y_aald (t0 := 4) C hW k_r_2 (by decide) (by decide) rfl rfl rfl (fun _ => rfl) g_3 e_5 dX11_page_13 (fun k_r_4 => ?_)
    refine lv_ifnonnull (tgt := 30) C.1 C.2.1 dX11_page_14 (by decide) ?_
    exact bX11_page_30 C k_x0 hkl hW hZ _ (lv_sub hl [1, 0] rfl) hE
theorem ms_79 : Cond.selects RX11 yX11_page yX11_page ∈ W0 := w0_in (List.mem_append_left _ (List.mem_of_getElem? (i := 79) (by decide +kernel))) rfl
theorem m_1483 : Cond.methodLink RX11 318 yX11_isGame ∈ W0 := w0_in (List.mem_append_right _ (List.mem_of_getElem? (i := 1483) (by decide +kernel))) rfl
theorem m_1484 : Cond.static yX11_isGame ∈ W0 := w0_in (List.mem_append_right _ (List.mem_of_getElem? (i := 1484) (by decide +kernel))) rfl
theorem m_1485 : Cond.code yX11_isGame cX11_isGame 1 (some .boolean) ∈ W0 := w0_in (List.mem_append_right _ (List.mem_of_getElem? (i := 1485) (by decide +kernel))) rfl
theorem m_1486 : Cond.methodLink RX11 321 yX11_page ∈ W0 := w0_in (List.mem_append_right _ (List.mem_of_getElem? (i := 1486) (by decide +kernel))) rfl
theorem m_1488 : Cond.instanceMethod yX11_page ∈ W0 := w0_in (List.mem_append_right _ (List.mem_of_getElem? (i := 1488) (by decide +kernel))) rfl
theorem m_1489 : Cond.code yX11_page cX11_page 4 (some (.object "GameRules$Position")) ∈ W0 := w0_in (List.mem_append_right _ (List.mem_of_getElem? (i := 1489) (by decide +kernel))) rfl
theorem cw_X11_321 : cwd RX11 321 yX11_page cX11_page 4 (some (.object "GameRules$Position")) false 2 := ⟨m_1489, m_1486, m_1, ⟨m_1488, ms_79⟩, by decide, by decide, by decide +kernel⟩
theorem cw_X11_318 : cwd RX11 318 yX11_isGame cX11_isGame 1 (some .boolean) true 1 := ⟨m_1485, m_1483, m_1, m_1484, by decide, by decide, by decide +kernel⟩
theorem dX11_start_0 : decode cX11_start 0 = .ok (.iload_n 1, 1) := by decide +kernel
theorem dX11_start_1 : decode cX11_start 1 = .ok (.invokestatic 318, 3) := by decide +kernel
theorem dX11_start_4 : decode cX11_start 4 = .ok (.ifCond .ne 6, 3) := by decide +kernel
theorem dX11_start_7 : decode cX11_start 7 = .ok (.bipush (-101), 2) := by decide +kernel
theorem dX11_start_9 : decode cX11_start 9 = .ok (.ireturn, 1) := by decide +kernel
theorem dX11_start_10 : decode cX11_start 10 = .ok (.aload_n 0, 1) := by decide +kernel
theorem dX11_start_11 : decode cX11_start 11 = .ok (.iload_n 2, 1) := by decide +kernel
theorem dX11_start_12 : decode cX11_start 12 = .ok (.invokevirtual 193, 3) := by decide +kernel
theorem dX11_start_15 : decode cX11_start 15 = .ok (.ifCond .ne 6, 3) := by decide +kernel
theorem dX11_start_18 : decode cX11_start 18 = .ok (.bipush (-102), 2) := by decide +kernel
theorem dX11_start_20 : decode cX11_start 20 = .ok (.ireturn, 1) := by decide +kernel
theorem dX11_start_21 : decode cX11_start 21 = .ok (.aload_n 0, 1) := by decide +kernel
theorem dX11_start_22 : decode cX11_start 22 = .ok (.iload_n 1, 1) := by decide +kernel
theorem dX11_start_23 : decode cX11_start 23 = .ok (.iconst 0, 1) := by decide +kernel
theorem dX11_start_24 : decode cX11_start 24 = .ok (.invokevirtual 321, 3) := by decide +kernel
theorem dX11_start_27 : decode cX11_start 27 = .ok (.aload_n 0, 1) := by decide +kernel
theorem dX11_start_28 : decode cX11_start 28 = .ok (.getfield 103, 3) := by decide +kernel
theorem dX11_start_31 : decode cX11_start 31 = .ok (.iload_n 2, 1) := by decide +kernel
theorem dX11_start_32 : decode cX11_start 32 = .ok (.aaload, 1) := by decide +kernel
theorem dX11_start_33 : decode cX11_start 33 = .ok (.invokevirtual 325, 3) := by decide +kernel
theorem dX11_start_36 : decode cX11_start 36 = .ok (.aload_n 0, 1) := by decide +kernel
theorem dX11_start_37 : decode cX11_start 37 = .ok (.getfield 117, 3) := by decide +kernel
theorem dX11_start_40 : decode cX11_start 40 = .ok (.iload_n 1, 1) := by decide +kernel
theorem dX11_start_41 : decode cX11_start 41 = .ok (.iconst 0, 1) := by decide +kernel
theorem dX11_start_42 : decode cX11_start 42 = .ok (.iastore, 1) := by decide +kernel
theorem dX11_start_43 : decode cX11_start 43 = .ok (.iconst 0, 1) := by decide +kernel
theorem dX11_start_44 : decode cX11_start 44 = .ok (.ireturn, 1) := by decide +kernel
def sX11_start_36 (F : Nat) (h : Hp) (x0 : Nat) (x1 : Int32) : Option (Int32 × Hp) := cl (hR h x0 17) fun r_1 => gd (inB x1 (hN h r_1)) <| nm (wI h r_1 x1.toNatClampNeg (0 : Int32)) fun h_3 => some ((0 : Int32), h_3)
def sX11_start_27 (F : Nat) (h : Hp) (x0 : Nat) (x1 : Int32) (x2 : Int32) (t0 : Nat) : Option (Int32 × Hp) := cl (hR h x0 13) fun r_1 => gd (inB x2 (hN h r_1)) <| cl (hR h r_1 x2.toNatClampNeg) fun r_3 => cl (sX3_copyFrom F h t0 r_3) fun o_4 => sX11_start_36 F o_4 x0 x1
def sX11_start_15 (F : Nat) (h : Hp) (x0 : Nat) (x1 : Int32) (x2 : Int32) (t0 : Int32) : Option (Int32 × Hp) := br (t0 = 0) (some ((-102 : Int32), h)) (cl (sX11_page F h x0 x1 (0 : Int32)) fun o_2 => sX11_start_27 F o_2.2 x0 x1 x2 o_2.1)
def sX11_start_4 (F : Nat) (h : Hp) (x0 : Nat) (x1 : Int32) (x2 : Int32) (t0 : Int32) : Option (Int32 × Hp) := br (t0 = 0) (some ((-101 : Int32), h)) (cl (sX11_isPlace h x0 x2) fun o_2 => sX11_start_15 F o_2.2 x0 x1 x2 o_2.1)
def sX11_start (F : Nat) (h : Hp) (x0 : Nat) (x1 : Int32) (x2 : Int32) : Option (Int32 × Hp) := cl (sX11_isGame h x1) fun o_1 => sX11_start_4 F o_1.2 x0 x1 x2 o_1.1
set_option maxRecDepth 20000 in
theorem moX11_start_36 {o : Int32 × Hp} {F : Nat} {h : Hp} {x0 : Nat} {x1 : Int32} (hE : sX11_start_36 F h x0 x1 = some o) : Le h o.2 := by
  obtain ⟨r_1, er_1, hE⟩ := cl_e hE
  obtain ⟨g_2, hE⟩ := gd_e hE
  obtain ⟨h_3, eh_3, hE⟩ := nm_e2 hE
  refine (le_I eh_3).tr ?_
  cases hE
  exact Le.rf _
set_option maxRecDepth 20000 in
theorem moX11_start_27 {o : Int32 × Hp} {F : Nat} {h : Hp} {x0 : Nat} {x1 : Int32} {x2 : Int32} {t0 : Nat} (hE : sX11_start_27 F h x0 x1 x2 t0 = some o) : Le h o.2 := by
  obtain ⟨r_1, er_1, hE⟩ := cl_e hE
  obtain ⟨g_2, hE⟩ := gd_e hE
  obtain ⟨r_3, er_3, hE⟩ := cl_e hE
  obtain ⟨o_4, eo_4, hE⟩ := cl_e hE
  refine (moX3_copyFrom eo_4).tr ?_
  exact moX11_start_36 hE
set_option maxRecDepth 20000 in
theorem moX11_start_15 {o : Int32 × Hp} {F : Nat} {h : Hp} {x0 : Nat} {x1 : Int32} {x2 : Int32} {t0 : Int32} (hE : sX11_start_15 F h x0 x1 x2 t0 = some o) : Le h o.2 := by
  rcases br_e hE with ⟨_, hE⟩ | ⟨_, hE⟩
  · cases hE
    exact Le.rf _
  · obtain ⟨o_2, eo_2, hE⟩ := cl_e hE
    refine (moX11_page eo_2).tr ?_
    exact moX11_start_27 hE
set_option maxRecDepth 20000 in
theorem moX11_start_4 {o : Int32 × Hp} {F : Nat} {h : Hp} {x0 : Nat} {x1 : Int32} {x2 : Int32} {t0 : Int32} (hE : sX11_start_4 F h x0 x1 x2 t0 = some o) : Le h o.2 := by
  rcases br_e hE with ⟨_, hE⟩ | ⟨_, hE⟩
  · cases hE
    exact Le.rf _
  · obtain ⟨o_2, eo_2, hE⟩ := cl_e hE
    refine (moX11_isPlace eo_2).tr ?_
    exact moX11_start_15 hE
set_option maxRecDepth 20000 in
theorem moX11_start {o : Int32 × Hp} {F : Nat} {h : Hp} {x0 : Nat} {x1 : Int32} {x2 : Int32} (hE : sX11_start F h x0 x1 x2 = some o) : Le h o.2 := by
  obtain ⟨o_1, eo_1, hE⟩ := cl_e hE
  refine (moX11_isGame eo_1).tr ?_
  exact moX11_start_4 hE
set_option maxRecDepth 20000 in
theorem bX11_start_36 {p : Program} {l : Launch} {e : Env} {s : State} {m : MethodId} {args : Array Value} {below : List Frame} {meth : Method} {c : Code} {X : Ec} {h0 : Hp} {o : Int32 × Hp} {F : Nat} (C : Cx X p s m args meth c RX11 cX11_start 3 (some .int) "start") {h : Hp} {x0 : Nat} {x1 : Int32} {H : Heap} {locs : List Loc} (k_x0 : hK h x0 = 11) (hkl : Kl h0 h) (hW : Wx X h H) (hZ : va_S (aA (eB X)) s.heap H locs) (ls : Array Slot) (hl : lv_has ls 3 [(0, .ref x0), (1, .int x1)]) (hE : sX11_start_36 F h x0 x1 = some o) : W p l e (rmA 3 86 h0 o.2) s m args below meth c H locs (hS h - hS h0) (hL h - hL h0) (MQ below (QIA X h0 o.1 o.2) args s (hS o.2 - hS h0) (hL o.2 - hL h0) (aA (eB X))) (F0 m 36 ls []) := by
  refine lv_aload_n C.1 C.2.1 dX11_start_36 rfl (lv_at hl 0 rfl) ?_
  obtain ⟨r_1, er_1, hE⟩ := cl_e hE
  refine gf_X11_117 C hW k_x0 er_1 dX11_start_37 (fun k_r_1 => ?_)
  refine lv_iload_n C.1 C.2.1 dX11_start_40 rfl (lv_at hl 1 rfl) ?_
  refine lv_iconst (v := (0 : Int32)) C.1 C.2.1 dX11_start_41 (by decide) ?_
  obtain ⟨g_2, hE⟩ := gd_e hE
  obtain ⟨h_3, eh_3, hE⟩ := nm_e2 hE
  refine y_iast C hW hZ k_r_1 g_2 eh_3 dX11_start_42 (fun _ _ hW km hZ => ?_)
  replace hkl := hkl.tr km.l
  refine x_wc km ?_
  replace k_x0 := km.at k_x0 (by decide)
  refine lv_iconst (v := (0 : Int32)) C.1 C.2.1 dX11_start_43 (by decide) ?_
  exact x_iretA C rfl rfl hW hZ hkl hE dX11_start_44
set_option maxRecDepth 20000 in
theorem bX11_start_27 {p : Program} {l : Launch} {e : Env} {s : State} {m : MethodId} {args : Array Value} {below : List Frame} {meth : Method} {c : Code} {X : Ec} {h0 : Hp} {o : Int32 × Hp} {F : Nat} (C : Cx X p s m args meth c RX11 cX11_start 3 (some .int) "start") {h : Hp} {x0 : Nat} {x1 : Int32} {x2 : Int32} {t0 : Nat} {H : Heap} {locs : List Loc} (k_x0 : hK h x0 = 11) (k_t0 : hK h t0 = 3) (hkl : Kl h0 h) (hW : Wx X h H) (hZ : va_S (aA (eB X)) s.heap H locs) (ls : Array Slot) (hl : lv_has ls 3 [(0, .ref x0), (1, .int x1), (2, .int x2)]) (hE : sX11_start_27 F h x0 x1 x2 t0 = some o) : W p l e (rmA 3 86 h0 o.2) s m args below meth c H locs (hS h - hS h0) (hL h - hL h0) (MQ below (QIA X h0 o.1 o.2) args s (hS o.2 - hS h0) (hL o.2 - hL h0) (aA (eB X))) (F0 m 27 ls [.ref t0]) := by
  refine lv_aload_n C.1 C.2.1 dX11_start_27 rfl (lv_at hl 0 rfl) ?_
  obtain ⟨r_1, er_1, hE⟩ := cl_e hE
  refine gf_X11_103 C hW k_x0 er_1 dX11_start_28 (fun k_r_1 => ?_)
  refine lv_iload_n C.1 C.2.1 dX11_start_31 rfl (lv_at hl 2 rfl) ?_
  obtain ⟨g_2, hE⟩ := gd_e hE
  obtain ⟨r_3, er_3, hE⟩ := cl_e hE
  refine y_aald (t0 := 4) C hW k_r_1 (by decide) (by decide) rfl rfl rfl (fun _ => rfl) g_2 er_3 dX11_start_32 (fun k_r_3 => ?_)
  obtain ⟨o_4, eo_4, hE⟩ := cl_e hE
  have m1 := moX3_copyFrom eo_4
  have m2 := moX11_start_36 hE
  refine x_kV (o := o_4) (z_runV (As := [.ref r_3]) (rest := []) C (ct_X3_copyFrom l X F k_t0 k_r_3 eo_4) cw_X11_325 hW hZ k_t0 (by decide) rfl rfl rfl hl.1 (Nat.le_of_ble_eq_true rfl) rfl dX11_start_33 ⟨Nat.le_of_ble_eq_true rfl, Nat.le_of_ble_eq_true rfl⟩ (rm_ok0 hkl m1 m2)) hZ (fun _ _ hW km hZ => ?_)
  replace hkl := hkl.tr km.l
  refine x_wc km ?_
  replace k_x0 := km.at k_x0 (by decide)
  exact bX11_start_36 C k_x0 hkl hW hZ _ (lv_sub hl [0, 1] rfl) hE
set_option maxRecDepth 20000 in
theorem bX11_start_15 {p : Program} {l : Launch} {e : Env} {s : State} {m : MethodId} {args : Array Value} {below : List Frame} {meth : Method} {c : Code} {X : Ec} {h0 : Hp} {o : Int32 × Hp} {F : Nat} (C : Cx X p s m args meth c RX11 cX11_start 3 (some .int) "start") {h : Hp} {x0 : Nat} {x1 : Int32} {x2 : Int32} {t0 : Int32} {H : Heap} {locs : List Loc} (k_x0 : hK h x0 = 11) (hkl : Kl h0 h) (hW : Wx X h H) (hZ : va_S (aA (eB X)) s.heap H locs) (ls : Array Slot) (hl : lv_has ls 3 [(0, .ref x0), (1, .int x1), (2, .int x2)]) (hE : sX11_start_15 F h x0 x1 x2 t0 = some o) : W p l e (rmA 3 86 h0 o.2) s m args below meth c H locs (hS h - hS h0) (hL h - hL h0) (MQ below (QIA X h0 o.1 o.2) args s (hS o.2 - hS h0) (hL o.2 - hL h0) (aA (eB X))) (F0 m 15 ls [.int t0]) := by
  refine lv_if_ne (tgt := 21) C.1 C.2.1 dX11_start_15 (by decide) (fun c_1 => ?_) (fun c_1 => ?_)
  · have hE := br_n hE c_1
    refine lv_aload_n C.1 C.2.1 dX11_start_21 rfl (lv_at hl 0 rfl) ?_
    refine lv_iload_n C.1 C.2.1 dX11_start_22 rfl (lv_at hl 1 rfl) ?_
    refine lv_iconst (v := (0 : Int32)) C.1 C.2.1 dX11_start_23 (by decide) ?_
    obtain ⟨o_2, eo_2, hE⟩ := cl_e hE
    have m1 := moX11_page eo_2
    have m2 := moX11_start_27 hE
    refine x_kRA (o := o_2) hkl (z_runV (As := [.int x1, .int (0 : Int32)]) (rest := []) C (ct_X11_page l X F k_x0 eo_2) cw_X11_321 hW hZ k_x0 (by decide) rfl rfl rfl hl.1 (Nat.le_of_ble_eq_true rfl) rfl dX11_start_24 ⟨Nat.le_of_ble_eq_true rfl, Nat.le_of_ble_eq_true rfl⟩ (rm_ok hkl m1 m2)) hZ (fun _ _ hW km k_o_2_1 hZ => ?_)
    replace hkl := hkl.tr km
    replace k_x0 := km.at k_x0 (by decide)
    exact bX11_start_27 C k_x0 k_o_2_1 hkl hW hZ _ (lv_sub hl [0, 1, 2] rfl) hE
  · have hE := br_p hE c_1
    refine lv_bipush (v := (-102 : Int32)) C.1 C.2.1 dX11_start_18 (by decide) ?_
    exact x_iretA C rfl rfl hW hZ hkl hE dX11_start_20
set_option maxRecDepth 20000 in
theorem bX11_start_4 {p : Program} {l : Launch} {e : Env} {s : State} {m : MethodId} {args : Array Value} {below : List Frame} {meth : Method} {c : Code} {X : Ec} {h0 : Hp} {o : Int32 × Hp} {F : Nat} (C : Cx X p s m args meth c RX11 cX11_start 3 (some .int) "start") {h : Hp} {x0 : Nat} {x1 : Int32} {x2 : Int32} {t0 : Int32} {H : Heap} {locs : List Loc} (k_x0 : hK h x0 = 11) (hkl : Kl h0 h) (hW : Wx X h H) (hZ : va_S (aA (eB X)) s.heap H locs) (ls : Array Slot) (hl : lv_has ls 3 [(0, .ref x0), (1, .int x1), (2, .int x2)]) (hE : sX11_start_4 F h x0 x1 x2 t0 = some o) : W p l e (rmA 3 86 h0 o.2) s m args below meth c H locs (hS h - hS h0) (hL h - hL h0) (MQ below (QIA X h0 o.1 o.2) args s (hS o.2 - hS h0) (hL o.2 - hL h0) (aA (eB X))) (F0 m 4 ls [.int t0]) := by
  refine lv_if_ne (tgt := 10) C.1 C.2.1 dX11_start_4 (by decide) (fun c_1 => ?_) (fun c_1 => ?_)
  · have hE := br_n hE c_1
    refine lv_aload_n C.1 C.2.1 dX11_start_10 rfl (lv_at hl 0 rfl) ?_
    refine lv_iload_n C.1 C.2.1 dX11_start_11 rfl (lv_at hl 2 rfl) ?_
    obtain ⟨o_2, eo_2, hE⟩ := cl_e hE
    have m1 := moX11_isPlace eo_2
    have m2 := moX11_start_15 hE
    refine x_kI (o := o_2) (z_runV (As := [.int x2]) (rest := []) C (ct_X11_isPlace l X k_x0 eo_2) cw_X11_193 hW hZ k_x0 (by decide) rfl rfl rfl hl.1 (Nat.le_of_ble_eq_true rfl) rfl dX11_start_12 ⟨Nat.le_of_ble_eq_true rfl, Nat.le_of_ble_eq_true rfl⟩ (rm_ok0 hkl m1 m2)) hZ (fun _ _ hW km hZ => ?_)
    replace hkl := hkl.tr km.l
    refine x_wc km ?_
    replace k_x0 := km.at k_x0 (by decide)
    exact bX11_start_15 C k_x0 hkl hW hZ _ (lv_sub hl [0, 1, 2] rfl) hE
  · have hE := br_p hE c_1
    refine lv_bipush (v := (-101 : Int32)) C.1 C.2.1 dX11_start_7 (by decide) ?_
    exact x_iretA C rfl rfl hW hZ hkl hE dX11_start_9
set_option maxRecDepth 20000 in
theorem ct_X11_start (l : Launch) (X : Ec) (F : Nat) {h : Hp} {x0 : Nat} {x1 : Int32} {x2 : Int32} {o : Int32 × Hp} (k_x0 : hK h x0 = 11) (hE : sX11_start F h x0 x1 x2 = some o) : MetIA l yX11_start cX11_start 3 (some .int) 3 86 X [.ref x0, .int x1, .int x2] h o := by
  refine x_metA (oh := o.2) (by decide) (Nat.le_of_ble_eq_true rfl) ?_
  intro p e s m below meth c ls C hl hW hZ
  have hl : lv_has ls 3 [(0, .ref x0), (1, .int x1), (2, .int x2)] := hl
  have hkl : Kl h h := Kl.rf h
  refine lv_iload_n C.1 C.2.1 dX11_start_0 rfl (lv_at hl 1 rfl) ?_
  obtain ⟨o_1, eo_1, hE⟩ := cl_e hE
  have m1 := moX11_isGame eo_1
  have m2 := moX11_start_4 hE
  refine x_kI (o := o_1) (z_runS (As := [.int x1]) (rest := []) C (ct_X11_isGame l X eo_1) cw_X11_318 hW hZ rfl hl.1 (Nat.le_of_ble_eq_true rfl) rfl dX11_start_1 ⟨Nat.le_of_ble_eq_true rfl, Nat.le_of_ble_eq_true rfl⟩ (rm_ok0 hkl m1 m2)) hZ (fun _ _ hW km hZ => ?_)
  replace hkl := hkl.tr km.l
  refine x_wc km ?_
  replace k_x0 := km.at k_x0 (by decide)
  exact bX11_start_4 C k_x0 hkl hW hZ _ (lv_sub hl [0, 1, 2] rfl) hE
section
variable {p : Program} {l : Launch} {e : Env} {R : Room} {s : State} {m : MethodId} {args : Array Value} {below : List Frame} {meth : Method} {c : Code} {H : Heap} {locs : List Loc} {cells slots : Nat} {Q : State → Prop}
variable {cc : ByteArray} {pc : Nat} {ls : Array Slot} {rest : List Value} {X : Ec} {h h1 : Hp} {nL : Nat} {rt : Option FieldType} {mn : String}
theorem gf_X11_114 {a r : Nat} (C : Cx X p s m args meth c RX11 cc nL rt mn) (hW : Wx X h H) (ha : hK h a = 11) (hr : hR h a 16 = some r) (hdg : decode cc pc = .ok (.getfield 114, 3)) (kk : hK h r = 17 → W p l e R s m args below meth c H locs cells slots Q (F0 m (pc + 3) ls (.ref r :: rest))) : W p l e R s m args below meth c H locs cells slots Q (F0 m pc ls (.ref a :: rest)) :=
  y_getr C hW ha i_X11 (by decide) rfl (by decide) m_868 rfl rfl hr hdg kk
end
theorem dX11_add_0 : decode cX11_add 0 = .ok (.iload_n 1, 1) := by decide +kernel
theorem dX11_add_1 : decode cX11_add 1 = .ok (.invokestatic 318, 3) := by decide +kernel
theorem dX11_add_4 : decode cX11_add 4 = .ok (.ifCond .ne 6, 3) := by decide +kernel
theorem dX11_add_7 : decode cX11_add 7 = .ok (.bipush (-101), 2) := by decide +kernel
theorem dX11_add_9 : decode cX11_add 9 = .ok (.ireturn, 1) := by decide +kernel
theorem dX11_add_10 : decode cX11_add 10 = .ok (.aload_n 0, 1) := by decide +kernel
theorem dX11_add_11 : decode cX11_add 11 = .ok (.getfield 117, 3) := by decide +kernel
theorem dX11_add_14 : decode cX11_add 14 = .ok (.iload_n 1, 1) := by decide +kernel
theorem dX11_add_15 : decode cX11_add 15 = .ok (.iaload, 1) := by decide +kernel
theorem dX11_add_16 : decode cX11_add 16 = .ok (.istore_n 3, 1) := by decide +kernel
theorem dX11_add_17 : decode cX11_add 17 = .ok (.iload_n 3, 1) := by decide +kernel
theorem dX11_add_18 : decode cX11_add 18 = .ok (.iconst (-1), 1) := by decide +kernel
theorem dX11_add_19 : decode cX11_add 19 = .ok (.if_icmp .ne 6, 3) := by decide +kernel
theorem dX11_add_22 : decode cX11_add 22 = .ok (.bipush (-102), 2) := by decide +kernel
theorem dX11_add_24 : decode cX11_add 24 = .ok (.ireturn, 1) := by decide +kernel
theorem dX11_add_25 : decode cX11_add 25 = .ok (.aload_n 0, 1) := by decide +kernel
theorem dX11_add_26 : decode cX11_add 26 = .ok (.iload_n 1, 1) := by decide +kernel
theorem dX11_add_27 : decode cX11_add 27 = .ok (.iload_n 3, 1) := by decide +kernel
theorem dX11_add_28 : decode cX11_add 28 = .ok (.invokevirtual 321, 3) := by decide +kernel
theorem dX11_add_31 : decode cX11_add 31 = .ok (.astore 4, 2) := by decide +kernel
theorem dX11_add_33 : decode cX11_add 33 = .ok (.aload_n 0, 1) := by decide +kernel
theorem dX11_add_34 : decode cX11_add 34 = .ok (.getfield 50, 3) := by decide +kernel
theorem dX11_add_37 : decode cX11_add 37 = .ok (.aload 4, 2) := by decide +kernel
theorem dX11_add_39 : decode cX11_add 39 = .ok (.aload_n 0, 1) := by decide +kernel
theorem dX11_add_40 : decode cX11_add 40 = .ok (.getfield 97, 3) := by decide +kernel
theorem dX11_add_43 : decode cX11_add 43 = .ok (.sipush 4096, 3) := by decide +kernel
theorem dX11_add_46 : decode cX11_add 46 = .ok (.invokevirtual 329, 3) := by decide +kernel
theorem dX11_add_49 : decode cX11_add 49 = .ok (.istore 5, 2) := by decide +kernel
theorem dX11_add_51 : decode cX11_add 51 = .ok (.iload_n 2, 1) := by decide +kernel
theorem dX11_add_52 : decode cX11_add 52 = .ok (.ifCond .lt 9, 3) := by decide +kernel
theorem dX11_add_55 : decode cX11_add 55 = .ok (.iload_n 2, 1) := by decide +kernel
theorem dX11_add_56 : decode cX11_add 56 = .ok (.iload 5, 2) := by decide +kernel
theorem dX11_add_58 : decode cX11_add 58 = .ok (.if_icmp .lt 6, 3) := by decide +kernel
theorem dX11_add_61 : decode cX11_add 61 = .ok (.bipush (-102), 2) := by decide +kernel
theorem dX11_add_63 : decode cX11_add 63 = .ok (.ireturn, 1) := by decide +kernel
theorem dX11_add_64 : decode cX11_add 64 = .ok (.iload_n 3, 1) := by decide +kernel
theorem dX11_add_65 : decode cX11_add 65 = .ok (.sipush 300, 3) := by decide +kernel
theorem dX11_add_68 : decode cX11_add 68 = .ok (.if_icmp .lt 6, 3) := by decide +kernel
theorem dX11_add_71 : decode cX11_add 71 = .ok (.bipush (-104), 2) := by decide +kernel
theorem dX11_add_73 : decode cX11_add 73 = .ok (.ireturn, 1) := by decide +kernel
theorem dX11_add_74 : decode cX11_add 74 = .ok (.aload_n 0, 1) := by decide +kernel
theorem dX11_add_75 : decode cX11_add 75 = .ok (.iload_n 1, 1) := by decide +kernel
theorem dX11_add_76 : decode cX11_add 76 = .ok (.iload_n 3, 1) := by decide +kernel
theorem dX11_add_77 : decode cX11_add 77 = .ok (.iconst 1, 1) := by decide +kernel
theorem dX11_add_78 : decode cX11_add 78 = .ok (.iadd, 1) := by decide +kernel
theorem dX11_add_79 : decode cX11_add 79 = .ok (.invokevirtual 321, 3) := by decide +kernel
theorem dX11_add_82 : decode cX11_add 82 = .ok (.astore 6, 2) := by decide +kernel
theorem dX11_add_84 : decode cX11_add 84 = .ok (.aload 6, 2) := by decide +kernel
theorem dX11_add_86 : decode cX11_add 86 = .ok (.aload 4, 2) := by decide +kernel
theorem dX11_add_88 : decode cX11_add 88 = .ok (.invokevirtual 325, 3) := by decide +kernel
theorem dX11_add_91 : decode cX11_add 91 = .ok (.aload_n 0, 1) := by decide +kernel
theorem dX11_add_92 : decode cX11_add 92 = .ok (.getfield 50, 3) := by decide +kernel
theorem dX11_add_95 : decode cX11_add 95 = .ok (.aload 6, 2) := by decide +kernel
theorem dX11_add_97 : decode cX11_add 97 = .ok (.aload_n 0, 1) := by decide +kernel
theorem dX11_add_98 : decode cX11_add 98 = .ok (.getfield 97, 3) := by decide +kernel
theorem dX11_add_101 : decode cX11_add 101 = .ok (.iload_n 2, 1) := by decide +kernel
theorem dX11_add_102 : decode cX11_add 102 = .ok (.iaload, 1) := by decide +kernel
theorem dX11_add_103 : decode cX11_add 103 = .ok (.invokevirtual 279, 3) := by decide +kernel
theorem dX11_add_106 : decode cX11_add 106 = .ok (.aload_n 0, 1) := by decide +kernel
theorem dX11_add_107 : decode cX11_add 107 = .ok (.getfield 114, 3) := by decide +kernel
theorem dX11_add_110 : decode cX11_add 110 = .ok (.iload_n 1, 1) := by decide +kernel
theorem dX11_add_111 : decode cX11_add 111 = .ok (.sipush 301, 3) := by decide +kernel
theorem dX11_add_114 : decode cX11_add 114 = .ok (.imul, 1) := by decide +kernel
theorem dX11_add_115 : decode cX11_add 115 = .ok (.iload_n 3, 1) := by decide +kernel
theorem dX11_add_116 : decode cX11_add 116 = .ok (.iadd, 1) := by decide +kernel
theorem dX11_add_117 : decode cX11_add 117 = .ok (.iload_n 2, 1) := by decide +kernel
theorem dX11_add_118 : decode cX11_add 118 = .ok (.iastore, 1) := by decide +kernel
theorem dX11_add_119 : decode cX11_add 119 = .ok (.aload_n 0, 1) := by decide +kernel
theorem dX11_add_120 : decode cX11_add 120 = .ok (.getfield 117, 3) := by decide +kernel
theorem dX11_add_123 : decode cX11_add 123 = .ok (.iload_n 1, 1) := by decide +kernel
theorem dX11_add_124 : decode cX11_add 124 = .ok (.iload_n 3, 1) := by decide +kernel
theorem dX11_add_125 : decode cX11_add 125 = .ok (.iconst 1, 1) := by decide +kernel
theorem dX11_add_126 : decode cX11_add 126 = .ok (.iadd, 1) := by decide +kernel
theorem dX11_add_127 : decode cX11_add 127 = .ok (.iastore, 1) := by decide +kernel
theorem dX11_add_128 : decode cX11_add 128 = .ok (.iload_n 3, 1) := by decide +kernel
theorem dX11_add_129 : decode cX11_add 129 = .ok (.iconst 1, 1) := by decide +kernel
theorem dX11_add_130 : decode cX11_add 130 = .ok (.iadd, 1) := by decide +kernel
theorem dX11_add_131 : decode cX11_add 131 = .ok (.ireturn, 1) := by decide +kernel
def sX11_add_61 (F : Nat) (h : Hp) : Option (Int32 × Hp) := some ((-102 : Int32), h)
def sX11_add_106 (F : Nat) (h : Hp) (x0 : Nat) (x1 : Int32) (x2 : Int32) (x3 : Int32) : Option (Int32 × Hp) := cl (hR h x0 16) fun r_1 => gd (inB ((x1 * (301 : Int32)) + x3) (hN h r_1)) <| nm (wI h r_1 ((x1 * (301 : Int32)) + x3).toNatClampNeg x2) fun h_3 => cl (hR h_3 x0 17) fun r_4 => gd (inB x1 (hN h_3 r_4)) <| nm (wI h_3 r_4 x1.toNatClampNeg (x3 + (1 : Int32))) fun h_6 => some (x3 + (1 : Int32), h_6)
def sX11_add_91 (F : Nat) (h : Hp) (x0 : Nat) (x1 : Int32) (x2 : Int32) (x3 : Int32) (x6 : Nat) : Option (Int32 × Hp) := cl (hR h x0 6) fun r_1 => cl (hR h x0 12) fun r_2 => gd (inB x2 (hN h r_2)) <| cl (sX5_make F h r_1 x6 (hI h r_2 x2.toNatClampNeg)) fun o_4 => sX11_add_106 F o_4 x0 x1 x2 x3
def sX11_add_82 (F : Nat) (h : Hp) (x0 : Nat) (x1 : Int32) (x2 : Int32) (x3 : Int32) (x4 : Nat) (t0 : Nat) : Option (Int32 × Hp) := cl (sX3_copyFrom F h t0 x4) fun o_1 => sX11_add_91 F o_1 x0 x1 x2 x3 t0
def sX11_add_49 (F : Nat) (h : Hp) (x0 : Nat) (x1 : Int32) (x2 : Int32) (x3 : Int32) (x4 : Nat) (t0 : Int32) : Option (Int32 × Hp) := br (x2 < 0) (sX11_add_61 F h ) (br (x2 < t0) (br (x3 < (300 : Int32)) (cl (sX11_page F h x0 x1 (x3 + (1 : Int32))) fun o_4 => sX11_add_82 F o_4.2 x0 x1 x2 x3 x4 o_4.1) (some ((-104 : Int32), h))) (sX11_add_61 F h ))
def sX11_add_31 (F : Nat) (h : Hp) (x0 : Nat) (x1 : Int32) (x2 : Int32) (x3 : Int32) (t0 : Nat) : Option (Int32 × Hp) := cl (hR h x0 6) fun r_1 => cl (hR h x0 12) fun r_2 => cl (sX5_collect F h r_1 t0 r_2 (4096 : Int32)) fun o_3 => sX11_add_49 F o_3.2 x0 x1 x2 x3 t0 o_3.1
def sX11_add_4 (F : Nat) (h : Hp) (x0 : Nat) (x1 : Int32) (x2 : Int32) (t0 : Int32) : Option (Int32 × Hp) := br (t0 = 0) (some ((-101 : Int32), h)) (cl (hR h x0 17) fun r_2 => gd (inB x1 (hN h r_2)) <| nm (hI h r_2 x1.toNatClampNeg) fun v_4 => br (v_4 = (-1 : Int32)) (some ((-102 : Int32), h)) (cl (sX11_page F h x0 x1 v_4) fun o_6 => sX11_add_31 F o_6.2 x0 x1 x2 v_4 o_6.1))
def sX11_add (F : Nat) (h : Hp) (x0 : Nat) (x1 : Int32) (x2 : Int32) : Option (Int32 × Hp) := cl (sX11_isGame h x1) fun o_1 => sX11_add_4 F o_1.2 x0 x1 x2 o_1.1
set_option maxRecDepth 20000 in
theorem moX11_add_61 {o : Int32 × Hp} {F : Nat} {h : Hp} (hE : sX11_add_61 F h  = some o) : Le h o.2 := by
  cases hE
  exact Le.rf _
set_option maxRecDepth 20000 in
theorem moX11_add_106 {o : Int32 × Hp} {F : Nat} {h : Hp} {x0 : Nat} {x1 : Int32} {x2 : Int32} {x3 : Int32} (hE : sX11_add_106 F h x0 x1 x2 x3 = some o) : Le h o.2 := by
  obtain ⟨r_1, er_1, hE⟩ := cl_e hE
  obtain ⟨g_2, hE⟩ := gd_e hE
  obtain ⟨h_3, eh_3, hE⟩ := nm_e2 hE
  refine (le_I eh_3).tr ?_
  obtain ⟨r_4, er_4, hE⟩ := cl_e hE
  obtain ⟨g_5, hE⟩ := gd_e hE
  obtain ⟨h_6, eh_6, hE⟩ := nm_e2 hE
  refine (le_I eh_6).tr ?_
  cases hE
  exact Le.rf _
set_option maxRecDepth 20000 in
theorem moX11_add_91 {o : Int32 × Hp} {F : Nat} {h : Hp} {x0 : Nat} {x1 : Int32} {x2 : Int32} {x3 : Int32} {x6 : Nat} (hE : sX11_add_91 F h x0 x1 x2 x3 x6 = some o) : Le h o.2 := by
  obtain ⟨r_1, er_1, hE⟩ := cl_e hE
  obtain ⟨r_2, er_2, hE⟩ := cl_e hE
  obtain ⟨g_3, hE⟩ := gd_e hE
  obtain ⟨o_4, eo_4, hE⟩ := cl_e hE
  refine (moX5_make eo_4).tr ?_
  exact moX11_add_106 hE
set_option maxRecDepth 20000 in
theorem moX11_add_82 {o : Int32 × Hp} {F : Nat} {h : Hp} {x0 : Nat} {x1 : Int32} {x2 : Int32} {x3 : Int32} {x4 : Nat} {t0 : Nat} (hE : sX11_add_82 F h x0 x1 x2 x3 x4 t0 = some o) : Le h o.2 := by
  obtain ⟨o_1, eo_1, hE⟩ := cl_e hE
  refine (moX3_copyFrom eo_1).tr ?_
  exact moX11_add_91 hE
set_option maxRecDepth 20000 in
theorem moX11_add_49 {o : Int32 × Hp} {F : Nat} {h : Hp} {x0 : Nat} {x1 : Int32} {x2 : Int32} {x3 : Int32} {x4 : Nat} {t0 : Int32} (hE : sX11_add_49 F h x0 x1 x2 x3 x4 t0 = some o) : Le h o.2 := by
  rcases br_e hE with ⟨_, hE⟩ | ⟨_, hE⟩
  · exact moX11_add_61 hE
  · rcases br_e hE with ⟨_, hE⟩ | ⟨_, hE⟩
    · rcases br_e hE with ⟨_, hE⟩ | ⟨_, hE⟩
      · obtain ⟨o_4, eo_4, hE⟩ := cl_e hE
        refine (moX11_page eo_4).tr ?_
        exact moX11_add_82 hE
      · cases hE
        exact Le.rf _
    · exact moX11_add_61 hE
set_option maxRecDepth 20000 in
theorem moX11_add_31 {o : Int32 × Hp} {F : Nat} {h : Hp} {x0 : Nat} {x1 : Int32} {x2 : Int32} {x3 : Int32} {t0 : Nat} (hE : sX11_add_31 F h x0 x1 x2 x3 t0 = some o) : Le h o.2 := by
  obtain ⟨r_1, er_1, hE⟩ := cl_e hE
  obtain ⟨r_2, er_2, hE⟩ := cl_e hE
  obtain ⟨o_3, eo_3, hE⟩ := cl_e hE
  refine (moX5_collect eo_3).tr ?_
  exact moX11_add_49 hE
set_option maxRecDepth 20000 in
theorem moX11_add_4 {o : Int32 × Hp} {F : Nat} {h : Hp} {x0 : Nat} {x1 : Int32} {x2 : Int32} {t0 : Int32} (hE : sX11_add_4 F h x0 x1 x2 t0 = some o) : Le h o.2 := by
  rcases br_e hE with ⟨_, hE⟩ | ⟨_, hE⟩
  · cases hE
    exact Le.rf _
  · obtain ⟨r_2, er_2, hE⟩ := cl_e hE
    obtain ⟨g_3, hE⟩ := gd_e hE
    obtain ⟨v_4, ev_4, hE⟩ := nm_e2 hE
    rcases br_e hE with ⟨_, hE⟩ | ⟨_, hE⟩
    · cases hE
      exact Le.rf _
    · obtain ⟨o_6, eo_6, hE⟩ := cl_e hE
      refine (moX11_page eo_6).tr ?_
      exact moX11_add_31 hE
set_option maxRecDepth 20000 in
theorem moX11_add {o : Int32 × Hp} {F : Nat} {h : Hp} {x0 : Nat} {x1 : Int32} {x2 : Int32} (hE : sX11_add F h x0 x1 x2 = some o) : Le h o.2 := by
  obtain ⟨o_1, eo_1, hE⟩ := cl_e hE
  refine (moX11_isGame eo_1).tr ?_
  exact moX11_add_4 hE
set_option maxRecDepth 20000 in
theorem bX11_add_61 {p : Program} {l : Launch} {e : Env} {s : State} {m : MethodId} {args : Array Value} {below : List Frame} {meth : Method} {c : Code} {X : Ec} {h0 : Hp} {o : Int32 × Hp} {F : Nat} (C : Cx X p s m args meth c RX11 cX11_add 7 (some .int) "add") {h : Hp} {H : Heap} {locs : List Loc} (hkl : Kl h0 h) (hW : Wx X h H) (hZ : va_S (aA (eB X)) s.heap H locs) (ls : Array Slot) (hl : lv_has ls 7 []) (hE : sX11_add_61 F h  = some o) : W p l e (rmA 4 139 h0 o.2) s m args below meth c H locs (hS h - hS h0) (hL h - hL h0) (MQ below (QIA X h0 o.1 o.2) args s (hS o.2 - hS h0) (hL o.2 - hL h0) (aA (eB X))) (F0 m 61 ls []) := by
  refine lv_bipush (v := (-102 : Int32)) C.1 C.2.1 dX11_add_61 (by decide) ?_
  exact x_iretA C rfl rfl hW hZ hkl hE dX11_add_63
set_option maxRecDepth 20000 in
theorem bX11_add_106 {p : Program} {l : Launch} {e : Env} {s : State} {m : MethodId} {args : Array Value} {below : List Frame} {meth : Method} {c : Code} {X : Ec} {h0 : Hp} {o : Int32 × Hp} {F : Nat} (C : Cx X p s m args meth c RX11 cX11_add 7 (some .int) "add") {h : Hp} {x0 : Nat} {x1 : Int32} {x2 : Int32} {x3 : Int32} {H : Heap} {locs : List Loc} (k_x0 : hK h x0 = 11) (hkl : Kl h0 h) (hW : Wx X h H) (hZ : va_S (aA (eB X)) s.heap H locs) (ls : Array Slot) (hl : lv_has ls 7 [(0, .ref x0), (1, .int x1), (2, .int x2), (3, .int x3)]) (hE : sX11_add_106 F h x0 x1 x2 x3 = some o) : W p l e (rmA 4 139 h0 o.2) s m args below meth c H locs (hS h - hS h0) (hL h - hL h0) (MQ below (QIA X h0 o.1 o.2) args s (hS o.2 - hS h0) (hL o.2 - hL h0) (aA (eB X))) (F0 m 106 ls []) := by
  refine lv_aload_n C.1 C.2.1 dX11_add_106 rfl (lv_at hl 0 rfl) ?_
  obtain ⟨r_1, er_1, hE⟩ := cl_e hE
  refine gf_X11_114 C hW k_x0 er_1 dX11_add_107 (fun k_r_1 => ?_)
  refine lv_iload_n C.1 C.2.1 dX11_add_110 rfl (lv_at hl 1 rfl) ?_
  refine lv_sipush (v := (301 : Int32)) C.1 C.2.1 dX11_add_111 (by decide) ?_
  refine lv_imul C.1 C.2.1 dX11_add_114 ?_
  refine lv_iload_n C.1 C.2.1 dX11_add_115 rfl (lv_at hl 3 rfl) ?_
  refine lv_iadd C.1 C.2.1 dX11_add_116 ?_
  refine lv_iload_n C.1 C.2.1 dX11_add_117 rfl (lv_at hl 2 rfl) ?_
  obtain ⟨g_2, hE⟩ := gd_e hE
  obtain ⟨h_3, eh_3, hE⟩ := nm_e2 hE
  refine y_iast C hW hZ k_r_1 g_2 eh_3 dX11_add_118 (fun _ _ hW km hZ => ?_)
  replace hkl := hkl.tr km.l
  refine x_wc km ?_
  replace k_x0 := km.at k_x0 (by decide)
  refine lv_aload_n C.1 C.2.1 dX11_add_119 rfl (lv_at hl 0 rfl) ?_
  obtain ⟨r_4, er_4, hE⟩ := cl_e hE
  refine gf_X11_117 C hW k_x0 er_4 dX11_add_120 (fun k_r_4 => ?_)
  refine lv_iload_n C.1 C.2.1 dX11_add_123 rfl (lv_at hl 1 rfl) ?_
  refine lv_iload_n C.1 C.2.1 dX11_add_124 rfl (lv_at hl 3 rfl) ?_
  refine lv_iconst (v := (1 : Int32)) C.1 C.2.1 dX11_add_125 (by decide) ?_
  refine lv_iadd C.1 C.2.1 dX11_add_126 ?_
  obtain ⟨g_5, hE⟩ := gd_e hE
  obtain ⟨h_6, eh_6, hE⟩ := nm_e2 hE
  refine y_iast C hW hZ k_r_4 g_5 eh_6 dX11_add_127 (fun _ _ hW km hZ => ?_)
  replace hkl := hkl.tr km.l
  refine x_wc km ?_
  replace k_x0 := km.at k_x0 (by decide)
  refine lv_iload_n C.1 C.2.1 dX11_add_128 rfl (lv_at hl 3 rfl) ?_
  refine lv_iconst (v := (1 : Int32)) C.1 C.2.1 dX11_add_129 (by decide) ?_
  refine lv_iadd C.1 C.2.1 dX11_add_130 ?_
  exact x_iretA C rfl rfl hW hZ hkl hE dX11_add_131
set_option maxRecDepth 20000 in
theorem bX11_add_91 {p : Program} {l : Launch} {e : Env} {s : State} {m : MethodId} {args : Array Value} {below : List Frame} {meth : Method} {c : Code} {X : Ec} {h0 : Hp} {o : Int32 × Hp} {F : Nat} (C : Cx X p s m args meth c RX11 cX11_add 7 (some .int) "add") {h : Hp} {x0 : Nat} {x1 : Int32} {x2 : Int32} {x3 : Int32} {x6 : Nat} {H : Heap} {locs : List Loc} (k_x0 : hK h x0 = 11) (k_x6 : hK h x6 = 3) (hkl : Kl h0 h) (hW : Wx X h H) (hZ : va_S (aA (eB X)) s.heap H locs) (ls : Array Slot) (hl : lv_has ls 7 [(0, .ref x0), (1, .int x1), (2, .int x2), (3, .int x3), (6, .ref x6)]) (hE : sX11_add_91 F h x0 x1 x2 x3 x6 = some o) : W p l e (rmA 4 139 h0 o.2) s m args below meth c H locs (hS h - hS h0) (hL h - hL h0) (MQ below (QIA X h0 o.1 o.2) args s (hS o.2 - hS h0) (hL o.2 - hL h0) (aA (eB X))) (F0 m 91 ls []) := by
  refine lv_aload_n C.1 C.2.1 dX11_add_91 rfl (lv_at hl 0 rfl) ?_
  obtain ⟨r_1, er_1, hE⟩ := cl_e hE
  refine gf_X11_50 C hW k_x0 er_1 dX11_add_92 (fun k_r_1 => ?_)
  refine lv_aload C.1 C.2.1 dX11_add_95 (lv_at hl 4 rfl) ?_
  refine lv_aload_n C.1 C.2.1 dX11_add_97 rfl (lv_at hl 0 rfl) ?_
  obtain ⟨r_2, er_2, hE⟩ := cl_e hE
  refine gf_X11_97 C hW k_x0 er_2 dX11_add_98 (fun k_r_2 => ?_)
  refine lv_iload_n C.1 C.2.1 dX11_add_101 rfl (lv_at hl 2 rfl) ?_
  obtain ⟨g_3, hE⟩ := gd_e hE
  refine y_iald C hW k_r_2 g_3 dX11_add_102 ?_
  obtain ⟨o_4, eo_4, hE⟩ := cl_e hE
  have m1 := moX5_make eo_4
  have m2 := moX11_add_106 hE
  refine x_kV (o := o_4) (z_runV (As := [.ref x6, .int (hI h r_2 x2.toNatClampNeg)]) (rest := []) C (ct_X5_make l X F k_r_1 k_x6 eo_4) cw_X11_279 hW hZ k_r_1 (by decide) rfl rfl rfl hl.1 (Nat.le_of_ble_eq_true rfl) rfl dX11_add_103 ⟨Nat.le_of_ble_eq_true rfl, Nat.le_of_ble_eq_true rfl⟩ (rm_ok0 hkl m1 m2)) hZ (fun _ _ hW km hZ => ?_)
  replace hkl := hkl.tr km.l
  refine x_wc km ?_
  replace k_x0 := km.at k_x0 (by decide)
  replace k_x6 := km.at k_x6 (by decide)
  exact bX11_add_106 C k_x0 hkl hW hZ _ (lv_sub hl [0, 1, 2, 3] rfl) hE
set_option maxRecDepth 20000 in
theorem bX11_add_82 {p : Program} {l : Launch} {e : Env} {s : State} {m : MethodId} {args : Array Value} {below : List Frame} {meth : Method} {c : Code} {X : Ec} {h0 : Hp} {o : Int32 × Hp} {F : Nat} (C : Cx X p s m args meth c RX11 cX11_add 7 (some .int) "add") {h : Hp} {x0 : Nat} {x1 : Int32} {x2 : Int32} {x3 : Int32} {x4 : Nat} {t0 : Nat} {H : Heap} {locs : List Loc} (k_x0 : hK h x0 = 11) (k_x4 : hK h x4 = 3) (k_t0 : hK h t0 = 3) (hkl : Kl h0 h) (hW : Wx X h H) (hZ : va_S (aA (eB X)) s.heap H locs) (ls : Array Slot) (hl : lv_has ls 7 [(0, .ref x0), (1, .int x1), (2, .int x2), (3, .int x3), (4, .ref x4)]) (hE : sX11_add_82 F h x0 x1 x2 x3 x4 t0 = some o) : W p l e (rmA 4 139 h0 o.2) s m args below meth c H locs (hS h - hS h0) (hL h - hL h0) (MQ below (QIA X h0 o.1 o.2) args s (hS o.2 - hS h0) (hL o.2 - hL h0) (aA (eB X))) (F0 m 82 ls [.ref t0]) := by
  refine lv_astore (lv' := [(6, .ref t0), (0, .ref x0), (1, .int x1), (2, .int x2), (3, .int x3), (4, .ref x4)]) C.1 C.2.1 dX11_add_82 hl (by decide) rfl (fun ls hl => ?_)
  refine lv_aload C.1 C.2.1 dX11_add_84 (lv_at hl 0 rfl) ?_
  refine lv_aload C.1 C.2.1 dX11_add_86 (lv_at hl 5 rfl) ?_
  obtain ⟨o_1, eo_1, hE⟩ := cl_e hE
  have m1 := moX3_copyFrom eo_1
  have m2 := moX11_add_91 hE
  refine x_kV (o := o_1) (z_runV (As := [.ref x4]) (rest := []) C (ct_X3_copyFrom l X F k_t0 k_x4 eo_1) cw_X11_325 hW hZ k_t0 (by decide) rfl rfl rfl hl.1 (Nat.le_of_ble_eq_true rfl) rfl dX11_add_88 ⟨Nat.le_of_ble_eq_true rfl, Nat.le_of_ble_eq_true rfl⟩ (rm_ok0 hkl m1 m2)) hZ (fun _ _ hW km hZ => ?_)
  replace hkl := hkl.tr km.l
  refine x_wc km ?_
  replace k_t0 := km.at k_t0 (by decide)
  replace k_x0 := km.at k_x0 (by decide)
  replace k_x4 := km.at k_x4 (by decide)
  exact bX11_add_91 C k_x0 k_t0 hkl hW hZ _ (lv_sub hl [1, 2, 3, 4, 0] rfl) hE
set_option maxRecDepth 20000 in
theorem bX11_add_49 {p : Program} {l : Launch} {e : Env} {s : State} {m : MethodId} {args : Array Value} {below : List Frame} {meth : Method} {c : Code} {X : Ec} {h0 : Hp} {o : Int32 × Hp} {F : Nat} (C : Cx X p s m args meth c RX11 cX11_add 7 (some .int) "add") {h : Hp} {x0 : Nat} {x1 : Int32} {x2 : Int32} {x3 : Int32} {x4 : Nat} {t0 : Int32} {H : Heap} {locs : List Loc} (k_x0 : hK h x0 = 11) (k_x4 : hK h x4 = 3) (hkl : Kl h0 h) (hW : Wx X h H) (hZ : va_S (aA (eB X)) s.heap H locs) (ls : Array Slot) (hl : lv_has ls 7 [(0, .ref x0), (1, .int x1), (2, .int x2), (3, .int x3), (4, .ref x4)]) (hE : sX11_add_49 F h x0 x1 x2 x3 x4 t0 = some o) : W p l e (rmA 4 139 h0 o.2) s m args below meth c H locs (hS h - hS h0) (hL h - hL h0) (MQ below (QIA X h0 o.1 o.2) args s (hS o.2 - hS h0) (hL o.2 - hL h0) (aA (eB X))) (F0 m 49 ls [.int t0]) := by
  refine lv_istore (lv' := [(5, .int t0), (0, .ref x0), (1, .int x1), (2, .int x2), (3, .int x3), (4, .ref x4)]) C.1 C.2.1 dX11_add_49 hl (by decide) rfl (fun ls hl => ?_)
  refine lv_iload_n C.1 C.2.1 dX11_add_51 rfl (lv_at hl 3 rfl) ?_
  refine lv_if_lt (tgt := 61) C.1 C.2.1 dX11_add_52 (by decide) (fun c_1 => ?_) (fun c_1 => ?_)
  · have hE := br_p hE c_1
    exact bX11_add_61 C hkl hW hZ _ (lv_sub hl [] rfl) hE
  · have hE := br_n hE c_1
    refine lv_iload_n C.1 C.2.1 dX11_add_55 rfl (lv_at hl 3 rfl) ?_
    refine lv_iload C.1 C.2.1 dX11_add_56 (lv_at hl 0 rfl) ?_
    refine lv_icmp_lt (tgt := 64) C.1 C.2.1 dX11_add_58 (by decide) (fun c_2 => ?_) (fun c_2 => ?_)
    · have hE := br_p hE c_2
      refine lv_iload_n C.1 C.2.1 dX11_add_64 rfl (lv_at hl 4 rfl) ?_
      refine lv_sipush (v := (300 : Int32)) C.1 C.2.1 dX11_add_65 (by decide) ?_
      refine lv_icmp_lt (tgt := 74) C.1 C.2.1 dX11_add_68 (by decide) (fun c_3 => ?_) (fun c_3 => ?_)
      · have hE := br_p hE c_3
        refine lv_aload_n C.1 C.2.1 dX11_add_74 rfl (lv_at hl 1 rfl) ?_
        refine lv_iload_n C.1 C.2.1 dX11_add_75 rfl (lv_at hl 2 rfl) ?_
        refine lv_iload_n C.1 C.2.1 dX11_add_76 rfl (lv_at hl 4 rfl) ?_
        refine lv_iconst (v := (1 : Int32)) C.1 C.2.1 dX11_add_77 (by decide) ?_
        refine lv_iadd C.1 C.2.1 dX11_add_78 ?_
        obtain ⟨o_4, eo_4, hE⟩ := cl_e hE
        have m1 := moX11_page eo_4
        have m2 := moX11_add_82 hE
        refine x_kRA (o := o_4) hkl (z_runV (As := [.int x1, .int (x3 + (1 : Int32))]) (rest := []) C (ct_X11_page l X F k_x0 eo_4) cw_X11_321 hW hZ k_x0 (by decide) rfl rfl rfl hl.1 (Nat.le_of_ble_eq_true rfl) rfl dX11_add_79 ⟨Nat.le_of_ble_eq_true rfl, Nat.le_of_ble_eq_true rfl⟩ (rm_ok hkl m1 m2)) hZ (fun _ _ hW km k_o_4_1 hZ => ?_)
        replace hkl := hkl.tr km
        replace k_x0 := km.at k_x0 (by decide)
        replace k_x4 := km.at k_x4 (by decide)
        exact bX11_add_82 C k_x0 k_x4 k_o_4_1 hkl hW hZ _ (lv_sub hl [1, 2, 3, 4, 5] rfl) hE
      · have hE := br_n hE c_3
        refine lv_bipush (v := (-104 : Int32)) C.1 C.2.1 dX11_add_71 (by decide) ?_
        exact x_iretA C rfl rfl hW hZ hkl hE dX11_add_73
    · have hE := br_n hE c_2
      exact bX11_add_61 C hkl hW hZ _ (lv_sub hl [] rfl) hE
set_option maxRecDepth 20000 in
theorem bX11_add_31 {p : Program} {l : Launch} {e : Env} {s : State} {m : MethodId} {args : Array Value} {below : List Frame} {meth : Method} {c : Code} {X : Ec} {h0 : Hp} {o : Int32 × Hp} {F : Nat} (C : Cx X p s m args meth c RX11 cX11_add 7 (some .int) "add") {h : Hp} {x0 : Nat} {x1 : Int32} {x2 : Int32} {x3 : Int32} {t0 : Nat} {H : Heap} {locs : List Loc} (k_x0 : hK h x0 = 11) (k_t0 : hK h t0 = 3) (hkl : Kl h0 h) (hW : Wx X h H) (hZ : va_S (aA (eB X)) s.heap H locs) (ls : Array Slot) (hl : lv_has ls 7 [(0, .ref x0), (1, .int x1), (2, .int x2), (3, .int x3)]) (hE : sX11_add_31 F h x0 x1 x2 x3 t0 = some o) : W p l e (rmA 4 139 h0 o.2) s m args below meth c H locs (hS h - hS h0) (hL h - hL h0) (MQ below (QIA X h0 o.1 o.2) args s (hS o.2 - hS h0) (hL o.2 - hL h0) (aA (eB X))) (F0 m 31 ls [.ref t0]) := by
  refine lv_astore (lv' := [(4, .ref t0), (0, .ref x0), (1, .int x1), (2, .int x2), (3, .int x3)]) C.1 C.2.1 dX11_add_31 hl (by decide) rfl (fun ls hl => ?_)
  refine lv_aload_n C.1 C.2.1 dX11_add_33 rfl (lv_at hl 1 rfl) ?_
  obtain ⟨r_1, er_1, hE⟩ := cl_e hE
  refine gf_X11_50 C hW k_x0 er_1 dX11_add_34 (fun k_r_1 => ?_)
  refine lv_aload C.1 C.2.1 dX11_add_37 (lv_at hl 0 rfl) ?_
  refine lv_aload_n C.1 C.2.1 dX11_add_39 rfl (lv_at hl 1 rfl) ?_
  obtain ⟨r_2, er_2, hE⟩ := cl_e hE
  refine gf_X11_97 C hW k_x0 er_2 dX11_add_40 (fun k_r_2 => ?_)
  refine lv_sipush (v := (4096 : Int32)) C.1 C.2.1 dX11_add_43 (by decide) ?_
  obtain ⟨o_3, eo_3, hE⟩ := cl_e hE
  have m1 := moX5_collect eo_3
  have m2 := moX11_add_49 hE
  refine x_kI (o := o_3) (z_runV (As := [.ref t0, .ref r_2, .int (4096 : Int32)]) (rest := []) C (ct_X5_collect l X F k_r_1 k_t0 k_r_2 eo_3) cw_X11_329 hW hZ k_r_1 (by decide) rfl rfl rfl hl.1 (Nat.le_of_ble_eq_true rfl) rfl dX11_add_46 ⟨Nat.le_of_ble_eq_true rfl, Nat.le_of_ble_eq_true rfl⟩ (rm_ok0 hkl m1 m2)) hZ (fun _ _ hW km hZ => ?_)
  replace hkl := hkl.tr km.l
  refine x_wc km ?_
  replace k_t0 := km.at k_t0 (by decide)
  replace k_x0 := km.at k_x0 (by decide)
  exact bX11_add_49 C k_x0 k_t0 hkl hW hZ _ (lv_sub hl [1, 2, 3, 4, 0] rfl) hE
set_option maxRecDepth 20000 in
theorem bX11_add_4 {p : Program} {l : Launch} {e : Env} {s : State} {m : MethodId} {args : Array Value} {below : List Frame} {meth : Method} {c : Code} {X : Ec} {h0 : Hp} {o : Int32 × Hp} {F : Nat} (C : Cx X p s m args meth c RX11 cX11_add 7 (some .int) "add") {h : Hp} {x0 : Nat} {x1 : Int32} {x2 : Int32} {t0 : Int32} {H : Heap} {locs : List Loc} (k_x0 : hK h x0 = 11) (hkl : Kl h0 h) (hW : Wx X h H) (hZ : va_S (aA (eB X)) s.heap H locs) (ls : Array Slot) (hl : lv_has ls 7 [(0, .ref x0), (1, .int x1), (2, .int x2)]) (hE : sX11_add_4 F h x0 x1 x2 t0 = some o) : W p l e (rmA 4 139 h0 o.2) s m args below meth c H locs (hS h - hS h0) (hL h - hL h0) (MQ below (QIA X h0 o.1 o.2) args s (hS o.2 - hS h0) (hL o.2 - hL h0) (aA (eB X))) (F0 m 4 ls [.int t0]) := by
  refine lv_if_ne (tgt := 10) C.1 C.2.1 dX11_add_4 (by decide) (fun c_1 => ?_) (fun c_1 => ?_)
  · have hE := br_n hE c_1
    refine lv_aload_n C.1 C.2.1 dX11_add_10 rfl (lv_at hl 0 rfl) ?_
    obtain ⟨r_2, er_2, hE⟩ := cl_e hE
    refine gf_X11_117 C hW k_x0 er_2 dX11_add_11 (fun k_r_2 => ?_)
    refine lv_iload_n C.1 C.2.1 dX11_add_14 rfl (lv_at hl 1 rfl) ?_
    obtain ⟨g_3, hE⟩ := gd_e hE
    refine y_iald C hW k_r_2 g_3 dX11_add_15 ?_
    obtain ⟨v_4, ev_4, hE⟩ := nm_e2 hE
    refine x_nmI ev_4 ?_
    refine lv_istore_n (lv' := [(3, .int v_4), (0, .ref x0), (1, .int x1), (2, .int x2)]) C.1 C.2.1 dX11_add_16 rfl hl (by decide) rfl (fun ls hl => ?_)
    refine lv_iload_n C.1 C.2.1 dX11_add_17 rfl (lv_at hl 0 rfl) ?_
    refine lv_iconst (v := (-1 : Int32)) C.1 C.2.1 dX11_add_18 (by decide) ?_
    refine lv_icmp_ne (tgt := 25) C.1 C.2.1 dX11_add_19 (by decide) (fun c_5 => ?_) (fun c_5 => ?_)
    · have hE := br_n hE c_5
      refine lv_aload_n C.1 C.2.1 dX11_add_25 rfl (lv_at hl 1 rfl) ?_
      refine lv_iload_n C.1 C.2.1 dX11_add_26 rfl (lv_at hl 2 rfl) ?_
      refine lv_iload_n C.1 C.2.1 dX11_add_27 rfl (lv_at hl 0 rfl) ?_
      obtain ⟨o_6, eo_6, hE⟩ := cl_e hE
      have m1 := moX11_page eo_6
      have m2 := moX11_add_31 hE
      refine x_kRA (o := o_6) hkl (z_runV (As := [.int x1, .int v_4]) (rest := []) C (ct_X11_page l X F k_x0 eo_6) cw_X11_321 hW hZ k_x0 (by decide) rfl rfl rfl hl.1 (Nat.le_of_ble_eq_true rfl) rfl dX11_add_28 ⟨Nat.le_of_ble_eq_true rfl, Nat.le_of_ble_eq_true rfl⟩ (rm_ok hkl m1 m2)) hZ (fun _ _ hW km k_o_6_1 hZ => ?_)
      replace hkl := hkl.tr km
      replace k_x0 := km.at k_x0 (by decide)
      exact bX11_add_31 C k_x0 k_o_6_1 hkl hW hZ _ (lv_sub hl [1, 2, 3, 0] rfl) hE
    · have hE := br_p hE c_5
      refine lv_bipush (v := (-102 : Int32)) C.1 C.2.1 dX11_add_22 (by decide) ?_
      exact x_iretA C rfl rfl hW hZ hkl hE dX11_add_24
  · have hE := br_p hE c_1
    refine lv_bipush (v := (-101 : Int32)) C.1 C.2.1 dX11_add_7 (by decide) ?_
    exact x_iretA C rfl rfl hW hZ hkl hE dX11_add_9
set_option maxRecDepth 20000 in
theorem ct_X11_add (l : Launch) (X : Ec) (F : Nat) {h : Hp} {x0 : Nat} {x1 : Int32} {x2 : Int32} {o : Int32 × Hp} (k_x0 : hK h x0 = 11) (hE : sX11_add F h x0 x1 x2 = some o) : MetIA l yX11_add cX11_add 7 (some .int) 4 139 X [.ref x0, .int x1, .int x2] h o := by
  refine x_metA (oh := o.2) (by decide) (Nat.le_of_ble_eq_true rfl) ?_
  intro p e s m below meth c ls C hl hW hZ
  have hl : lv_has ls 7 [(0, .ref x0), (1, .int x1), (2, .int x2)] := hl
  have hkl : Kl h h := Kl.rf h
  refine lv_iload_n C.1 C.2.1 dX11_add_0 rfl (lv_at hl 1 rfl) ?_
  obtain ⟨o_1, eo_1, hE⟩ := cl_e hE
  have m1 := moX11_isGame eo_1
  have m2 := moX11_add_4 hE
  refine x_kI (o := o_1) (z_runS (As := [.int x1]) (rest := []) C (ct_X11_isGame l X eo_1) cw_X11_318 hW hZ rfl hl.1 (Nat.le_of_ble_eq_true rfl) rfl dX11_add_1 ⟨Nat.le_of_ble_eq_true rfl, Nat.le_of_ble_eq_true rfl⟩ (rm_ok0 hkl m1 m2)) hZ (fun _ _ hW km hZ => ?_)
  replace hkl := hkl.tr km.l
  refine x_wc km ?_
  replace k_x0 := km.at k_x0 (by decide)
  exact bX11_add_4 C k_x0 hkl hW hZ _ (lv_sub hl [0, 1, 2] rfl) hE
theorem dX11_back_0 : decode cX11_back 0 = .ok (.iload_n 1, 1) := by decide +kernel
theorem dX11_back_1 : decode cX11_back 1 = .ok (.invokestatic 318, 3) := by decide +kernel
theorem dX11_back_4 : decode cX11_back 4 = .ok (.ifCond .ne 6, 3) := by decide +kernel
theorem dX11_back_7 : decode cX11_back 7 = .ok (.bipush (-101), 2) := by decide +kernel
theorem dX11_back_9 : decode cX11_back 9 = .ok (.ireturn, 1) := by decide +kernel
theorem dX11_back_10 : decode cX11_back 10 = .ok (.aload_n 0, 1) := by decide +kernel
theorem dX11_back_11 : decode cX11_back 11 = .ok (.getfield 117, 3) := by decide +kernel
theorem dX11_back_14 : decode cX11_back 14 = .ok (.iload_n 1, 1) := by decide +kernel
theorem dX11_back_15 : decode cX11_back 15 = .ok (.iaload, 1) := by decide +kernel
theorem dX11_back_16 : decode cX11_back 16 = .ok (.iconst (-1), 1) := by decide +kernel
theorem dX11_back_17 : decode cX11_back 17 = .ok (.if_icmp .ne 6, 3) := by decide +kernel
theorem dX11_back_20 : decode cX11_back 20 = .ok (.bipush (-102), 2) := by decide +kernel
theorem dX11_back_22 : decode cX11_back 22 = .ok (.ireturn, 1) := by decide +kernel
theorem dX11_back_23 : decode cX11_back 23 = .ok (.aload_n 0, 1) := by decide +kernel
theorem dX11_back_24 : decode cX11_back 24 = .ok (.getfield 117, 3) := by decide +kernel
theorem dX11_back_27 : decode cX11_back 27 = .ok (.iload_n 1, 1) := by decide +kernel
theorem dX11_back_28 : decode cX11_back 28 = .ok (.iaload, 1) := by decide +kernel
theorem dX11_back_29 : decode cX11_back 29 = .ok (.ifCond .ne 6, 3) := by decide +kernel
theorem dX11_back_32 : decode cX11_back 32 = .ok (.bipush (-103), 2) := by decide +kernel
theorem dX11_back_34 : decode cX11_back 34 = .ok (.ireturn, 1) := by decide +kernel
theorem dX11_back_35 : decode cX11_back 35 = .ok (.aload_n 0, 1) := by decide +kernel
theorem dX11_back_36 : decode cX11_back 36 = .ok (.getfield 117, 3) := by decide +kernel
theorem dX11_back_39 : decode cX11_back 39 = .ok (.iload_n 1, 1) := by decide +kernel
theorem dX11_back_40 : decode cX11_back 40 = .ok (.dup2, 1) := by decide +kernel
theorem dX11_back_41 : decode cX11_back 41 = .ok (.iaload, 1) := by decide +kernel
theorem dX11_back_42 : decode cX11_back 42 = .ok (.iconst 1, 1) := by decide +kernel
theorem dX11_back_43 : decode cX11_back 43 = .ok (.isub, 1) := by decide +kernel
theorem dX11_back_44 : decode cX11_back 44 = .ok (.iastore, 1) := by decide +kernel
theorem dX11_back_45 : decode cX11_back 45 = .ok (.aload_n 0, 1) := by decide +kernel
theorem dX11_back_46 : decode cX11_back 46 = .ok (.getfield 117, 3) := by decide +kernel
theorem dX11_back_49 : decode cX11_back 49 = .ok (.iload_n 1, 1) := by decide +kernel
theorem dX11_back_50 : decode cX11_back 50 = .ok (.iaload, 1) := by decide +kernel
theorem dX11_back_51 : decode cX11_back 51 = .ok (.ireturn, 1) := by decide +kernel
def sX11_back (h : Hp) (x0 : Nat) (x1 : Int32) : Option (Int32 × Hp) := cl (sX11_isGame h x1) fun o_1 => br (o_1.1 = 0) (some ((-101 : Int32), o_1.2)) (cl (hR o_1.2 x0 17) fun r_3 => gd (inB x1 (hN o_1.2 r_3)) <| br ((hI o_1.2 r_3 x1.toNatClampNeg) = (-1 : Int32)) (some ((-102 : Int32), o_1.2)) (cl (hR o_1.2 x0 17) fun r_6 => gd (inB x1 (hN o_1.2 r_6)) <| br ((hI o_1.2 r_6 x1.toNatClampNeg) = 0) (some ((-103 : Int32), o_1.2)) (cl (hR o_1.2 x0 17) fun r_9 => gd (inB x1 (hN o_1.2 r_9)) <| gd (inB x1 (hN o_1.2 r_9)) <| nm (wI o_1.2 r_9 x1.toNatClampNeg ((hI o_1.2 r_9 x1.toNatClampNeg) - (1 : Int32))) fun h_12 => cl (hR h_12 x0 17) fun r_13 => gd (inB x1 (hN h_12 r_13)) <| some (hI h_12 r_13 x1.toNatClampNeg, h_12))))
set_option maxRecDepth 20000 in
theorem ct_X11_back (l : Launch) (X : Ec) {h : Hp} {x0 : Nat} {x1 : Int32} {o : Int32 × Hp} (k_x0 : hK h x0 = 11) (hE : sX11_back h x0 x1 = some o) : MetI l yX11_back cX11_back 2 (some .int) 1 20 X [.ref x0, .int x1] h o := by
  refine x_met (by decide) (Nat.le_of_ble_eq_true rfl) ?_
  intro p e s m below meth c ls C hl hW hZ
  have hl : lv_has ls 2 [(0, .ref x0), (1, .int x1)] := hl
  have hkm : Km h h := Km.rf h
  refine lv_iload_n C.1 C.2.1 dX11_back_0 rfl (lv_at hl 1 rfl) ?_
  obtain ⟨o_1, eo_1, hE⟩ := cl_e hE
  refine x_kI (o := o_1) (z_runS (As := [.int x1]) (rest := []) C (ct_X11_isGame l X eo_1) cw_X11_318 hW hZ rfl hl.1 (Nat.le_of_ble_eq_true rfl) rfl dX11_back_1 ⟨Nat.le_of_ble_eq_true rfl, Nat.le_of_ble_eq_true rfl⟩ ⟨Nat.le_refl _, Nat.le_refl _⟩) hZ (fun _ _ hW km hZ => ?_)
  replace hkm := hkm.tr km
  replace k_x0 := km.at k_x0 (by decide)
  refine lv_if_ne (tgt := 10) C.1 C.2.1 dX11_back_4 (by decide) (fun c_2 => ?_) (fun c_2 => ?_)
  · have hE := br_n hE c_2
    refine lv_aload_n C.1 C.2.1 dX11_back_10 rfl (lv_at hl 0 rfl) ?_
    obtain ⟨r_3, er_3, hE⟩ := cl_e hE
    refine gf_X11_117 C hW k_x0 er_3 dX11_back_11 (fun k_r_3 => ?_)
    refine lv_iload_n C.1 C.2.1 dX11_back_14 rfl (lv_at hl 1 rfl) ?_
    obtain ⟨g_4, hE⟩ := gd_e hE
    refine y_iald C hW k_r_3 g_4 dX11_back_15 ?_
    refine lv_iconst (v := (-1 : Int32)) C.1 C.2.1 dX11_back_16 (by decide) ?_
    refine lv_icmp_ne (tgt := 23) C.1 C.2.1 dX11_back_17 (by decide) (fun c_5 => ?_) (fun c_5 => ?_)
    · have hE := br_n hE c_5
      refine lv_aload_n C.1 C.2.1 dX11_back_23 rfl (lv_at hl 0 rfl) ?_
      obtain ⟨r_6, er_6, hE⟩ := cl_e hE
      refine gf_X11_117 C hW k_x0 er_6 dX11_back_24 (fun k_r_6 => ?_)
      refine lv_iload_n C.1 C.2.1 dX11_back_27 rfl (lv_at hl 1 rfl) ?_
      obtain ⟨g_7, hE⟩ := gd_e hE
      refine y_iald C hW k_r_6 g_7 dX11_back_28 ?_
      refine lv_if_ne (tgt := 35) C.1 C.2.1 dX11_back_29 (by decide) (fun c_8 => ?_) (fun c_8 => ?_)
      · have hE := br_n hE c_8
        refine lv_aload_n C.1 C.2.1 dX11_back_35 rfl (lv_at hl 0 rfl) ?_
        obtain ⟨r_9, er_9, hE⟩ := cl_e hE
        refine gf_X11_117 C hW k_x0 er_9 dX11_back_36 (fun k_r_9 => ?_)
        refine lv_iload_n C.1 C.2.1 dX11_back_39 rfl (lv_at hl 1 rfl) ?_
        refine lv_dup2_11 C.1 C.2.1 dX11_back_40 rfl rfl ?_
        obtain ⟨g_10, hE⟩ := gd_e hE
        refine y_iald C hW k_r_9 g_10 dX11_back_41 ?_
        refine lv_iconst (v := (1 : Int32)) C.1 C.2.1 dX11_back_42 (by decide) ?_
        refine lv_isub C.1 C.2.1 dX11_back_43 ?_
        obtain ⟨g_11, hE⟩ := gd_e hE
        obtain ⟨h_12, eh_12, hE⟩ := nm_e2 hE
        refine y_iast C hW hZ k_r_9 g_11 eh_12 dX11_back_44 (fun _ _ hW km hZ => ?_)
        replace hkm := hkm.tr km
        replace k_x0 := km.at k_x0 (by decide)
        refine lv_aload_n C.1 C.2.1 dX11_back_45 rfl (lv_at hl 0 rfl) ?_
        obtain ⟨r_13, er_13, hE⟩ := cl_e hE
        refine gf_X11_117 C hW k_x0 er_13 dX11_back_46 (fun k_r_13 => ?_)
        refine lv_iload_n C.1 C.2.1 dX11_back_49 rfl (lv_at hl 1 rfl) ?_
        obtain ⟨g_14, hE⟩ := gd_e hE
        refine y_iald C hW k_r_13 g_14 dX11_back_50 ?_
        exact x_iret C rfl rfl hW hZ hkm hE dX11_back_51
      · have hE := br_p hE c_8
        refine lv_bipush (v := (-103 : Int32)) C.1 C.2.1 dX11_back_32 (by decide) ?_
        exact x_iret C rfl rfl hW hZ hkm hE dX11_back_34
    · have hE := br_p hE c_5
      refine lv_bipush (v := (-102 : Int32)) C.1 C.2.1 dX11_back_20 (by decide) ?_
      exact x_iret C rfl rfl hW hZ hkm hE dX11_back_22
  · have hE := br_p hE c_2
    refine lv_bipush (v := (-101 : Int32)) C.1 C.2.1 dX11_back_7 (by decide) ?_
    exact x_iret C rfl rfl hW hZ hkm hE dX11_back_9
theorem dX11_countAlike_0 : decode cX11_countAlike 0 = .ok (.iconst 0, 1) := by decide +kernel
theorem dX11_countAlike_1 : decode cX11_countAlike 1 = .ok (.istore 4, 2) := by decide +kernel
theorem dX11_countAlike_3 : decode cX11_countAlike 3 = .ok (.iconst 0, 1) := by decide +kernel
theorem dX11_countAlike_4 : decode cX11_countAlike 4 = .ok (.istore 5, 2) := by decide +kernel
theorem dX11_countAlike_6 : decode cX11_countAlike 6 = .ok (.iload 5, 2) := by decide +kernel
theorem dX11_countAlike_8 : decode cX11_countAlike 8 = .ok (.aload_n 0, 1) := by decide +kernel
theorem dX11_countAlike_9 : decode cX11_countAlike 9 = .ok (.getfield 117, 3) := by decide +kernel
theorem dX11_countAlike_12 : decode cX11_countAlike 12 = .ok (.iload_n 1, 1) := by decide +kernel
theorem dX11_countAlike_13 : decode cX11_countAlike 13 = .ok (.iaload, 1) := by decide +kernel
theorem dX11_countAlike_14 : decode cX11_countAlike 14 = .ok (.if_icmp .gt 75, 3) := by decide +kernel
theorem dX11_countAlike_17 : decode cX11_countAlike 17 = .ok (.iload_n 3, 1) := by decide +kernel
theorem dX11_countAlike_18 : decode cX11_countAlike 18 = .ok (.iconst (-1), 1) := by decide +kernel
theorem dX11_countAlike_19 : decode cX11_countAlike 19 = .ok (.if_icmp .eq 31, 3) := by decide +kernel
theorem dX11_countAlike_22 : decode cX11_countAlike 22 = .ok (.iload 5, 2) := by decide +kernel
theorem dX11_countAlike_24 : decode cX11_countAlike 24 = .ok (.aload_n 0, 1) := by decide +kernel
theorem dX11_countAlike_25 : decode cX11_countAlike 25 = .ok (.getfield 117, 3) := by decide +kernel
theorem dX11_countAlike_28 : decode cX11_countAlike 28 = .ok (.iload_n 1, 1) := by decide +kernel
theorem dX11_countAlike_29 : decode cX11_countAlike 29 = .ok (.iaload, 1) := by decide +kernel
theorem dX11_countAlike_30 : decode cX11_countAlike 30 = .ok (.if_icmp .ge 24, 3) := by decide +kernel
theorem dX11_countAlike_33 : decode cX11_countAlike 33 = .ok (.aload_n 0, 1) := by decide +kernel
theorem dX11_countAlike_34 : decode cX11_countAlike 34 = .ok (.getfield 114, 3) := by decide +kernel
theorem dX11_countAlike_37 : decode cX11_countAlike 37 = .ok (.iload_n 1, 1) := by decide +kernel
theorem dX11_countAlike_38 : decode cX11_countAlike 38 = .ok (.sipush 301, 3) := by decide +kernel
theorem dX11_countAlike_41 : decode cX11_countAlike 41 = .ok (.imul, 1) := by decide +kernel
theorem dX11_countAlike_42 : decode cX11_countAlike 42 = .ok (.iload 5, 2) := by decide +kernel
theorem dX11_countAlike_44 : decode cX11_countAlike 44 = .ok (.iadd, 1) := by decide +kernel
theorem dX11_countAlike_45 : decode cX11_countAlike 45 = .ok (.iaload, 1) := by decide +kernel
theorem dX11_countAlike_46 : decode cX11_countAlike 46 = .ok (.iload_n 3, 1) := by decide +kernel
theorem dX11_countAlike_47 : decode cX11_countAlike 47 = .ok (.if_icmp .ne 7, 3) := by decide +kernel
theorem dX11_countAlike_50 : decode cX11_countAlike 50 = .ok (.iconst 1, 1) := by decide +kernel
theorem dX11_countAlike_51 : decode cX11_countAlike 51 = .ok (.goto 4, 3) := by decide +kernel
theorem dX11_countAlike_54 : decode cX11_countAlike 54 = .ok (.iconst 0, 1) := by decide +kernel
theorem dX11_countAlike_55 : decode cX11_countAlike 55 = .ok (.istore 6, 2) := by decide +kernel
theorem dX11_countAlike_57 : decode cX11_countAlike 57 = .ok (.iload 6, 2) := by decide +kernel
theorem dX11_countAlike_59 : decode cX11_countAlike 59 = .ok (.ifCond .eq 24, 3) := by decide +kernel
theorem dX11_countAlike_62 : decode cX11_countAlike 62 = .ok (.aload_n 0, 1) := by decide +kernel
theorem dX11_countAlike_63 : decode cX11_countAlike 63 = .ok (.getfield 50, 3) := by decide +kernel
theorem dX11_countAlike_66 : decode cX11_countAlike 66 = .ok (.aload_n 2, 1) := by decide +kernel
theorem dX11_countAlike_67 : decode cX11_countAlike 67 = .ok (.aload_n 0, 1) := by decide +kernel
theorem dX11_countAlike_68 : decode cX11_countAlike 68 = .ok (.iload_n 1, 1) := by decide +kernel
theorem dX11_countAlike_69 : decode cX11_countAlike 69 = .ok (.iload 5, 2) := by decide +kernel
theorem dX11_countAlike_71 : decode cX11_countAlike 71 = .ok (.invokevirtual 321, 3) := by decide +kernel
theorem dX11_countAlike_74 : decode cX11_countAlike 74 = .ok (.invokevirtual 204, 3) := by decide +kernel
theorem dX11_countAlike_77 : decode cX11_countAlike 77 = .ok (.ifCond .eq 6, 3) := by decide +kernel
theorem dX11_countAlike_80 : decode cX11_countAlike 80 = .ok (.iinc 4 1, 3) := by decide +kernel
theorem dX11_countAlike_83 : decode cX11_countAlike 83 = .ok (.iinc 5 1, 3) := by decide +kernel
theorem dX11_countAlike_86 : decode cX11_countAlike 86 = .ok (.goto (-80), 3) := by decide +kernel
theorem dX11_countAlike_89 : decode cX11_countAlike 89 = .ok (.iload 4, 2) := by decide +kernel
theorem dX11_countAlike_91 : decode cX11_countAlike 91 = .ok (.ireturn, 1) := by decide +kernel
def sX11_countAlike_83 (F : Nat) (k_6 : Hp → Nat → Int32 → Nat → Int32 → Int32 → Int32 → Option (Int32 × Hp)) (h : Hp) (x0 : Nat) (x1 : Int32) (x2 : Nat) (x3 : Int32) (x4 : Int32) (x5 : Int32) : Option (Int32 × Hp) := nm (x5 + (1 : Int32)) fun v_1 => k_6 h x0 x1 x2 x3 x4 v_1
def sX11_countAlike_77 (F : Nat) (k_6 : Hp → Nat → Int32 → Nat → Int32 → Int32 → Int32 → Option (Int32 × Hp)) (h : Hp) (x0 : Nat) (x1 : Int32) (x2 : Nat) (x3 : Int32) (x4 : Int32) (x5 : Int32) (t0 : Int32) : Option (Int32 × Hp) := br (t0 = 0) (sX11_countAlike_83 F k_6 h x0 x1 x2 x3 x4 x5) (nm (x4 + (1 : Int32)) fun v_2 => sX11_countAlike_83 F k_6 h x0 x1 x2 x3 v_2 x5)
def sX11_countAlike_74 (F : Nat) (k_6 : Hp → Nat → Int32 → Nat → Int32 → Int32 → Int32 → Option (Int32 × Hp)) (h : Hp) (x0 : Nat) (x1 : Int32) (x2 : Nat) (x3 : Int32) (x4 : Int32) (x5 : Int32) (t0 : Nat) (t1 : Nat) (t2 : Nat) : Option (Int32 × Hp) := cl (sX5_areAlike F h t2 t1 t0) fun o_1 => sX11_countAlike_77 F k_6 o_1.2 x0 x1 x2 x3 x4 x5 o_1.1
def sX11_countAlike_55 (F : Nat) (k_6 : Hp → Nat → Int32 → Nat → Int32 → Int32 → Int32 → Option (Int32 × Hp)) (h : Hp) (x0 : Nat) (x1 : Int32) (x2 : Nat) (x3 : Int32) (x4 : Int32) (x5 : Int32) (t0 : Int32) : Option (Int32 × Hp) := br (t0 = 0) (sX11_countAlike_83 F k_6 h x0 x1 x2 x3 x4 x5) (cl (hR h x0 6) fun r_2 => cl (sX11_page F h x0 x1 x5) fun o_3 => sX11_countAlike_74 F k_6 o_3.2 x0 x1 x2 x3 x4 x5 o_3.1 x2 r_2)
def sX11_countAlike_50 (F : Nat) (k_6 : Hp → Nat → Int32 → Nat → Int32 → Int32 → Int32 → Option (Int32 × Hp)) (h : Hp) (x0 : Nat) (x1 : Int32) (x2 : Nat) (x3 : Int32) (x4 : Int32) (x5 : Int32) : Option (Int32 × Hp) := sX11_countAlike_55 F k_6 h x0 x1 x2 x3 x4 x5 (1 : Int32)
def sX11_countAlike_54 (F : Nat) (k_6 : Hp → Nat → Int32 → Nat → Int32 → Int32 → Int32 → Option (Int32 × Hp)) (h : Hp) (x0 : Nat) (x1 : Int32) (x2 : Nat) (x3 : Int32) (x4 : Int32) (x5 : Int32) : Option (Int32 × Hp) := sX11_countAlike_55 F k_6 h x0 x1 x2 x3 x4 x5 (0 : Int32)
def sX11_countAlike_6 (F : Nat) : Nat → Hp → Nat → Int32 → Nat → Int32 → Int32 → Int32 → Option (Int32 × Hp)
  | 0, _, _, _, _, _, _, _ => none
  | f + 1, h, x0, x1, x2, x3, x4, x5 => cl (hR h x0 17) fun r_1 => gd (inB x1 (hN h r_1)) <| br ((hI h r_1 x1.toNatClampNeg) < x5) (some (x4, h)) (br (x3 = (-1 : Int32)) (sX11_countAlike_50 F (sX11_countAlike_6 F f) h x0 x1 x2 x3 x4 x5) (cl (hR h x0 17) fun r_5 => gd (inB x1 (hN h r_5)) <| br ((hI h r_5 x1.toNatClampNeg) ≤ x5) (sX11_countAlike_54 F (sX11_countAlike_6 F f) h x0 x1 x2 x3 x4 x5) (cl (hR h x0 16) fun r_8 => gd (inB ((x1 * (301 : Int32)) + x5) (hN h r_8)) <| br ((hI h r_8 ((x1 * (301 : Int32)) + x5).toNatClampNeg) = x3) (sX11_countAlike_50 F (sX11_countAlike_6 F f) h x0 x1 x2 x3 x4 x5) (sX11_countAlike_54 F (sX11_countAlike_6 F f) h x0 x1 x2 x3 x4 x5))))
def sX11_countAlike (F : Nat) (h : Hp) (x0 : Nat) (x1 : Int32) (x2 : Nat) (x3 : Int32) : Option (Int32 × Hp) := sX11_countAlike_6 F F h x0 x1 x2 x3 (0 : Int32) (0 : Int32)
set_option maxRecDepth 20000 in
theorem moX11_countAlike_83 {o : Int32 × Hp} {k_6 : Hp → Nat → Int32 → Nat → Int32 → Int32 → Int32 → Option (Int32 × Hp)} {F : Nat} (mk_6 : ∀ (h : Hp) (x0 : Nat) (x1 : Int32) (x2 : Nat) (x3 : Int32) (x4 : Int32) (x5 : Int32), k_6 h x0 x1 x2 x3 x4 x5 = some o → Le h o.2) {h : Hp} {x0 : Nat} {x1 : Int32} {x2 : Nat} {x3 : Int32} {x4 : Int32} {x5 : Int32} (hE : sX11_countAlike_83 F k_6 h x0 x1 x2 x3 x4 x5 = some o) : Le h o.2 := by
  obtain ⟨v_1, ev_1, hE⟩ := nm_e2 hE
  exact mk_6 _ _ _ _ _ _ _ hE
set_option maxRecDepth 20000 in
theorem moX11_countAlike_77 {o : Int32 × Hp} {k_6 : Hp → Nat → Int32 → Nat → Int32 → Int32 → Int32 → Option (Int32 × Hp)} {F : Nat} (mk_6 : ∀ (h : Hp) (x0 : Nat) (x1 : Int32) (x2 : Nat) (x3 : Int32) (x4 : Int32) (x5 : Int32), k_6 h x0 x1 x2 x3 x4 x5 = some o → Le h o.2) {h : Hp} {x0 : Nat} {x1 : Int32} {x2 : Nat} {x3 : Int32} {x4 : Int32} {x5 : Int32} {t0 : Int32} (hE : sX11_countAlike_77 F k_6 h x0 x1 x2 x3 x4 x5 t0 = some o) : Le h o.2 := by
  rcases br_e hE with ⟨_, hE⟩ | ⟨_, hE⟩
  · exact moX11_countAlike_83 mk_6 hE
  · obtain ⟨v_2, ev_2, hE⟩ := nm_e2 hE
    exact moX11_countAlike_83 mk_6 hE
set_option maxRecDepth 20000 in
theorem moX11_countAlike_74 {o : Int32 × Hp} {k_6 : Hp → Nat → Int32 → Nat → Int32 → Int32 → Int32 → Option (Int32 × Hp)} {F : Nat} (mk_6 : ∀ (h : Hp) (x0 : Nat) (x1 : Int32) (x2 : Nat) (x3 : Int32) (x4 : Int32) (x5 : Int32), k_6 h x0 x1 x2 x3 x4 x5 = some o → Le h o.2) {h : Hp} {x0 : Nat} {x1 : Int32} {x2 : Nat} {x3 : Int32} {x4 : Int32} {x5 : Int32} {t0 : Nat} {t1 : Nat} {t2 : Nat} (hE : sX11_countAlike_74 F k_6 h x0 x1 x2 x3 x4 x5 t0 t1 t2 = some o) : Le h o.2 := by
  obtain ⟨o_1, eo_1, hE⟩ := cl_e hE
  refine (moX5_areAlike eo_1).tr ?_
  exact moX11_countAlike_77 mk_6 hE
set_option maxRecDepth 20000 in
theorem moX11_countAlike_55 {o : Int32 × Hp} {k_6 : Hp → Nat → Int32 → Nat → Int32 → Int32 → Int32 → Option (Int32 × Hp)} {F : Nat} (mk_6 : ∀ (h : Hp) (x0 : Nat) (x1 : Int32) (x2 : Nat) (x3 : Int32) (x4 : Int32) (x5 : Int32), k_6 h x0 x1 x2 x3 x4 x5 = some o → Le h o.2) {h : Hp} {x0 : Nat} {x1 : Int32} {x2 : Nat} {x3 : Int32} {x4 : Int32} {x5 : Int32} {t0 : Int32} (hE : sX11_countAlike_55 F k_6 h x0 x1 x2 x3 x4 x5 t0 = some o) : Le h o.2 := by
  rcases br_e hE with ⟨_, hE⟩ | ⟨_, hE⟩
  · exact moX11_countAlike_83 mk_6 hE
  · obtain ⟨r_2, er_2, hE⟩ := cl_e hE
    obtain ⟨o_3, eo_3, hE⟩ := cl_e hE
    refine (moX11_page eo_3).tr ?_
    exact moX11_countAlike_74 mk_6 hE
set_option maxRecDepth 20000 in
theorem moX11_countAlike_50 {o : Int32 × Hp} {k_6 : Hp → Nat → Int32 → Nat → Int32 → Int32 → Int32 → Option (Int32 × Hp)} {F : Nat} (mk_6 : ∀ (h : Hp) (x0 : Nat) (x1 : Int32) (x2 : Nat) (x3 : Int32) (x4 : Int32) (x5 : Int32), k_6 h x0 x1 x2 x3 x4 x5 = some o → Le h o.2) {h : Hp} {x0 : Nat} {x1 : Int32} {x2 : Nat} {x3 : Int32} {x4 : Int32} {x5 : Int32} (hE : sX11_countAlike_50 F k_6 h x0 x1 x2 x3 x4 x5 = some o) : Le h o.2 := by
  exact moX11_countAlike_55 mk_6 hE
set_option maxRecDepth 20000 in
theorem moX11_countAlike_54 {o : Int32 × Hp} {k_6 : Hp → Nat → Int32 → Nat → Int32 → Int32 → Int32 → Option (Int32 × Hp)} {F : Nat} (mk_6 : ∀ (h : Hp) (x0 : Nat) (x1 : Int32) (x2 : Nat) (x3 : Int32) (x4 : Int32) (x5 : Int32), k_6 h x0 x1 x2 x3 x4 x5 = some o → Le h o.2) {h : Hp} {x0 : Nat} {x1 : Int32} {x2 : Nat} {x3 : Int32} {x4 : Int32} {x5 : Int32} (hE : sX11_countAlike_54 F k_6 h x0 x1 x2 x3 x4 x5 = some o) : Le h o.2 := by
  exact moX11_countAlike_55 mk_6 hE
set_option maxRecDepth 20000 in
theorem moX11_countAlike_6 {o : Int32 × Hp} {F : Nat} : ∀ (f : Nat) {h : Hp} {x0 : Nat} {x1 : Int32} {x2 : Nat} {x3 : Int32} {x4 : Int32} {x5 : Int32}, sX11_countAlike_6 F f h x0 x1 x2 x3 x4 x5 = some o → Le h o.2 := by
  intro f
  induction f with
  | zero =>
    intro h x0 x1 x2 x3 x4 x5 hE
    rw [sX11_countAlike_6] at hE
    cases hE
  | succ f ih =>
    intro h x0 x1 x2 x3 x4 x5 hE
    rw [sX11_countAlike_6] at hE
    have mk_6 : ∀ (h : Hp) (x0 : Nat) (x1 : Int32) (x2 : Nat) (x3 : Int32) (x4 : Int32) (x5 : Int32), sX11_countAlike_6 F f h x0 x1 x2 x3 x4 x5 = some o → Le h o.2 := fun h x0 x1 x2 x3 x4 x5 hE => ih hE
    obtain ⟨r_1, er_1, hE⟩ := cl_e hE
    obtain ⟨g_2, hE⟩ := gd_e hE
    rcases br_e hE with ⟨_, hE⟩ | ⟨_, hE⟩
    · cases hE
      exact Le.rf _
    · rcases br_e hE with ⟨_, hE⟩ | ⟨_, hE⟩
      · exact moX11_countAlike_50 mk_6 hE
      · obtain ⟨r_5, er_5, hE⟩ := cl_e hE
        obtain ⟨g_6, hE⟩ := gd_e hE
        rcases br_e hE with ⟨_, hE⟩ | ⟨_, hE⟩
        · exact moX11_countAlike_54 mk_6 hE
        · obtain ⟨r_8, er_8, hE⟩ := cl_e hE
          obtain ⟨g_9, hE⟩ := gd_e hE
          rcases br_e hE with ⟨_, hE⟩ | ⟨_, hE⟩
          · exact moX11_countAlike_50 mk_6 hE
          · exact moX11_countAlike_54 mk_6 hE
set_option maxRecDepth 20000 in
theorem moX11_countAlike {o : Int32 × Hp} {F : Nat} {h : Hp} {x0 : Nat} {x1 : Int32} {x2 : Nat} {x3 : Int32} (hE : sX11_countAlike F h x0 x1 x2 x3 = some o) : Le h o.2 := by
  exact moX11_countAlike_6 _ hE
set_option maxRecDepth 20000 in
theorem bX11_countAlike_83 {p : Program} {l : Launch} {e : Env} {s : State} {m : MethodId} {args : Array Value} {below : List Frame} {meth : Method} {c : Code} {X : Ec} {h0 : Hp} {o : Int32 × Hp} {k_6 : Hp → Nat → Int32 → Nat → Int32 → Int32 → Int32 → Option (Int32 × Hp)} {F : Nat} (C : Cx X p s m args meth c RX11 cX11_countAlike 7 (some .int) "countAlike") (hk_6 : ∀ (h : Hp) (x0 : Nat) (x1 : Int32) (x2 : Nat) (x3 : Int32) (x4 : Int32) (x5 : Int32) (H : Heap) (locs : List Loc), hK h x0 = 11 → hK h x2 = 3 → Kl h0 h → Wx X h H → va_S (aA (eB X)) s.heap H locs → ∀ (ls : Array Slot), lv_has ls 7 [(0, .ref x0), (1, .int x1), (2, .ref x2), (3, .int x3), (4, .int x4), (5, .int x5)] → k_6 h x0 x1 x2 x3 x4 x5 = some o → W p l e (rmA 6 185 h0 o.2) s m args below meth c H locs (hS h - hS h0) (hL h - hL h0) (MQ below (QIA X h0 o.1 o.2) args s (hS o.2 - hS h0) (hL o.2 - hL h0) (aA (eB X))) (F0 m 6 ls [])) (mk_6 : ∀ (h : Hp) (x0 : Nat) (x1 : Int32) (x2 : Nat) (x3 : Int32) (x4 : Int32) (x5 : Int32), k_6 h x0 x1 x2 x3 x4 x5 = some o → Le h o.2) {h : Hp} {x0 : Nat} {x1 : Int32} {x2 : Nat} {x3 : Int32} {x4 : Int32} {x5 : Int32} {H : Heap} {locs : List Loc} (k_x0 : hK h x0 = 11) (k_x2 : hK h x2 = 3) (hkl : Kl h0 h) (hW : Wx X h H) (hZ : va_S (aA (eB X)) s.heap H locs) (ls : Array Slot) (hl : lv_has ls 7 [(0, .ref x0), (1, .int x1), (2, .ref x2), (3, .int x3), (4, .int x4), (5, .int x5)]) (hE : sX11_countAlike_83 F k_6 h x0 x1 x2 x3 x4 x5 = some o) : W p l e (rmA 6 185 h0 o.2) s m args below meth c H locs (hS h - hS h0) (hL h - hL h0) (MQ below (QIA X h0 o.1 o.2) args s (hS o.2 - hS h0) (hL o.2 - hL h0) (aA (eB X))) (F0 m 83 ls []) := by
  obtain ⟨v_1, ev_1, hE⟩ := nm_e2 hE
  refine lv_iinc (v := v_1) (lv' := [(5, .int v_1), (0, .ref x0), (1, .int x1), (2, .ref x2), (3, .int x3), (4, .int x4)]) C.1 C.2.1 dX11_countAlike_83 hl (k := 5) rfl (by rw [ev_1]; rfl) (by decide) rfl (fun ls hl => ?_)
  refine lv_goto (tgt := 6) C.1 C.2.1 dX11_countAlike_86 (by decide) ?_
  exact hk_6 _ _ _ _ _ _ _ _ _ k_x0 k_x2 hkl hW hZ _ (lv_sub hl [1, 2, 3, 4, 5, 0] rfl) hE
set_option maxRecDepth 20000 in
theorem bX11_countAlike_77 {p : Program} {l : Launch} {e : Env} {s : State} {m : MethodId} {args : Array Value} {below : List Frame} {meth : Method} {c : Code} {X : Ec} {h0 : Hp} {o : Int32 × Hp} {k_6 : Hp → Nat → Int32 → Nat → Int32 → Int32 → Int32 → Option (Int32 × Hp)} {F : Nat} (C : Cx X p s m args meth c RX11 cX11_countAlike 7 (some .int) "countAlike") (hk_6 : ∀ (h : Hp) (x0 : Nat) (x1 : Int32) (x2 : Nat) (x3 : Int32) (x4 : Int32) (x5 : Int32) (H : Heap) (locs : List Loc), hK h x0 = 11 → hK h x2 = 3 → Kl h0 h → Wx X h H → va_S (aA (eB X)) s.heap H locs → ∀ (ls : Array Slot), lv_has ls 7 [(0, .ref x0), (1, .int x1), (2, .ref x2), (3, .int x3), (4, .int x4), (5, .int x5)] → k_6 h x0 x1 x2 x3 x4 x5 = some o → W p l e (rmA 6 185 h0 o.2) s m args below meth c H locs (hS h - hS h0) (hL h - hL h0) (MQ below (QIA X h0 o.1 o.2) args s (hS o.2 - hS h0) (hL o.2 - hL h0) (aA (eB X))) (F0 m 6 ls [])) (mk_6 : ∀ (h : Hp) (x0 : Nat) (x1 : Int32) (x2 : Nat) (x3 : Int32) (x4 : Int32) (x5 : Int32), k_6 h x0 x1 x2 x3 x4 x5 = some o → Le h o.2) {h : Hp} {x0 : Nat} {x1 : Int32} {x2 : Nat} {x3 : Int32} {x4 : Int32} {x5 : Int32} {t0 : Int32} {H : Heap} {locs : List Loc} (k_x0 : hK h x0 = 11) (k_x2 : hK h x2 = 3) (hkl : Kl h0 h) (hW : Wx X h H) (hZ : va_S (aA (eB X)) s.heap H locs) (ls : Array Slot) (hl : lv_has ls 7 [(0, .ref x0), (1, .int x1), (2, .ref x2), (3, .int x3), (4, .int x4), (5, .int x5)]) (hE : sX11_countAlike_77 F k_6 h x0 x1 x2 x3 x4 x5 t0 = some o) : W p l e (rmA 6 185 h0 o.2) s m args below meth c H locs (hS h - hS h0) (hL h - hL h0) (MQ below (QIA X h0 o.1 o.2) args s (hS o.2 - hS h0) (hL o.2 - hL h0) (aA (eB X))) (F0 m 77 ls [.int t0]) := by
  refine lv_if_eq (tgt := 83) C.1 C.2.1 dX11_countAlike_77 (by decide) (fun c_1 => ?_) (fun c_1 => ?_)
  · have hE := br_p hE c_1
    exact bX11_countAlike_83 C hk_6 mk_6 k_x0 k_x2 hkl hW hZ _ (lv_sub hl [0, 1, 2, 3, 4, 5] rfl) hE
  · have hE := br_n hE c_1
    obtain ⟨v_2, ev_2, hE⟩ := nm_e2 hE
    refine lv_iinc (v := v_2) (lv' := [(4, .int v_2), (0, .ref x0), (1, .int x1), (2, .ref x2), (3, .int x3), (5, .int x5)]) C.1 C.2.1 dX11_countAlike_80 hl (k := 4) rfl (by rw [ev_2]; rfl) (by decide) rfl (fun ls hl => ?_)
    exact bX11_countAlike_83 C hk_6 mk_6 k_x0 k_x2 hkl hW hZ _ (lv_sub hl [1, 2, 3, 4, 0, 5] rfl) hE
set_option maxRecDepth 20000 in
theorem bX11_countAlike_74 {p : Program} {l : Launch} {e : Env} {s : State} {m : MethodId} {args : Array Value} {below : List Frame} {meth : Method} {c : Code} {X : Ec} {h0 : Hp} {o : Int32 × Hp} {k_6 : Hp → Nat → Int32 → Nat → Int32 → Int32 → Int32 → Option (Int32 × Hp)} {F : Nat} (C : Cx X p s m args meth c RX11 cX11_countAlike 7 (some .int) "countAlike") (hk_6 : ∀ (h : Hp) (x0 : Nat) (x1 : Int32) (x2 : Nat) (x3 : Int32) (x4 : Int32) (x5 : Int32) (H : Heap) (locs : List Loc), hK h x0 = 11 → hK h x2 = 3 → Kl h0 h → Wx X h H → va_S (aA (eB X)) s.heap H locs → ∀ (ls : Array Slot), lv_has ls 7 [(0, .ref x0), (1, .int x1), (2, .ref x2), (3, .int x3), (4, .int x4), (5, .int x5)] → k_6 h x0 x1 x2 x3 x4 x5 = some o → W p l e (rmA 6 185 h0 o.2) s m args below meth c H locs (hS h - hS h0) (hL h - hL h0) (MQ below (QIA X h0 o.1 o.2) args s (hS o.2 - hS h0) (hL o.2 - hL h0) (aA (eB X))) (F0 m 6 ls [])) (mk_6 : ∀ (h : Hp) (x0 : Nat) (x1 : Int32) (x2 : Nat) (x3 : Int32) (x4 : Int32) (x5 : Int32), k_6 h x0 x1 x2 x3 x4 x5 = some o → Le h o.2) {h : Hp} {x0 : Nat} {x1 : Int32} {x2 : Nat} {x3 : Int32} {x4 : Int32} {x5 : Int32} {t0 : Nat} {t1 : Nat} {t2 : Nat} {H : Heap} {locs : List Loc} (k_x0 : hK h x0 = 11) (k_x2 : hK h x2 = 3) (k_t0 : hK h t0 = 3) (k_t1 : hK h t1 = 3) (k_t2 : hK h t2 = 5) (hkl : Kl h0 h) (hW : Wx X h H) (hZ : va_S (aA (eB X)) s.heap H locs) (ls : Array Slot) (hl : lv_has ls 7 [(0, .ref x0), (1, .int x1), (2, .ref x2), (3, .int x3), (4, .int x4), (5, .int x5)]) (hE : sX11_countAlike_74 F k_6 h x0 x1 x2 x3 x4 x5 t0 t1 t2 = some o) : W p l e (rmA 6 185 h0 o.2) s m args below meth c H locs (hS h - hS h0) (hL h - hL h0) (MQ below (QIA X h0 o.1 o.2) args s (hS o.2 - hS h0) (hL o.2 - hL h0) (aA (eB X))) (F0 m 74 ls [.ref t0, .ref t1, .ref t2]) := by
  obtain ⟨o_1, eo_1, hE⟩ := cl_e hE
  have m1 := moX5_areAlike eo_1
  have m2 := moX11_countAlike_77 mk_6 hE
  refine x_kI (o := o_1) (z_runV (As := [.ref t1, .ref t0]) (rest := []) C (ct_X5_areAlike l X F k_t2 k_t1 k_t0 eo_1) cw_X11_204 hW hZ k_t2 (by decide) rfl rfl rfl hl.1 (Nat.le_of_ble_eq_true rfl) rfl dX11_countAlike_74 ⟨Nat.le_of_ble_eq_true rfl, Nat.le_of_ble_eq_true rfl⟩ (rm_ok0 hkl m1 m2)) hZ (fun _ _ hW km hZ => ?_)
  replace hkl := hkl.tr km.l
  refine x_wc km ?_
  replace k_x0 := km.at k_x0 (by decide)
  replace k_x2 := km.at k_x2 (by decide)
  exact bX11_countAlike_77 C hk_6 mk_6 k_x0 k_x2 hkl hW hZ _ (lv_sub hl [0, 1, 2, 3, 4, 5] rfl) hE
set_option maxRecDepth 20000 in
theorem bX11_countAlike_55 {p : Program} {l : Launch} {e : Env} {s : State} {m : MethodId} {args : Array Value} {below : List Frame} {meth : Method} {c : Code} {X : Ec} {h0 : Hp} {o : Int32 × Hp} {k_6 : Hp → Nat → Int32 → Nat → Int32 → Int32 → Int32 → Option (Int32 × Hp)} {F : Nat} (C : Cx X p s m args meth c RX11 cX11_countAlike 7 (some .int) "countAlike") (hk_6 : ∀ (h : Hp) (x0 : Nat) (x1 : Int32) (x2 : Nat) (x3 : Int32) (x4 : Int32) (x5 : Int32) (H : Heap) (locs : List Loc), hK h x0 = 11 → hK h x2 = 3 → Kl h0 h → Wx X h H → va_S (aA (eB X)) s.heap H locs → ∀ (ls : Array Slot), lv_has ls 7 [(0, .ref x0), (1, .int x1), (2, .ref x2), (3, .int x3), (4, .int x4), (5, .int x5)] → k_6 h x0 x1 x2 x3 x4 x5 = some o → W p l e (rmA 6 185 h0 o.2) s m args below meth c H locs (hS h - hS h0) (hL h - hL h0) (MQ below (QIA X h0 o.1 o.2) args s (hS o.2 - hS h0) (hL o.2 - hL h0) (aA (eB X))) (F0 m 6 ls [])) (mk_6 : ∀ (h : Hp) (x0 : Nat) (x1 : Int32) (x2 : Nat) (x3 : Int32) (x4 : Int32) (x5 : Int32), k_6 h x0 x1 x2 x3 x4 x5 = some o → Le h o.2) {h : Hp} {x0 : Nat} {x1 : Int32} {x2 : Nat} {x3 : Int32} {x4 : Int32} {x5 : Int32} {t0 : Int32} {H : Heap} {locs : List Loc} (k_x0 : hK h x0 = 11) (k_x2 : hK h x2 = 3) (hkl : Kl h0 h) (hW : Wx X h H) (hZ : va_S (aA (eB X)) s.heap H locs) (ls : Array Slot) (hl : lv_has ls 7 [(0, .ref x0), (1, .int x1), (2, .ref x2), (3, .int x3), (4, .int x4), (5, .int x5)]) (hE : sX11_countAlike_55 F k_6 h x0 x1 x2 x3 x4 x5 t0 = some o) : W p l e (rmA 6 185 h0 o.2) s m args below meth c H locs (hS h - hS h0) (hL h - hL h0) (MQ below (QIA X h0 o.1 o.2) args s (hS o.2 - hS h0) (hL o.2 - hL h0) (aA (eB X))) (F0 m 55 ls [.int t0]) := by
  refine lv_istore (lv' := [(6, .int t0), (0, .ref x0), (1, .int x1), (2, .ref x2), (3, .int x3), (4, .int x4), (5, .int x5)]) C.1 C.2.1 dX11_countAlike_55 hl (by decide) rfl (fun ls hl => ?_)
  refine lv_iload C.1 C.2.1 dX11_countAlike_57 (lv_at hl 0 rfl) ?_
  refine lv_if_eq (tgt := 83) C.1 C.2.1 dX11_countAlike_59 (by decide) (fun c_1 => ?_) (fun c_1 => ?_)
  · have hE := br_p hE c_1
    exact bX11_countAlike_83 C hk_6 mk_6 k_x0 k_x2 hkl hW hZ _ (lv_sub hl [1, 2, 3, 4, 5, 6] rfl) hE
  · have hE := br_n hE c_1
    refine lv_aload_n C.1 C.2.1 dX11_countAlike_62 rfl (lv_at hl 1 rfl) ?_
    obtain ⟨r_2, er_2, hE⟩ := cl_e hE
    refine gf_X11_50 C hW k_x0 er_2 dX11_countAlike_63 (fun k_r_2 => ?_)
    refine lv_aload_n C.1 C.2.1 dX11_countAlike_66 rfl (lv_at hl 3 rfl) ?_
    refine lv_aload_n C.1 C.2.1 dX11_countAlike_67 rfl (lv_at hl 1 rfl) ?_
    refine lv_iload_n C.1 C.2.1 dX11_countAlike_68 rfl (lv_at hl 2 rfl) ?_
    refine lv_iload C.1 C.2.1 dX11_countAlike_69 (lv_at hl 6 rfl) ?_
    obtain ⟨o_3, eo_3, hE⟩ := cl_e hE
    have m1 := moX11_page eo_3
    have m2 := moX11_countAlike_74 mk_6 hE
    refine x_kRA (o := o_3) hkl (z_runV (As := [.int x1, .int x5]) (rest := [.ref x2, .ref r_2]) C (ct_X11_page l X F k_x0 eo_3) cw_X11_321 hW hZ k_x0 (by decide) rfl rfl rfl hl.1 (Nat.le_of_ble_eq_true rfl) rfl dX11_countAlike_71 ⟨Nat.le_of_ble_eq_true rfl, Nat.le_of_ble_eq_true rfl⟩ (rm_ok hkl m1 m2)) hZ (fun _ _ hW km k_o_3_1 hZ => ?_)
    replace hkl := hkl.tr km
    replace k_x0 := km.at k_x0 (by decide)
    replace k_x2 := km.at k_x2 (by decide)
    replace k_r_2 := km.at k_r_2 (by decide)
    exact bX11_countAlike_74 C hk_6 mk_6 k_x0 k_x2 k_o_3_1 k_x2 k_r_2 hkl hW hZ _ (lv_sub hl [1, 2, 3, 4, 5, 6] rfl) hE
set_option maxRecDepth 20000 in
theorem bX11_countAlike_50 {p : Program} {l : Launch} {e : Env} {s : State} {m : MethodId} {args : Array Value} {below : List Frame} {meth : Method} {c : Code} {X : Ec} {h0 : Hp} {o : Int32 × Hp} {k_6 : Hp → Nat → Int32 → Nat → Int32 → Int32 → Int32 → Option (Int32 × Hp)} {F : Nat} (C : Cx X p s m args meth c RX11 cX11_countAlike 7 (some .int) "countAlike") (hk_6 : ∀ (h : Hp) (x0 : Nat) (x1 : Int32) (x2 : Nat) (x3 : Int32) (x4 : Int32) (x5 : Int32) (H : Heap) (locs : List Loc), hK h x0 = 11 → hK h x2 = 3 → Kl h0 h → Wx X h H → va_S (aA (eB X)) s.heap H locs → ∀ (ls : Array Slot), lv_has ls 7 [(0, .ref x0), (1, .int x1), (2, .ref x2), (3, .int x3), (4, .int x4), (5, .int x5)] → k_6 h x0 x1 x2 x3 x4 x5 = some o → W p l e (rmA 6 185 h0 o.2) s m args below meth c H locs (hS h - hS h0) (hL h - hL h0) (MQ below (QIA X h0 o.1 o.2) args s (hS o.2 - hS h0) (hL o.2 - hL h0) (aA (eB X))) (F0 m 6 ls [])) (mk_6 : ∀ (h : Hp) (x0 : Nat) (x1 : Int32) (x2 : Nat) (x3 : Int32) (x4 : Int32) (x5 : Int32), k_6 h x0 x1 x2 x3 x4 x5 = some o → Le h o.2) {h : Hp} {x0 : Nat} {x1 : Int32} {x2 : Nat} {x3 : Int32} {x4 : Int32} {x5 : Int32} {H : Heap} {locs : List Loc} (k_x0 : hK h x0 = 11) (k_x2 : hK h x2 = 3) (hkl : Kl h0 h) (hW : Wx X h H) (hZ : va_S (aA (eB X)) s.heap H locs) (ls : Array Slot) (hl : lv_has ls 7 [(0, .ref x0), (1, .int x1), (2, .ref x2), (3, .int x3), (4, .int x4), (5, .int x5)]) (hE : sX11_countAlike_50 F k_6 h x0 x1 x2 x3 x4 x5 = some o) : W p l e (rmA 6 185 h0 o.2) s m args below meth c H locs (hS h - hS h0) (hL h - hL h0) (MQ below (QIA X h0 o.1 o.2) args s (hS o.2 - hS h0) (hL o.2 - hL h0) (aA (eB X))) (F0 m 50 ls []) := by
  refine lv_iconst (v := (1 : Int32)) C.1 C.2.1 dX11_countAlike_50 (by decide) ?_
  refine lv_goto (tgt := 55) C.1 C.2.1 dX11_countAlike_51 (by decide) ?_
  exact bX11_countAlike_55 C hk_6 mk_6 k_x0 k_x2 hkl hW hZ _ (lv_sub hl [0, 1, 2, 3, 4, 5] rfl) hE
set_option maxRecDepth 20000 in
theorem bX11_countAlike_54 {p : Program} {l : Launch} {e : Env} {s : State} {m : MethodId} {args : Array Value} {below : List Frame} {meth : Method} {c : Code} {X : Ec} {h0 : Hp} {o : Int32 × Hp} {k_6 : Hp → Nat → Int32 → Nat → Int32 → Int32 → Int32 → Option (Int32 × Hp)} {F : Nat} (C : Cx X p s m args meth c RX11 cX11_countAlike 7 (some .int) "countAlike") (hk_6 : ∀ (h : Hp) (x0 : Nat) (x1 : Int32) (x2 : Nat) (x3 : Int32) (x4 : Int32) (x5 : Int32) (H : Heap) (locs : List Loc), hK h x0 = 11 → hK h x2 = 3 → Kl h0 h → Wx X h H → va_S (aA (eB X)) s.heap H locs → ∀ (ls : Array Slot), lv_has ls 7 [(0, .ref x0), (1, .int x1), (2, .ref x2), (3, .int x3), (4, .int x4), (5, .int x5)] → k_6 h x0 x1 x2 x3 x4 x5 = some o → W p l e (rmA 6 185 h0 o.2) s m args below meth c H locs (hS h - hS h0) (hL h - hL h0) (MQ below (QIA X h0 o.1 o.2) args s (hS o.2 - hS h0) (hL o.2 - hL h0) (aA (eB X))) (F0 m 6 ls [])) (mk_6 : ∀ (h : Hp) (x0 : Nat) (x1 : Int32) (x2 : Nat) (x3 : Int32) (x4 : Int32) (x5 : Int32), k_6 h x0 x1 x2 x3 x4 x5 = some o → Le h o.2) {h : Hp} {x0 : Nat} {x1 : Int32} {x2 : Nat} {x3 : Int32} {x4 : Int32} {x5 : Int32} {H : Heap} {locs : List Loc} (k_x0 : hK h x0 = 11) (k_x2 : hK h x2 = 3) (hkl : Kl h0 h) (hW : Wx X h H) (hZ : va_S (aA (eB X)) s.heap H locs) (ls : Array Slot) (hl : lv_has ls 7 [(0, .ref x0), (1, .int x1), (2, .ref x2), (3, .int x3), (4, .int x4), (5, .int x5)]) (hE : sX11_countAlike_54 F k_6 h x0 x1 x2 x3 x4 x5 = some o) : W p l e (rmA 6 185 h0 o.2) s m args below meth c H locs (hS h - hS h0) (hL h - hL h0) (MQ below (QIA X h0 o.1 o.2) args s (hS o.2 - hS h0) (hL o.2 - hL h0) (aA (eB X))) (F0 m 54 ls []) := by
  refine lv_iconst (v := (0 : Int32)) C.1 C.2.1 dX11_countAlike_54 (by decide) ?_
  exact bX11_countAlike_55 C hk_6 mk_6 k_x0 k_x2 hkl hW hZ _ (lv_sub hl [0, 1, 2, 3, 4, 5] rfl) hE
set_option maxRecDepth 20000 in
theorem bX11_countAlike_6 {p : Program} {l : Launch} {e : Env} {s : State} {m : MethodId} {args : Array Value} {below : List Frame} {meth : Method} {c : Code} {X : Ec} {h0 : Hp} {o : Int32 × Hp} {F : Nat} (C : Cx X p s m args meth c RX11 cX11_countAlike 7 (some .int) "countAlike") : ∀ (f : Nat) {h : Hp} {x0 : Nat} {x1 : Int32} {x2 : Nat} {x3 : Int32} {x4 : Int32} {x5 : Int32} {H : Heap} {locs : List Loc} (k_x0 : hK h x0 = 11) (k_x2 : hK h x2 = 3), Kl h0 h → Wx X h H → va_S (aA (eB X)) s.heap H locs → ∀ (ls : Array Slot), lv_has ls 7 [(0, .ref x0), (1, .int x1), (2, .ref x2), (3, .int x3), (4, .int x4), (5, .int x5)] → sX11_countAlike_6 F f h x0 x1 x2 x3 x4 x5 = some o → W p l e (rmA 6 185 h0 o.2) s m args below meth c H locs (hS h - hS h0) (hL h - hL h0) (MQ below (QIA X h0 o.1 o.2) args s (hS o.2 - hS h0) (hL o.2 - hL h0) (aA (eB X))) (F0 m 6 ls []) := by
  intro f
  induction f with
  | zero =>
    intro h x0 x1 x2 x3 x4 x5 H locs k_x0 k_x2 hkl hW hZ ls hl hE
    rw [sX11_countAlike_6] at hE
    cases hE
  | succ f ih =>
    intro h x0 x1 x2 x3 x4 x5 H locs k_x0 k_x2 hkl hW hZ ls hl hE
    rw [sX11_countAlike_6] at hE
    have mk_6 : ∀ (h : Hp) (x0 : Nat) (x1 : Int32) (x2 : Nat) (x3 : Int32) (x4 : Int32) (x5 : Int32), sX11_countAlike_6 F f h x0 x1 x2 x3 x4 x5 = some o → Le h o.2 := fun h x0 x1 x2 x3 x4 x5 hE => moX11_countAlike_6 _ hE
    have hk_6 : ∀ (h : Hp) (x0 : Nat) (x1 : Int32) (x2 : Nat) (x3 : Int32) (x4 : Int32) (x5 : Int32) (H : Heap) (locs : List Loc), hK h x0 = 11 → hK h x2 = 3 → Kl h0 h → Wx X h H → va_S (aA (eB X)) s.heap H locs → ∀ (ls : Array Slot), lv_has ls 7 [(0, .ref x0), (1, .int x1), (2, .ref x2), (3, .int x3), (4, .int x4), (5, .int x5)] → sX11_countAlike_6 F f h x0 x1 x2 x3 x4 x5 = some o → W p l e (rmA 6 185 h0 o.2) s m args below meth c H locs (hS h - hS h0) (hL h - hL h0) (MQ below (QIA X h0 o.1 o.2) args s (hS o.2 - hS h0) (hL o.2 - hL h0) (aA (eB X))) (F0 m 6 ls []) := fun h x0 x1 x2 x3 x4 x5 H locs k_x0 k_x2 a b c ls hl hE => ih k_x0 k_x2 a b c ls hl hE
    refine lv_iload C.1 C.2.1 dX11_countAlike_6 (lv_at hl 5 rfl) ?_
    refine lv_aload_n C.1 C.2.1 dX11_countAlike_8 rfl (lv_at hl 0 rfl) ?_
    obtain ⟨r_1, er_1, hE⟩ := cl_e hE
    refine gf_X11_117 C hW k_x0 er_1 dX11_countAlike_9 (fun k_r_1 => ?_)
    refine lv_iload_n C.1 C.2.1 dX11_countAlike_12 rfl (lv_at hl 1 rfl) ?_
    obtain ⟨g_2, hE⟩ := gd_e hE
    refine y_iald C hW k_r_1 g_2 dX11_countAlike_13 ?_
    refine lv_icmp_gt (tgt := 89) C.1 C.2.1 dX11_countAlike_14 (by decide) (fun c_3 => ?_) (fun c_3 => ?_)
    · have hE := br_p hE c_3
      refine lv_iload C.1 C.2.1 dX11_countAlike_89 (lv_at hl 4 rfl) ?_
      exact x_iretA C rfl rfl hW hZ hkl hE dX11_countAlike_91
    · have hE := br_n hE c_3
      refine lv_iload_n C.1 C.2.1 dX11_countAlike_17 rfl (lv_at hl 3 rfl) ?_
      refine lv_iconst (v := (-1 : Int32)) C.1 C.2.1 dX11_countAlike_18 (by decide) ?_
      refine lv_icmp_eq (tgt := 50) C.1 C.2.1 dX11_countAlike_19 (by decide) (fun c_4 => ?_) (fun c_4 => ?_)
      · have hE := br_p hE c_4
        exact bX11_countAlike_50 C hk_6 mk_6 k_x0 k_x2 hkl hW hZ _ (lv_sub hl [0, 1, 2, 3, 4, 5] rfl) hE
      · have hE := br_n hE c_4
        refine lv_iload C.1 C.2.1 dX11_countAlike_22 (lv_at hl 5 rfl) ?_
        refine lv_aload_n C.1 C.2.1 dX11_countAlike_24 rfl (lv_at hl 0 rfl) ?_
        obtain ⟨r_5, er_5, hE⟩ := cl_e hE
        refine gf_X11_117 C hW k_x0 er_5 dX11_countAlike_25 (fun k_r_5 => ?_)
        refine lv_iload_n C.1 C.2.1 dX11_countAlike_28 rfl (lv_at hl 1 rfl) ?_
        obtain ⟨g_6, hE⟩ := gd_e hE
        refine y_iald C hW k_r_5 g_6 dX11_countAlike_29 ?_
        refine lv_icmp_ge (tgt := 54) C.1 C.2.1 dX11_countAlike_30 (by decide) (fun c_7 => ?_) (fun c_7 => ?_)
        · have hE := br_p hE c_7
          exact bX11_countAlike_54 C hk_6 mk_6 k_x0 k_x2 hkl hW hZ _ (lv_sub hl [0, 1, 2, 3, 4, 5] rfl) hE
        · have hE := br_n hE c_7
          refine lv_aload_n C.1 C.2.1 dX11_countAlike_33 rfl (lv_at hl 0 rfl) ?_
          obtain ⟨r_8, er_8, hE⟩ := cl_e hE
          refine gf_X11_114 C hW k_x0 er_8 dX11_countAlike_34 (fun k_r_8 => ?_)
          refine lv_iload_n C.1 C.2.1 dX11_countAlike_37 rfl (lv_at hl 1 rfl) ?_
          refine lv_sipush (v := (301 : Int32)) C.1 C.2.1 dX11_countAlike_38 (by decide) ?_
          refine lv_imul C.1 C.2.1 dX11_countAlike_41 ?_
          refine lv_iload C.1 C.2.1 dX11_countAlike_42 (lv_at hl 5 rfl) ?_
          refine lv_iadd C.1 C.2.1 dX11_countAlike_44 ?_
          obtain ⟨g_9, hE⟩ := gd_e hE
          refine y_iald C hW k_r_8 g_9 dX11_countAlike_45 ?_
          refine lv_iload_n C.1 C.2.1 dX11_countAlike_46 rfl (lv_at hl 3 rfl) ?_
          refine lv_icmp_ne (tgt := 54) C.1 C.2.1 dX11_countAlike_47 (by decide) (fun c_10 => ?_) (fun c_10 => ?_)
          · have hE := br_n hE c_10
            exact bX11_countAlike_54 C hk_6 mk_6 k_x0 k_x2 hkl hW hZ _ (lv_sub hl [0, 1, 2, 3, 4, 5] rfl) hE
          · have hE := br_p hE c_10
            exact bX11_countAlike_50 C hk_6 mk_6 k_x0 k_x2 hkl hW hZ _ (lv_sub hl [0, 1, 2, 3, 4, 5] rfl) hE
set_option maxRecDepth 20000 in
theorem ct_X11_countAlike (l : Launch) (X : Ec) (F : Nat) {h : Hp} {x0 : Nat} {x1 : Int32} {x2 : Nat} {x3 : Int32} {o : Int32 × Hp} (k_x0 : hK h x0 = 11) (k_x2 : hK h x2 = 3) (hE : sX11_countAlike F h x0 x1 x2 x3 = some o) : MetIA l yX11_countAlike cX11_countAlike 7 (some .int) 6 185 X [.ref x0, .int x1, .ref x2, .int x3] h o := by
  refine x_metA (oh := o.2) (by decide) (Nat.le_of_ble_eq_true rfl) ?_
  intro p e s m below meth c ls C hl hW hZ
  have hl : lv_has ls 7 [(0, .ref x0), (1, .int x1), (2, .ref x2), (3, .int x3)] := hl
  have hkl : Kl h h := Kl.rf h
  refine lv_iconst (v := (0 : Int32)) C.1 C.2.1 dX11_countAlike_0 (by decide) ?_
  refine lv_istore (lv' := [(4, .int (0 : Int32)), (0, .ref x0), (1, .int x1), (2, .ref x2), (3, .int x3)]) C.1 C.2.1 dX11_countAlike_1 hl (by decide) rfl (fun ls hl => ?_)
  refine lv_iconst (v := (0 : Int32)) C.1 C.2.1 dX11_countAlike_3 (by decide) ?_
  refine lv_istore (lv' := [(5, .int (0 : Int32)), (4, .int (0 : Int32)), (0, .ref x0), (1, .int x1), (2, .ref x2), (3, .int x3)]) C.1 C.2.1 dX11_countAlike_4 hl (by decide) rfl (fun ls hl => ?_)
  exact bX11_countAlike_6 C F k_x0 k_x2 hkl hW hZ _ (lv_sub hl [2, 3, 4, 5, 1, 0] rfl) hE
theorem ms_80 : Cond.selects RX11 yX11_countAlike yX11_countAlike ∈ W0 := w0_in (List.mem_append_left _ (List.mem_of_getElem? (i := 80) (by decide +kernel))) rfl
theorem m_1502 : Cond.methodLink RX11 333 yX11_countAlike ∈ W0 := w0_in (List.mem_append_right _ (List.mem_of_getElem? (i := 1502) (by decide +kernel))) rfl
theorem m_1504 : Cond.instanceMethod yX11_countAlike ∈ W0 := w0_in (List.mem_append_right _ (List.mem_of_getElem? (i := 1504) (by decide +kernel))) rfl
theorem m_1505 : Cond.code yX11_countAlike cX11_countAlike 7 (some .int) ∈ W0 := w0_in (List.mem_append_right _ (List.mem_of_getElem? (i := 1505) (by decide +kernel))) rfl
theorem cw_X11_333 : cwd RX11 333 yX11_countAlike cX11_countAlike 7 (some .int) false 3 := ⟨m_1505, m_1502, m_1, ⟨m_1504, ms_80⟩, by decide, by decide, by decide +kernel⟩
theorem dX11_game_0 : decode cX11_game 0 = .ok (.iload_n 1, 1) := by decide +kernel
theorem dX11_game_1 : decode cX11_game 1 = .ok (.invokestatic 318, 3) := by decide +kernel
theorem dX11_game_4 : decode cX11_game 4 = .ok (.ifCond .eq 12, 3) := by decide +kernel
theorem dX11_game_7 : decode cX11_game 7 = .ok (.iload_n 2, 1) := by decide +kernel
theorem dX11_game_8 : decode cX11_game 8 = .ok (.ifCond .lt 8, 3) := by decide +kernel
theorem dX11_game_11 : decode cX11_game 11 = .ok (.iload_n 2, 1) := by decide +kernel
theorem dX11_game_12 : decode cX11_game 12 = .ok (.iconst 3, 1) := by decide +kernel
theorem dX11_game_13 : decode cX11_game 13 = .ok (.if_icmp .le 6, 3) := by decide +kernel
theorem dX11_game_16 : decode cX11_game 16 = .ok (.bipush (-101), 2) := by decide +kernel
theorem dX11_game_18 : decode cX11_game 18 = .ok (.ireturn, 1) := by decide +kernel
theorem dX11_game_19 : decode cX11_game 19 = .ok (.aload_n 0, 1) := by decide +kernel
theorem dX11_game_20 : decode cX11_game 20 = .ok (.getfield 117, 3) := by decide +kernel
theorem dX11_game_23 : decode cX11_game 23 = .ok (.iload_n 1, 1) := by decide +kernel
theorem dX11_game_24 : decode cX11_game 24 = .ok (.iaload, 1) := by decide +kernel
theorem dX11_game_25 : decode cX11_game 25 = .ok (.istore_n 3, 1) := by decide +kernel
theorem dX11_game_26 : decode cX11_game 26 = .ok (.iload_n 3, 1) := by decide +kernel
theorem dX11_game_27 : decode cX11_game 27 = .ok (.iconst (-1), 1) := by decide +kernel
theorem dX11_game_28 : decode cX11_game 28 = .ok (.if_icmp .ne 6, 3) := by decide +kernel
theorem dX11_game_31 : decode cX11_game 31 = .ok (.bipush (-102), 2) := by decide +kernel
theorem dX11_game_33 : decode cX11_game 33 = .ok (.ireturn, 1) := by decide +kernel
theorem dX11_game_34 : decode cX11_game 34 = .ok (.aload_n 0, 1) := by decide +kernel
theorem dX11_game_35 : decode cX11_game 35 = .ok (.iload_n 1, 1) := by decide +kernel
theorem dX11_game_36 : decode cX11_game 36 = .ok (.iload_n 3, 1) := by decide +kernel
theorem dX11_game_37 : decode cX11_game 37 = .ok (.invokevirtual 321, 3) := by decide +kernel
theorem dX11_game_40 : decode cX11_game 40 = .ok (.astore 4, 2) := by decide +kernel
theorem dX11_game_42 : decode cX11_game 42 = .ok (.iload_n 2, 1) := by decide +kernel
theorem dX11_game_43 : decode cX11_game 43 = .ok (.tableswitch 64 0 2 #[25, 27, 36], 25) := by decide +kernel
theorem dX11_game_68 : decode cX11_game 68 = .ok (.iload_n 3, 1) := by decide +kernel
theorem dX11_game_69 : decode cX11_game 69 = .ok (.ireturn, 1) := by decide +kernel
theorem dX11_game_70 : decode cX11_game 70 = .ok (.aload_n 0, 1) := by decide +kernel
theorem dX11_game_71 : decode cX11_game 71 = .ok (.iload_n 1, 1) := by decide +kernel
theorem dX11_game_72 : decode cX11_game 72 = .ok (.aload 4, 2) := by decide +kernel
theorem dX11_game_74 : decode cX11_game 74 = .ok (.iconst (-1), 1) := by decide +kernel
theorem dX11_game_75 : decode cX11_game 75 = .ok (.invokevirtual 333, 3) := by decide +kernel
theorem dX11_game_78 : decode cX11_game 78 = .ok (.ireturn, 1) := by decide +kernel
theorem dX11_game_79 : decode cX11_game 79 = .ok (.aload 4, 2) := by decide +kernel
theorem dX11_game_81 : decode cX11_game 81 = .ok (.getfield 218, 3) := by decide +kernel
theorem dX11_game_84 : decode cX11_game 84 = .ok (.bipush 100, 2) := by decide +kernel
theorem dX11_game_86 : decode cX11_game 86 = .ok (.if_icmp .ge 15, 3) := by decide +kernel
theorem dX11_game_89 : decode cX11_game 89 = .ok (.aload_n 0, 1) := by decide +kernel
theorem dX11_game_90 : decode cX11_game 90 = .ok (.iload_n 1, 1) := by decide +kernel
theorem dX11_game_91 : decode cX11_game 91 = .ok (.aload 4, 2) := by decide +kernel
theorem dX11_game_93 : decode cX11_game 93 = .ok (.iconst (-1), 1) := by decide +kernel
theorem dX11_game_94 : decode cX11_game 94 = .ok (.invokevirtual 333, 3) := by decide +kernel
theorem dX11_game_97 : decode cX11_game 97 = .ok (.iconst 3, 1) := by decide +kernel
theorem dX11_game_98 : decode cX11_game 98 = .ok (.if_icmp .lt 7, 3) := by decide +kernel
theorem dX11_game_101 : decode cX11_game 101 = .ok (.iconst 1, 1) := by decide +kernel
theorem dX11_game_102 : decode cX11_game 102 = .ok (.goto 4, 3) := by decide +kernel
theorem dX11_game_105 : decode cX11_game 105 = .ok (.iconst 0, 1) := by decide +kernel
theorem dX11_game_106 : decode cX11_game 106 = .ok (.ireturn, 1) := by decide +kernel
theorem dX11_game_107 : decode cX11_game 107 = .ok (.aload_n 0, 1) := by decide +kernel
theorem dX11_game_108 : decode cX11_game 108 = .ok (.getfield 50, 3) := by decide +kernel
theorem dX11_game_111 : decode cX11_game 111 = .ok (.aload 4, 2) := by decide +kernel
theorem dX11_game_113 : decode cX11_game 113 = .ok (.invokevirtual 293, 3) := by decide +kernel
theorem dX11_game_116 : decode cX11_game 116 = .ok (.ireturn, 1) := by decide +kernel
def sX11_game_16 (F : Nat) (h : Hp) : Option (Int32 × Hp) := some ((-101 : Int32), h)
def sX11_game_116 (F : Nat) (h : Hp) (t0 : Int32) : Option (Int32 × Hp) := some (t0, h)
def sX11_game_78 (F : Nat) (h : Hp) (t0 : Int32) : Option (Int32 × Hp) := some (t0, h)
def sX11_game_106 (F : Nat) (h : Hp) (t0 : Int32) : Option (Int32 × Hp) := some (t0, h)
def sX11_game_101 (F : Nat) (h : Hp) : Option (Int32 × Hp) := sX11_game_106 F h (1 : Int32)
def sX11_game_97 (F : Nat) (h : Hp) (t0 : Int32) : Option (Int32 × Hp) := br (t0 < (3 : Int32)) (sX11_game_106 F h (0 : Int32)) (sX11_game_101 F h )
def sX11_game_40 (F : Nat) (h : Hp) (x0 : Nat) (x1 : Int32) (x2 : Int32) (x3 : Int32) (t0 : Nat) : Option (Int32 × Hp) := br (x2 = (0 : Int32)) (some (x3, h)) (br (x2 = (1 : Int32)) (cl (sX11_countAlike F h x0 x1 t0 (-1 : Int32)) fun o_2 => sX11_game_78 F o_2.2 o_2.1) (br (x2 = (2 : Int32)) (br ((100 : Int32) ≤ (hI h t0 6)) (sX11_game_101 F h ) (cl (sX11_countAlike F h x0 x1 t0 (-1 : Int32)) fun o_5 => sX11_game_97 F o_5.2 o_5.1)) (cl (hR h x0 6) fun r_7 => cl (sX5_endOf F h r_7 t0) fun o_8 => sX11_game_116 F o_8.2 o_8.1)))
def sX11_game_4 (F : Nat) (h : Hp) (x0 : Nat) (x1 : Int32) (x2 : Int32) (t0 : Int32) : Option (Int32 × Hp) := br (t0 = 0) (sX11_game_16 F h ) (br (x2 < 0) (sX11_game_16 F h ) (br (x2 ≤ (3 : Int32)) (cl (hR h x0 17) fun r_4 => gd (inB x1 (hN h r_4)) <| nm (hI h r_4 x1.toNatClampNeg) fun v_6 => br (v_6 = (-1 : Int32)) (some ((-102 : Int32), h)) (cl (sX11_page F h x0 x1 v_6) fun o_8 => sX11_game_40 F o_8.2 x0 x1 x2 v_6 o_8.1)) (sX11_game_16 F h )))
def sX11_game (F : Nat) (h : Hp) (x0 : Nat) (x1 : Int32) (x2 : Int32) : Option (Int32 × Hp) := cl (sX11_isGame h x1) fun o_1 => sX11_game_4 F o_1.2 x0 x1 x2 o_1.1
set_option maxRecDepth 20000 in
theorem moX11_game_16 {o : Int32 × Hp} {F : Nat} {h : Hp} (hE : sX11_game_16 F h  = some o) : Le h o.2 := by
  cases hE
  exact Le.rf _
set_option maxRecDepth 20000 in
theorem moX11_game_116 {o : Int32 × Hp} {F : Nat} {h : Hp} {t0 : Int32} (hE : sX11_game_116 F h  t0 = some o) : Le h o.2 := by
  cases hE
  exact Le.rf _
set_option maxRecDepth 20000 in
theorem moX11_game_78 {o : Int32 × Hp} {F : Nat} {h : Hp} {t0 : Int32} (hE : sX11_game_78 F h  t0 = some o) : Le h o.2 := by
  cases hE
  exact Le.rf _
set_option maxRecDepth 20000 in
theorem moX11_game_106 {o : Int32 × Hp} {F : Nat} {h : Hp} {t0 : Int32} (hE : sX11_game_106 F h  t0 = some o) : Le h o.2 := by
  cases hE
  exact Le.rf _
set_option maxRecDepth 20000 in
theorem moX11_game_101 {o : Int32 × Hp} {F : Nat} {h : Hp} (hE : sX11_game_101 F h  = some o) : Le h o.2 := by
  exact moX11_game_106 hE
set_option maxRecDepth 20000 in
theorem moX11_game_97 {o : Int32 × Hp} {F : Nat} {h : Hp} {t0 : Int32} (hE : sX11_game_97 F h  t0 = some o) : Le h o.2 := by
  rcases br_e hE with ⟨_, hE⟩ | ⟨_, hE⟩
  · exact moX11_game_106 hE
  · exact moX11_game_101 hE
set_option maxRecDepth 20000 in
theorem moX11_game_40 {o : Int32 × Hp} {F : Nat} {h : Hp} {x0 : Nat} {x1 : Int32} {x2 : Int32} {x3 : Int32} {t0 : Nat} (hE : sX11_game_40 F h x0 x1 x2 x3 t0 = some o) : Le h o.2 := by
  rcases br_e hE with ⟨_, hE⟩ | ⟨_, hE⟩
  · cases hE
    exact Le.rf _
  rcases br_e hE with ⟨_, hE⟩ | ⟨_, hE⟩
  · obtain ⟨o_2, eo_2, hE⟩ := cl_e hE
    refine (moX11_countAlike eo_2).tr ?_
    exact moX11_game_78 hE
  rcases br_e hE with ⟨_, hE⟩ | ⟨_, hE⟩
  · rcases br_e hE with ⟨_, hE⟩ | ⟨_, hE⟩
    · exact moX11_game_101 hE
    · obtain ⟨o_5, eo_5, hE⟩ := cl_e hE
      refine (moX11_countAlike eo_5).tr ?_
      exact moX11_game_97 hE
  obtain ⟨r_7, er_7, hE⟩ := cl_e hE
  obtain ⟨o_8, eo_8, hE⟩ := cl_e hE
  refine (moX5_endOf eo_8).tr ?_
  exact moX11_game_116 hE
set_option maxRecDepth 20000 in
theorem moX11_game_4 {o : Int32 × Hp} {F : Nat} {h : Hp} {x0 : Nat} {x1 : Int32} {x2 : Int32} {t0 : Int32} (hE : sX11_game_4 F h x0 x1 x2 t0 = some o) : Le h o.2 := by
  rcases br_e hE with ⟨_, hE⟩ | ⟨_, hE⟩
  · exact moX11_game_16 hE
  · rcases br_e hE with ⟨_, hE⟩ | ⟨_, hE⟩
    · exact moX11_game_16 hE
    · rcases br_e hE with ⟨_, hE⟩ | ⟨_, hE⟩
      · obtain ⟨r_4, er_4, hE⟩ := cl_e hE
        obtain ⟨g_5, hE⟩ := gd_e hE
        obtain ⟨v_6, ev_6, hE⟩ := nm_e2 hE
        rcases br_e hE with ⟨_, hE⟩ | ⟨_, hE⟩
        · cases hE
          exact Le.rf _
        · obtain ⟨o_8, eo_8, hE⟩ := cl_e hE
          refine (moX11_page eo_8).tr ?_
          exact moX11_game_40 hE
      · exact moX11_game_16 hE
set_option maxRecDepth 20000 in
theorem moX11_game {o : Int32 × Hp} {F : Nat} {h : Hp} {x0 : Nat} {x1 : Int32} {x2 : Int32} (hE : sX11_game F h x0 x1 x2 = some o) : Le h o.2 := by
  obtain ⟨o_1, eo_1, hE⟩ := cl_e hE
  refine (moX11_isGame eo_1).tr ?_
  exact moX11_game_4 hE
set_option maxRecDepth 20000 in
theorem bX11_game_16 {p : Program} {l : Launch} {e : Env} {s : State} {m : MethodId} {args : Array Value} {below : List Frame} {meth : Method} {c : Code} {X : Ec} {h0 : Hp} {o : Int32 × Hp} {F : Nat} (C : Cx X p s m args meth c RX11 cX11_game 5 (some .int) "game") {h : Hp} {H : Heap} {locs : List Loc} (hkl : Kl h0 h) (hW : Wx X h H) (hZ : va_S (aA (eB X)) s.heap H locs) (ls : Array Slot) (hl : lv_has ls 5 []) (hE : sX11_game_16 F h  = some o) : W p l e (rmA 7 211 h0 o.2) s m args below meth c H locs (hS h - hS h0) (hL h - hL h0) (MQ below (QIA X h0 o.1 o.2) args s (hS o.2 - hS h0) (hL o.2 - hL h0) (aA (eB X))) (F0 m 16 ls []) := by
  refine lv_bipush (v := (-101 : Int32)) C.1 C.2.1 dX11_game_16 (by decide) ?_
  exact x_iretA C rfl rfl hW hZ hkl hE dX11_game_18
set_option maxRecDepth 20000 in
theorem bX11_game_116 {p : Program} {l : Launch} {e : Env} {s : State} {m : MethodId} {args : Array Value} {below : List Frame} {meth : Method} {c : Code} {X : Ec} {h0 : Hp} {o : Int32 × Hp} {F : Nat} (C : Cx X p s m args meth c RX11 cX11_game 5 (some .int) "game") {h : Hp} {t0 : Int32} {H : Heap} {locs : List Loc} (hkl : Kl h0 h) (hW : Wx X h H) (hZ : va_S (aA (eB X)) s.heap H locs) (ls : Array Slot) (hl : lv_has ls 5 []) (hE : sX11_game_116 F h  t0 = some o) : W p l e (rmA 7 211 h0 o.2) s m args below meth c H locs (hS h - hS h0) (hL h - hL h0) (MQ below (QIA X h0 o.1 o.2) args s (hS o.2 - hS h0) (hL o.2 - hL h0) (aA (eB X))) (F0 m 116 ls [.int t0]) := by
  exact x_iretA C rfl rfl hW hZ hkl hE dX11_game_116
set_option maxRecDepth 20000 in
theorem bX11_game_78 {p : Program} {l : Launch} {e : Env} {s : State} {m : MethodId} {args : Array Value} {below : List Frame} {meth : Method} {c : Code} {X : Ec} {h0 : Hp} {o : Int32 × Hp} {F : Nat} (C : Cx X p s m args meth c RX11 cX11_game 5 (some .int) "game") {h : Hp} {t0 : Int32} {H : Heap} {locs : List Loc} (hkl : Kl h0 h) (hW : Wx X h H) (hZ : va_S (aA (eB X)) s.heap H locs) (ls : Array Slot) (hl : lv_has ls 5 []) (hE : sX11_game_78 F h  t0 = some o) : W p l e (rmA 7 211 h0 o.2) s m args below meth c H locs (hS h - hS h0) (hL h - hL h0) (MQ below (QIA X h0 o.1 o.2) args s (hS o.2 - hS h0) (hL o.2 - hL h0) (aA (eB X))) (F0 m 78 ls [.int t0]) := by
  exact x_iretA C rfl rfl hW hZ hkl hE dX11_game_78
set_option maxRecDepth 20000 in
theorem bX11_game_106 {p : Program} {l : Launch} {e : Env} {s : State} {m : MethodId} {args : Array Value} {below : List Frame} {meth : Method} {c : Code} {X : Ec} {h0 : Hp} {o : Int32 × Hp} {F : Nat} (C : Cx X p s m args meth c RX11 cX11_game 5 (some .int) "game") {h : Hp} {t0 : Int32} {H : Heap} {locs : List Loc} (hkl : Kl h0 h) (hW : Wx X h H) (hZ : va_S (aA (eB X)) s.heap H locs) (ls : Array Slot) (hl : lv_has ls 5 []) (hE : sX11_game_106 F h  t0 = some o) : W p l e (rmA 7 211 h0 o.2) s m args below meth c H locs (hS h - hS h0) (hL h - hL h0) (MQ below (QIA X h0 o.1 o.2) args s (hS o.2 - hS h0) (hL o.2 - hL h0) (aA (eB X))) (F0 m 106 ls [.int t0]) := by
  exact x_iretA C rfl rfl hW hZ hkl hE dX11_game_106
set_option maxRecDepth 20000 in
theorem bX11_game_101 {p : Program} {l : Launch} {e : Env} {s : State} {m : MethodId} {args : Array Value} {below : List Frame} {meth : Method} {c : Code} {X : Ec} {h0 : Hp} {o : Int32 × Hp} {F : Nat} (C : Cx X p s m args meth c RX11 cX11_game 5 (some .int) "game") {h : Hp} {H : Heap} {locs : List Loc} (hkl : Kl h0 h) (hW : Wx X h H) (hZ : va_S (aA (eB X)) s.heap H locs) (ls : Array Slot) (hl : lv_has ls 5 []) (hE : sX11_game_101 F h  = some o) : W p l e (rmA 7 211 h0 o.2) s m args below meth c H locs (hS h - hS h0) (hL h - hL h0) (MQ below (QIA X h0 o.1 o.2) args s (hS o.2 - hS h0) (hL o.2 - hL h0) (aA (eB X))) (F0 m 101 ls []) := by
  refine lv_iconst (v := (1 : Int32)) C.1 C.2.1 dX11_game_101 (by decide) ?_
  refine lv_goto (tgt := 106) C.1 C.2.1 dX11_game_102 (by decide) ?_
  exact bX11_game_106 C hkl hW hZ _ (lv_sub hl [] rfl) hE
set_option maxRecDepth 20000 in
theorem bX11_game_97 {p : Program} {l : Launch} {e : Env} {s : State} {m : MethodId} {args : Array Value} {below : List Frame} {meth : Method} {c : Code} {X : Ec} {h0 : Hp} {o : Int32 × Hp} {F : Nat} (C : Cx X p s m args meth c RX11 cX11_game 5 (some .int) "game") {h : Hp} {t0 : Int32} {H : Heap} {locs : List Loc} (hkl : Kl h0 h) (hW : Wx X h H) (hZ : va_S (aA (eB X)) s.heap H locs) (ls : Array Slot) (hl : lv_has ls 5 []) (hE : sX11_game_97 F h  t0 = some o) : W p l e (rmA 7 211 h0 o.2) s m args below meth c H locs (hS h - hS h0) (hL h - hL h0) (MQ below (QIA X h0 o.1 o.2) args s (hS o.2 - hS h0) (hL o.2 - hL h0) (aA (eB X))) (F0 m 97 ls [.int t0]) := by
  refine lv_iconst (v := (3 : Int32)) C.1 C.2.1 dX11_game_97 (by decide) ?_
  refine lv_icmp_lt (tgt := 105) C.1 C.2.1 dX11_game_98 (by decide) (fun c_1 => ?_) (fun c_1 => ?_)
  · have hE := br_p hE c_1
    refine lv_iconst (v := (0 : Int32)) C.1 C.2.1 dX11_game_105 (by decide) ?_
    exact bX11_game_106 C hkl hW hZ _ (lv_sub hl [] rfl) hE
  · have hE := br_n hE c_1
    exact bX11_game_101 C hkl hW hZ _ (lv_sub hl [] rfl) hE
set_option maxRecDepth 20000 in
theorem bX11_game_40 {p : Program} {l : Launch} {e : Env} {s : State} {m : MethodId} {args : Array Value} {below : List Frame} {meth : Method} {c : Code} {X : Ec} {h0 : Hp} {o : Int32 × Hp} {F : Nat} (C : Cx X p s m args meth c RX11 cX11_game 5 (some .int) "game") {h : Hp} {x0 : Nat} {x1 : Int32} {x2 : Int32} {x3 : Int32} {t0 : Nat} {H : Heap} {locs : List Loc} (k_x0 : hK h x0 = 11) (k_t0 : hK h t0 = 3) (hkl : Kl h0 h) (hW : Wx X h H) (hZ : va_S (aA (eB X)) s.heap H locs) (ls : Array Slot) (hl : lv_has ls 5 [(0, .ref x0), (1, .int x1), (2, .int x2), (3, .int x3)]) (hE : sX11_game_40 F h x0 x1 x2 x3 t0 = some o) : W p l e (rmA 7 211 h0 o.2) s m args below meth c H locs (hS h - hS h0) (hL h - hL h0) (MQ below (QIA X h0 o.1 o.2) args s (hS o.2 - hS h0) (hL o.2 - hL h0) (aA (eB X))) (F0 m 40 ls [.ref t0]) := by
  refine lv_astore (lv' := [(4, .ref t0), (0, .ref x0), (1, .int x1), (2, .int x2), (3, .int x3)]) C.1 C.2.1 dX11_game_40 hl (by decide) rfl (fun ls hl => ?_)
  refine lv_iload_n C.1 C.2.1 dX11_game_42 rfl (lv_at hl 3 rfl) ?_
  by_cases c_1 : x2 = (0 : Int32)
  · have hE := br_p hE c_1
    refine lv_tableIn (off := 25) (tgt := 68) C.1 C.2.1 dX11_game_43 (by rw [c_1]; decide) (by rw [c_1]; decide) (by rw [c_1]; rfl) (by decide) ?_
    refine lv_iload_n C.1 C.2.1 dX11_game_68 rfl (lv_at hl 4 rfl) ?_
    exact x_iretA C rfl rfl hW hZ hkl hE dX11_game_69
  have hE := br_n hE c_1
  by_cases c_3 : x2 = (1 : Int32)
  · have hE := br_p hE c_3
    refine lv_tableIn (off := 27) (tgt := 70) C.1 C.2.1 dX11_game_43 (by rw [c_3]; decide) (by rw [c_3]; decide) (by rw [c_3]; rfl) (by decide) ?_
    refine lv_aload_n C.1 C.2.1 dX11_game_70 rfl (lv_at hl 1 rfl) ?_
    refine lv_iload_n C.1 C.2.1 dX11_game_71 rfl (lv_at hl 2 rfl) ?_
    refine lv_aload C.1 C.2.1 dX11_game_72 (lv_at hl 0 rfl) ?_
    refine lv_iconst (v := (-1 : Int32)) C.1 C.2.1 dX11_game_74 (by decide) ?_
    obtain ⟨o_2, eo_2, hE⟩ := cl_e hE
    have m1 := moX11_countAlike eo_2
    have m2 := moX11_game_78 hE
    refine x_kIA (o := o_2) hkl (z_runV (As := [.int x1, .ref t0, .int (-1 : Int32)]) (rest := []) C (ct_X11_countAlike l X F k_x0 k_t0 eo_2) cw_X11_333 hW hZ k_x0 (by decide) rfl rfl rfl hl.1 (Nat.le_of_ble_eq_true rfl) rfl dX11_game_75 ⟨Nat.le_of_ble_eq_true rfl, Nat.le_of_ble_eq_true rfl⟩ (rm_ok hkl m1 m2)) hZ (fun _ _ hW km hZ => ?_)
    replace hkl := hkl.tr km
    replace k_t0 := km.at k_t0 (by decide)
    replace k_x0 := km.at k_x0 (by decide)
    exact bX11_game_78 C hkl hW hZ _ (lv_sub hl [] rfl) hE
  have hE := br_n hE c_3
  by_cases c_6 : x2 = (2 : Int32)
  · have hE := br_p hE c_6
    refine lv_tableIn (off := 36) (tgt := 79) C.1 C.2.1 dX11_game_43 (by rw [c_6]; decide) (by rw [c_6]; decide) (by rw [c_6]; rfl) (by decide) ?_
    refine lv_aload C.1 C.2.1 dX11_game_79 (lv_at hl 0 rfl) ?_
    refine gf_X11_218 C hW k_t0 dX11_game_81 ?_
    refine lv_bipush (v := (100 : Int32)) C.1 C.2.1 dX11_game_84 (by decide) ?_
    refine lv_icmp_ge (tgt := 101) C.1 C.2.1 dX11_game_86 (by decide) (fun c_4 => ?_) (fun c_4 => ?_)
    · have hE := br_p hE c_4
      exact bX11_game_101 C hkl hW hZ _ (lv_sub hl [] rfl) hE
    · have hE := br_n hE c_4
      refine lv_aload_n C.1 C.2.1 dX11_game_89 rfl (lv_at hl 1 rfl) ?_
      refine lv_iload_n C.1 C.2.1 dX11_game_90 rfl (lv_at hl 2 rfl) ?_
      refine lv_aload C.1 C.2.1 dX11_game_91 (lv_at hl 0 rfl) ?_
      refine lv_iconst (v := (-1 : Int32)) C.1 C.2.1 dX11_game_93 (by decide) ?_
      obtain ⟨o_5, eo_5, hE⟩ := cl_e hE
      have m1 := moX11_countAlike eo_5
      have m2 := moX11_game_97 hE
      refine x_kIA (o := o_5) hkl (z_runV (As := [.int x1, .ref t0, .int (-1 : Int32)]) (rest := []) C (ct_X11_countAlike l X F k_x0 k_t0 eo_5) cw_X11_333 hW hZ k_x0 (by decide) rfl rfl rfl hl.1 (Nat.le_of_ble_eq_true rfl) rfl dX11_game_94 ⟨Nat.le_of_ble_eq_true rfl, Nat.le_of_ble_eq_true rfl⟩ (rm_ok hkl m1 m2)) hZ (fun _ _ hW km hZ => ?_)
      replace hkl := hkl.tr km
      replace k_t0 := km.at k_t0 (by decide)
      replace k_x0 := km.at k_x0 (by decide)
      exact bX11_game_97 C hkl hW hZ _ (lv_sub hl [] rfl) hE
  have hE := br_n hE c_6
  refine lv_tableOut (tgt := 107) C.1 C.2.1 dX11_game_43 (by have zc_1 := lv_neT (a := 0) c_1 (by decide); have zc_3 := lv_neT (a := 1) c_3 (by decide); have zc_6 := lv_neT (a := 2) c_6 (by decide); omega) (by decide) ?_
  refine lv_aload_n C.1 C.2.1 dX11_game_107 rfl (lv_at hl 1 rfl) ?_
  obtain ⟨r_7, er_7, hE⟩ := cl_e hE
  refine gf_X11_50 C hW k_x0 er_7 dX11_game_108 (fun k_r_7 => ?_)
  refine lv_aload C.1 C.2.1 dX11_game_111 (lv_at hl 0 rfl) ?_
  obtain ⟨o_8, eo_8, hE⟩ := cl_e hE
  have m1 := moX5_endOf eo_8
  have m2 := moX11_game_116 hE
  refine x_kI (o := o_8) (z_runV (As := [.ref t0]) (rest := []) C (ct_X5_endOf l X F k_r_7 k_t0 eo_8) cw_X11_293 hW hZ k_r_7 (by decide) rfl rfl rfl hl.1 (Nat.le_of_ble_eq_true rfl) rfl dX11_game_113 ⟨Nat.le_of_ble_eq_true rfl, Nat.le_of_ble_eq_true rfl⟩ (rm_ok0 hkl m1 m2)) hZ (fun _ _ hW km hZ => ?_)
  replace hkl := hkl.tr km.l
  refine x_wc km ?_
  replace k_t0 := km.at k_t0 (by decide)
  replace k_x0 := km.at k_x0 (by decide)
  exact bX11_game_116 C hkl hW hZ _ (lv_sub hl [] rfl) hE
set_option maxRecDepth 20000 in
theorem bX11_game_4 {p : Program} {l : Launch} {e : Env} {s : State} {m : MethodId} {args : Array Value} {below : List Frame} {meth : Method} {c : Code} {X : Ec} {h0 : Hp} {o : Int32 × Hp} {F : Nat} (C : Cx X p s m args meth c RX11 cX11_game 5 (some .int) "game") {h : Hp} {x0 : Nat} {x1 : Int32} {x2 : Int32} {t0 : Int32} {H : Heap} {locs : List Loc} (k_x0 : hK h x0 = 11) (hkl : Kl h0 h) (hW : Wx X h H) (hZ : va_S (aA (eB X)) s.heap H locs) (ls : Array Slot) (hl : lv_has ls 5 [(0, .ref x0), (1, .int x1), (2, .int x2)]) (hE : sX11_game_4 F h x0 x1 x2 t0 = some o) : W p l e (rmA 7 211 h0 o.2) s m args below meth c H locs (hS h - hS h0) (hL h - hL h0) (MQ below (QIA X h0 o.1 o.2) args s (hS o.2 - hS h0) (hL o.2 - hL h0) (aA (eB X))) (F0 m 4 ls [.int t0]) := by
  refine lv_if_eq (tgt := 16) C.1 C.2.1 dX11_game_4 (by decide) (fun c_1 => ?_) (fun c_1 => ?_)
  · have hE := br_p hE c_1
    exact bX11_game_16 C hkl hW hZ _ (lv_sub hl [] rfl) hE
  · have hE := br_n hE c_1
    refine lv_iload_n C.1 C.2.1 dX11_game_7 rfl (lv_at hl 2 rfl) ?_
    refine lv_if_lt (tgt := 16) C.1 C.2.1 dX11_game_8 (by decide) (fun c_2 => ?_) (fun c_2 => ?_)
    · have hE := br_p hE c_2
      exact bX11_game_16 C hkl hW hZ _ (lv_sub hl [] rfl) hE
    · have hE := br_n hE c_2
      refine lv_iload_n C.1 C.2.1 dX11_game_11 rfl (lv_at hl 2 rfl) ?_
      refine lv_iconst (v := (3 : Int32)) C.1 C.2.1 dX11_game_12 (by decide) ?_
      refine lv_icmp_le (tgt := 19) C.1 C.2.1 dX11_game_13 (by decide) (fun c_3 => ?_) (fun c_3 => ?_)
      · have hE := br_p hE c_3
        refine lv_aload_n C.1 C.2.1 dX11_game_19 rfl (lv_at hl 0 rfl) ?_
        obtain ⟨r_4, er_4, hE⟩ := cl_e hE
        refine gf_X11_117 C hW k_x0 er_4 dX11_game_20 (fun k_r_4 => ?_)
        refine lv_iload_n C.1 C.2.1 dX11_game_23 rfl (lv_at hl 1 rfl) ?_
        obtain ⟨g_5, hE⟩ := gd_e hE
        refine y_iald C hW k_r_4 g_5 dX11_game_24 ?_
        obtain ⟨v_6, ev_6, hE⟩ := nm_e2 hE
        refine x_nmI ev_6 ?_
        refine lv_istore_n (lv' := [(3, .int v_6), (0, .ref x0), (1, .int x1), (2, .int x2)]) C.1 C.2.1 dX11_game_25 rfl hl (by decide) rfl (fun ls hl => ?_)
        refine lv_iload_n C.1 C.2.1 dX11_game_26 rfl (lv_at hl 0 rfl) ?_
        refine lv_iconst (v := (-1 : Int32)) C.1 C.2.1 dX11_game_27 (by decide) ?_
        refine lv_icmp_ne (tgt := 34) C.1 C.2.1 dX11_game_28 (by decide) (fun c_7 => ?_) (fun c_7 => ?_)
        · have hE := br_n hE c_7
          refine lv_aload_n C.1 C.2.1 dX11_game_34 rfl (lv_at hl 1 rfl) ?_
          refine lv_iload_n C.1 C.2.1 dX11_game_35 rfl (lv_at hl 2 rfl) ?_
          refine lv_iload_n C.1 C.2.1 dX11_game_36 rfl (lv_at hl 0 rfl) ?_
          obtain ⟨o_8, eo_8, hE⟩ := cl_e hE
          have m1 := moX11_page eo_8
          have m2 := moX11_game_40 hE
          refine x_kRA (o := o_8) hkl (z_runV (As := [.int x1, .int v_6]) (rest := []) C (ct_X11_page l X F k_x0 eo_8) cw_X11_321 hW hZ k_x0 (by decide) rfl rfl rfl hl.1 (Nat.le_of_ble_eq_true rfl) rfl dX11_game_37 ⟨Nat.le_of_ble_eq_true rfl, Nat.le_of_ble_eq_true rfl⟩ (rm_ok hkl m1 m2)) hZ (fun _ _ hW km k_o_8_1 hZ => ?_)
          replace hkl := hkl.tr km
          replace k_x0 := km.at k_x0 (by decide)
          exact bX11_game_40 C k_x0 k_o_8_1 hkl hW hZ _ (lv_sub hl [1, 2, 3, 0] rfl) hE
        · have hE := br_p hE c_7
          refine lv_bipush (v := (-102 : Int32)) C.1 C.2.1 dX11_game_31 (by decide) ?_
          exact x_iretA C rfl rfl hW hZ hkl hE dX11_game_33
      · have hE := br_n hE c_3
        exact bX11_game_16 C hkl hW hZ _ (lv_sub hl [] rfl) hE
set_option maxRecDepth 20000 in
theorem ct_X11_game (l : Launch) (X : Ec) (F : Nat) {h : Hp} {x0 : Nat} {x1 : Int32} {x2 : Int32} {o : Int32 × Hp} (k_x0 : hK h x0 = 11) (hE : sX11_game F h x0 x1 x2 = some o) : MetIA l yX11_game cX11_game 5 (some .int) 7 211 X [.ref x0, .int x1, .int x2] h o := by
  refine x_metA (oh := o.2) (by decide) (Nat.le_of_ble_eq_true rfl) ?_
  intro p e s m below meth c ls C hl hW hZ
  have hl : lv_has ls 5 [(0, .ref x0), (1, .int x1), (2, .int x2)] := hl
  have hkl : Kl h h := Kl.rf h
  refine lv_iload_n C.1 C.2.1 dX11_game_0 rfl (lv_at hl 1 rfl) ?_
  obtain ⟨o_1, eo_1, hE⟩ := cl_e hE
  have m1 := moX11_isGame eo_1
  have m2 := moX11_game_4 hE
  refine x_kI (o := o_1) (z_runS (As := [.int x1]) (rest := []) C (ct_X11_isGame l X eo_1) cw_X11_318 hW hZ rfl hl.1 (Nat.le_of_ble_eq_true rfl) rfl dX11_game_1 ⟨Nat.le_of_ble_eq_true rfl, Nat.le_of_ble_eq_true rfl⟩ (rm_ok0 hkl m1 m2)) hZ (fun _ _ hW km hZ => ?_)
  replace hkl := hkl.tr km.l
  refine x_wc km ?_
  replace k_x0 := km.at k_x0 (by decide)
  exact bX11_game_4 C k_x0 hkl hW hZ _ (lv_sub hl [0, 1, 2] rfl) hE
