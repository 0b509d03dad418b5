theorem dX6_standsOn_0 : decode cX6_standsOn 0 = .ok (.iload_n 2, 1) := by decide +kernel
theorem dX6_standsOn_1 : decode cX6_standsOn 1 = .ok (.iload_n 1, 1) := by decide +kernel
theorem dX6_standsOn_2 : decode cX6_standsOn 2 = .ok (.bipush 63, 2) := by decide +kernel
theorem dX6_standsOn_4 : decode cX6_standsOn 4 = .ok (.iand, 1) := by decide +kernel
theorem dX6_standsOn_5 : decode cX6_standsOn 5 = .ok (.if_icmp .ne 21, 3) := by decide +kernel
theorem dX6_standsOn_8 : decode cX6_standsOn 8 = .ok (.iconst 2, 1) := by decide +kernel
theorem dX6_standsOn_9 : decode cX6_standsOn 9 = .ok (.iload_n 1, 1) := by decide +kernel
theorem dX6_standsOn_10 : decode cX6_standsOn 10 = .ok (.bipush 12, 2) := by decide +kernel
theorem dX6_standsOn_12 : decode cX6_standsOn 12 = .ok (.ishr, 1) := by decide +kernel
theorem dX6_standsOn_13 : decode cX6_standsOn 13 = .ok (.bipush 15, 2) := by decide +kernel
theorem dX6_standsOn_15 : decode cX6_standsOn 15 = .ok (.iand, 1) := by decide +kernel
theorem dX6_standsOn_16 : decode cX6_standsOn 16 = .ok (.imul, 1) := by decide +kernel
theorem dX6_standsOn_17 : decode cX6_standsOn 17 = .ok (.aload_n 0, 1) := by decide +kernel
theorem dX6_standsOn_18 : decode cX6_standsOn 18 = .ok (.getfield 12, 3) := by decide +kernel
theorem dX6_standsOn_21 : decode cX6_standsOn 21 = .ok (.getfield 52, 3) := by decide +kernel
theorem dX6_standsOn_24 : decode cX6_standsOn 24 = .ok (.iadd, 1) := by decide +kernel
theorem dX6_standsOn_25 : decode cX6_standsOn 25 = .ok (.ireturn, 1) := by decide +kernel
theorem dX6_standsOn_26 : decode cX6_standsOn 26 = .ok (.iload_n 2, 1) := by decide +kernel
theorem dX6_standsOn_27 : decode cX6_standsOn 27 = .ok (.iload_n 1, 1) := by decide +kernel
theorem dX6_standsOn_28 : decode cX6_standsOn 28 = .ok (.bipush 6, 2) := by decide +kernel
theorem dX6_standsOn_30 : decode cX6_standsOn 30 = .ok (.ishr, 1) := by decide +kernel
theorem dX6_standsOn_31 : decode cX6_standsOn 31 = .ok (.bipush 63, 2) := by decide +kernel
theorem dX6_standsOn_33 : decode cX6_standsOn 33 = .ok (.iand, 1) := by decide +kernel
theorem dX6_standsOn_34 : decode cX6_standsOn 34 = .ok (.if_icmp .ne 11, 3) := by decide +kernel
theorem dX6_standsOn_37 : decode cX6_standsOn 37 = .ok (.aload_n 0, 1) := by decide +kernel
theorem dX6_standsOn_38 : decode cX6_standsOn 38 = .ok (.iload_n 1, 1) := by decide +kernel
theorem dX6_standsOn_39 : decode cX6_standsOn 39 = .ok (.invokevirtual 135, 3) := by decide +kernel
theorem dX6_standsOn_42 : decode cX6_standsOn 42 = .ok (.goto 12, 3) := by decide +kernel
theorem dX6_standsOn_45 : decode cX6_standsOn 45 = .ok (.aload_n 0, 1) := by decide +kernel
theorem dX6_standsOn_46 : decode cX6_standsOn 46 = .ok (.getfield 12, 3) := by decide +kernel
theorem dX6_standsOn_49 : decode cX6_standsOn 49 = .ok (.getfield 75, 3) := by decide +kernel
theorem dX6_standsOn_52 : decode cX6_standsOn 52 = .ok (.iload_n 2, 1) := by decide +kernel
theorem dX6_standsOn_53 : decode cX6_standsOn 53 = .ok (.baload, 1) := by decide +kernel
theorem dX6_standsOn_54 : decode cX6_standsOn 54 = .ok (.ireturn, 1) := by decide +kernel
def sX6_standsOn_54 (h : Hp) (t0 : Int32) : Option (Int32 × Hp) := some (t0, h)
def sX6_standsOn (h : Hp) (x0 : Nat) (x1 : Int32) (x2 : Int32) : Option (Int32 × Hp) := br (x2 = (x1 &&& (63 : Int32))) (cl (hR h x0 3) fun r_7 => some (((2 : Int32) * ((x1 >>> ((12 : Int32) &&& 31)) &&& (15 : Int32))) + (hI h r_7 5), h)) (br (x2 = ((x1 >>> ((6 : Int32) &&& 31)) &&& (63 : Int32))) (cl (sX6_takenIn h x0 x1) fun o_6 => sX6_standsOn_54  o_6.2 o_6.1) (cl (hR h x0 3) fun r_3 => cl (hR h r_3 0) fun r_4 => gd (inB x2 (hN h r_4)) <| sX6_standsOn_54  h (hI h r_4 x2.toNatClampNeg)))
set_option maxRecDepth 20000 in
theorem bX6_standsOn_54 {p : Program} {l : Launch} {e : Env} {s : State} {m : MethodId} {args : Array Value} {below : List Frame} {meth : Method} {c : Code} {X : Ec} {h0 : Hp} {o : Int32 × Hp} (C : Cx X p s m args meth c RX6 cX6_standsOn 3 (some .int) "standsOn") {h : Hp} {t0 : Int32} {H : Heap} {locs : List Loc} (hkm : Km h0 h) (hW : Wx X h H) (hZ : va_S (aA (eB X)) s.heap H locs) (ls : Array Slot) (hl : lv_has ls 3 []) (hE : sX6_standsOn_54 h  t0 = some o) : W p l e (rm 1 22) s m args below meth c H locs 0 0 (MQ below (QI X h0 o.1 o.2) args s 0 0 (aA (eB X))) (F0 m 54 ls [.int t0]) := by
  exact x_iret C rfl rfl hW hZ hkm hE dX6_standsOn_54
set_option maxRecDepth 20000 in
theorem ct_X6_standsOn (l : Launch) (X : Ec) {h : Hp} {x0 : Nat} {x1 : Int32} {x2 : Int32} {o : Int32 × Hp} (k_x0 : hK h x0 = 6) (hE : sX6_standsOn h x0 x1 x2 = some o) : MetI l yX6_standsOn cX6_standsOn 3 (some .int) 1 22 X [.ref x0, .int x1, .int x2] h o := by
  refine x_met (by decide) (Nat.le_of_ble_eq_true rfl) ?_
  intro p e s m below meth c ls C hl hW hZ
  have hl : lv_has ls 3 [(0, .ref x0), (1, .int x1), (2, .int x2)] := hl
  have hkm : Km h h := Km.rf h
  refine lv_iload_n C.1 C.2.1 dX6_standsOn_0 rfl (lv_at hl 2 rfl) ?_
  refine lv_iload_n C.1 C.2.1 dX6_standsOn_1 rfl (lv_at hl 1 rfl) ?_
  refine lv_bipush (v := (63 : Int32)) C.1 C.2.1 dX6_standsOn_2 (by decide) ?_
  refine lv_iand C.1 C.2.1 dX6_standsOn_4 ?_
  refine lv_icmp_ne (tgt := 26) C.1 C.2.1 dX6_standsOn_5 (by decide) (fun c_1 => ?_) (fun c_1 => ?_)
  · have hE := br_n hE c_1
    refine lv_iload_n C.1 C.2.1 dX6_standsOn_26 rfl (lv_at hl 2 rfl) ?_
    refine lv_iload_n C.1 C.2.1 dX6_standsOn_27 rfl (lv_at hl 1 rfl) ?_
    refine lv_bipush (v := (6 : Int32)) C.1 C.2.1 dX6_standsOn_28 (by decide) ?_
    refine lv_ishr C.1 C.2.1 dX6_standsOn_30 ?_
    refine lv_bipush (v := (63 : Int32)) C.1 C.2.1 dX6_standsOn_31 (by decide) ?_
    refine lv_iand C.1 C.2.1 dX6_standsOn_33 ?_
    refine lv_icmp_ne (tgt := 45) C.1 C.2.1 dX6_standsOn_34 (by decide) (fun c_2 => ?_) (fun c_2 => ?_)
    · have hE := br_n hE c_2
      refine lv_aload_n C.1 C.2.1 dX6_standsOn_45 rfl (lv_at hl 0 rfl) ?_
      obtain ⟨r_3, er_3, hE⟩ := cl_e hE
      refine gf_X6_12 C hW k_x0 er_3 dX6_standsOn_46 (fun k_r_3 => ?_)
      obtain ⟨r_4, er_4, hE⟩ := cl_e hE
      refine gf_X6_75 C hW k_r_3 er_4 dX6_standsOn_49 (fun k_r_4 => ?_)
      refine lv_iload_n C.1 C.2.1 dX6_standsOn_52 rfl (lv_at hl 2 rfl) ?_
      obtain ⟨g_5, hE⟩ := gd_e hE
      refine y_bald C hW k_r_4 g_5 dX6_standsOn_53 ?_
      exact bX6_standsOn_54 C hkm hW hZ _ (lv_sub hl [] rfl) hE
    · have hE := br_p hE c_2
      refine lv_aload_n C.1 C.2.1 dX6_standsOn_37 rfl (lv_at hl 0 rfl) ?_
      refine lv_iload_n C.1 C.2.1 dX6_standsOn_38 rfl (lv_at hl 1 rfl) ?_
      obtain ⟨o_6, eo_6, hE⟩ := cl_e hE
      refine x_kI (o := o_6) (z_runV (As := [.int x1]) (rest := []) C (ct_X6_takenIn l X k_x0 eo_6) cw_X6_135 hW hZ k_x0 (by decide) rfl rfl rfl hl.1 (Nat.le_of_ble_eq_true rfl) rfl dX6_standsOn_39 ⟨Nat.le_of_ble_eq_true rfl, Nat.le_of_ble_eq_true rfl⟩ ⟨Nat.le_refl _, Nat.le_refl _⟩) hZ (fun _ _ hW km hZ => ?_)
      replace hkm := hkm.tr km
      replace k_x0 := km.at k_x0 (by decide)
      refine lv_goto (tgt := 54) C.1 C.2.1 dX6_standsOn_42 (by decide) ?_
      exact bX6_standsOn_54 C hkm hW hZ _ (lv_sub hl [] rfl) hE
  · have hE := br_p hE c_1
    refine lv_iconst (v := (2 : Int32)) C.1 C.2.1 dX6_standsOn_8 (by decide) ?_
    refine lv_iload_n C.1 C.2.1 dX6_standsOn_9 rfl (lv_at hl 1 rfl) ?_
    refine lv_bipush (v := (12 : Int32)) C.1 C.2.1 dX6_standsOn_10 (by decide) ?_
    refine lv_ishr C.1 C.2.1 dX6_standsOn_12 ?_
    refine lv_bipush (v := (15 : Int32)) C.1 C.2.1 dX6_standsOn_13 (by decide) ?_
    refine lv_iand C.1 C.2.1 dX6_standsOn_15 ?_
    refine lv_imul C.1 C.2.1 dX6_standsOn_16 ?_
    refine lv_aload_n C.1 C.2.1 dX6_standsOn_17 rfl (lv_at hl 0 rfl) ?_
    obtain ⟨r_7, er_7, hE⟩ := cl_e hE
    refine gf_X6_12 C hW k_x0 er_7 dX6_standsOn_18 (fun k_r_7 => ?_)
    refine gf_X6_52 C hW k_r_7 dX6_standsOn_21 ?_
    refine lv_iadd C.1 C.2.1 dX6_standsOn_24 ?_
    exact x_iret C rfl rfl hW hZ hkm hE dX6_standsOn_25
theorem m_144 : Cond.fieldLink RX6 164 (TX1 20).1 (TX1 20).2.1 (TX1 20).2.2.1 ∈ W0 := w0_in (List.mem_append_right _ (List.mem_of_getElem? (i := 144) (by decide +kernel))) rfl
section
variable {p : Program} {l : Launch} {e : Env} {R : Room} {s : State} {m : MethodId} {args : Array Value} {below : List Frame} {meth : Method} {c : Code} {H : Heap} {locs : List Loc} {cells slots : Nat} {Q : State → Prop}
variable {cc : ByteArray} {pc : Nat} {ls : Array Slot} {rest : List Value} {X : Ec} {h h1 : Hp} {nL : Nat} {rt : Option FieldType} {mn : String}
theorem gf_X6_164 {a r : Nat} (C : Cx X p s m args meth c RX6 cc nL rt mn) (hW : Wx X h H) (ha : hK h a = 1) (hr : hR h a 20 = some r) (hdg : decode cc pc = .ok (.getfield 164, 3)) (kk : hK h r = 17 → W p l e R s m args below meth c H locs cells slots Q (F0 m (pc + 3) ls (.ref r :: rest))) : W p l e R s m args below meth c H locs cells slots Q (F0 m pc ls (.ref a :: rest)) :=
  y_getr C hW ha i_X1 (by decide) rfl (by decide) m_144 rfl rfl hr hdg kk
end
theorem dX6_isWrittenFirst_0 : decode cX6_isWrittenFirst 0 = .ok (.aload_n 0, 1) := by decide +kernel
theorem dX6_isWrittenFirst_1 : decode cX6_isWrittenFirst 1 = .ok (.getfield 25, 3) := by decide +kernel
theorem dX6_isWrittenFirst_4 : decode cX6_isWrittenFirst 4 = .ok (.getfield 164, 3) := by decide +kernel
theorem dX6_isWrittenFirst_7 : decode cX6_isWrittenFirst 7 = .ok (.iload_n 1, 1) := by decide +kernel
theorem dX6_isWrittenFirst_8 : decode cX6_isWrittenFirst 8 = .ok (.iaload, 1) := by decide +kernel
theorem dX6_isWrittenFirst_9 : decode cX6_isWrittenFirst 9 = .ok (.aload_n 0, 1) := by decide +kernel
theorem dX6_isWrittenFirst_10 : decode cX6_isWrittenFirst 10 = .ok (.getfield 25, 3) := by decide +kernel
theorem dX6_isWrittenFirst_13 : decode cX6_isWrittenFirst 13 = .ok (.getfield 164, 3) := by decide +kernel
theorem dX6_isWrittenFirst_16 : decode cX6_isWrittenFirst 16 = .ok (.iload_n 2, 1) := by decide +kernel
theorem dX6_isWrittenFirst_17 : decode cX6_isWrittenFirst 17 = .ok (.iaload, 1) := by decide +kernel
theorem dX6_isWrittenFirst_18 : decode cX6_isWrittenFirst 18 = .ok (.if_icmp .gt 29, 3) := by decide +kernel
theorem dX6_isWrittenFirst_21 : decode cX6_isWrittenFirst 21 = .ok (.aload_n 0, 1) := by decide +kernel
theorem dX6_isWrittenFirst_22 : decode cX6_isWrittenFirst 22 = .ok (.getfield 25, 3) := by decide +kernel
theorem dX6_isWrittenFirst_25 : decode cX6_isWrittenFirst 25 = .ok (.getfield 164, 3) := by decide +kernel
theorem dX6_isWrittenFirst_28 : decode cX6_isWrittenFirst 28 = .ok (.iload_n 1, 1) := by decide +kernel
theorem dX6_isWrittenFirst_29 : decode cX6_isWrittenFirst 29 = .ok (.iaload, 1) := by decide +kernel
theorem dX6_isWrittenFirst_30 : decode cX6_isWrittenFirst 30 = .ok (.aload_n 0, 1) := by decide +kernel
theorem dX6_isWrittenFirst_31 : decode cX6_isWrittenFirst 31 = .ok (.getfield 25, 3) := by decide +kernel
theorem dX6_isWrittenFirst_34 : decode cX6_isWrittenFirst 34 = .ok (.getfield 164, 3) := by decide +kernel
theorem dX6_isWrittenFirst_37 : decode cX6_isWrittenFirst 37 = .ok (.iload_n 2, 1) := by decide +kernel
theorem dX6_isWrittenFirst_38 : decode cX6_isWrittenFirst 38 = .ok (.iaload, 1) := by decide +kernel
theorem dX6_isWrittenFirst_39 : decode cX6_isWrittenFirst 39 = .ok (.if_icmp .ne 12, 3) := by decide +kernel
theorem dX6_isWrittenFirst_42 : decode cX6_isWrittenFirst 42 = .ok (.iload_n 1, 1) := by decide +kernel
theorem dX6_isWrittenFirst_43 : decode cX6_isWrittenFirst 43 = .ok (.iload_n 2, 1) := by decide +kernel
theorem dX6_isWrittenFirst_44 : decode cX6_isWrittenFirst 44 = .ok (.if_icmp .ge 7, 3) := by decide +kernel
theorem dX6_isWrittenFirst_47 : decode cX6_isWrittenFirst 47 = .ok (.iconst 1, 1) := by decide +kernel
theorem dX6_isWrittenFirst_48 : decode cX6_isWrittenFirst 48 = .ok (.goto 4, 3) := by decide +kernel
theorem dX6_isWrittenFirst_51 : decode cX6_isWrittenFirst 51 = .ok (.iconst 0, 1) := by decide +kernel
theorem dX6_isWrittenFirst_52 : decode cX6_isWrittenFirst 52 = .ok (.ireturn, 1) := by decide +kernel
def sX6_isWrittenFirst_52 (h : Hp) (t0 : Int32) : Option (Int32 × Hp) := gd (t0 &&& 1 = t0) <| some (t0, h)
def sX6_isWrittenFirst_47 (h : Hp) : Option (Int32 × Hp) := sX6_isWrittenFirst_52  h (1 : Int32)
def sX6_isWrittenFirst_51 (h : Hp) : Option (Int32 × Hp) := sX6_isWrittenFirst_52  h (0 : Int32)
def sX6_isWrittenFirst (h : Hp) (x0 : Nat) (x1 : Int32) (x2 : Int32) : Option (Int32 × Hp) := cl (hR h x0 0) fun r_1 => cl (hR h r_1 20) fun r_2 => gd (inB x1 (hN h r_2)) <| cl (hR h x0 0) fun r_4 => cl (hR h r_4 20) fun r_5 => gd (inB x2 (hN h r_5)) <| br ((hI h r_5 x2.toNatClampNeg) < (hI h r_2 x1.toNatClampNeg)) (sX6_isWrittenFirst_47  h ) (cl (hR h x0 0) fun r_8 => cl (hR h r_8 20) fun r_9 => gd (inB x1 (hN h r_9)) <| cl (hR h x0 0) fun r_11 => cl (hR h r_11 20) fun r_12 => gd (inB x2 (hN h r_12)) <| br ((hI h r_9 x1.toNatClampNeg) = (hI h r_12 x2.toNatClampNeg)) (br (x2 ≤ x1) (sX6_isWrittenFirst_51  h ) (sX6_isWrittenFirst_47  h )) (sX6_isWrittenFirst_51  h ))
set_option maxRecDepth 20000 in
theorem bX6_isWrittenFirst_52 {p : Program} {l : Launch} {e : Env} {s : State} {m : MethodId} {args : Array Value} {below : List Frame} {meth : Method} {c : Code} {X : Ec} {h0 : Hp} {o : Int32 × Hp} (C : Cx X p s m args meth c RX6 cX6_isWrittenFirst 3 (some .boolean) "isWrittenFirst") {h : Hp} {t0 : Int32} {H : Heap} {locs : List Loc} (hkm : Km h0 h) (hW : Wx X h H) (hZ : va_S (aA (eB X)) s.heap H locs) (ls : Array Slot) (hl : lv_has ls 3 []) (hE : sX6_isWrittenFirst_52 h  t0 = some o) : W p l e (rm 0 0) s m args below meth c H locs 0 0 (MQ below (QI X h0 o.1 o.2) args s 0 0 (aA (eB X))) (F0 m 52 ls [.int t0]) := by
  obtain ⟨g_1, hE⟩ := gd_e hE
  exact x_iret C rfl (narB g_1) hW hZ hkm hE dX6_isWrittenFirst_52
set_option maxRecDepth 20000 in
theorem bX6_isWrittenFirst_47 {p : Program} {l : Launch} {e : Env} {s : State} {m : MethodId} {args : Array Value} {below : List Frame} {meth : Method} {c : Code} {X : Ec} {h0 : Hp} {o : Int32 × Hp} (C : Cx X p s m args meth c RX6 cX6_isWrittenFirst 3 (some .boolean) "isWrittenFirst") {h : Hp} {H : Heap} {locs : List Loc} (hkm : Km h0 h) (hW : Wx X h H) (hZ : va_S (aA (eB X)) s.heap H locs) (ls : Array Slot) (hl : lv_has ls 3 []) (hE : sX6_isWrittenFirst_47 h  = some o) : W p l e (rm 0 0) s m args below meth c H locs 0 0 (MQ below (QI X h0 o.1 o.2) args s 0 0 (aA (eB X))) (F0 m 47 ls []) := by
  refine lv_iconst (v := (1 : Int32)) C.1 C.2.1 dX6_isWrittenFirst_47 (by decide) ?_
  refine lv_goto (tgt := 52) C.1 C.2.1 dX6_isWrittenFirst_48 (by decide) ?_
  exact bX6_isWrittenFirst_52 C hkm hW hZ _ (lv_sub hl [] rfl) hE
set_option maxRecDepth 20000 in
theorem bX6_isWrittenFirst_51 {p : Program} {l : Launch} {e : Env} {s : State} {m : MethodId} {args : Array Value} {below : List Frame} {meth : Method} {c : Code} {X : Ec} {h0 : Hp} {o : Int32 × Hp} (C : Cx X p s m args meth c RX6 cX6_isWrittenFirst 3 (some .boolean) "isWrittenFirst") {h : Hp} {H : Heap} {locs : List Loc} (hkm : Km h0 h) (hW : Wx X h H) (hZ : va_S (aA (eB X)) s.heap H locs) (ls : Array Slot) (hl : lv_has ls 3 []) (hE : sX6_isWrittenFirst_51 h  = some o) : W p l e (rm 0 0) s m args below meth c H locs 0 0 (MQ below (QI X h0 o.1 o.2) args s 0 0 (aA (eB X))) (F0 m 51 ls []) := by
  refine lv_iconst (v := (0 : Int32)) C.1 C.2.1 dX6_isWrittenFirst_51 (by decide) ?_
  exact bX6_isWrittenFirst_52 C hkm hW hZ _ (lv_sub hl [] rfl) hE
set_option maxRecDepth 20000 in
theorem ct_X6_isWrittenFirst (l : Launch) (X : Ec) {h : Hp} {x0 : Nat} {x1 : Int32} {x2 : Int32} {o : Int32 × Hp} (k_x0 : hK h x0 = 6) (hE : sX6_isWrittenFirst h x0 x1 x2 = some o) : MetI l yX6_isWrittenFirst cX6_isWrittenFirst 3 (some .boolean) 0 0 X [.ref x0, .int x1, .int x2] h o := by
  refine x_met (by decide) (Nat.le_of_ble_eq_true rfl) ?_
  intro p e s m below meth c ls C hl hW hZ
  have hl : lv_has ls 3 [(0, .ref x0), (1, .int x1), (2, .int x2)] := hl
  have hkm : Km h h := Km.rf h
  refine lv_aload_n C.1 C.2.1 dX6_isWrittenFirst_0 rfl (lv_at hl 0 rfl) ?_
  obtain ⟨r_1, er_1, hE⟩ := cl_e hE
  refine gf_X6_25 C hW k_x0 er_1 dX6_isWrittenFirst_1 (fun k_r_1 => ?_)
  obtain ⟨r_2, er_2, hE⟩ := cl_e hE
  refine gf_X6_164 C hW k_r_1 er_2 dX6_isWrittenFirst_4 (fun k_r_2 => ?_)
  refine lv_iload_n C.1 C.2.1 dX6_isWrittenFirst_7 rfl (lv_at hl 1 rfl) ?_
  obtain ⟨g_3, hE⟩ := gd_e hE
  refine y_iald C hW k_r_2 g_3 dX6_isWrittenFirst_8 ?_
  refine lv_aload_n C.1 C.2.1 dX6_isWrittenFirst_9 rfl (lv_at hl 0 rfl) ?_
  obtain ⟨r_4, er_4, hE⟩ := cl_e hE
  refine gf_X6_25 C hW k_x0 er_4 dX6_isWrittenFirst_10 (fun k_r_4 => ?_)
  obtain ⟨r_5, er_5, hE⟩ := cl_e hE
  refine gf_X6_164 C hW k_r_4 er_5 dX6_isWrittenFirst_13 (fun k_r_5 => ?_)
  refine lv_iload_n C.1 C.2.1 dX6_isWrittenFirst_16 rfl (lv_at hl 2 rfl) ?_
  obtain ⟨g_6, hE⟩ := gd_e hE
  refine y_iald C hW k_r_5 g_6 dX6_isWrittenFirst_17 ?_
  refine lv_icmp_gt (tgt := 47) C.1 C.2.1 dX6_isWrittenFirst_18 (by decide) (fun c_7 => ?_) (fun c_7 => ?_)
  · have hE := br_p hE c_7
    exact bX6_isWrittenFirst_47 C hkm hW hZ _ (lv_sub hl [] rfl) hE
  · have hE := br_n hE c_7
    refine lv_aload_n C.1 C.2.1 dX6_isWrittenFirst_21 rfl (lv_at hl 0 rfl) ?_
    obtain ⟨r_8, er_8, hE⟩ := cl_e hE
    refine gf_X6_25 C hW k_x0 er_8 dX6_isWrittenFirst_22 (fun k_r_8 => ?_)
    obtain ⟨r_9, er_9, hE⟩ := cl_e hE
    refine gf_X6_164 C hW k_r_8 er_9 dX6_isWrittenFirst_25 (fun k_r_9 => ?_)
    refine lv_iload_n C.1 C.2.1 dX6_isWrittenFirst_28 rfl (lv_at hl 1 rfl) ?_
    obtain ⟨g_10, hE⟩ := gd_e hE
    refine y_iald C hW k_r_9 g_10 dX6_isWrittenFirst_29 ?_
    refine lv_aload_n C.1 C.2.1 dX6_isWrittenFirst_30 rfl (lv_at hl 0 rfl) ?_
    obtain ⟨r_11, er_11, hE⟩ := cl_e hE
    refine gf_X6_25 C hW k_x0 er_11 dX6_isWrittenFirst_31 (fun k_r_11 => ?_)
    obtain ⟨r_12, er_12, hE⟩ := cl_e hE
    refine gf_X6_164 C hW k_r_11 er_12 dX6_isWrittenFirst_34 (fun k_r_12 => ?_)
    refine lv_iload_n C.1 C.2.1 dX6_isWrittenFirst_37 rfl (lv_at hl 2 rfl) ?_
    obtain ⟨g_13, hE⟩ := gd_e hE
    refine y_iald C hW k_r_12 g_13 dX6_isWrittenFirst_38 ?_
    refine lv_icmp_ne (tgt := 51) C.1 C.2.1 dX6_isWrittenFirst_39 (by decide) (fun c_14 => ?_) (fun c_14 => ?_)
    · have hE := br_n hE c_14
      exact bX6_isWrittenFirst_51 C hkm hW hZ _ (lv_sub hl [] rfl) hE
    · have hE := br_p hE c_14
      refine lv_iload_n C.1 C.2.1 dX6_isWrittenFirst_42 rfl (lv_at hl 1 rfl) ?_
      refine lv_iload_n C.1 C.2.1 dX6_isWrittenFirst_43 rfl (lv_at hl 2 rfl) ?_
      refine lv_icmp_ge (tgt := 51) C.1 C.2.1 dX6_isWrittenFirst_44 (by decide) (fun c_15 => ?_) (fun c_15 => ?_)
      · have hE := br_p hE c_15
        exact bX6_isWrittenFirst_51 C hkm hW hZ _ (lv_sub hl [] rfl) hE
      · have hE := br_n hE c_15
        exact bX6_isWrittenFirst_47 C hkm hW hZ _ (lv_sub hl [] rfl) hE
theorem ms_88 : Cond.selects RX6 yX6_isWrittenFirst yX6_isWrittenFirst ∈ W0 := w0_in (List.mem_append_left _ (List.mem_of_getElem? (i := 88) (by decide +kernel))) rfl
theorem ms_87 : Cond.selects RX6 yX6_standsOn yX6_standsOn ∈ W0 := w0_in (List.mem_append_left _ (List.mem_of_getElem? (i := 87) (by decide +kernel))) rfl
theorem m_138 : Cond.fieldLink RX6 161 (TX1 19).1 (TX1 19).2.1 (TX1 19).2.2.1 ∈ W0 := w0_in (List.mem_append_right _ (List.mem_of_getElem? (i := 138) (by decide +kernel))) rfl
theorem m_1587 : Cond.methodLink RX6 151 yX6_standsOn ∈ W0 := w0_in (List.mem_append_right _ (List.mem_of_getElem? (i := 1587) (by decide +kernel))) rfl
theorem m_1589 : Cond.instanceMethod yX6_standsOn ∈ W0 := w0_in (List.mem_append_right _ (List.mem_of_getElem? (i := 1589) (by decide +kernel))) rfl
theorem m_1590 : Cond.code yX6_standsOn cX6_standsOn 3 (some .int) ∈ W0 := w0_in (List.mem_append_right _ (List.mem_of_getElem? (i := 1590) (by decide +kernel))) rfl
theorem m_1591 : Cond.methodLink RX6 155 yX6_isWrittenFirst ∈ W0 := w0_in (List.mem_append_right _ (List.mem_of_getElem? (i := 1591) (by decide +kernel))) rfl
theorem m_1593 : Cond.instanceMethod yX6_isWrittenFirst ∈ W0 := w0_in (List.mem_append_right _ (List.mem_of_getElem? (i := 1593) (by decide +kernel))) rfl
theorem m_1594 : Cond.code yX6_isWrittenFirst cX6_isWrittenFirst 3 (some .boolean) ∈ W0 := w0_in (List.mem_append_right _ (List.mem_of_getElem? (i := 1594) (by decide +kernel))) rfl
theorem m_1595 : Cond.methodLink RX6 158 yX1_letterOf ∈ W0 := w0_in (List.mem_append_right _ (List.mem_of_getElem? (i := 1595) (by decide +kernel))) rfl
section
variable {p : Program} {l : Launch} {e : Env} {R : Room} {s : State} {m : MethodId} {args : Array Value} {below : List Frame} {meth : Method} {c : Code} {H : Heap} {locs : List Loc} {cells slots : Nat} {Q : State → Prop}
variable {cc : ByteArray} {pc : Nat} {ls : Array Slot} {rest : List Value} {X : Ec} {h h1 : Hp} {nL : Nat} {rt : Option FieldType} {mn : String}
theorem gf_X6_161 {a r : Nat} (C : Cx X p s m args meth c RX6 cc nL rt mn) (hW : Wx X h H) (ha : hK h a = 1) (hr : hR h a 19 = some r) (hdg : decode cc pc = .ok (.getfield 161, 3)) (kk : hK h r = 17 → W p l e R s m args below meth c H locs cells slots Q (F0 m (pc + 3) ls (.ref r :: rest))) : W p l e R s m args below meth c H locs cells slots Q (F0 m pc ls (.ref a :: rest)) :=
  y_getr C hW ha i_X1 (by decide) rfl (by decide) m_138 rfl rfl hr hdg kk
end
theorem cw_X6_151 : cwd RX6 151 yX6_standsOn cX6_standsOn 3 (some .int) false 2 := ⟨m_1590, m_1587, m_12, ⟨m_1589, ms_87⟩, by decide, by decide, by decide +kernel⟩
theorem cw_X6_155 : cwd RX6 155 yX6_isWrittenFirst cX6_isWrittenFirst 3 (some .boolean) false 2 := ⟨m_1594, m_1591, m_12, ⟨m_1593, ms_88⟩, by decide, by decide, by decide +kernel⟩
theorem cw_X6_158 : cwd RX6 158 yX1_letterOf cX1_letterOf 3 (some .int) false 1 := ⟨m_1127, m_1595, m_4, ⟨m_1125, m_1126⟩, by decide, by decide, by decide +kernel⟩
theorem dX6_comesFirst_0 : decode cX6_comesFirst 0 = .ok (.iconst (-1), 1) := by decide +kernel
theorem dX6_comesFirst_1 : decode cX6_comesFirst 1 = .ok (.istore_n 3, 1) := by decide +kernel
theorem dX6_comesFirst_2 : decode cX6_comesFirst 2 = .ok (.iconst 0, 1) := by decide +kernel
theorem dX6_comesFirst_3 : decode cX6_comesFirst 3 = .ok (.istore 4, 2) := by decide +kernel
theorem dX6_comesFirst_5 : decode cX6_comesFirst 5 = .ok (.iload 4, 2) := by decide +kernel
theorem dX6_comesFirst_7 : decode cX6_comesFirst 7 = .ok (.iconst 4, 1) := by decide +kernel
theorem dX6_comesFirst_8 : decode cX6_comesFirst 8 = .ok (.if_icmp .ge 80, 3) := by decide +kernel
theorem dX6_comesFirst_11 : decode cX6_comesFirst 11 = .ok (.iload 4, 2) := by decide +kernel
theorem dX6_comesFirst_13 : decode cX6_comesFirst 13 = .ok (.iconst 2, 1) := by decide +kernel
theorem dX6_comesFirst_14 : decode cX6_comesFirst 14 = .ok (.if_icmp .ge 7, 3) := by decide +kernel
theorem dX6_comesFirst_17 : decode cX6_comesFirst 17 = .ok (.iload_n 1, 1) := by decide +kernel
theorem dX6_comesFirst_18 : decode cX6_comesFirst 18 = .ok (.goto 4, 3) := by decide +kernel
theorem dX6_comesFirst_21 : decode cX6_comesFirst 21 = .ok (.iload_n 2, 1) := by decide +kernel
theorem dX6_comesFirst_22 : decode cX6_comesFirst 22 = .ok (.bipush 6, 2) := by decide +kernel
theorem dX6_comesFirst_24 : decode cX6_comesFirst 24 = .ok (.iload 4, 2) := by decide +kernel
theorem dX6_comesFirst_26 : decode cX6_comesFirst 26 = .ok (.iconst 1, 1) := by decide +kernel
theorem dX6_comesFirst_27 : decode cX6_comesFirst 27 = .ok (.iand, 1) := by decide +kernel
theorem dX6_comesFirst_28 : decode cX6_comesFirst 28 = .ok (.imul, 1) := by decide +kernel
theorem dX6_comesFirst_29 : decode cX6_comesFirst 29 = .ok (.ishr, 1) := by decide +kernel
theorem dX6_comesFirst_30 : decode cX6_comesFirst 30 = .ok (.bipush 63, 2) := by decide +kernel
theorem dX6_comesFirst_32 : decode cX6_comesFirst 32 = .ok (.iand, 1) := by decide +kernel
theorem dX6_comesFirst_33 : decode cX6_comesFirst 33 = .ok (.istore 5, 2) := by decide +kernel
theorem dX6_comesFirst_35 : decode cX6_comesFirst 35 = .ok (.aload_n 0, 1) := by decide +kernel
theorem dX6_comesFirst_36 : decode cX6_comesFirst 36 = .ok (.iload_n 1, 1) := by decide +kernel
theorem dX6_comesFirst_37 : decode cX6_comesFirst 37 = .ok (.iload 5, 2) := by decide +kernel
theorem dX6_comesFirst_39 : decode cX6_comesFirst 39 = .ok (.invokevirtual 151, 3) := by decide +kernel
theorem dX6_comesFirst_42 : decode cX6_comesFirst 42 = .ok (.aload_n 0, 1) := by decide +kernel
theorem dX6_comesFirst_43 : decode cX6_comesFirst 43 = .ok (.iload_n 2, 1) := by decide +kernel
theorem dX6_comesFirst_44 : decode cX6_comesFirst 44 = .ok (.iload 5, 2) := by decide +kernel
theorem dX6_comesFirst_46 : decode cX6_comesFirst 46 = .ok (.invokevirtual 151, 3) := by decide +kernel
theorem dX6_comesFirst_49 : decode cX6_comesFirst 49 = .ok (.if_icmp .eq 7, 3) := by decide +kernel
theorem dX6_comesFirst_52 : decode cX6_comesFirst 52 = .ok (.iconst 1, 1) := by decide +kernel
theorem dX6_comesFirst_53 : decode cX6_comesFirst 53 = .ok (.goto 4, 3) := by decide +kernel
theorem dX6_comesFirst_56 : decode cX6_comesFirst 56 = .ok (.iconst 0, 1) := by decide +kernel
theorem dX6_comesFirst_57 : decode cX6_comesFirst 57 = .ok (.istore 6, 2) := by decide +kernel
theorem dX6_comesFirst_59 : decode cX6_comesFirst 59 = .ok (.iload 6, 2) := by decide +kernel
theorem dX6_comesFirst_61 : decode cX6_comesFirst 61 = .ok (.ifCond .eq 21, 3) := by decide +kernel
theorem dX6_comesFirst_64 : decode cX6_comesFirst 64 = .ok (.iload_n 3, 1) := by decide +kernel
theorem dX6_comesFirst_65 : decode cX6_comesFirst 65 = .ok (.iconst (-1), 1) := by decide +kernel
theorem dX6_comesFirst_66 : decode cX6_comesFirst 66 = .ok (.if_icmp .eq 13, 3) := by decide +kernel
theorem dX6_comesFirst_69 : decode cX6_comesFirst 69 = .ok (.aload_n 0, 1) := by decide +kernel
theorem dX6_comesFirst_70 : decode cX6_comesFirst 70 = .ok (.iload 5, 2) := by decide +kernel
theorem dX6_comesFirst_72 : decode cX6_comesFirst 72 = .ok (.iload_n 3, 1) := by decide +kernel
theorem dX6_comesFirst_73 : decode cX6_comesFirst 73 = .ok (.invokevirtual 155, 3) := by decide +kernel
theorem dX6_comesFirst_76 : decode cX6_comesFirst 76 = .ok (.ifCond .eq 6, 3) := by decide +kernel
theorem dX6_comesFirst_79 : decode cX6_comesFirst 79 = .ok (.iload 5, 2) := by decide +kernel
theorem dX6_comesFirst_81 : decode cX6_comesFirst 81 = .ok (.istore_n 3, 1) := by decide +kernel
theorem dX6_comesFirst_82 : decode cX6_comesFirst 82 = .ok (.iinc 4 1, 3) := by decide +kernel
theorem dX6_comesFirst_85 : decode cX6_comesFirst 85 = .ok (.goto (-80), 3) := by decide +kernel
theorem dX6_comesFirst_88 : decode cX6_comesFirst 88 = .ok (.iload_n 3, 1) := by decide +kernel
theorem dX6_comesFirst_89 : decode cX6_comesFirst 89 = .ok (.iconst (-1), 1) := by decide +kernel
theorem dX6_comesFirst_90 : decode cX6_comesFirst 90 = .ok (.if_icmp .ne 5, 3) := by decide +kernel
theorem dX6_comesFirst_93 : decode cX6_comesFirst 93 = .ok (.iconst 0, 1) := by decide +kernel
theorem dX6_comesFirst_94 : decode cX6_comesFirst 94 = .ok (.ireturn, 1) := by decide +kernel
theorem dX6_comesFirst_95 : decode cX6_comesFirst 95 = .ok (.aload_n 0, 1) := by decide +kernel
theorem dX6_comesFirst_96 : decode cX6_comesFirst 96 = .ok (.iload_n 1, 1) := by decide +kernel
theorem dX6_comesFirst_97 : decode cX6_comesFirst 97 = .ok (.iload_n 3, 1) := by decide +kernel
theorem dX6_comesFirst_98 : decode cX6_comesFirst 98 = .ok (.invokevirtual 151, 3) := by decide +kernel
theorem dX6_comesFirst_101 : decode cX6_comesFirst 101 = .ok (.istore 4, 2) := by decide +kernel
theorem dX6_comesFirst_103 : decode cX6_comesFirst 103 = .ok (.aload_n 0, 1) := by decide +kernel
theorem dX6_comesFirst_104 : decode cX6_comesFirst 104 = .ok (.iload_n 2, 1) := by decide +kernel
theorem dX6_comesFirst_105 : decode cX6_comesFirst 105 = .ok (.iload_n 3, 1) := by decide +kernel
theorem dX6_comesFirst_106 : decode cX6_comesFirst 106 = .ok (.invokevirtual 151, 3) := by decide +kernel
theorem dX6_comesFirst_109 : decode cX6_comesFirst 109 = .ok (.istore 5, 2) := by decide +kernel
theorem dX6_comesFirst_111 : decode cX6_comesFirst 111 = .ok (.iload 4, 2) := by decide +kernel
theorem dX6_comesFirst_113 : decode cX6_comesFirst 113 = .ok (.iconst (-1), 1) := by decide +kernel
theorem dX6_comesFirst_114 : decode cX6_comesFirst 114 = .ok (.if_icmp .eq 36, 3) := by decide +kernel
theorem dX6_comesFirst_117 : decode cX6_comesFirst 117 = .ok (.iload 5, 2) := by decide +kernel
theorem dX6_comesFirst_119 : decode cX6_comesFirst 119 = .ok (.iconst (-1), 1) := by decide +kernel
theorem dX6_comesFirst_120 : decode cX6_comesFirst 120 = .ok (.if_icmp .eq 30, 3) := by decide +kernel
theorem dX6_comesFirst_123 : decode cX6_comesFirst 123 = .ok (.aload_n 0, 1) := by decide +kernel
theorem dX6_comesFirst_124 : decode cX6_comesFirst 124 = .ok (.getfield 25, 3) := by decide +kernel
theorem dX6_comesFirst_127 : decode cX6_comesFirst 127 = .ok (.iload 4, 2) := by decide +kernel
theorem dX6_comesFirst_129 : decode cX6_comesFirst 129 = .ok (.invokevirtual 158, 3) := by decide +kernel
theorem dX6_comesFirst_132 : decode cX6_comesFirst 132 = .ok (.aload_n 0, 1) := by decide +kernel
theorem dX6_comesFirst_133 : decode cX6_comesFirst 133 = .ok (.getfield 25, 3) := by decide +kernel
theorem dX6_comesFirst_136 : decode cX6_comesFirst 136 = .ok (.iload 5, 2) := by decide +kernel
theorem dX6_comesFirst_138 : decode cX6_comesFirst 138 = .ok (.invokevirtual 158, 3) := by decide +kernel
theorem dX6_comesFirst_141 : decode cX6_comesFirst 141 = .ok (.if_icmp .ge 7, 3) := by decide +kernel
theorem dX6_comesFirst_144 : decode cX6_comesFirst 144 = .ok (.iconst 1, 1) := by decide +kernel
theorem dX6_comesFirst_145 : decode cX6_comesFirst 145 = .ok (.goto 4, 3) := by decide +kernel
theorem dX6_comesFirst_148 : decode cX6_comesFirst 148 = .ok (.iconst 0, 1) := by decide +kernel
theorem dX6_comesFirst_149 : decode cX6_comesFirst 149 = .ok (.ireturn, 1) := by decide +kernel
theorem dX6_comesFirst_150 : decode cX6_comesFirst 150 = .ok (.aload_n 0, 1) := by decide +kernel
theorem dX6_comesFirst_151 : decode cX6_comesFirst 151 = .ok (.getfield 25, 3) := by decide +kernel
theorem dX6_comesFirst_154 : decode cX6_comesFirst 154 = .ok (.getfield 161, 3) := by decide +kernel
theorem dX6_comesFirst_157 : decode cX6_comesFirst 157 = .ok (.iload_n 3, 1) := by decide +kernel
theorem dX6_comesFirst_158 : decode cX6_comesFirst 158 = .ok (.iaload, 1) := by decide +kernel
theorem dX6_comesFirst_159 : decode cX6_comesFirst 159 = .ok (.ifCond .le 19, 3) := by decide +kernel
theorem dX6_comesFirst_162 : decode cX6_comesFirst 162 = .ok (.aload_n 0, 1) := by decide +kernel
theorem dX6_comesFirst_163 : decode cX6_comesFirst 163 = .ok (.iload_n 1, 1) := by decide +kernel
theorem dX6_comesFirst_164 : decode cX6_comesFirst 164 = .ok (.iload_n 3, 1) := by decide +kernel
theorem dX6_comesFirst_165 : decode cX6_comesFirst 165 = .ok (.iconst 1, 1) := by decide +kernel
theorem dX6_comesFirst_166 : decode cX6_comesFirst 166 = .ok (.isub, 1) := by decide +kernel
theorem dX6_comesFirst_167 : decode cX6_comesFirst 167 = .ok (.invokevirtual 151, 3) := by decide +kernel
theorem dX6_comesFirst_170 : decode cX6_comesFirst 170 = .ok (.iconst (-1), 1) := by decide +kernel
theorem dX6_comesFirst_171 : decode cX6_comesFirst 171 = .ok (.if_icmp .ne 7, 3) := by decide +kernel
theorem dX6_comesFirst_174 : decode cX6_comesFirst 174 = .ok (.iconst 1, 1) := by decide +kernel
theorem dX6_comesFirst_175 : decode cX6_comesFirst 175 = .ok (.goto 4, 3) := by decide +kernel
theorem dX6_comesFirst_178 : decode cX6_comesFirst 178 = .ok (.iconst 0, 1) := by decide +kernel
theorem dX6_comesFirst_179 : decode cX6_comesFirst 179 = .ok (.istore 6, 2) := by decide +kernel
theorem dX6_comesFirst_181 : decode cX6_comesFirst 181 = .ok (.iload 4, 2) := by decide +kernel
theorem dX6_comesFirst_183 : decode cX6_comesFirst 183 = .ok (.iconst (-1), 1) := by decide +kernel
theorem dX6_comesFirst_184 : decode cX6_comesFirst 184 = .ok (.if_icmp .ne 7, 3) := by decide +kernel
theorem dX6_comesFirst_187 : decode cX6_comesFirst 187 = .ok (.iconst 1, 1) := by decide +kernel
theorem dX6_comesFirst_188 : decode cX6_comesFirst 188 = .ok (.goto 4, 3) := by decide +kernel
theorem dX6_comesFirst_191 : decode cX6_comesFirst 191 = .ok (.iconst 0, 1) := by decide +kernel
theorem dX6_comesFirst_192 : decode cX6_comesFirst 192 = .ok (.iload 6, 2) := by decide +kernel
theorem dX6_comesFirst_194 : decode cX6_comesFirst 194 = .ok (.if_icmp .eq 7, 3) := by decide +kernel
theorem dX6_comesFirst_197 : decode cX6_comesFirst 197 = .ok (.iconst 1, 1) := by decide +kernel
theorem dX6_comesFirst_198 : decode cX6_comesFirst 198 = .ok (.goto 4, 3) := by decide +kernel
theorem dX6_comesFirst_201 : decode cX6_comesFirst 201 = .ok (.iconst 0, 1) := by decide +kernel
theorem dX6_comesFirst_202 : decode cX6_comesFirst 202 = .ok (.ireturn, 1) := by decide +kernel
def sX6_comesFirst_202 (F : Nat) (h : Hp) (t0 : Int32) : Option (Int32 × Hp) := gd (t0 &&& 1 = t0) <| some (t0, h)
def sX6_comesFirst_192 (F : Nat) (h : Hp) (x6 : Int32) (t0 : Int32) : Option (Int32 × Hp) := br (t0 = x6) (sX6_comesFirst_202 F h (0 : Int32)) (sX6_comesFirst_202 F h (1 : Int32))
def sX6_comesFirst_179 (F : Nat) (h : Hp) (x4 : Int32) (t0 : Int32) : Option (Int32 × Hp) := br (x4 = (-1 : Int32)) (sX6_comesFirst_192 F h t0 (1 : Int32)) (sX6_comesFirst_192 F h t0 (0 : Int32))
def sX6_comesFirst_178 (F : Nat) (h : Hp) (x4 : Int32) : Option (Int32 × Hp) := sX6_comesFirst_179 F h x4 (0 : Int32)
def sX6_comesFirst_150 (F : Nat) (h : Hp) (x0 : Nat) (x1 : Int32) (x3 : Int32) (x4 : Int32) : Option (Int32 × Hp) := cl (hR h x0 0) fun r_1 => cl (hR h r_1 19) fun r_2 => gd (inB x3 (hN h r_2)) <| br ((hI h r_2 x3.toNatClampNeg) ≤ 0) (sX6_comesFirst_178 F h x4) (cl (sX6_standsOn h x0 x1 (x3 - (1 : Int32))) fun o_5 => br (o_5.1 = (-1 : Int32)) (sX6_comesFirst_179 F o_5.2 x4 (1 : Int32)) (sX6_comesFirst_178 F o_5.2 x4))
def sX6_comesFirst_149 (F : Nat) (h : Hp) (t0 : Int32) : Option (Int32 × Hp) := gd (t0 &&& 1 = t0) <| some (t0, h)
def sX6_comesFirst_82 (F : Nat) (k_5 : Hp → Nat → Int32 → Int32 → Int32 → Int32 → Option (Int32 × Hp)) (h : Hp) (x0 : Nat) (x1 : Int32) (x2 : Int32) (x3 : Int32) (x4 : Int32) : Option (Int32 × Hp) := nm (x4 + (1 : Int32)) fun v_1 => k_5 h x0 x1 x2 x3 v_1
def sX6_comesFirst_79 (F : Nat) (k_5 : Hp → Nat → Int32 → Int32 → Int32 → Int32 → Option (Int32 × Hp)) (h : Hp) (x0 : Nat) (x1 : Int32) (x2 : Int32) (x4 : Int32) (x5 : Int32) : Option (Int32 × Hp) := sX6_comesFirst_82 F k_5 h x0 x1 x2 x5 x4
def sX6_comesFirst_57 (F : Nat) (k_5 : Hp → Nat → Int32 → Int32 → Int32 → Int32 → Option (Int32 × Hp)) (h : Hp) (x0 : Nat) (x1 : Int32) (x2 : Int32) (x3 : Int32) (x4 : Int32) (x5 : Int32) (t0 : Int32) : Option (Int32 × Hp) := br (t0 = 0) (sX6_comesFirst_82 F k_5 h x0 x1 x2 x3 x4) (br (x3 = (-1 : Int32)) (sX6_comesFirst_79 F k_5 h x0 x1 x2 x4 x5) (cl (sX6_isWrittenFirst h x0 x5 x3) fun o_3 => br (o_3.1 = 0) (sX6_comesFirst_82 F k_5 o_3.2 x0 x1 x2 x3 x4) (sX6_comesFirst_79 F k_5 o_3.2 x0 x1 x2 x4 x5)))
def sX6_comesFirst_22 (F : Nat) (k_5 : Hp → Nat → Int32 → Int32 → Int32 → Int32 → Option (Int32 × Hp)) (h : Hp) (x0 : Nat) (x1 : Int32) (x2 : Int32) (x3 : Int32) (x4 : Int32) (t0 : Int32) : Option (Int32 × Hp) := nm ((t0 >>> (((6 : Int32) * (x4 &&& (1 : Int32))) &&& 31)) &&& (63 : Int32)) fun v_1 => cl (sX6_standsOn h x0 x1 v_1) fun o_2 => cl (sX6_standsOn o_2.2 x0 x2 v_1) fun o_3 => br (o_2.1 = o_3.1) (sX6_comesFirst_57 F k_5 o_3.2 x0 x1 x2 x3 x4 v_1 (0 : Int32)) (sX6_comesFirst_57 F k_5 o_3.2 x0 x1 x2 x3 x4 v_1 (1 : Int32))
def sX6_comesFirst_5 (F : Nat) : Nat → Hp → Nat → Int32 → Int32 → Int32 → Int32 → Option (Int32 × Hp)
  | 0, _, _, _, _, _, _ => none
  | f + 1, h, x0, x1, x2, x3, x4 => br ((4 : Int32) ≤ x4) (br (x3 = (-1 : Int32)) (some ((0 : Int32), h)) (cl (sX6_standsOn h x0 x1 x3) fun o_3 => cl (sX6_standsOn o_3.2 x0 x2 x3) fun o_4 => br (o_3.1 = (-1 : Int32)) (sX6_comesFirst_150 F o_4.2 x0 x1 x3 o_3.1) (br (o_4.1 = (-1 : Int32)) (sX6_comesFirst_150 F o_4.2 x0 x1 x3 o_3.1) (cl (hR o_4.2 x0 0) fun r_7 => cl (sX1_letterOf o_4.2 r_7 o_3.1) fun o_8 => cl (hR o_8.2 x0 0) fun r_9 => cl (sX1_letterOf o_8.2 r_9 o_4.1) fun o_10 => br (o_10.1 ≤ o_8.1) (sX6_comesFirst_149 F o_10.2 (0 : Int32)) (sX6_comesFirst_149 F o_10.2 (1 : Int32)))))) (br ((2 : Int32) ≤ x4) (sX6_comesFirst_22 F (sX6_comesFirst_5 F f) h x0 x1 x2 x3 x4 x2) (sX6_comesFirst_22 F (sX6_comesFirst_5 F f) h x0 x1 x2 x3 x4 x1))
def sX6_comesFirst (F : Nat) (h : Hp) (x0 : Nat) (x1 : Int32) (x2 : Int32) : Option (Int32 × Hp) := sX6_comesFirst_5 F F h x0 x1 x2 (-1 : Int32) (0 : Int32)
set_option maxRecDepth 20000 in
theorem bX6_comesFirst_202 {p : Program} {l : Launch} {e : Env} {s : State} {m : MethodId} {args : Array Value} {below : List Frame} {meth : Method} {c : Code} {X : Ec} {h0 : Hp} {o : Int32 × Hp} {F : Nat} (C : Cx X p s m args meth c RX6 cX6_comesFirst 7 (some .boolean) "comesFirst") {h : Hp} {t0 : Int32} {H : Heap} {locs : List Loc} (hkm : Km h0 h) (hW : Wx X h H) (hZ : va_S (aA (eB X)) s.heap H locs) (ls : Array Slot) (hl : lv_has ls 7 []) (hE : sX6_comesFirst_202 F h  t0 = some o) : W p l e (rm 2 44) s m args below meth c H locs 0 0 (MQ below (QI X h0 o.1 o.2) args s 0 0 (aA (eB X))) (F0 m 202 ls [.int t0]) := by
  obtain ⟨g_1, hE⟩ := gd_e hE
  exact x_iret C rfl (narB g_1) hW hZ hkm hE dX6_comesFirst_202
set_option maxRecDepth 20000 in
theorem bX6_comesFirst_192 {p : Program} {l : Launch} {e : Env} {s : State} {m : MethodId} {args : Array Value} {below : List Frame} {meth : Method} {c : Code} {X : Ec} {h0 : Hp} {o : Int32 × Hp} {F : Nat} (C : Cx X p s m args meth c RX6 cX6_comesFirst 7 (some .boolean) "comesFirst") {h : Hp} {x6 : Int32} {t0 : Int32} {H : Heap} {locs : List Loc} (hkm : Km h0 h) (hW : Wx X h H) (hZ : va_S (aA (eB X)) s.heap H locs) (ls : Array Slot) (hl : lv_has ls 7 [(6, .int x6)]) (hE : sX6_comesFirst_192 F h x6 t0 = some o) : W p l e (rm 2 44) s m args below meth c H locs 0 0 (MQ below (QI X h0 o.1 o.2) args s 0 0 (aA (eB X))) (F0 m 192 ls [.int t0]) := by
  refine lv_iload C.1 C.2.1 dX6_comesFirst_192 (lv_at hl 0 rfl) ?_
  refine lv_icmp_eq (tgt := 201) C.1 C.2.1 dX6_comesFirst_194 (by decide) (fun c_1 => ?_) (fun c_1 => ?_)
  · have hE := br_p hE c_1
    refine lv_iconst (v := (0 : Int32)) C.1 C.2.1 dX6_comesFirst_201 (by decide) ?_
    exact bX6_comesFirst_202 C hkm hW hZ _ (lv_sub hl [] rfl) hE
  · have hE := br_n hE c_1
    refine lv_iconst (v := (1 : Int32)) C.1 C.2.1 dX6_comesFirst_197 (by decide) ?_
    refine lv_goto (tgt := 202) C.1 C.2.1 dX6_comesFirst_198 (by decide) ?_
    exact bX6_comesFirst_202 C hkm hW hZ _ (lv_sub hl [] rfl) hE
set_option maxRecDepth 20000 in
theorem bX6_comesFirst_179 {p : Program} {l : Launch} {e : Env} {s : State} {m : MethodId} {args : Array Value} {below : List Frame} {meth : Method} {c : Code} {X : Ec} {h0 : Hp} {o : Int32 × Hp} {F : Nat} (C : Cx X p s m args meth c RX6 cX6_comesFirst 7 (some .boolean) "comesFirst") {h : Hp} {x4 : Int32} {t0 : Int32} {H : Heap} {locs : List Loc} (hkm : Km h0 h) (hW : Wx X h H) (hZ : va_S (aA (eB X)) s.heap H locs) (ls : Array Slot) (hl : lv_has ls 7 [(4, .int x4)]) (hE : sX6_comesFirst_179 F h x4 t0 = some o) : W p l e (rm 2 44) s m args below meth c H locs 0 0 (MQ below (QI X h0 o.1 o.2) args s 0 0 (aA (eB X))) (F0 m 179 ls [.int t0]) := by
  refine lv_istore (lv' := [(6, .int t0), (4, .int x4)]) C.1 C.2.1 dX6_comesFirst_179 hl (by decide) rfl (fun ls hl => ?_)
  refine lv_iload C.1 C.2.1 dX6_comesFirst_181 (lv_at hl 1 rfl) ?_
  refine lv_iconst (v := (-1 : Int32)) C.1 C.2.1 dX6_comesFirst_183 (by decide) ?_
  refine lv_icmp_ne (tgt := 191) C.1 C.2.1 dX6_comesFirst_184 (by decide) (fun c_1 => ?_) (fun c_1 => ?_)
  · have hE := br_n hE c_1
    refine lv_iconst (v := (0 : Int32)) C.1 C.2.1 dX6_comesFirst_191 (by decide) ?_
    exact bX6_comesFirst_192 C hkm hW hZ _ (lv_sub hl [0] rfl) hE
  · have hE := br_p hE c_1
    refine lv_iconst (v := (1 : Int32)) C.1 C.2.1 dX6_comesFirst_187 (by decide) ?_
    refine lv_goto (tgt := 192) C.1 C.2.1 dX6_comesFirst_188 (by decide) ?_
    exact bX6_comesFirst_192 C hkm hW hZ _ (lv_sub hl [0] rfl) hE
set_option maxRecDepth 20000 in
theorem bX6_comesFirst_178 {p : Program} {l : Launch} {e : Env} {s : State} {m : MethodId} {args : Array Value} {below : List Frame} {meth : Method} {c : Code} {X : Ec} {h0 : Hp} {o : Int32 × Hp} {F : Nat} (C : Cx X p s m args meth c RX6 cX6_comesFirst 7 (some .boolean) "comesFirst") {h : Hp} {x4 : Int32} {H : Heap} {locs : List Loc} (hkm : Km h0 h) (hW : Wx X h H) (hZ : va_S (aA (eB X)) s.heap H locs) (ls : Array Slot) (hl : lv_has ls 7 [(4, .int x4)]) (hE : sX6_comesFirst_178 F h x4 = some o) : W p l e (rm 2 44) s m args below meth c H locs 0 0 (MQ below (QI X h0 o.1 o.2) args s 0 0 (aA (eB X))) (F0 m 178 ls []) := by
  refine lv_iconst (v := (0 : Int32)) C.1 C.2.1 dX6_comesFirst_178 (by decide) ?_
  exact bX6_comesFirst_179 C hkm hW hZ _ (lv_sub hl [0] rfl) hE
set_option maxRecDepth 20000 in
theorem bX6_comesFirst_150 {p : Program} {l : Launch} {e : Env} {s : State} {m : MethodId} {args : Array Value} {below : List Frame} {meth : Method} {c : Code} {X : Ec} {h0 : Hp} {o : Int32 × Hp} {F : Nat} (C : Cx X p s m args meth c RX6 cX6_comesFirst 7 (some .boolean) "comesFirst") {h : Hp} {x0 : Nat} {x1 : Int32} {x3 : Int32} {x4 : Int32} {H : Heap} {locs : List Loc} (k_x0 : hK h x0 = 6) (hkm : Km h0 h) (hW : Wx X h H) (hZ : va_S (aA (eB X)) s.heap H locs) (ls : Array Slot) (hl : lv_has ls 7 [(0, .ref x0), (1, .int x1), (3, .int x3), (4, .int x4)]) (hE : sX6_comesFirst_150 F h x0 x1 x3 x4 = some o) : W p l e (rm 2 44) s m args below meth c H locs 0 0 (MQ below (QI X h0 o.1 o.2) args s 0 0 (aA (eB X))) (F0 m 150 ls []) := by
  refine lv_aload_n C.1 C.2.1 dX6_comesFirst_150 rfl (lv_at hl 0 rfl) ?_
  obtain ⟨r_1, er_1, hE⟩ := cl_e hE
  refine gf_X6_25 C hW k_x0 er_1 dX6_comesFirst_151 (fun k_r_1 => ?_)
  obtain ⟨r_2, er_2, hE⟩ := cl_e hE
  refine gf_X6_161 C hW k_r_1 er_2 dX6_comesFirst_154 (fun k_r_2 => ?_)
  refine lv_iload_n C.1 C.2.1 dX6_comesFirst_157 rfl (lv_at hl 2 rfl) ?_
  obtain ⟨g_3, hE⟩ := gd_e hE
  refine y_iald C hW k_r_2 g_3 dX6_comesFirst_158 ?_
  refine lv_if_le (tgt := 178) C.1 C.2.1 dX6_comesFirst_159 (by decide) (fun c_4 => ?_) (fun c_4 => ?_)
  · have hE := br_p hE c_4
    exact bX6_comesFirst_178 C hkm hW hZ _ (lv_sub hl [3] rfl) hE
  · have hE := br_n hE c_4
    refine lv_aload_n C.1 C.2.1 dX6_comesFirst_162 rfl (lv_at hl 0 rfl) ?_
    refine lv_iload_n C.1 C.2.1 dX6_comesFirst_163 rfl (lv_at hl 1 rfl) ?_
    refine lv_iload_n C.1 C.2.1 dX6_comesFirst_164 rfl (lv_at hl 2 rfl) ?_
    refine lv_iconst (v := (1 : Int32)) C.1 C.2.1 dX6_comesFirst_165 (by decide) ?_
    refine lv_isub C.1 C.2.1 dX6_comesFirst_166 ?_
    obtain ⟨o_5, eo_5, hE⟩ := cl_e hE
    refine x_kI (o := o_5) (z_runV (As := [.int x1, .int (x3 - (1 : Int32))]) (rest := []) C (ct_X6_standsOn l X k_x0 eo_5) cw_X6_151 hW hZ k_x0 (by decide) rfl rfl rfl hl.1 (Nat.le_of_ble_eq_true rfl) rfl dX6_comesFirst_167 ⟨Nat.le_of_ble_eq_true rfl, Nat.le_of_ble_eq_true rfl⟩ ⟨Nat.le_refl _, Nat.le_refl _⟩) hZ (fun _ _ hW km hZ => ?_)
    replace hkm := hkm.tr km
    replace k_x0 := km.at k_x0 (by decide)
    refine lv_iconst (v := (-1 : Int32)) C.1 C.2.1 dX6_comesFirst_170 (by decide) ?_
    refine lv_icmp_ne (tgt := 178) C.1 C.2.1 dX6_comesFirst_171 (by decide) (fun c_6 => ?_) (fun c_6 => ?_)
    · have hE := br_n hE c_6
      exact bX6_comesFirst_178 C hkm hW hZ _ (lv_sub hl [3] rfl) hE
    · have hE := br_p hE c_6
      refine lv_iconst (v := (1 : Int32)) C.1 C.2.1 dX6_comesFirst_174 (by decide) ?_
      refine lv_goto (tgt := 179) C.1 C.2.1 dX6_comesFirst_175 (by decide) ?_
      exact bX6_comesFirst_179 C hkm hW hZ _ (lv_sub hl [3] rfl) hE
set_option maxRecDepth 20000 in
theorem bX6_comesFirst_149 {p : Program} {l : Launch} {e : Env} {s : State} {m : MethodId} {args : Array Value} {below : List Frame} {meth : Method} {c : Code} {X : Ec} {h0 : Hp} {o : Int32 × Hp} {F : Nat} (C : Cx X p s m args meth c RX6 cX6_comesFirst 7 (some .boolean) "comesFirst") {h : Hp} {t0 : Int32} {H : Heap} {locs : List Loc} (hkm : Km h0 h) (hW : Wx X h H) (hZ : va_S (aA (eB X)) s.heap H locs) (ls : Array Slot) (hl : lv_has ls 7 []) (hE : sX6_comesFirst_149 F h  t0 = some o) : W p l e (rm 2 44) s m args below meth c H locs 0 0 (MQ below (QI X h0 o.1 o.2) args s 0 0 (aA (eB X))) (F0 m 149 ls [.int t0]) := by
  obtain ⟨g_1, hE⟩ := gd_e hE
  exact x_iret C rfl (narB g_1) hW hZ hkm hE dX6_comesFirst_149
set_option maxRecDepth 20000 in
theorem bX6_comesFirst_82 {p : Program} {l : Launch} {e : Env} {s : State} {m : MethodId} {args : Array Value} {below : List Frame} {meth : Method} {c : Code} {X : Ec} {h0 : Hp} {o : Int32 × Hp} {k_5 : Hp → Nat → Int32 → Int32 → Int32 → Int32 → Option (Int32 × Hp)} {F : Nat} (C : Cx X p s m args meth c RX6 cX6_comesFirst 7 (some .boolean) "comesFirst") (hk_5 : ∀ (h : Hp) (x0 : Nat) (x1 : Int32) (x2 : Int32) (x3 : Int32) (x4 : Int32) (H : Heap) (locs : List Loc), hK h x0 = 6 → Km h0 h → Wx X h H → va_S (aA (eB X)) s.heap H locs → ∀ (ls : Array Slot), lv_has ls 7 [(0, .ref x0), (1, .int x1), (2, .int x2), (3, .int x3), (4, .int x4)] → k_5 h x0 x1 x2 x3 x4 = some o → W p l e (rm 2 44) s m args below meth c H locs 0 0 (MQ below (QI X h0 o.1 o.2) args s 0 0 (aA (eB X))) (F0 m 5 ls [])) {h : Hp} {x0 : Nat} {x1 : Int32} {x2 : Int32} {x3 : Int32} {x4 : Int32} {H : Heap} {locs : List Loc} (k_x0 : hK h x0 = 6) (hkm : Km h0 h) (hW : Wx X h H) (hZ : va_S (aA (eB X)) s.heap H locs) (ls : Array Slot) (hl : lv_has ls 7 [(0, .ref x0), (1, .int x1), (2, .int x2), (3, .int x3), (4, .int x4)]) (hE : sX6_comesFirst_82 F k_5 h x0 x1 x2 x3 x4 = some o) : W p l e (rm 2 44) s m args below meth c H locs 0 0 (MQ below (QI X h0 o.1 o.2) args s 0 0 (aA (eB X))) (F0 m 82 ls []) := by
  obtain ⟨v_1, ev_1, hE⟩ := nm_e2 hE
  refine lv_iinc (v := v_1) (lv' := [(4, .int v_1), (0, .ref x0), (1, .int x1), (2, .int x2), (3, .int x3)]) C.1 C.2.1 dX6_comesFirst_82 hl (k := 4) rfl (by rw [ev_1]; rfl) (by decide) rfl (fun ls hl => ?_)
  refine lv_goto (tgt := 5) C.1 C.2.1 dX6_comesFirst_85 (by decide) ?_
  exact hk_5 _ _ _ _ _ _ _ _ k_x0 hkm hW hZ _ (lv_sub hl [1, 2, 3, 4, 0] rfl) hE
set_option maxRecDepth 20000 in
theorem bX6_comesFirst_79 {p : Program} {l : Launch} {e : Env} {s : State} {m : MethodId} {args : Array Value} {below : List Frame} {meth : Method} {c : Code} {X : Ec} {h0 : Hp} {o : Int32 × Hp} {k_5 : Hp → Nat → Int32 → Int32 → Int32 → Int32 → Option (Int32 × Hp)} {F : Nat} (C : Cx X p s m args meth c RX6 cX6_comesFirst 7 (some .boolean) "comesFirst") (hk_5 : ∀ (h : Hp) (x0 : Nat) (x1 : Int32) (x2 : Int32) (x3 : Int32) (x4 : Int32) (H : Heap) (locs : List Loc), hK h x0 = 6 → Km h0 h → Wx X h H → va_S (aA (eB X)) s.heap H locs → ∀ (ls : Array Slot), lv_has ls 7 [(0, .ref x0), (1, .int x1), (2, .int x2), (3, .int x3), (4, .int x4)] → k_5 h x0 x1 x2 x3 x4 = some o → W p l e (rm 2 44) s m args below meth c H locs 0 0 (MQ below (QI X h0 o.1 o.2) args s 0 0 (aA (eB X))) (F0 m 5 ls [])) {h : Hp} {x0 : Nat} {x1 : Int32} {x2 : Int32} {x4 : Int32} {x5 : Int32} {H : Heap} {locs : List Loc} (k_x0 : hK h x0 = 6) (hkm : Km h0 h) (hW : Wx X h H) (hZ : va_S (aA (eB X)) s.heap H locs) (ls : Array Slot) (hl : lv_has ls 7 [(0, .ref x0), (1, .int x1), (2, .int x2), (4, .int x4), (5, .int x5)]) (hE : sX6_comesFirst_79 F k_5 h x0 x1 x2 x4 x5 = some o) : W p l e (rm 2 44) s m args below meth c H locs 0 0 (MQ below (QI X h0 o.1 o.2) args s 0 0 (aA (eB X))) (F0 m 79 ls []) := by
  refine lv_iload C.1 C.2.1 dX6_comesFirst_79 (lv_at hl 4 rfl) ?_
  refine lv_istore_n (lv' := [(3, .int x5), (0, .ref x0), (1, .int x1), (2, .int x2), (4, .int x4), (5, .int x5)]) C.1 C.2.1 dX6_comesFirst_81 rfl hl (by decide) rfl (fun ls hl => ?_)
  exact bX6_comesFirst_82 C hk_5 k_x0 hkm hW hZ _ (lv_sub hl [1, 2, 3, 0, 4] rfl) hE
set_option maxRecDepth 20000 in
theorem bX6_comesFirst_57 {p : Program} {l : Launch} {e : Env} {s : State} {m : MethodId} {args : Array Value} {below : List Frame} {meth : Method} {c : Code} {X : Ec} {h0 : Hp} {o : Int32 × Hp} {k_5 : Hp → Nat → Int32 → Int32 → Int32 → Int32 → Option (Int32 × Hp)} {F : Nat} (C : Cx X p s m args meth c RX6 cX6_comesFirst 7 (some .boolean) "comesFirst") (hk_5 : ∀ (h : Hp) (x0 : Nat) (x1 : Int32) (x2 : Int32) (x3 : Int32) (x4 : Int32) (H : Heap) (locs : List Loc), hK h x0 = 6 → Km h0 h → Wx X h H → va_S (aA (eB X)) s.heap H locs → ∀ (ls : Array Slot), lv_has ls 7 [(0, .ref x0), (1, .int x1), (2, .int x2), (3, .int x3), (4, .int x4)] → k_5 h x0 x1 x2 x3 x4 = some o → W p l e (rm 2 44) s m args below meth c H locs 0 0 (MQ below (QI X h0 o.1 o.2) args s 0 0 (aA (eB X))) (F0 m 5 ls [])) {h : Hp} {x0 : Nat} {x1 : Int32} {x2 : Int32} {x3 : Int32} {x4 : Int32} {x5 : Int32} {t0 : Int32} {H : Heap} {locs : List Loc} (k_x0 : hK h x0 = 6) (hkm : Km h0 h) (hW : Wx X h H) (hZ : va_S (aA (eB X)) s.heap H locs) (ls : Array Slot) (hl : lv_has ls 7 [(0, .ref x0), (1, .int x1), (2, .int x2), (3, .int x3), (4, .int x4), (5, .int x5)]) (hE : sX6_comesFirst_57 F k_5 h x0 x1 x2 x3 x4 x5 t0 = some o) : W p l e (rm 2 44) s m args below meth c H locs 0 0 (MQ below (QI X h0 o.1 o.2) args s 0 0 (aA (eB X))) (F0 m 57 ls [.int t0]) := by
  refine lv_istore (lv' := [(6, .int t0), (0, .ref x0), (1, .int x1), (2, .int x2), (3, .int x3), (4, .int x4), (5, .int x5)]) C.1 C.2.1 dX6_comesFirst_57 hl (by decide) rfl (fun ls hl => ?_)
  refine lv_iload C.1 C.2.1 dX6_comesFirst_59 (lv_at hl 0 rfl) ?_
  refine lv_if_eq (tgt := 82) C.1 C.2.1 dX6_comesFirst_61 (by decide) (fun c_1 => ?_) (fun c_1 => ?_)
  · have hE := br_p hE c_1
    exact bX6_comesFirst_82 C hk_5 k_x0 hkm hW hZ _ (lv_sub hl [1, 2, 3, 4, 5] rfl) hE
  · have hE := br_n hE c_1
    refine lv_iload_n C.1 C.2.1 dX6_comesFirst_64 rfl (lv_at hl 4 rfl) ?_
    refine lv_iconst (v := (-1 : Int32)) C.1 C.2.1 dX6_comesFirst_65 (by decide) ?_
    refine lv_icmp_eq (tgt := 79) C.1 C.2.1 dX6_comesFirst_66 (by decide) (fun c_2 => ?_) (fun c_2 => ?_)
    · have hE := br_p hE c_2
      exact bX6_comesFirst_79 C hk_5 k_x0 hkm hW hZ _ (lv_sub hl [1, 2, 3, 5, 6] rfl) hE
    · have hE := br_n hE c_2
      refine lv_aload_n C.1 C.2.1 dX6_comesFirst_69 rfl (lv_at hl 1 rfl) ?_
      refine lv_iload C.1 C.2.1 dX6_comesFirst_70 (lv_at hl 6 rfl) ?_
      refine lv_iload_n C.1 C.2.1 dX6_comesFirst_72 rfl (lv_at hl 4 rfl) ?_
      obtain ⟨o_3, eo_3, hE⟩ := cl_e hE
      refine x_kI (o := o_3) (z_runV (As := [.int x5, .int x3]) (rest := []) C (ct_X6_isWrittenFirst l X k_x0 eo_3) cw_X6_155 hW hZ k_x0 (by decide) rfl rfl rfl hl.1 (Nat.le_of_ble_eq_true rfl) rfl dX6_comesFirst_73 ⟨Nat.le_of_ble_eq_true rfl, Nat.le_of_ble_eq_true rfl⟩ ⟨Nat.le_refl _, Nat.le_refl _⟩) hZ (fun _ _ hW km hZ => ?_)
      replace hkm := hkm.tr km
      replace k_x0 := km.at k_x0 (by decide)
      refine lv_if_eq (tgt := 82) C.1 C.2.1 dX6_comesFirst_76 (by decide) (fun c_4 => ?_) (fun c_4 => ?_)
      · have hE := br_p hE c_4
        exact bX6_comesFirst_82 C hk_5 k_x0 hkm hW hZ _ (lv_sub hl [1, 2, 3, 4, 5] rfl) hE
      · have hE := br_n hE c_4
        exact bX6_comesFirst_79 C hk_5 k_x0 hkm hW hZ _ (lv_sub hl [1, 2, 3, 5, 6] rfl) hE
set_option maxRecDepth 20000 in
theorem bX6_comesFirst_22 {p : Program} {l : Launch} {e : Env} {s : State} {m : MethodId} {args : Array Value} {below : List Frame} {meth : Method} {c : Code} {X : Ec} {h0 : Hp} {o : Int32 × Hp} {k_5 : Hp → Nat → Int32 → Int32 → Int32 → Int32 → Option (Int32 × Hp)} {F : Nat} (C : Cx X p s m args meth c RX6 cX6_comesFirst 7 (some .boolean) "comesFirst") (hk_5 : ∀ (h : Hp) (x0 : Nat) (x1 : Int32) (x2 : Int32) (x3 : Int32) (x4 : Int32) (H : Heap) (locs : List Loc), hK h x0 = 6 → Km h0 h → Wx X h H → va_S (aA (eB X)) s.heap H locs → ∀ (ls : Array Slot), lv_has ls 7 [(0, .ref x0), (1, .int x1), (2, .int x2), (3, .int x3), (4, .int x4)] → k_5 h x0 x1 x2 x3 x4 = some o → W p l e (rm 2 44) s m args below meth c H locs 0 0 (MQ below (QI X h0 o.1 o.2) args s 0 0 (aA (eB X))) (F0 m 5 ls [])) {h : Hp} {x0 : Nat} {x1 : Int32} {x2 : Int32} {x3 : Int32} {x4 : Int32} {t0 : Int32} {H : Heap} {locs : List Loc} (k_x0 : hK h x0 = 6) (hkm : Km h0 h) (hW : Wx X h H) (hZ : va_S (aA (eB X)) s.heap H locs) (ls : Array Slot) (hl : lv_has ls 7 [(0, .ref x0), (1, .int x1), (2, .int x2), (3, .int x3), (4, .int x4)]) (hE : sX6_comesFirst_22 F k_5 h x0 x1 x2 x3 x4 t0 = some o) : W p l e (rm 2 44) s m args below meth c H locs 0 0 (MQ below (QI X h0 o.1 o.2) args s 0 0 (aA (eB X))) (F0 m 22 ls [.int t0]) := by
  refine lv_bipush (v := (6 : Int32)) C.1 C.2.1 dX6_comesFirst_22 (by decide) ?_
  refine lv_iload C.1 C.2.1 dX6_comesFirst_24 (lv_at hl 4 rfl) ?_
  refine lv_iconst (v := (1 : Int32)) C.1 C.2.1 dX6_comesFirst_26 (by decide) ?_
  refine lv_iand C.1 C.2.1 dX6_comesFirst_27 ?_
  refine lv_imul C.1 C.2.1 dX6_comesFirst_28 ?_
  refine lv_ishr C.1 C.2.1 dX6_comesFirst_29 ?_
  refine lv_bipush (v := (63 : Int32)) C.1 C.2.1 dX6_comesFirst_30 (by decide) ?_
  refine lv_iand C.1 C.2.1 dX6_comesFirst_32 ?_
  obtain ⟨v_1, ev_1, hE⟩ := nm_e2 hE
  refine x_nmI ev_1 ?_
  refine lv_istore (lv' := [(5, .int v_1), (0, .ref x0), (1, .int x1), (2, .int x2), (3, .int x3), (4, .int x4)]) C.1 C.2.1 dX6_comesFirst_33 hl (by decide) rfl (fun ls hl => ?_)
  refine lv_aload_n C.1 C.2.1 dX6_comesFirst_35 rfl (lv_at hl 1 rfl) ?_
  refine lv_iload_n C.1 C.2.1 dX6_comesFirst_36 rfl (lv_at hl 2 rfl) ?_
  refine lv_iload C.1 C.2.1 dX6_comesFirst_37 (lv_at hl 0 rfl) ?_
  obtain ⟨o_2, eo_2, hE⟩ := cl_e hE
  refine x_kI (o := o_2) (z_runV (As := [.int x1, .int v_1]) (rest := []) C (ct_X6_standsOn l X k_x0 eo_2) cw_X6_151 hW hZ k_x0 (by decide) rfl rfl rfl hl.1 (Nat.le_of_ble_eq_true rfl) rfl dX6_comesFirst_39 ⟨Nat.le_of_ble_eq_true rfl, Nat.le_of_ble_eq_true rfl⟩ ⟨Nat.le_refl _, Nat.le_refl _⟩) hZ (fun _ _ hW km hZ => ?_)
  replace hkm := hkm.tr km
  replace k_x0 := km.at k_x0 (by decide)
  refine lv_aload_n C.1 C.2.1 dX6_comesFirst_42 rfl (lv_at hl 1 rfl) ?_
  refine lv_iload_n C.1 C.2.1 dX6_comesFirst_43 rfl (lv_at hl 3 rfl) ?_
  refine lv_iload C.1 C.2.1 dX6_comesFirst_44 (lv_at hl 0 rfl) ?_
  obtain ⟨o_3, eo_3, hE⟩ := cl_e hE
  refine x_kI (o := o_3) (z_runV (As := [.int x2, .int v_1]) (rest := [.int o_2.1]) C (ct_X6_standsOn l X k_x0 eo_3) cw_X6_151 hW hZ k_x0 (by decide) rfl rfl rfl hl.1 (Nat.le_of_ble_eq_true rfl) rfl dX6_comesFirst_46 ⟨Nat.le_of_ble_eq_true rfl, Nat.le_of_ble_eq_true rfl⟩ ⟨Nat.le_refl _, Nat.le_refl _⟩) hZ (fun _ _ hW km hZ => ?_)
  replace hkm := hkm.tr km
  replace k_x0 := km.at k_x0 (by decide)
  refine lv_icmp_eq (tgt := 56) C.1 C.2.1 dX6_comesFirst_49 (by decide) (fun c_4 => ?_) (fun c_4 => ?_)
  · have hE := br_p hE c_4
    refine lv_iconst (v := (0 : Int32)) C.1 C.2.1 dX6_comesFirst_56 (by decide) ?_
    exact bX6_comesFirst_57 C hk_5 k_x0 hkm hW hZ _ (lv_sub hl [1, 2, 3, 4, 5, 0] rfl) hE
  · have hE := br_n hE c_4
    refine lv_iconst (v := (1 : Int32)) C.1 C.2.1 dX6_comesFirst_52 (by decide) ?_
    refine lv_goto (tgt := 57) C.1 C.2.1 dX6_comesFirst_53 (by decide) ?_
    exact bX6_comesFirst_57 C hk_5 k_x0 hkm hW hZ _ (lv_sub hl [1, 2, 3, 4, 5, 0] rfl) hE
set_option maxRecDepth 20000 in
theorem bX6_comesFirst_5 {p : Program} {l : Launch} {e : Env} {s : State} {m : MethodId} {args : Array Value} {below : List Frame} {meth : Method} {c : Code} {X : Ec} {h0 : Hp} {o : Int32 × Hp} {F : Nat} (C : Cx X p s m args meth c RX6 cX6_comesFirst 7 (some .boolean) "comesFirst") : ∀ (f : Nat) {h : Hp} {x0 : Nat} {x1 : Int32} {x2 : Int32} {x3 : Int32} {x4 : Int32} {H : Heap} {locs : List Loc} (k_x0 : hK h x0 = 6), Km h0 h → Wx X h H → va_S (aA (eB X)) s.heap H locs → ∀ (ls : Array Slot), lv_has ls 7 [(0, .ref x0), (1, .int x1), (2, .int x2), (3, .int x3), (4, .int x4)] → sX6_comesFirst_5 F f h x0 x1 x2 x3 x4 = some o → W p l e (rm 2 44) s m args below meth c H locs 0 0 (MQ below (QI X h0 o.1 o.2) args s 0 0 (aA (eB X))) (F0 m 5 ls []) := by
  intro f
  induction f with
  | zero =>
    intro h x0 x1 x2 x3 x4 H locs k_x0 hkm hW hZ ls hl hE
    rw [sX6_comesFirst_5] at hE
    cases hE
  | succ f ih =>
    intro h x0 x1 x2 x3 x4 H locs k_x0 hkm hW hZ ls hl hE
    rw [sX6_comesFirst_5] at hE
    have hk_5 : ∀ (h : Hp) (x0 : Nat) (x1 : Int32) (x2 : Int32) (x3 : Int32) (x4 : Int32) (H : Heap) (locs : List Loc), hK h x0 = 6 → Km h0 h → Wx X h H → va_S (aA (eB X)) s.heap H locs → ∀ (ls : Array Slot), lv_has ls 7 [(0, .ref x0), (1, .int x1), (2, .int x2), (3, .int x3), (4, .int x4)] → sX6_comesFirst_5 F f h x0 x1 x2 x3 x4 = some o → W p l e (rm 2 44) s m args below meth c H locs 0 0 (MQ below (QI X h0 o.1 o.2) args s 0 0 (aA (eB X))) (F0 m 5 ls []) := fun h x0 x1 x2 x3 x4 H locs k_x0 a b c ls hl hE => ih k_x0 a b c ls hl hE
    refine lv_iload C.1 C.2.1 dX6_comesFirst_5 (lv_at hl 4 rfl) ?_
    refine lv_iconst (v := (4 : Int32)) C.1 C.2.1 dX6_comesFirst_7 (by decide) ?_
    refine lv_icmp_ge (tgt := 88) C.1 C.2.1 dX6_comesFirst_8 (by decide) (fun c_1 => ?_) (fun c_1 => ?_)
    · have hE := br_p hE c_1
      refine lv_iload_n C.1 C.2.1 dX6_comesFirst_88 rfl (lv_at hl 3 rfl) ?_
      refine lv_iconst (v := (-1 : Int32)) C.1 C.2.1 dX6_comesFirst_89 (by decide) ?_
      refine lv_icmp_ne (tgt := 95) C.1 C.2.1 dX6_comesFirst_90 (by decide) (fun c_2 => ?_) (fun c_2 => ?_)
      · have hE := br_n hE c_2
        refine lv_aload_n C.1 C.2.1 dX6_comesFirst_95 rfl (lv_at hl 0 rfl) ?_
        refine lv_iload_n C.1 C.2.1 dX6_comesFirst_96 rfl (lv_at hl 1 rfl) ?_
        refine lv_iload_n C.1 C.2.1 dX6_comesFirst_97 rfl (lv_at hl 3 rfl) ?_
        obtain ⟨o_3, eo_3, hE⟩ := cl_e hE
        refine x_kI (o := o_3) (z_runV (As := [.int x1, .int x3]) (rest := []) C (ct_X6_standsOn l X k_x0 eo_3) cw_X6_151 hW hZ k_x0 (by decide) rfl rfl rfl hl.1 (Nat.le_of_ble_eq_true rfl) rfl dX6_comesFirst_98 ⟨Nat.le_of_ble_eq_true rfl, Nat.le_of_ble_eq_true rfl⟩ ⟨Nat.le_refl _, Nat.le_refl _⟩) hZ (fun _ _ hW km hZ => ?_)
        replace hkm := hkm.tr km
        replace k_x0 := km.at k_x0 (by decide)
        refine lv_istore (lv' := [(4, .int o_3.1), (0, .ref x0), (1, .int x1), (2, .int x2), (3, .int x3)]) C.1 C.2.1 dX6_comesFirst_101 hl (by decide) rfl (fun ls hl => ?_)
        refine lv_aload_n C.1 C.2.1 dX6_comesFirst_103 rfl (lv_at hl 1 rfl) ?_
        refine lv_iload_n C.1 C.2.1 dX6_comesFirst_104 rfl (lv_at hl 3 rfl) ?_
        refine lv_iload_n C.1 C.2.1 dX6_comesFirst_105 rfl (lv_at hl 4 rfl) ?_
        obtain ⟨o_4, eo_4, hE⟩ := cl_e hE
        refine x_kI (o := o_4) (z_runV (As := [.int x2, .int x3]) (rest := []) C (ct_X6_standsOn l X k_x0 eo_4) cw_X6_151 hW hZ k_x0 (by decide) rfl rfl rfl hl.1 (Nat.le_of_ble_eq_true rfl) rfl dX6_comesFirst_106 ⟨Nat.le_of_ble_eq_true rfl, Nat.le_of_ble_eq_true rfl⟩ ⟨Nat.le_refl _, Nat.le_refl _⟩) hZ (fun _ _ hW km hZ => ?_)
        replace hkm := hkm.tr km
        replace k_x0 := km.at k_x0 (by decide)
        refine lv_istore (lv' := [(5, .int o_4.1), (4, .int o_3.1), (0, .ref x0), (1, .int x1), (2, .int x2), (3, .int x3)]) C.1 C.2.1 dX6_comesFirst_109 hl (by decide) rfl (fun ls hl => ?_)
        refine lv_iload C.1 C.2.1 dX6_comesFirst_111 (lv_at hl 1 rfl) ?_
        refine lv_iconst (v := (-1 : Int32)) C.1 C.2.1 dX6_comesFirst_113 (by decide) ?_
        refine lv_icmp_eq (tgt := 150) C.1 C.2.1 dX6_comesFirst_114 (by decide) (fun c_5 => ?_) (fun c_5 => ?_)
        · have hE := br_p hE c_5
          exact bX6_comesFirst_150 C k_x0 hkm hW hZ _ (lv_sub hl [2, 3, 5, 1] rfl) hE
        · have hE := br_n hE c_5
          refine lv_iload C.1 C.2.1 dX6_comesFirst_117 (lv_at hl 0 rfl) ?_
          refine lv_iconst (v := (-1 : Int32)) C.1 C.2.1 dX6_comesFirst_119 (by decide) ?_
          refine lv_icmp_eq (tgt := 150) C.1 C.2.1 dX6_comesFirst_120 (by decide) (fun c_6 => ?_) (fun c_6 => ?_)
          · have hE := br_p hE c_6
            exact bX6_comesFirst_150 C k_x0 hkm hW hZ _ (lv_sub hl [2, 3, 5, 1] rfl) hE
          · have hE := br_n hE c_6
            refine lv_aload_n C.1 C.2.1 dX6_comesFirst_123 rfl (lv_at hl 2 rfl) ?_
            obtain ⟨r_7, er_7, hE⟩ := cl_e hE
            refine gf_X6_25 C hW k_x0 er_7 dX6_comesFirst_124 (fun k_r_7 => ?_)
            refine lv_iload C.1 C.2.1 dX6_comesFirst_127 (lv_at hl 1 rfl) ?_
            obtain ⟨o_8, eo_8, hE⟩ := cl_e hE
            refine x_kI (o := o_8) (z_runV (As := [.int o_3.1]) (rest := []) C (ct_X1_letterOf l X k_r_7 eo_8) cw_X6_158 hW hZ k_r_7 (by decide) rfl rfl rfl hl.1 (Nat.le_of_ble_eq_true rfl) rfl dX6_comesFirst_129 ⟨Nat.le_of_ble_eq_true rfl, Nat.le_of_ble_eq_true rfl⟩ ⟨Nat.le_refl _, Nat.le_refl _⟩) hZ (fun _ _ hW km hZ => ?_)
            replace hkm := hkm.tr km
            replace k_x0 := km.at k_x0 (by decide)
            refine lv_aload_n C.1 C.2.1 dX6_comesFirst_132 rfl (lv_at hl 2 rfl) ?_
            obtain ⟨r_9, er_9, hE⟩ := cl_e hE
            refine gf_X6_25 C hW k_x0 er_9 dX6_comesFirst_133 (fun k_r_9 => ?_)
            refine lv_iload C.1 C.2.1 dX6_comesFirst_136 (lv_at hl 0 rfl) ?_
            obtain ⟨o_10, eo_10, hE⟩ := cl_e hE
            refine x_kI (o := o_10) (z_runV (As := [.int o_4.1]) (rest := [.int o_8.1]) C (ct_X1_letterOf l X k_r_9 eo_10) cw_X6_158 hW hZ k_r_9 (by decide) rfl rfl rfl hl.1 (Nat.le_of_ble_eq_true rfl) rfl dX6_comesFirst_138 ⟨Nat.le_of_ble_eq_true rfl, Nat.le_of_ble_eq_true rfl⟩ ⟨Nat.le_refl _, Nat.le_refl _⟩) hZ (fun _ _ hW km hZ => ?_)
            replace hkm := hkm.tr km
            replace k_x0 := km.at k_x0 (by decide)
            refine lv_icmp_ge (tgt := 148) C.1 C.2.1 dX6_comesFirst_141 (by decide) (fun c_11 => ?_) (fun c_11 => ?_)
            · have hE := br_p hE c_11
              refine lv_iconst (v := (0 : Int32)) C.1 C.2.1 dX6_comesFirst_148 (by decide) ?_
              exact bX6_comesFirst_149 C hkm hW hZ _ (lv_sub hl [] rfl) hE
            · have hE := br_n hE c_11
              refine lv_iconst (v := (1 : Int32)) C.1 C.2.1 dX6_comesFirst_144 (by decide) ?_
              refine lv_goto (tgt := 149) C.1 C.2.1 dX6_comesFirst_145 (by decide) ?_
              exact bX6_comesFirst_149 C hkm hW hZ _ (lv_sub hl [] rfl) hE
      · have hE := br_p hE c_2
        refine lv_iconst (v := (0 : Int32)) C.1 C.2.1 dX6_comesFirst_93 (by decide) ?_
        exact x_iret C rfl (by decide) hW hZ hkm hE dX6_comesFirst_94
    · have hE := br_n hE c_1
      refine lv_iload C.1 C.2.1 dX6_comesFirst_11 (lv_at hl 4 rfl) ?_
      refine lv_iconst (v := (2 : Int32)) C.1 C.2.1 dX6_comesFirst_13 (by decide) ?_
      refine lv_icmp_ge (tgt := 21) C.1 C.2.1 dX6_comesFirst_14 (by decide) (fun c_12 => ?_) (fun c_12 => ?_)
      · have hE := br_p hE c_12
        refine lv_iload_n C.1 C.2.1 dX6_comesFirst_21 rfl (lv_at hl 2 rfl) ?_
        exact bX6_comesFirst_22 C hk_5 k_x0 hkm hW hZ _ (lv_sub hl [0, 1, 2, 3, 4] rfl) hE
      · have hE := br_n hE c_12
        refine lv_iload_n C.1 C.2.1 dX6_comesFirst_17 rfl (lv_at hl 1 rfl) ?_
        refine lv_goto (tgt := 22) C.1 C.2.1 dX6_comesFirst_18 (by decide) ?_
        exact bX6_comesFirst_22 C hk_5 k_x0 hkm hW hZ _ (lv_sub hl [0, 1, 2, 3, 4] rfl) hE
set_option maxRecDepth 20000 in
theorem ct_X6_comesFirst (l : Launch) (X : Ec) (F : Nat) {h : Hp} {x0 : Nat} {x1 : Int32} {x2 : Int32} {o : Int32 × Hp} (k_x0 : hK h x0 = 6) (hE : sX6_comesFirst F h x0 x1 x2 = some o) : MetI l yX6_comesFirst cX6_comesFirst 7 (some .boolean) 2 44 X [.ref x0, .int x1, .int x2] h o := by
  refine x_met (by decide) (Nat.le_of_ble_eq_true rfl) ?_
  intro p e s m below meth c ls C hl hW hZ
  have hl : lv_has ls 7 [(0, .ref x0), (1, .int x1), (2, .int x2)] := hl
  have hkm : Km h h := Km.rf h
  refine lv_iconst (v := (-1 : Int32)) C.1 C.2.1 dX6_comesFirst_0 (by decide) ?_
  refine lv_istore_n (lv' := [(3, .int (-1 : Int32)), (0, .ref x0), (1, .int x1), (2, .int x2)]) C.1 C.2.1 dX6_comesFirst_1 rfl hl (by decide) rfl (fun ls hl => ?_)
  refine lv_iconst (v := (0 : Int32)) C.1 C.2.1 dX6_comesFirst_2 (by decide) ?_
  refine lv_istore (lv' := [(4, .int (0 : Int32)), (3, .int (-1 : Int32)), (0, .ref x0), (1, .int x1), (2, .int x2)]) C.1 C.2.1 dX6_comesFirst_3 hl (by decide) rfl (fun ls hl => ?_)
  exact bX6_comesFirst_5 C F k_x0 hkm hW hZ _ (lv_sub hl [2, 3, 4, 1, 0] rfl) hE

