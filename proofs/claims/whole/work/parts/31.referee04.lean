set_option maxRecDepth 100000 in
theorem m_1199 : Cond.constant RX5 32 (-983041 : Int32) ∈ W0 := w0_in (List.mem_append_right _ (List.mem_of_getElem? (i := 1199) rfl)) rfl
theorem dX5_becoming_0 : decode cX5_becoming 0 = .ok (.iload_n 0, 1) := by decide +kernel
theorem dX5_becoming_1 : decode cX5_becoming 1 = .ok (.ldc 32, 2) := by decide +kernel
theorem dX5_becoming_3 : decode cX5_becoming 3 = .ok (.iand, 1) := by decide +kernel
theorem dX5_becoming_4 : decode cX5_becoming 4 = .ok (.iload_n 1, 1) := by decide +kernel
theorem dX5_becoming_5 : decode cX5_becoming 5 = .ok (.bipush 16, 2) := by decide +kernel
theorem dX5_becoming_7 : decode cX5_becoming 7 = .ok (.ishl, 1) := by decide +kernel
theorem dX5_becoming_8 : decode cX5_becoming 8 = .ok (.ior, 1) := by decide +kernel
theorem dX5_becoming_9 : decode cX5_becoming 9 = .ok (.ireturn, 1) := by decide +kernel
def sX5_becoming (h : Hp) (x0 : Int32) (x1 : Int32) : Option (Int32 × Hp) := some ((x0 &&& (-983041 : Int32)) ||| (x1 <<< ((16 : Int32) &&& 31)), h)
set_option maxRecDepth 20000 in
theorem moX5_becoming {o : Int32 × Hp} {h : Hp} {x0 : Int32} {x1 : Int32} (hE : sX5_becoming h x0 x1 = some o) : Le h o.2 := by
  exact le_some2 hE
set_option maxRecDepth 20000 in
theorem ct_X5_becoming (l : Launch) (X : Ec) {h : Hp} {x0 : Int32} {x1 : Int32} {o : Int32 × Hp} (hE : sX5_becoming h x0 x1 = some o) : MetI l yX5_becoming cX5_becoming 2 (some .int) 0 0 X [.int x0, .int x1] h o := by
  refine x_met (by decide) (Nat.le_of_ble_eq_true rfl) ?_
  intro p e s m below meth c ls C hl hW hZ
  have hl : lv_has ls 2 [(0, .int x0), (1, .int x1)] := hl
  have hkm : Km h h := Km.rf h
  refine lv_iload_n C.1 C.2.1 dX5_becoming_0 rfl (lv_at hl 0 rfl) ?_
  refine lv_ldc (v := (-983041 : Int32)) C.1 C.2.1 C.2.2.2.1 (C.2.2.2.2.1 _ m_1199) dX5_becoming_1 ?_
  refine lv_iand C.1 C.2.1 dX5_becoming_3 ?_
  refine lv_iload_n C.1 C.2.1 dX5_becoming_4 rfl (lv_at hl 1 rfl) ?_
  refine lv_bipush (v := (16 : Int32)) C.1 C.2.1 dX5_becoming_5 (by decide) ?_
  refine lv_ishl C.1 C.2.1 dX5_becoming_7 ?_
  refine lv_ior C.1 C.2.1 dX5_becoming_8 ?_
  exact x_iret C rfl rfl hW hZ hkm hE dX5_becoming_9
section
variable {p : Program} {l : Launch} {e : Env} {R : Room} {s : State} {m : MethodId} {args : Array Value} {below : List Frame} {meth : Method} {c : Code} {H : Heap} {locs : List Loc} {cells slots : Nat} {Q : State → Prop}
variable {cc : ByteArray} {pc : Nat} {ls : Array Slot} {rest : List Value} {X : Ec} {h h1 : Hp} {nL : Nat} {rt : Option FieldType} {mn : String}
theorem gf_X5_82 {a : Nat} (C : Cx X p s m args meth c RX5 cc nL rt mn) (hW : Wx X h H) (ha : hK h a = 5) (hdg : decode cc pc = .ok (.getfield 82, 3)) (kk : W p l e R s m args below meth c H locs cells slots Q (F0 m (pc + 3) ls (.int (hI h a 6) :: rest))) : W p l e R s m args below meth c H locs cells slots Q (F0 m pc ls (.ref a :: rest)) :=
  y_geti C hW ha i_X5 (by decide) rfl (by decide) m_351 rfl hdg kk
theorem gf_X5_123 {a r : Nat} (C : Cx X p s m args meth c RX5 cc nL rt mn) (hW : Wx X h H) (ha : hK h a = 5) (hr : hR h a 5 = some r) (hdg : decode cc pc = .ok (.getfield 123, 3)) (kk : hK h r = 17 → W p l e R s m args below meth c H locs cells slots Q (F0 m (pc + 3) ls (.ref r :: rest))) : W p l e R s m args below meth c H locs cells slots Q (F0 m pc ls (.ref a :: rest)) :=
  y_getr C hW ha i_X5 (by decide) rfl (by decide) m_350 rfl rfl hr hdg kk
end
theorem dX5_addMove_0 : decode cX5_addMove 0 = .ok (.aload_n 0, 1) := by decide +kernel
theorem dX5_addMove_1 : decode cX5_addMove 1 = .ok (.getfield 82, 3) := by decide +kernel
theorem dX5_addMove_4 : decode cX5_addMove 4 = .ok (.aload_n 0, 1) := by decide +kernel
theorem dX5_addMove_5 : decode cX5_addMove 5 = .ok (.getfield 123, 3) := by decide +kernel
theorem dX5_addMove_8 : decode cX5_addMove 8 = .ok (.arraylength, 1) := by decide +kernel
theorem dX5_addMove_9 : decode cX5_addMove 9 = .ok (.if_icmp .ge 23, 3) := by decide +kernel
theorem dX5_addMove_12 : decode cX5_addMove 12 = .ok (.aload_n 0, 1) := by decide +kernel
theorem dX5_addMove_13 : decode cX5_addMove 13 = .ok (.getfield 123, 3) := by decide +kernel
theorem dX5_addMove_16 : decode cX5_addMove 16 = .ok (.aload_n 0, 1) := by decide +kernel
theorem dX5_addMove_17 : decode cX5_addMove 17 = .ok (.getfield 82, 3) := by decide +kernel
theorem dX5_addMove_20 : decode cX5_addMove 20 = .ok (.iload_n 1, 1) := by decide +kernel
theorem dX5_addMove_21 : decode cX5_addMove 21 = .ok (.iastore, 1) := by decide +kernel
theorem dX5_addMove_22 : decode cX5_addMove 22 = .ok (.aload_n 0, 1) := by decide +kernel
theorem dX5_addMove_23 : decode cX5_addMove 23 = .ok (.dup, 1) := by decide +kernel
theorem dX5_addMove_24 : decode cX5_addMove 24 = .ok (.getfield 82, 3) := by decide +kernel
theorem dX5_addMove_27 : decode cX5_addMove 27 = .ok (.iconst 1, 1) := by decide +kernel
theorem dX5_addMove_28 : decode cX5_addMove 28 = .ok (.iadd, 1) := by decide +kernel
theorem dX5_addMove_29 : decode cX5_addMove 29 = .ok (.putfield 82, 3) := by decide +kernel
theorem dX5_addMove_32 : decode cX5_addMove 32 = .ok (.return_, 1) := by decide +kernel
def sX5_addMove_32 (h : Hp) : Option (Hp) := some h
def sX5_addMove (h : Hp) (x0 : Nat) (x1 : Int32) : Option (Hp) := cl (hR h x0 5) fun r_1 => br ((nI (hN h r_1)) ≤ (hI h x0 6)) (sX5_addMove_32  h ) (cl (hR h x0 5) fun r_3 => gd (inB (hI h x0 6) (hN h r_3)) <| nm (wI h r_3 (hI h x0 6).toNatClampNeg x1) fun h_5 => nm (wI h_5 x0 6 ((hI h_5 x0 6) + (1 : Int32))) fun h_6 => sX5_addMove_32  h_6 )
set_option maxRecDepth 20000 in
theorem moX5_addMove_32 {o : Hp} {h : Hp} (hE : sX5_addMove_32 h  = some o) : Le h o := by
  exact le_some1 hE
set_option maxRecDepth 20000 in
theorem moX5_addMove {o : Hp} {h : Hp} {x0 : Nat} {x1 : Int32} (hE : sX5_addMove h x0 x1 = some o) : Le h o := by
  obtain ⟨r_1, er_1, hE⟩ := cl_e hE
  rcases br_e hE with ⟨_, hE⟩ | ⟨_, hE⟩
  · exact moX5_addMove_32 hE
  · obtain ⟨r_3, er_3, hE⟩ := cl_e hE
    obtain ⟨g_4, hE⟩ := gd_e hE
    obtain ⟨h_5, eh_5, hE⟩ := nm_e2 hE
    refine (le_I eh_5).tr ?_
    obtain ⟨h_6, eh_6, hE⟩ := nm_e2 hE
    refine (le_I eh_6).tr ?_
    exact moX5_addMove_32 hE
set_option maxRecDepth 20000 in
theorem bX5_addMove_32 {p : Program} {l : Launch} {e : Env} {s : State} {m : MethodId} {args : Array Value} {below : List Frame} {meth : Method} {c : Code} {X : Ec} {h0 : Hp} {o : Hp} (C : Cx X p s m args meth c RX5 cX5_addMove 2 none "addMove") {h : Hp} {H : Heap} {locs : List Loc} (hkm : Km h0 h) (hW : Wx X h H) (hZ : va_S (aA (eB X)) s.heap H locs) (ls : Array Slot) (hl : lv_has ls 2 []) (hE : sX5_addMove_32 h  = some o) : W p l e (rm 0 0) s m args below meth c H locs 0 0 (MQ below (QV X h0 o) args s 0 0 (aA (eB X))) (F0 m 32 ls []) := by
  exact x_vret C rfl hW hZ hkm hE dX5_addMove_32
set_option maxRecDepth 20000 in
theorem ct_X5_addMove (l : Launch) (X : Ec) {h : Hp} {x0 : Nat} {x1 : Int32} {o : Hp} (k_x0 : hK h x0 = 5) (hE : sX5_addMove h x0 x1 = some o) : MetV l yX5_addMove cX5_addMove 2 none 0 0 X [.ref x0, .int x1] h o := by
  refine x_met (by decide) (Nat.le_of_ble_eq_true rfl) ?_
  intro p e s m below meth c ls C hl hW hZ
  have hl : lv_has ls 2 [(0, .ref x0), (1, .int x1)] := hl
  have hkm : Km h h := Km.rf h
  refine lv_aload_n C.1 C.2.1 dX5_addMove_0 rfl (lv_at hl 0 rfl) ?_
  refine gf_X5_82 C hW k_x0 dX5_addMove_1 ?_
  refine lv_aload_n C.1 C.2.1 dX5_addMove_4 rfl (lv_at hl 0 rfl) ?_
  obtain ⟨r_1, er_1, hE⟩ := cl_e hE
  refine gf_X5_123 C hW k_x0 er_1 dX5_addMove_5 (fun k_r_1 => ?_)
  refine y_alen C hW k_r_1 (by decide) dX5_addMove_8 ?_
  refine lv_icmp_ge (tgt := 32) C.1 C.2.1 dX5_addMove_9 (by decide) (fun c_2 => ?_) (fun c_2 => ?_)
  · have hE := br_p hE c_2
    exact bX5_addMove_32 C hkm hW hZ _ (lv_sub hl [] rfl) hE
  · have hE := br_n hE c_2
    refine lv_aload_n C.1 C.2.1 dX5_addMove_12 rfl (lv_at hl 0 rfl) ?_
    obtain ⟨r_3, er_3, hE⟩ := cl_e hE
    refine gf_X5_123 C hW k_x0 er_3 dX5_addMove_13 (fun k_r_3 => ?_)
    refine lv_aload_n C.1 C.2.1 dX5_addMove_16 rfl (lv_at hl 0 rfl) ?_
    refine gf_X5_82 C hW k_x0 dX5_addMove_17 ?_
    refine lv_iload_n C.1 C.2.1 dX5_addMove_20 rfl (lv_at hl 1 rfl) ?_
    obtain ⟨g_4, hE⟩ := gd_e hE
    obtain ⟨h_5, eh_5, hE⟩ := nm_e2 hE
    refine y_iast C hW hZ k_r_3 g_4 eh_5 dX5_addMove_21 (fun _ _ hW km hZ => ?_)
    replace hkm := hkm.tr km
    replace k_x0 := km.at k_x0 (by decide)
    refine lv_aload_n C.1 C.2.1 dX5_addMove_22 rfl (lv_at hl 0 rfl) ?_
    refine lv_dup C.1 C.2.1 dX5_addMove_23 rfl ?_
    refine gf_X5_82 C hW k_x0 dX5_addMove_24 ?_
    refine lv_iconst (v := (1 : Int32)) C.1 C.2.1 dX5_addMove_27 (by decide) ?_
    refine lv_iadd C.1 C.2.1 dX5_addMove_28 ?_
    obtain ⟨h_6, eh_6, hE⟩ := nm_e2 hE
    refine pf_X5_82 C hW hZ k_x0 eh_6 dX5_addMove_29 (fun _ _ hW km hZ => ?_)
    replace hkm := hkm.tr km
    replace k_x0 := km.at k_x0 (by decide)
    exact bX5_addMove_32 C hkm hW hZ _ (lv_sub hl [] rfl) hE
set_option maxRecDepth 100000 in
theorem ms_57 : Cond.selects RX5 yX5_addMove yX5_addMove ∈ W0 := w0_in (List.mem_append_left _ (List.mem_of_getElem? (i := 57) rfl)) rfl
set_option maxRecDepth 100000 in
theorem ms_56 : Cond.selects RX5 yX5_choices yX5_choices ∈ W0 := w0_in (List.mem_append_left _ (List.mem_of_getElem? (i := 56) rfl)) rfl
set_option maxRecDepth 100000 in
theorem ms_55 : Cond.selects RX5 yX5_moveAlong yX5_moveAlong ∈ W0 := w0_in (List.mem_append_left _ (List.mem_of_getElem? (i := 55) rfl)) rfl
set_option maxRecDepth 100000 in
theorem ms_54 : Cond.selects RX5 yX5_leads yX5_leads ∈ W0 := w0_in (List.mem_append_left _ (List.mem_of_getElem? (i := 54) rfl)) rfl
set_option maxRecDepth 100000 in
theorem m_129 : Cond.fieldLink RX5 163 (TX1 17).1 (TX1 17).2.1 (TX1 17).2.2.1 ∈ W0 := w0_in (List.mem_append_right _ (List.mem_of_getElem? (i := 129) rfl)) rfl
set_option maxRecDepth 100000 in
theorem m_1169 : Cond.methodLink RX5 153 yX5_leads ∈ W0 := w0_in (List.mem_append_right _ (List.mem_of_getElem? (i := 1169) rfl)) rfl
set_option maxRecDepth 100000 in
theorem m_1171 : Cond.instanceMethod yX5_leads ∈ W0 := w0_in (List.mem_append_right _ (List.mem_of_getElem? (i := 1171) rfl)) rfl
set_option maxRecDepth 100000 in
theorem m_1172 : Cond.code yX5_leads cX5_leads 8 (some .boolean) ∈ W0 := w0_in (List.mem_append_right _ (List.mem_of_getElem? (i := 1172) rfl)) rfl
set_option maxRecDepth 100000 in
theorem m_1173 : Cond.methodLink RX5 156 yX5_moveAlong ∈ W0 := w0_in (List.mem_append_right _ (List.mem_of_getElem? (i := 1173) rfl)) rfl
set_option maxRecDepth 100000 in
theorem m_1175 : Cond.instanceMethod yX5_moveAlong ∈ W0 := w0_in (List.mem_append_right _ (List.mem_of_getElem? (i := 1175) rfl)) rfl
set_option maxRecDepth 100000 in
theorem m_1176 : Cond.code yX5_moveAlong cX5_moveAlong 10 (some .int) ∈ W0 := w0_in (List.mem_append_right _ (List.mem_of_getElem? (i := 1176) rfl)) rfl
set_option maxRecDepth 100000 in
theorem m_1183 : Cond.methodLink RX5 159 yX5_choices ∈ W0 := w0_in (List.mem_append_right _ (List.mem_of_getElem? (i := 1183) rfl)) rfl
set_option maxRecDepth 100000 in
theorem m_1185 : Cond.instanceMethod yX5_choices ∈ W0 := w0_in (List.mem_append_right _ (List.mem_of_getElem? (i := 1185) rfl)) rfl
set_option maxRecDepth 100000 in
theorem m_1186 : Cond.code yX5_choices cX5_choices 3 (some .int) ∈ W0 := w0_in (List.mem_append_right _ (List.mem_of_getElem? (i := 1186) rfl)) rfl
set_option maxRecDepth 100000 in
theorem m_1196 : Cond.methodLink RX5 166 yX5_becoming ∈ W0 := w0_in (List.mem_append_right _ (List.mem_of_getElem? (i := 1196) rfl)) rfl
set_option maxRecDepth 100000 in
theorem m_1197 : Cond.static yX5_becoming ∈ W0 := w0_in (List.mem_append_right _ (List.mem_of_getElem? (i := 1197) rfl)) rfl
set_option maxRecDepth 100000 in
theorem m_1198 : Cond.code yX5_becoming cX5_becoming 2 (some .int) ∈ W0 := w0_in (List.mem_append_right _ (List.mem_of_getElem? (i := 1198) rfl)) rfl
set_option maxRecDepth 100000 in
theorem m_1200 : Cond.methodLink RX5 170 yX5_addMove ∈ W0 := w0_in (List.mem_append_right _ (List.mem_of_getElem? (i := 1200) rfl)) rfl
set_option maxRecDepth 100000 in
theorem m_1202 : Cond.instanceMethod yX5_addMove ∈ W0 := w0_in (List.mem_append_right _ (List.mem_of_getElem? (i := 1202) rfl)) rfl
set_option maxRecDepth 100000 in
theorem m_1203 : Cond.code yX5_addMove cX5_addMove 2 none ∈ W0 := w0_in (List.mem_append_right _ (List.mem_of_getElem? (i := 1203) rfl)) rfl
section
variable {p : Program} {l : Launch} {e : Env} {R : Room} {s : State} {m : MethodId} {args : Array Value} {below : List Frame} {meth : Method} {c : Code} {H : Heap} {locs : List Loc} {cells slots : Nat} {Q : State → Prop}
variable {cc : ByteArray} {pc : Nat} {ls : Array Slot} {rest : List Value} {X : Ec} {h h1 : Hp} {nL : Nat} {rt : Option FieldType} {mn : String}
theorem gf_X5_163 {a r : Nat} (C : Cx X p s m args meth c RX5 cc nL rt mn) (hW : Wx X h H) (ha : hK h a = 1) (hr : hR h a 17 = some r) (hdg : decode cc pc = .ok (.getfield 163, 3)) (kk : hK h r = 17 → W p l e R s m args below meth c H locs cells slots Q (F0 m (pc + 3) ls (.ref r :: rest))) : W p l e R s m args below meth c H locs cells slots Q (F0 m pc ls (.ref a :: rest)) :=
  y_getr C hW ha i_X1 (by decide) rfl (by decide) m_129 rfl rfl hr hdg kk
end
theorem cw_X5_170 : cwd RX5 170 yX5_addMove cX5_addMove 2 none false 1 := ⟨m_1203, m_1200, m_7, ⟨m_1202, ms_57⟩, by decide, by decide, by decide +kernel⟩
theorem cw_X5_166 : cwd RX5 166 yX5_becoming cX5_becoming 2 (some .int) true 2 := ⟨m_1198, m_1196, m_7, m_1197, by decide, by decide, by decide +kernel⟩
theorem cw_X5_153 : cwd RX5 153 yX5_leads cX5_leads 8 (some .boolean) false 3 := ⟨m_1172, m_1169, m_7, ⟨m_1171, ms_54⟩, by decide, by decide, by decide +kernel⟩
theorem cw_X5_156 : cwd RX5 156 yX5_moveAlong cX5_moveAlong 10 (some .int) false 3 := ⟨m_1176, m_1173, m_7, ⟨m_1175, ms_55⟩, by decide, by decide, by decide +kernel⟩
theorem cw_X5_159 : cwd RX5 159 yX5_choices cX5_choices 3 (some .int) false 1 := ⟨m_1186, m_1183, m_7, ⟨m_1185, ms_56⟩, by decide, by decide, by decide +kernel⟩
theorem dX5_addSteps_0 : decode cX5_addSteps 0 = .ok (.aload_n 0, 1) := by decide +kernel
theorem dX5_addSteps_1 : decode cX5_addSteps 1 = .ok (.getfield 71, 3) := by decide +kernel
theorem dX5_addSteps_4 : decode cX5_addSteps 4 = .ok (.getfield 42, 3) := by decide +kernel
theorem dX5_addSteps_7 : decode cX5_addSteps 7 = .ok (.iload_n 1, 1) := by decide +kernel
theorem dX5_addSteps_8 : decode cX5_addSteps 8 = .ok (.baload, 1) := by decide +kernel
theorem dX5_addSteps_9 : decode cX5_addSteps 9 = .ok (.istore_n 2, 1) := by decide +kernel
theorem dX5_addSteps_10 : decode cX5_addSteps 10 = .ok (.iconst (-1), 1) := by decide +kernel
theorem dX5_addSteps_11 : decode cX5_addSteps 11 = .ok (.istore_n 3, 1) := by decide +kernel
theorem dX5_addSteps_12 : decode cX5_addSteps 12 = .ok (.aload_n 0, 1) := by decide +kernel
theorem dX5_addSteps_13 : decode cX5_addSteps 13 = .ok (.getfield 26, 3) := by decide +kernel
theorem dX5_addSteps_16 : decode cX5_addSteps 16 = .ok (.getfield 51, 3) := by decide +kernel
theorem dX5_addSteps_19 : decode cX5_addSteps 19 = .ok (.iload_n 2, 1) := by decide +kernel
theorem dX5_addSteps_20 : decode cX5_addSteps 20 = .ok (.iload_n 1, 1) := by decide +kernel
theorem dX5_addSteps_21 : decode cX5_addSteps 21 = .ok (.bipush 64, 2) := by decide +kernel
theorem dX5_addSteps_23 : decode cX5_addSteps 23 = .ok (.invokestatic 142, 3) := by decide +kernel
theorem dX5_addSteps_26 : decode cX5_addSteps 26 = .ok (.iaload, 1) := by decide +kernel
theorem dX5_addSteps_27 : decode cX5_addSteps 27 = .ok (.istore 4, 2) := by decide +kernel
theorem dX5_addSteps_29 : decode cX5_addSteps 29 = .ok (.aload_n 0, 1) := by decide +kernel
theorem dX5_addSteps_30 : decode cX5_addSteps 30 = .ok (.getfield 26, 3) := by decide +kernel
theorem dX5_addSteps_33 : decode cX5_addSteps 33 = .ok (.getfield 51, 3) := by decide +kernel
theorem dX5_addSteps_36 : decode cX5_addSteps 36 = .ok (.iload_n 2, 1) := by decide +kernel
theorem dX5_addSteps_37 : decode cX5_addSteps 37 = .ok (.iload_n 1, 1) := by decide +kernel
theorem dX5_addSteps_38 : decode cX5_addSteps 38 = .ok (.iconst 0, 1) := by decide +kernel
theorem dX5_addSteps_39 : decode cX5_addSteps 39 = .ok (.invokestatic 142, 3) := by decide +kernel
theorem dX5_addSteps_42 : decode cX5_addSteps 42 = .ok (.iaload, 1) := by decide +kernel
theorem dX5_addSteps_43 : decode cX5_addSteps 43 = .ok (.istore 5, 2) := by decide +kernel
theorem dX5_addSteps_45 : decode cX5_addSteps 45 = .ok (.iload 5, 2) := by decide +kernel
theorem dX5_addSteps_47 : decode cX5_addSteps 47 = .ok (.iload 4, 2) := by decide +kernel
theorem dX5_addSteps_49 : decode cX5_addSteps 49 = .ok (.if_icmp .ge 127, 3) := by decide +kernel
theorem dX5_addSteps_52 : decode cX5_addSteps 52 = .ok (.aload_n 0, 1) := by decide +kernel
theorem dX5_addSteps_53 : decode cX5_addSteps 53 = .ok (.getfield 26, 3) := by decide +kernel
theorem dX5_addSteps_56 : decode cX5_addSteps 56 = .ok (.getfield 54, 3) := by decide +kernel
theorem dX5_addSteps_59 : decode cX5_addSteps 59 = .ok (.iload 5, 2) := by decide +kernel
theorem dX5_addSteps_61 : decode cX5_addSteps 61 = .ok (.iaload, 1) := by decide +kernel
theorem dX5_addSteps_62 : decode cX5_addSteps 62 = .ok (.bipush 63, 2) := by decide +kernel
theorem dX5_addSteps_64 : decode cX5_addSteps 64 = .ok (.iand, 1) := by decide +kernel
theorem dX5_addSteps_65 : decode cX5_addSteps 65 = .ok (.istore 6, 2) := by decide +kernel
theorem dX5_addSteps_67 : decode cX5_addSteps 67 = .ok (.iload 6, 2) := by decide +kernel
theorem dX5_addSteps_69 : decode cX5_addSteps 69 = .ok (.iload_n 3, 1) := by decide +kernel
theorem dX5_addSteps_70 : decode cX5_addSteps 70 = .ok (.if_icmp .eq 100, 3) := by decide +kernel
theorem dX5_addSteps_73 : decode cX5_addSteps 73 = .ok (.aload_n 0, 1) := by decide +kernel
theorem dX5_addSteps_74 : decode cX5_addSteps 74 = .ok (.aload_n 0, 1) := by decide +kernel
theorem dX5_addSteps_75 : decode cX5_addSteps 75 = .ok (.getfield 71, 3) := by decide +kernel
theorem dX5_addSteps_78 : decode cX5_addSteps 78 = .ok (.iload 5, 2) := by decide +kernel
theorem dX5_addSteps_80 : decode cX5_addSteps 80 = .ok (.aload_n 0, 1) := by decide +kernel
theorem dX5_addSteps_81 : decode cX5_addSteps 81 = .ok (.getfield 71, 3) := by decide +kernel
theorem dX5_addSteps_84 : decode cX5_addSteps 84 = .ok (.getfield 78, 3) := by decide +kernel
theorem dX5_addSteps_87 : decode cX5_addSteps 87 = .ok (.invokevirtual 153, 3) := by decide +kernel
theorem dX5_addSteps_90 : decode cX5_addSteps 90 = .ok (.ifCond .ne 6, 3) := by decide +kernel
theorem dX5_addSteps_93 : decode cX5_addSteps 93 = .ok (.goto 77, 3) := by decide +kernel
theorem dX5_addSteps_96 : decode cX5_addSteps 96 = .ok (.iload 6, 2) := by decide +kernel
theorem dX5_addSteps_98 : decode cX5_addSteps 98 = .ok (.istore_n 3, 1) := by decide +kernel
theorem dX5_addSteps_99 : decode cX5_addSteps 99 = .ok (.aload_n 0, 1) := by decide +kernel
theorem dX5_addSteps_100 : decode cX5_addSteps 100 = .ok (.iload 5, 2) := by decide +kernel
theorem dX5_addSteps_102 : decode cX5_addSteps 102 = .ok (.iload_n 1, 1) := by decide +kernel
theorem dX5_addSteps_103 : decode cX5_addSteps 103 = .ok (.iload_n 2, 1) := by decide +kernel
theorem dX5_addSteps_104 : decode cX5_addSteps 104 = .ok (.invokevirtual 156, 3) := by decide +kernel
theorem dX5_addSteps_107 : decode cX5_addSteps 107 = .ok (.istore 7, 2) := by decide +kernel
theorem dX5_addSteps_109 : decode cX5_addSteps 109 = .ok (.aload_n 0, 1) := by decide +kernel
theorem dX5_addSteps_110 : decode cX5_addSteps 110 = .ok (.iload 7, 2) := by decide +kernel
theorem dX5_addSteps_112 : decode cX5_addSteps 112 = .ok (.invokevirtual 159, 3) := by decide +kernel
theorem dX5_addSteps_115 : decode cX5_addSteps 115 = .ok (.istore 8, 2) := by decide +kernel
theorem dX5_addSteps_117 : decode cX5_addSteps 117 = .ok (.iconst 0, 1) := by decide +kernel
theorem dX5_addSteps_118 : decode cX5_addSteps 118 = .ok (.istore 9, 2) := by decide +kernel
theorem dX5_addSteps_120 : decode cX5_addSteps 120 = .ok (.iload 9, 2) := by decide +kernel
theorem dX5_addSteps_122 : decode cX5_addSteps 122 = .ok (.iload 8, 2) := by decide +kernel
theorem dX5_addSteps_124 : decode cX5_addSteps 124 = .ok (.if_icmp .ge 35, 3) := by decide +kernel
theorem dX5_addSteps_127 : decode cX5_addSteps 127 = .ok (.aload_n 0, 1) := by decide +kernel
theorem dX5_addSteps_128 : decode cX5_addSteps 128 = .ok (.iload 7, 2) := by decide +kernel
theorem dX5_addSteps_130 : decode cX5_addSteps 130 = .ok (.aload_n 0, 1) := by decide +kernel
theorem dX5_addSteps_131 : decode cX5_addSteps 131 = .ok (.getfield 22, 3) := by decide +kernel
theorem dX5_addSteps_134 : decode cX5_addSteps 134 = .ok (.getfield 163, 3) := by decide +kernel
theorem dX5_addSteps_137 : decode cX5_addSteps 137 = .ok (.iload_n 2, 1) := by decide +kernel
theorem dX5_addSteps_138 : decode cX5_addSteps 138 = .ok (.iconst 1, 1) := by decide +kernel
theorem dX5_addSteps_139 : decode cX5_addSteps 139 = .ok (.ishr, 1) := by decide +kernel
theorem dX5_addSteps_140 : decode cX5_addSteps 140 = .ok (.bipush 6, 2) := by decide +kernel
theorem dX5_addSteps_142 : decode cX5_addSteps 142 = .ok (.imul, 1) := by decide +kernel
theorem dX5_addSteps_143 : decode cX5_addSteps 143 = .ok (.iload 9, 2) := by decide +kernel
theorem dX5_addSteps_145 : decode cX5_addSteps 145 = .ok (.iadd, 1) := by decide +kernel
theorem dX5_addSteps_146 : decode cX5_addSteps 146 = .ok (.iaload, 1) := by decide +kernel
theorem dX5_addSteps_147 : decode cX5_addSteps 147 = .ok (.invokestatic 166, 3) := by decide +kernel
theorem dX5_addSteps_150 : decode cX5_addSteps 150 = .ok (.invokevirtual 170, 3) := by decide +kernel
theorem dX5_addSteps_153 : decode cX5_addSteps 153 = .ok (.iinc 9 1, 3) := by decide +kernel
theorem dX5_addSteps_156 : decode cX5_addSteps 156 = .ok (.goto (-36), 3) := by decide +kernel
theorem dX5_addSteps_159 : decode cX5_addSteps 159 = .ok (.iload 8, 2) := by decide +kernel
theorem dX5_addSteps_161 : decode cX5_addSteps 161 = .ok (.ifCond .ne 9, 3) := by decide +kernel
theorem dX5_addSteps_164 : decode cX5_addSteps 164 = .ok (.aload_n 0, 1) := by decide +kernel
theorem dX5_addSteps_165 : decode cX5_addSteps 165 = .ok (.iload 7, 2) := by decide +kernel
theorem dX5_addSteps_167 : decode cX5_addSteps 167 = .ok (.invokevirtual 170, 3) := by decide +kernel
theorem dX5_addSteps_170 : decode cX5_addSteps 170 = .ok (.iinc 5 1, 3) := by decide +kernel
theorem dX5_addSteps_173 : decode cX5_addSteps 173 = .ok (.goto (-128), 3) := by decide +kernel
theorem dX5_addSteps_176 : decode cX5_addSteps 176 = .ok (.return_, 1) := by decide +kernel
def sX5_addSteps_170 (F : Nat) (k_45 : Hp → Nat → Int32 → Int32 → Int32 → Int32 → Int32 → Option (Hp)) (h : Hp) (x0 : Nat) (x1 : Int32) (x2 : Int32) (x3 : Int32) (x4 : Int32) (x5 : Int32) : Option (Hp) := nm (x5 + (1 : Int32)) fun v_1 => k_45 h x0 x1 x2 x3 x4 v_1
def sX5_addSteps_120 (F : Nat) (k_45 : Hp → Nat → Int32 → Int32 → Int32 → Int32 → Int32 → Option (Hp)) : Nat → Hp → Nat → Int32 → Int32 → Int32 → Int32 → Int32 → Int32 → Int32 → Int32 → Option (Hp)
  | 0, _, _, _, _, _, _, _, _, _, _ => none
  | f + 1, h, x0, x1, x2, x3, x4, x5, x7, x8, x9 => br (x8 ≤ x9) (br (x8 = 0) (cl (sX5_addMove h x0 x7) fun o_3 => sX5_addSteps_170 F k_45 o_3 x0 x1 x2 x3 x4 x5) (sX5_addSteps_170 F k_45 h x0 x1 x2 x3 x4 x5)) (cl (hR h x0 0) fun r_4 => cl (hR h r_4 17) fun r_5 => gd (inB (((x2 >>> ((1 : Int32) &&& 31)) * (6 : Int32)) + x9) (hN h r_5)) <| cl (sX5_becoming h x7 (hI h r_5 (((x2 >>> ((1 : Int32) &&& 31)) * (6 : Int32)) + x9).toNatClampNeg)) fun o_7 => cl (sX5_addMove o_7.2 x0 o_7.1) fun o_8 => nm (x9 + (1 : Int32)) fun v_9 => sX5_addSteps_120 F k_45 f o_8 x0 x1 x2 x3 x4 x5 x7 x8 v_9)
def sX5_addSteps_45 (F : Nat) : Nat → Hp → Nat → Int32 → Int32 → Int32 → Int32 → Int32 → Option (Hp)
  | 0, _, _, _, _, _, _, _ => none
  | f + 1, h, x0, x1, x2, x3, x4, x5 => br (x4 ≤ x5) (some h) (cl (hR h x0 1) fun r_2 => cl (hR h r_2 1) fun r_3 => gd (inB x5 (hN h r_3)) <| nm ((hI h r_3 x5.toNatClampNeg) &&& (63 : Int32)) fun v_5 => br (v_5 = x3) (sX5_addSteps_170 F (sX5_addSteps_45 F f) h x0 x1 x2 x3 x4 x5) (cl (hR h x0 4) fun r_7 => cl (hR h x0 4) fun r_8 => cl (sX5_leads h x0 r_7 x5 (hI h r_8 5)) fun o_9 => br (o_9.1 = 0) (sX5_addSteps_170 F (sX5_addSteps_45 F f) o_9.2 x0 x1 x2 x3 x4 x5) (cl (sX5_moveAlong o_9.2 x0 x5 x1 x2) fun o_11 => cl (sX5_choices o_11.2 x0 o_11.1) fun o_12 => sX5_addSteps_120 F (sX5_addSteps_45 F f) F o_12.2 x0 x1 x2 v_5 x4 x5 o_11.1 o_12.1 (0 : Int32))))
def sX5_addSteps (F : Nat) (h : Hp) (x0 : Nat) (x1 : Int32) : Option (Hp) := cl (hR h x0 4) fun r_1 => cl (hR h r_1 0) fun r_2 => gd (inB x1 (hN h r_2)) <| nm (hI h r_2 x1.toNatClampNeg) fun v_4 => cl (hR h x0 1) fun r_5 => cl (hR h r_5 0) fun r_6 => cl (sX10_cell h v_4 x1 (64 : Int32)) fun o_7 => gd (inB o_7.1 (hN o_7.2 r_6)) <| nm (hI o_7.2 r_6 o_7.1.toNatClampNeg) fun v_9 => cl (hR o_7.2 x0 1) fun r_10 => cl (hR o_7.2 r_10 0) fun r_11 => cl (sX10_cell o_7.2 v_4 x1 (0 : Int32)) fun o_12 => gd (inB o_12.1 (hN o_12.2 r_11)) <| nm (hI o_12.2 r_11 o_12.1.toNatClampNeg) fun v_14 => sX5_addSteps_45 F F o_12.2 x0 x1 v_4 (-1 : Int32) v_9 v_14
set_option maxRecDepth 20000 in
theorem moX5_addSteps_170 {o : Hp} {k_45 : Hp → Nat → Int32 → Int32 → Int32 → Int32 → Int32 → Option (Hp)} {F : Nat} (mk_45 : ∀ (h : Hp) (x0 : Nat) (x1 : Int32) (x2 : Int32) (x3 : Int32) (x4 : Int32) (x5 : Int32), k_45 h x0 x1 x2 x3 x4 x5 = some o → Le h o) {h : Hp} {x0 : Nat} {x1 : Int32} {x2 : Int32} {x3 : Int32} {x4 : Int32} {x5 : Int32} (hE : sX5_addSteps_170 F k_45 h x0 x1 x2 x3 x4 x5 = some o) : Le h o := by
  obtain ⟨v_1, ev_1, hE⟩ := nm_e2 hE
  exact mk_45 _ _ _ _ _ _ _ hE
set_option maxRecDepth 20000 in
theorem moX5_addSteps_120 {o : Hp} {k_45 : Hp → Nat → Int32 → Int32 → Int32 → Int32 → Int32 → Option (Hp)} {F : Nat} (mk_45 : ∀ (h : Hp) (x0 : Nat) (x1 : Int32) (x2 : Int32) (x3 : Int32) (x4 : Int32) (x5 : Int32), k_45 h x0 x1 x2 x3 x4 x5 = some o → Le h o) : ∀ (f : Nat) {h : Hp} {x0 : Nat} {x1 : Int32} {x2 : Int32} {x3 : Int32} {x4 : Int32} {x5 : Int32} {x7 : Int32} {x8 : Int32} {x9 : Int32}, sX5_addSteps_120 F k_45 f h x0 x1 x2 x3 x4 x5 x7 x8 x9 = some o → Le h o := by
  intro f
  induction f with
  | zero =>
    intro h x0 x1 x2 x3 x4 x5 x7 x8 x9 hE
    rw [sX5_addSteps_120] at hE
    cases hE
  | succ f ih =>
    intro h x0 x1 x2 x3 x4 x5 x7 x8 x9 hE
    rw [sX5_addSteps_120] at hE
    have mk_120 : ∀ (h : Hp) (x0 : Nat) (x1 : Int32) (x2 : Int32) (x3 : Int32) (x4 : Int32) (x5 : Int32) (x7 : Int32) (x8 : Int32) (x9 : Int32), sX5_addSteps_120 F k_45 f h x0 x1 x2 x3 x4 x5 x7 x8 x9 = some o → Le h o := fun h x0 x1 x2 x3 x4 x5 x7 x8 x9 hE => ih hE
    rcases br_e hE with ⟨_, hE⟩ | ⟨_, hE⟩
    · rcases br_e hE with ⟨_, hE⟩ | ⟨_, hE⟩
      · obtain ⟨o_3, eo_3, hE⟩ := cl_e hE
        refine (moX5_addMove eo_3).tr ?_
        exact moX5_addSteps_170 mk_45 hE
      · exact moX5_addSteps_170 mk_45 hE
    · obtain ⟨r_4, er_4, hE⟩ := cl_e hE
      obtain ⟨r_5, er_5, hE⟩ := cl_e hE
      obtain ⟨g_6, hE⟩ := gd_e hE
      obtain ⟨o_7, eo_7, hE⟩ := cl_e hE
      refine (moX5_becoming eo_7).tr ?_
      obtain ⟨o_8, eo_8, hE⟩ := cl_e hE
      refine (moX5_addMove eo_8).tr ?_
      obtain ⟨v_9, ev_9, hE⟩ := nm_e2 hE
      exact mk_120 _ _ _ _ _ _ _ _ _ _ hE
set_option maxRecDepth 20000 in
theorem moX5_addSteps_45 {o : Hp} {F : Nat} : ∀ (f : Nat) {h : Hp} {x0 : Nat} {x1 : Int32} {x2 : Int32} {x3 : Int32} {x4 : Int32} {x5 : Int32}, sX5_addSteps_45 F f h x0 x1 x2 x3 x4 x5 = some o → Le h o := by
  intro f
  induction f with
  | zero =>
    intro h x0 x1 x2 x3 x4 x5 hE
    rw [sX5_addSteps_45] at hE
    cases hE
  | succ f ih =>
    intro h x0 x1 x2 x3 x4 x5 hE
    rw [sX5_addSteps_45] at hE
    have mk_45 : ∀ (h : Hp) (x0 : Nat) (x1 : Int32) (x2 : Int32) (x3 : Int32) (x4 : Int32) (x5 : Int32), sX5_addSteps_45 F f h x0 x1 x2 x3 x4 x5 = some o → Le h o := fun h x0 x1 x2 x3 x4 x5 hE => ih hE
    rcases br_e hE with ⟨_, hE⟩ | ⟨_, hE⟩
    · exact le_some1 hE
    · obtain ⟨r_2, er_2, hE⟩ := cl_e hE
      obtain ⟨r_3, er_3, hE⟩ := cl_e hE
      obtain ⟨g_4, hE⟩ := gd_e hE
      obtain ⟨v_5, ev_5, hE⟩ := nm_e2 hE
      rcases br_e hE with ⟨_, hE⟩ | ⟨_, hE⟩
      · exact moX5_addSteps_170 mk_45 hE
      · obtain ⟨r_7, er_7, hE⟩ := cl_e hE
        obtain ⟨r_8, er_8, hE⟩ := cl_e hE
        obtain ⟨o_9, eo_9, hE⟩ := cl_e hE
        refine (moX5_leads eo_9).tr ?_
        rcases br_e hE with ⟨_, hE⟩ | ⟨_, hE⟩
        · exact moX5_addSteps_170 mk_45 hE
        · obtain ⟨o_11, eo_11, hE⟩ := cl_e hE
          refine (moX5_moveAlong eo_11).tr ?_
          obtain ⟨o_12, eo_12, hE⟩ := cl_e hE
          refine (moX5_choices eo_12).tr ?_
          exact moX5_addSteps_120 mk_45 _ hE
set_option maxRecDepth 20000 in
theorem moX5_addSteps {o : Hp} {F : Nat} {h : Hp} {x0 : Nat} {x1 : Int32} (hE : sX5_addSteps F h x0 x1 = some o) : Le h o := by
  obtain ⟨r_1, er_1, hE⟩ := cl_e hE
  obtain ⟨r_2, er_2, hE⟩ := cl_e hE
  obtain ⟨g_3, hE⟩ := gd_e hE
  obtain ⟨v_4, ev_4, hE⟩ := nm_e2 hE
  obtain ⟨r_5, er_5, hE⟩ := cl_e hE
  obtain ⟨r_6, er_6, hE⟩ := cl_e hE
  obtain ⟨o_7, eo_7, hE⟩ := cl_e hE
  refine (moX10_cell eo_7).tr ?_
  obtain ⟨g_8, hE⟩ := gd_e hE
  obtain ⟨v_9, ev_9, hE⟩ := nm_e2 hE
  obtain ⟨r_10, er_10, hE⟩ := cl_e hE
  obtain ⟨r_11, er_11, hE⟩ := cl_e hE
  obtain ⟨o_12, eo_12, hE⟩ := cl_e hE
  refine (moX10_cell eo_12).tr ?_
  obtain ⟨g_13, hE⟩ := gd_e hE
  obtain ⟨v_14, ev_14, hE⟩ := nm_e2 hE
  exact moX5_addSteps_45 _ hE
set_option maxRecDepth 20000 in
theorem bX5_addSteps_170 {p : Program} {l : Launch} {e : Env} {s : State} {m : MethodId} {args : Array Value} {below : List Frame} {meth : Method} {c : Code} {X : Ec} {h0 : Hp} {o : Hp} {k_45 : Hp → Nat → Int32 → Int32 → Int32 → Int32 → Int32 → Option (Hp)} {F : Nat} (C : Cx X p s m args meth c RX5 cX5_addSteps 10 none "addSteps") (hk_45 : ∀ (h : Hp) (x0 : Nat) (x1 : Int32) (x2 : Int32) (x3 : Int32) (x4 : Int32) (x5 : Int32) (H : Heap) (locs : List Loc), hK h x0 = 5 → Km h0 h → Wx X h H → va_S (aA (eB X)) s.heap H locs → ∀ (ls : Array Slot), lv_has ls 10 [(0, .ref x0), (1, .int x1), (2, .int x2), (3, .int x3), (4, .int x4), (5, .int x5)] → k_45 h x0 x1 x2 x3 x4 x5 = some o → W p l e (rm 2 52) s m args below meth c H locs 0 0 (MQ below (QV X h0 o) args s 0 0 (aA (eB X))) (F0 m 45 ls [])) {h : Hp} {x0 : Nat} {x1 : Int32} {x2 : Int32} {x3 : Int32} {x4 : Int32} {x5 : Int32} {H : Heap} {locs : List Loc} (k_x0 : hK h x0 = 5) (hkm : Km h0 h) (hW : Wx X h H) (hZ : va_S (aA (eB X)) s.heap H locs) (ls : Array Slot) (hl : lv_has ls 10 [(0, .ref x0), (1, .int x1), (2, .int x2), (3, .int x3), (4, .int x4), (5, .int x5)]) (hE : sX5_addSteps_170 F k_45 h x0 x1 x2 x3 x4 x5 = some o) : W p l e (rm 2 52) s m args below meth c H locs 0 0 (MQ below (QV X h0 o) args s 0 0 (aA (eB X))) (F0 m 170 ls []) := by
  obtain ⟨v_1, ev_1, hE⟩ := nm_e2 hE
  refine lv_iinc (v := v_1) (lv' := [(5, .int v_1), (0, .ref x0), (1, .int x1), (2, .int x2), (3, .int x3), (4, .int x4)]) C.1 C.2.1 dX5_addSteps_170 hl (k := 5) rfl (by rw [ev_1]; rfl) (by decide) rfl (fun ls hl => ?_)
  refine lv_goto (tgt := 45) C.1 C.2.1 dX5_addSteps_173 (by decide) ?_
  exact hk_45 _ _ _ _ _ _ _ _ _ k_x0 hkm hW hZ _ (lv_sub hl [1, 2, 3, 4, 5, 0] rfl) hE
set_option maxRecDepth 20000 in
theorem bX5_addSteps_120 {p : Program} {l : Launch} {e : Env} {s : State} {m : MethodId} {args : Array Value} {below : List Frame} {meth : Method} {c : Code} {X : Ec} {h0 : Hp} {o : Hp} {k_45 : Hp → Nat → Int32 → Int32 → Int32 → Int32 → Int32 → Option (Hp)} {F : Nat} (C : Cx X p s m args meth c RX5 cX5_addSteps 10 none "addSteps") (hk_45 : ∀ (h : Hp) (x0 : Nat) (x1 : Int32) (x2 : Int32) (x3 : Int32) (x4 : Int32) (x5 : Int32) (H : Heap) (locs : List Loc), hK h x0 = 5 → Km h0 h → Wx X h H → va_S (aA (eB X)) s.heap H locs → ∀ (ls : Array Slot), lv_has ls 10 [(0, .ref x0), (1, .int x1), (2, .int x2), (3, .int x3), (4, .int x4), (5, .int x5)] → k_45 h x0 x1 x2 x3 x4 x5 = some o → W p l e (rm 2 52) s m args below meth c H locs 0 0 (MQ below (QV X h0 o) args s 0 0 (aA (eB X))) (F0 m 45 ls [])) : ∀ (f : Nat) {h : Hp} {x0 : Nat} {x1 : Int32} {x2 : Int32} {x3 : Int32} {x4 : Int32} {x5 : Int32} {x7 : Int32} {x8 : Int32} {x9 : Int32} {H : Heap} {locs : List Loc} (k_x0 : hK h x0 = 5), Km h0 h → Wx X h H → va_S (aA (eB X)) s.heap H locs → ∀ (ls : Array Slot), lv_has ls 10 [(0, .ref x0), (1, .int x1), (2, .int x2), (3, .int x3), (4, .int x4), (5, .int x5), (7, .int x7), (8, .int x8), (9, .int x9)] → sX5_addSteps_120 F k_45 f h x0 x1 x2 x3 x4 x5 x7 x8 x9 = some o → W p l e (rm 2 52) s m args below meth c H locs 0 0 (MQ below (QV X h0 o) args s 0 0 (aA (eB X))) (F0 m 120 ls []) := by
  intro f
  induction f with
  | zero =>
    intro h x0 x1 x2 x3 x4 x5 x7 x8 x9 H locs k_x0 hkm hW hZ ls hl hE
    rw [sX5_addSteps_120] at hE
    cases hE
  | succ f ih =>
    intro h x0 x1 x2 x3 x4 x5 x7 x8 x9 H locs k_x0 hkm hW hZ ls hl hE
    rw [sX5_addSteps_120] at hE
    have hk_120 : ∀ (h : Hp) (x0 : Nat) (x1 : Int32) (x2 : Int32) (x3 : Int32) (x4 : Int32) (x5 : Int32) (x7 : Int32) (x8 : Int32) (x9 : Int32) (H : Heap) (locs : List Loc), hK h x0 = 5 → Km h0 h → Wx X h H → va_S (aA (eB X)) s.heap H locs → ∀ (ls : Array Slot), lv_has ls 10 [(0, .ref x0), (1, .int x1), (2, .int x2), (3, .int x3), (4, .int x4), (5, .int x5), (7, .int x7), (8, .int x8), (9, .int x9)] → sX5_addSteps_120 F k_45 f h x0 x1 x2 x3 x4 x5 x7 x8 x9 = some o → W p l e (rm 2 52) s m args below meth c H locs 0 0 (MQ below (QV X h0 o) args s 0 0 (aA (eB X))) (F0 m 120 ls []) := fun h x0 x1 x2 x3 x4 x5 x7 x8 x9 H locs k_x0 a b c ls hl hE => ih k_x0 a b c ls hl hE
    refine lv_iload C.1 C.2.1 dX5_addSteps_120 (lv_at hl 8 rfl) ?_
    refine lv_iload C.1 C.2.1 dX5_addSteps_122 (lv_at hl 7 rfl) ?_
    refine lv_icmp_ge (tgt := 159) C.1 C.2.1 dX5_addSteps_124 (by decide) (fun c_1 => ?_) (fun c_1 => ?_)
    · have hE := br_p hE c_1
      refine lv_iload C.1 C.2.1 dX5_addSteps_159 (lv_at hl 7 rfl) ?_
      refine lv_if_ne (tgt := 170) C.1 C.2.1 dX5_addSteps_161 (by decide) (fun c_2 => ?_) (fun c_2 => ?_)
      · have hE := br_n hE c_2
        exact bX5_addSteps_170 C hk_45 k_x0 hkm hW hZ _ (lv_sub hl [0, 1, 2, 3, 4, 5] rfl) hE
      · have hE := br_p hE c_2
        refine lv_aload_n C.1 C.2.1 dX5_addSteps_164 rfl (lv_at hl 0 rfl) ?_
        refine lv_iload C.1 C.2.1 dX5_addSteps_165 (lv_at hl 6 rfl) ?_
        obtain ⟨o_3, eo_3, hE⟩ := cl_e hE
        refine x_kV (o := o_3) (z_runV (As := [.int x7]) (rest := []) C (ct_X5_addMove l X k_x0 eo_3) cw_X5_170 hW hZ k_x0 (by decide) rfl rfl rfl hl.1 (Nat.le_of_ble_eq_true rfl) rfl dX5_addSteps_167 ⟨Nat.le_of_ble_eq_true rfl, Nat.le_of_ble_eq_true rfl⟩ ⟨Nat.le_refl _, Nat.le_refl _⟩) hZ (fun _ _ hW km hZ => ?_)
        replace hkm := hkm.tr km
        replace k_x0 := km.at k_x0 (by decide)
        exact bX5_addSteps_170 C hk_45 k_x0 hkm hW hZ _ (lv_sub hl [0, 1, 2, 3, 4, 5] rfl) hE
    · have hE := br_n hE c_1
      refine lv_aload_n C.1 C.2.1 dX5_addSteps_127 rfl (lv_at hl 0 rfl) ?_
      refine lv_iload C.1 C.2.1 dX5_addSteps_128 (lv_at hl 6 rfl) ?_
      refine lv_aload_n C.1 C.2.1 dX5_addSteps_130 rfl (lv_at hl 0 rfl) ?_
      obtain ⟨r_4, er_4, hE⟩ := cl_e hE
      refine gf_X5_22 C hW k_x0 er_4 dX5_addSteps_131 (fun k_r_4 => ?_)
      obtain ⟨r_5, er_5, hE⟩ := cl_e hE
      refine gf_X5_163 C hW k_r_4 er_5 dX5_addSteps_134 (fun k_r_5 => ?_)
      refine lv_iload_n C.1 C.2.1 dX5_addSteps_137 rfl (lv_at hl 2 rfl) ?_
      refine lv_iconst (v := (1 : Int32)) C.1 C.2.1 dX5_addSteps_138 (by decide) ?_
      refine lv_ishr C.1 C.2.1 dX5_addSteps_139 ?_
      refine lv_bipush (v := (6 : Int32)) C.1 C.2.1 dX5_addSteps_140 (by decide) ?_
      refine lv_imul C.1 C.2.1 dX5_addSteps_142 ?_
      refine lv_iload C.1 C.2.1 dX5_addSteps_143 (lv_at hl 8 rfl) ?_
      refine lv_iadd C.1 C.2.1 dX5_addSteps_145 ?_
      obtain ⟨g_6, hE⟩ := gd_e hE
      refine y_iald C hW k_r_5 g_6 dX5_addSteps_146 ?_
      obtain ⟨o_7, eo_7, hE⟩ := cl_e hE
      refine x_kI (o := o_7) (z_runS (As := [.int x7, .int (hI h r_5 (((x2 >>> ((1 : Int32) &&& 31)) * (6 : Int32)) + x9).toNatClampNeg)]) (rest := [.ref x0]) C (ct_X5_becoming l X eo_7) cw_X5_166 hW hZ rfl hl.1 (Nat.le_of_ble_eq_true rfl) rfl dX5_addSteps_147 ⟨Nat.le_of_ble_eq_true rfl, Nat.le_of_ble_eq_true rfl⟩ ⟨Nat.le_refl _, Nat.le_refl _⟩) hZ (fun _ _ hW km hZ => ?_)
      replace hkm := hkm.tr km
      replace k_x0 := km.at k_x0 (by decide)
      obtain ⟨o_8, eo_8, hE⟩ := cl_e hE
      refine x_kV (o := o_8) (z_runV (As := [.int o_7.1]) (rest := []) C (ct_X5_addMove l X k_x0 eo_8) cw_X5_170 hW hZ k_x0 (by decide) rfl rfl rfl hl.1 (Nat.le_of_ble_eq_true rfl) rfl dX5_addSteps_150 ⟨Nat.le_of_ble_eq_true rfl, Nat.le_of_ble_eq_true rfl⟩ ⟨Nat.le_refl _, Nat.le_refl _⟩) hZ (fun _ _ hW km hZ => ?_)
      replace hkm := hkm.tr km
      replace k_x0 := km.at k_x0 (by decide)
      obtain ⟨v_9, ev_9, hE⟩ := nm_e2 hE
      refine lv_iinc (v := v_9) (lv' := [(9, .int v_9), (0, .ref x0), (1, .int x1), (2, .int x2), (3, .int x3), (4, .int x4), (5, .int x5), (7, .int x7), (8, .int x8)]) C.1 C.2.1 dX5_addSteps_153 hl (k := 8) rfl (by rw [ev_9]; rfl) (by decide) rfl (fun ls hl => ?_)
      refine lv_goto (tgt := 120) C.1 C.2.1 dX5_addSteps_156 (by decide) ?_
      exact hk_120 _ _ _ _ _ _ _ _ _ _ _ _ k_x0 hkm hW hZ _ (lv_sub hl [1, 2, 3, 4, 5, 6, 7, 8, 0] rfl) hE
set_option maxRecDepth 20000 in
theorem bX5_addSteps_45 {p : Program} {l : Launch} {e : Env} {s : State} {m : MethodId} {args : Array Value} {below : List Frame} {meth : Method} {c : Code} {X : Ec} {h0 : Hp} {o : Hp} {F : Nat} (C : Cx X p s m args meth c RX5 cX5_addSteps 10 none "addSteps") : ∀ (f : Nat) {h : Hp} {x0 : Nat} {x1 : Int32} {x2 : Int32} {x3 : Int32} {x4 : Int32} {x5 : Int32} {H : Heap} {locs : List Loc} (k_x0 : hK h x0 = 5), Km h0 h → Wx X h H → va_S (aA (eB X)) s.heap H locs → ∀ (ls : Array Slot), lv_has ls 10 [(0, .ref x0), (1, .int x1), (2, .int x2), (3, .int x3), (4, .int x4), (5, .int x5)] → sX5_addSteps_45 F f h x0 x1 x2 x3 x4 x5 = some o → W p l e (rm 2 52) s m args below meth c H locs 0 0 (MQ below (QV X h0 o) args s 0 0 (aA (eB X))) (F0 m 45 ls []) := by
  intro f
  induction f with
  | zero =>
    intro h x0 x1 x2 x3 x4 x5 H locs k_x0 hkm hW hZ ls hl hE
    rw [sX5_addSteps_45] at hE
    cases hE
  | succ f ih =>
    intro h x0 x1 x2 x3 x4 x5 H locs k_x0 hkm hW hZ ls hl hE
    rw [sX5_addSteps_45] at hE
    have hk_45 : ∀ (h : Hp) (x0 : Nat) (x1 : Int32) (x2 : Int32) (x3 : Int32) (x4 : Int32) (x5 : Int32) (H : Heap) (locs : List Loc), hK h x0 = 5 → Km h0 h → Wx X h H → va_S (aA (eB X)) s.heap H locs → ∀ (ls : Array Slot), lv_has ls 10 [(0, .ref x0), (1, .int x1), (2, .int x2), (3, .int x3), (4, .int x4), (5, .int x5)] → sX5_addSteps_45 F f h x0 x1 x2 x3 x4 x5 = some o → W p l e (rm 2 52) s m args below meth c H locs 0 0 (MQ below (QV X h0 o) args s 0 0 (aA (eB X))) (F0 m 45 ls []) := fun h x0 x1 x2 x3 x4 x5 H locs k_x0 a b c ls hl hE => ih k_x0 a b c ls hl hE
    refine lv_iload C.1 C.2.1 dX5_addSteps_45 (lv_at hl 5 rfl) ?_
    refine lv_iload C.1 C.2.1 dX5_addSteps_47 (lv_at hl 4 rfl) ?_
    refine lv_icmp_ge (tgt := 176) C.1 C.2.1 dX5_addSteps_49 (by decide) (fun c_1 => ?_) (fun c_1 => ?_)
    · have hE := br_p hE c_1
      exact x_vret C rfl hW hZ hkm hE dX5_addSteps_176
    · have hE := br_n hE c_1
      refine lv_aload_n C.1 C.2.1 dX5_addSteps_52 rfl (lv_at hl 0 rfl) ?_
      obtain ⟨r_2, er_2, hE⟩ := cl_e hE
      refine gf_X5_26 C hW k_x0 er_2 dX5_addSteps_53 (fun k_r_2 => ?_)
      obtain ⟨r_3, er_3, hE⟩ := cl_e hE
      refine gf_X5_54 C hW k_r_2 er_3 dX5_addSteps_56 (fun k_r_3 => ?_)
      refine lv_iload C.1 C.2.1 dX5_addSteps_59 (lv_at hl 5 rfl) ?_
      obtain ⟨g_4, hE⟩ := gd_e hE
      refine y_iald C hW k_r_3 g_4 dX5_addSteps_61 ?_
      refine lv_bipush (v := (63 : Int32)) C.1 C.2.1 dX5_addSteps_62 (by decide) ?_
      refine lv_iand C.1 C.2.1 dX5_addSteps_64 ?_
      obtain ⟨v_5, ev_5, hE⟩ := nm_e2 hE
      refine x_nmI ev_5 ?_
      refine lv_istore (lv' := [(6, .int v_5), (0, .ref x0), (1, .int x1), (2, .int x2), (3, .int x3), (4, .int x4), (5, .int x5)]) C.1 C.2.1 dX5_addSteps_65 hl (by decide) rfl (fun ls hl => ?_)
      refine lv_iload C.1 C.2.1 dX5_addSteps_67 (lv_at hl 0 rfl) ?_
      refine lv_iload_n C.1 C.2.1 dX5_addSteps_69 rfl (lv_at hl 4 rfl) ?_
      refine lv_icmp_eq (tgt := 170) C.1 C.2.1 dX5_addSteps_70 (by decide) (fun c_6 => ?_) (fun c_6 => ?_)
      · have hE := br_p hE c_6
        exact bX5_addSteps_170 C hk_45 k_x0 hkm hW hZ _ (lv_sub hl [1, 2, 3, 4, 5, 6] rfl) hE
      · have hE := br_n hE c_6
        refine lv_aload_n C.1 C.2.1 dX5_addSteps_73 rfl (lv_at hl 1 rfl) ?_
        refine lv_aload_n C.1 C.2.1 dX5_addSteps_74 rfl (lv_at hl 1 rfl) ?_
        obtain ⟨r_7, er_7, hE⟩ := cl_e hE
        refine gf_X5_71 C hW k_x0 er_7 dX5_addSteps_75 (fun k_r_7 => ?_)
        refine lv_iload C.1 C.2.1 dX5_addSteps_78 (lv_at hl 6 rfl) ?_
        refine lv_aload_n C.1 C.2.1 dX5_addSteps_80 rfl (lv_at hl 1 rfl) ?_
        obtain ⟨r_8, er_8, hE⟩ := cl_e hE
        refine gf_X5_71 C hW k_x0 er_8 dX5_addSteps_81 (fun k_r_8 => ?_)
        refine gf_X5_78 C hW k_r_8 dX5_addSteps_84 ?_
        obtain ⟨o_9, eo_9, hE⟩ := cl_e hE
        refine x_kI (o := o_9) (z_runV (As := [.ref r_7, .int x5, .int (hI h r_8 5)]) (rest := []) C (ct_X5_leads l X k_x0 k_r_7 eo_9) cw_X5_153 hW hZ k_x0 (by decide) rfl rfl rfl hl.1 (Nat.le_of_ble_eq_true rfl) rfl dX5_addSteps_87 ⟨Nat.le_of_ble_eq_true rfl, Nat.le_of_ble_eq_true rfl⟩ ⟨Nat.le_refl _, Nat.le_refl _⟩) hZ (fun _ _ hW km hZ => ?_)
        replace hkm := hkm.tr km
        replace k_x0 := km.at k_x0 (by decide)
        refine lv_if_ne (tgt := 96) C.1 C.2.1 dX5_addSteps_90 (by decide) (fun c_10 => ?_) (fun c_10 => ?_)
        · have hE := br_n hE c_10
          refine lv_iload C.1 C.2.1 dX5_addSteps_96 (lv_at hl 0 rfl) ?_
          refine lv_istore_n (lv' := [(3, .int v_5), (6, .int v_5), (0, .ref x0), (1, .int x1), (2, .int x2), (4, .int x4), (5, .int x5)]) C.1 C.2.1 dX5_addSteps_98 rfl hl (by decide) rfl (fun ls hl => ?_)
          refine lv_aload_n C.1 C.2.1 dX5_addSteps_99 rfl (lv_at hl 2 rfl) ?_
          refine lv_iload C.1 C.2.1 dX5_addSteps_100 (lv_at hl 6 rfl) ?_
          refine lv_iload_n C.1 C.2.1 dX5_addSteps_102 rfl (lv_at hl 3 rfl) ?_
          refine lv_iload_n C.1 C.2.1 dX5_addSteps_103 rfl (lv_at hl 4 rfl) ?_
          obtain ⟨o_11, eo_11, hE⟩ := cl_e hE
          refine x_kI (o := o_11) (z_runV (As := [.int x5, .int x1, .int x2]) (rest := []) C (ct_X5_moveAlong l X k_x0 eo_11) cw_X5_156 hW hZ k_x0 (by decide) rfl rfl rfl hl.1 (Nat.le_of_ble_eq_true rfl) rfl dX5_addSteps_104 ⟨Nat.le_of_ble_eq_true rfl, Nat.le_of_ble_eq_true rfl⟩ ⟨Nat.le_refl _, Nat.le_refl _⟩) hZ (fun _ _ hW km hZ => ?_)
          replace hkm := hkm.tr km
          replace k_x0 := km.at k_x0 (by decide)
          refine lv_istore (lv' := [(7, .int o_11.1), (3, .int v_5), (6, .int v_5), (0, .ref x0), (1, .int x1), (2, .int x2), (4, .int x4), (5, .int x5)]) C.1 C.2.1 dX5_addSteps_107 hl (by decide) rfl (fun ls hl => ?_)
          refine lv_aload_n C.1 C.2.1 dX5_addSteps_109 rfl (lv_at hl 3 rfl) ?_
          refine lv_iload C.1 C.2.1 dX5_addSteps_110 (lv_at hl 0 rfl) ?_
          obtain ⟨o_12, eo_12, hE⟩ := cl_e hE
          refine x_kI (o := o_12) (z_runV (As := [.int o_11.1]) (rest := []) C (ct_X5_choices l X k_x0 eo_12) cw_X5_159 hW hZ k_x0 (by decide) rfl rfl rfl hl.1 (Nat.le_of_ble_eq_true rfl) rfl dX5_addSteps_112 ⟨Nat.le_of_ble_eq_true rfl, Nat.le_of_ble_eq_true rfl⟩ ⟨Nat.le_refl _, Nat.le_refl _⟩) hZ (fun _ _ hW km hZ => ?_)
          replace hkm := hkm.tr km
          replace k_x0 := km.at k_x0 (by decide)
          refine lv_istore (lv' := [(8, .int o_12.1), (7, .int o_11.1), (3, .int v_5), (6, .int v_5), (0, .ref x0), (1, .int x1), (2, .int x2), (4, .int x4), (5, .int x5)]) C.1 C.2.1 dX5_addSteps_115 hl (by decide) rfl (fun ls hl => ?_)
          refine lv_iconst (v := (0 : Int32)) C.1 C.2.1 dX5_addSteps_117 (by decide) ?_
          refine lv_istore (lv' := [(9, .int (0 : Int32)), (8, .int o_12.1), (7, .int o_11.1), (3, .int v_5), (6, .int v_5), (0, .ref x0), (1, .int x1), (2, .int x2), (4, .int x4), (5, .int x5)]) C.1 C.2.1 dX5_addSteps_118 hl (by decide) rfl (fun ls hl => ?_)
          exact bX5_addSteps_120 C hk_45 F k_x0 hkm hW hZ _ (lv_sub hl [5, 6, 7, 3, 8, 9, 2, 1, 0] rfl) hE
        · have hE := br_p hE c_10
          refine lv_goto (tgt := 170) C.1 C.2.1 dX5_addSteps_93 (by decide) ?_
          exact bX5_addSteps_170 C hk_45 k_x0 hkm hW hZ _ (lv_sub hl [1, 2, 3, 4, 5, 6] rfl) hE
set_option maxRecDepth 20000 in
theorem ct_X5_addSteps (l : Launch) (X : Ec) (F : Nat) {h : Hp} {x0 : Nat} {x1 : Int32} {o : Hp} (k_x0 : hK h x0 = 5) (hE : sX5_addSteps F h x0 x1 = some o) : MetV l yX5_addSteps cX5_addSteps 10 none 2 52 X [.ref x0, .int x1] h o := by
  refine x_met (by decide) (Nat.le_of_ble_eq_true rfl) ?_
  intro p e s m below meth c ls C hl hW hZ
  have hl : lv_has ls 10 [(0, .ref x0), (1, .int x1)] := hl
  have hkm : Km h h := Km.rf h
  refine lv_aload_n C.1 C.2.1 dX5_addSteps_0 rfl (lv_at hl 0 rfl) ?_
  obtain ⟨r_1, er_1, hE⟩ := cl_e hE
  refine gf_X5_71 C hW k_x0 er_1 dX5_addSteps_1 (fun k_r_1 => ?_)
  obtain ⟨r_2, er_2, hE⟩ := cl_e hE
  refine gf_X5_42 C hW k_r_1 er_2 dX5_addSteps_4 (fun k_r_2 => ?_)
  refine lv_iload_n C.1 C.2.1 dX5_addSteps_7 rfl (lv_at hl 1 rfl) ?_
  obtain ⟨g_3, hE⟩ := gd_e hE
  refine y_bald C hW k_r_2 g_3 dX5_addSteps_8 ?_
  obtain ⟨v_4, ev_4, hE⟩ := nm_e2 hE
  refine x_nmI ev_4 ?_
  refine lv_istore_n (lv' := [(2, .int v_4), (0, .ref x0), (1, .int x1)]) C.1 C.2.1 dX5_addSteps_9 rfl hl (by decide) rfl (fun ls hl => ?_)
  refine lv_iconst (v := (-1 : Int32)) C.1 C.2.1 dX5_addSteps_10 (by decide) ?_
  refine lv_istore_n (lv' := [(3, .int (-1 : Int32)), (2, .int v_4), (0, .ref x0), (1, .int x1)]) C.1 C.2.1 dX5_addSteps_11 rfl hl (by decide) rfl (fun ls hl => ?_)
  refine lv_aload_n C.1 C.2.1 dX5_addSteps_12 rfl (lv_at hl 2 rfl) ?_
  obtain ⟨r_5, er_5, hE⟩ := cl_e hE
  refine gf_X5_26 C hW k_x0 er_5 dX5_addSteps_13 (fun k_r_5 => ?_)
  obtain ⟨r_6, er_6, hE⟩ := cl_e hE
  refine gf_X5_51 C hW k_r_5 er_6 dX5_addSteps_16 (fun k_r_6 => ?_)
  refine lv_iload_n C.1 C.2.1 dX5_addSteps_19 rfl (lv_at hl 1 rfl) ?_
  refine lv_iload_n C.1 C.2.1 dX5_addSteps_20 rfl (lv_at hl 3 rfl) ?_
  refine lv_bipush (v := (64 : Int32)) C.1 C.2.1 dX5_addSteps_21 (by decide) ?_
  obtain ⟨o_7, eo_7, hE⟩ := cl_e hE
  refine x_kI (o := o_7) (z_runS (As := [.int v_4, .int x1, .int (64 : Int32)]) (rest := [.ref r_6]) C (ct_X10_cell l X eo_7) cw_X5_142 hW hZ rfl hl.1 (Nat.le_of_ble_eq_true rfl) rfl dX5_addSteps_23 ⟨Nat.le_of_ble_eq_true rfl, Nat.le_of_ble_eq_true rfl⟩ ⟨Nat.le_refl _, Nat.le_refl _⟩) hZ (fun _ _ hW km hZ => ?_)
  replace hkm := hkm.tr km
  replace k_x0 := km.at k_x0 (by decide)
  replace k_r_6 := km.at k_r_6 (by decide)
  obtain ⟨g_8, hE⟩ := gd_e hE
  refine y_iald C hW k_r_6 g_8 dX5_addSteps_26 ?_
  obtain ⟨v_9, ev_9, hE⟩ := nm_e2 hE
  refine x_nmI ev_9 ?_
  refine lv_istore (lv' := [(4, .int v_9), (3, .int (-1 : Int32)), (2, .int v_4), (0, .ref x0), (1, .int x1)]) C.1 C.2.1 dX5_addSteps_27 hl (by decide) rfl (fun ls hl => ?_)
  refine lv_aload_n C.1 C.2.1 dX5_addSteps_29 rfl (lv_at hl 3 rfl) ?_
  obtain ⟨r_10, er_10, hE⟩ := cl_e hE
  refine gf_X5_26 C hW k_x0 er_10 dX5_addSteps_30 (fun k_r_10 => ?_)
  obtain ⟨r_11, er_11, hE⟩ := cl_e hE
  refine gf_X5_51 C hW k_r_10 er_11 dX5_addSteps_33 (fun k_r_11 => ?_)
  refine lv_iload_n C.1 C.2.1 dX5_addSteps_36 rfl (lv_at hl 2 rfl) ?_
  refine lv_iload_n C.1 C.2.1 dX5_addSteps_37 rfl (lv_at hl 4 rfl) ?_
  refine lv_iconst (v := (0 : Int32)) C.1 C.2.1 dX5_addSteps_38 (by decide) ?_
  obtain ⟨o_12, eo_12, hE⟩ := cl_e hE
  refine x_kI (o := o_12) (z_runS (As := [.int v_4, .int x1, .int (0 : Int32)]) (rest := [.ref r_11]) C (ct_X10_cell l X eo_12) cw_X5_142 hW hZ rfl hl.1 (Nat.le_of_ble_eq_true rfl) rfl dX5_addSteps_39 ⟨Nat.le_of_ble_eq_true rfl, Nat.le_of_ble_eq_true rfl⟩ ⟨Nat.le_refl _, Nat.le_refl _⟩) hZ (fun _ _ hW km hZ => ?_)
  replace hkm := hkm.tr km
  replace k_x0 := km.at k_x0 (by decide)
  replace k_r_11 := km.at k_r_11 (by decide)
  obtain ⟨g_13, hE⟩ := gd_e hE
  refine y_iald C hW k_r_11 g_13 dX5_addSteps_42 ?_
  obtain ⟨v_14, ev_14, hE⟩ := nm_e2 hE
  refine x_nmI ev_14 ?_
  refine lv_istore (lv' := [(5, .int v_14), (4, .int v_9), (3, .int (-1 : Int32)), (2, .int v_4), (0, .ref x0), (1, .int x1)]) C.1 C.2.1 dX5_addSteps_43 hl (by decide) rfl (fun ls hl => ?_)
  exact bX5_addSteps_45 C F k_x0 hkm hW hZ _ (lv_sub hl [4, 5, 3, 2, 1, 0] rfl) hE
set_option maxRecDepth 100000 in
theorem m_65 : Cond.fieldLink RX5 242 (TX1 0).1 (TX1 0).2.1 (TX1 0).2.2.1 ∈ W0 := w0_in (List.mem_append_right _ (List.mem_of_getElem? (i := 65) rfl)) rfl
set_option maxRecDepth 100000 in
theorem m_140 : Cond.fieldLink RX5 239 (TX1 19).1 (TX1 19).2.1 (TX1 19).2.2.1 ∈ W0 := w0_in (List.mem_append_right _ (List.mem_of_getElem? (i := 140) rfl)) rfl
section
variable {p : Program} {l : Launch} {e : Env} {R : Room} {s : State} {m : MethodId} {args : Array Value} {below : List Frame} {meth : Method} {c : Code} {H : Heap} {locs : List Loc} {cells slots : Nat} {Q : State → Prop}
variable {cc : ByteArray} {pc : Nat} {ls : Array Slot} {rest : List Value} {X : Ec} {h h1 : Hp} {nL : Nat} {rt : Option FieldType} {mn : String}
theorem gf_X5_242 {a : Nat} (C : Cx X p s m args meth c RX5 cc nL rt mn) (hW : Wx X h H) (ha : hK h a = 1) (hdg : decode cc pc = .ok (.getfield 242, 3)) (kk : W p l e R s m args below meth c H locs cells slots Q (F0 m (pc + 3) ls (.int (hI h a 0) :: rest))) : W p l e R s m args below meth c H locs cells slots Q (F0 m pc ls (.ref a :: rest)) :=
  y_geti C hW ha i_X1 (by decide) rfl (by decide) m_65 rfl hdg kk
theorem gf_X5_239 {a r : Nat} (C : Cx X p s m args meth c RX5 cc nL rt mn) (hW : Wx X h H) (ha : hK h a = 1) (hr : hR h a 19 = some r) (hdg : decode cc pc = .ok (.getfield 239, 3)) (kk : hK h r = 17 → W p l e R s m args below meth c H locs cells slots Q (F0 m (pc + 3) ls (.ref r :: rest))) : W p l e R s m args below meth c H locs cells slots Q (F0 m pc ls (.ref a :: rest)) :=
  y_getr C hW ha i_X1 (by decide) rfl (by decide) m_140 rfl rfl hr hdg kk
end
theorem dX5_nearest_0 : decode cX5_nearest 0 = .ok (.iload_n 2, 1) := by decide +kernel
theorem dX5_nearest_1 : decode cX5_nearest 1 = .ok (.istore 4, 2) := by decide +kernel
theorem dX5_nearest_3 : decode cX5_nearest 3 = .ok (.aload_n 0, 1) := by decide +kernel
theorem dX5_nearest_4 : decode cX5_nearest 4 = .ok (.getfield 22, 3) := by decide +kernel
theorem dX5_nearest_7 : decode cX5_nearest 7 = .ok (.getfield 239, 3) := by decide +kernel
theorem dX5_nearest_10 : decode cX5_nearest 10 = .ok (.iload_n 2, 1) := by decide +kernel
theorem dX5_nearest_11 : decode cX5_nearest 11 = .ok (.iaload, 1) := by decide +kernel
theorem dX5_nearest_12 : decode cX5_nearest 12 = .ok (.iload_n 3, 1) := by decide +kernel
theorem dX5_nearest_13 : decode cX5_nearest 13 = .ok (.iadd, 1) := by decide +kernel
theorem dX5_nearest_14 : decode cX5_nearest 14 = .ok (.istore 5, 2) := by decide +kernel
theorem dX5_nearest_16 : decode cX5_nearest 16 = .ok (.iload 5, 2) := by decide +kernel
theorem dX5_nearest_18 : decode cX5_nearest 18 = .ok (.ifCond .lt 44, 3) := by decide +kernel
theorem dX5_nearest_21 : decode cX5_nearest 21 = .ok (.iload 5, 2) := by decide +kernel
theorem dX5_nearest_23 : decode cX5_nearest 23 = .ok (.aload_n 0, 1) := by decide +kernel
theorem dX5_nearest_24 : decode cX5_nearest 24 = .ok (.getfield 22, 3) := by decide +kernel
theorem dX5_nearest_27 : decode cX5_nearest 27 = .ok (.getfield 242, 3) := by decide +kernel
theorem dX5_nearest_30 : decode cX5_nearest 30 = .ok (.if_icmp .ge 32, 3) := by decide +kernel
theorem dX5_nearest_33 : decode cX5_nearest 33 = .ok (.iload 4, 2) := by decide +kernel
theorem dX5_nearest_35 : decode cX5_nearest 35 = .ok (.iload_n 3, 1) := by decide +kernel
theorem dX5_nearest_36 : decode cX5_nearest 36 = .ok (.iadd, 1) := by decide +kernel
theorem dX5_nearest_37 : decode cX5_nearest 37 = .ok (.istore 4, 2) := by decide +kernel
theorem dX5_nearest_39 : decode cX5_nearest 39 = .ok (.aload_n 1, 1) := by decide +kernel
theorem dX5_nearest_40 : decode cX5_nearest 40 = .ok (.getfield 42, 3) := by decide +kernel
theorem dX5_nearest_43 : decode cX5_nearest 43 = .ok (.iload 4, 2) := by decide +kernel
theorem dX5_nearest_45 : decode cX5_nearest 45 = .ok (.baload, 1) := by decide +kernel
theorem dX5_nearest_46 : decode cX5_nearest 46 = .ok (.iconst (-1), 1) := by decide +kernel
theorem dX5_nearest_47 : decode cX5_nearest 47 = .ok (.if_icmp .eq 6, 3) := by decide +kernel
theorem dX5_nearest_50 : decode cX5_nearest 50 = .ok (.iload 4, 2) := by decide +kernel
theorem dX5_nearest_52 : decode cX5_nearest 52 = .ok (.ireturn, 1) := by decide +kernel
theorem dX5_nearest_53 : decode cX5_nearest 53 = .ok (.iload 5, 2) := by decide +kernel
theorem dX5_nearest_55 : decode cX5_nearest 55 = .ok (.iload_n 3, 1) := by decide +kernel
theorem dX5_nearest_56 : decode cX5_nearest 56 = .ok (.iadd, 1) := by decide +kernel
theorem dX5_nearest_57 : decode cX5_nearest 57 = .ok (.istore 5, 2) := by decide +kernel
theorem dX5_nearest_59 : decode cX5_nearest 59 = .ok (.goto (-43), 3) := by decide +kernel
theorem dX5_nearest_62 : decode cX5_nearest 62 = .ok (.iconst (-1), 1) := by decide +kernel
theorem dX5_nearest_63 : decode cX5_nearest 63 = .ok (.ireturn, 1) := by decide +kernel
def sX5_nearest_62 (F : Nat) (h : Hp) : Option (Int32 × Hp) := some ((-1 : Int32), h)
def sX5_nearest_16 (F : Nat) : Nat → Hp → Nat → Nat → Int32 → Int32 → Int32 → Option (Int32 × Hp)
  | 0, _, _, _, _, _, _ => none
  | f + 1, h, x0, x1, x3, x4, x5 => br (x5 < 0) (sX5_nearest_62 F h ) (cl (hR h x0 0) fun r_2 => br ((hI h r_2 0) ≤ x5) (sX5_nearest_62 F h ) (nm (x4 + x3) fun v_4 => cl (hR h x1 0) fun r_5 => gd (inB v_4 (hN h r_5)) <| br ((hI h r_5 v_4.toNatClampNeg) = (-1 : Int32)) (nm (x5 + x3) fun v_8 => sX5_nearest_16 F f h x0 x1 x3 v_4 v_8) (some (v_4, h))))
def sX5_nearest (F : Nat) (h : Hp) (x0 : Nat) (x1 : Nat) (x2 : Int32) (x3 : Int32) : Option (Int32 × Hp) := cl (hR h x0 0) fun r_1 => cl (hR h r_1 19) fun r_2 => gd (inB x2 (hN h r_2)) <| nm ((hI h r_2 x2.toNatClampNeg) + x3) fun v_4 => sX5_nearest_16 F F h x0 x1 x3 x2 v_4
set_option maxRecDepth 20000 in
theorem moX5_nearest_62 {o : Int32 × Hp} {F : Nat} {h : Hp} (hE : sX5_nearest_62 F h  = some o) : Le h o.2 := by
  exact le_some2 hE
set_option maxRecDepth 20000 in
theorem moX5_nearest_16 {o : Int32 × Hp} {F : Nat} : ∀ (f : Nat) {h : Hp} {x0 : Nat} {x1 : Nat} {x3 : Int32} {x4 : Int32} {x5 : Int32}, sX5_nearest_16 F f h x0 x1 x3 x4 x5 = some o → Le h o.2 := by
  intro f
  induction f with
  | zero =>
    intro h x0 x1 x3 x4 x5 hE
    rw [sX5_nearest_16] at hE
    cases hE
  | succ f ih =>
    intro h x0 x1 x3 x4 x5 hE
    rw [sX5_nearest_16] at hE
    have mk_16 : ∀ (h : Hp) (x0 : Nat) (x1 : Nat) (x3 : Int32) (x4 : Int32) (x5 : Int32), sX5_nearest_16 F f h x0 x1 x3 x4 x5 = some o → Le h o.2 := fun h x0 x1 x3 x4 x5 hE => ih hE
    rcases br_e hE with ⟨_, hE⟩ | ⟨_, hE⟩
    · exact moX5_nearest_62 hE
    · obtain ⟨r_2, er_2, hE⟩ := cl_e hE
      rcases br_e hE with ⟨_, hE⟩ | ⟨_, hE⟩
      · exact moX5_nearest_62 hE
      · obtain ⟨v_4, ev_4, hE⟩ := nm_e2 hE
        obtain ⟨r_5, er_5, hE⟩ := cl_e hE
        obtain ⟨g_6, hE⟩ := gd_e hE
        rcases br_e hE with ⟨_, hE⟩ | ⟨_, hE⟩
        · obtain ⟨v_8, ev_8, hE⟩ := nm_e2 hE
          exact mk_16 _ _ _ _ _ _ hE
        · exact le_some2 hE
set_option maxRecDepth 20000 in
theorem moX5_nearest {o : Int32 × Hp} {F : Nat} {h : Hp} {x0 : Nat} {x1 : Nat} {x2 : Int32} {x3 : Int32} (hE : sX5_nearest F h x0 x1 x2 x3 = some o) : Le h o.2 := by
  obtain ⟨r_1, er_1, hE⟩ := cl_e hE
  obtain ⟨r_2, er_2, hE⟩ := cl_e hE
  obtain ⟨g_3, hE⟩ := gd_e hE
  obtain ⟨v_4, ev_4, hE⟩ := nm_e2 hE
  exact moX5_nearest_16 _ hE
set_option maxRecDepth 20000 in
theorem bX5_nearest_62 {p : Program} {l : Launch} {e : Env} {s : State} {m : MethodId} {args : Array Value} {below : List Frame} {meth : Method} {c : Code} {X : Ec} {h0 : Hp} {o : Int32 × Hp} {F : Nat} (C : Cx X p s m args meth c RX5 cX5_nearest 6 (some .int) "nearest") {h : Hp} {H : Heap} {locs : List Loc} (hkm : Km h0 h) (hW : Wx X h H) (hZ : va_S (aA (eB X)) s.heap H locs) (ls : Array Slot) (hl : lv_has ls 6 []) (hE : sX5_nearest_62 F h  = some o) : W p l e (rm 0 0) s m args below meth c H locs 0 0 (MQ below (QI X h0 o.1 o.2) args s 0 0 (aA (eB X))) (F0 m 62 ls []) := by
  refine lv_iconst (v := (-1 : Int32)) C.1 C.2.1 dX5_nearest_62 (by decide) ?_
  exact x_iret C rfl rfl hW hZ hkm hE dX5_nearest_63
set_option maxRecDepth 20000 in
theorem bX5_nearest_16 {p : Program} {l : Launch} {e : Env} {s : State} {m : MethodId} {args : Array Value} {below : List Frame} {meth : Method} {c : Code} {X : Ec} {h0 : Hp} {o : Int32 × Hp} {F : Nat} (C : Cx X p s m args meth c RX5 cX5_nearest 6 (some .int) "nearest") : ∀ (f : Nat) {h : Hp} {x0 : Nat} {x1 : Nat} {x3 : Int32} {x4 : Int32} {x5 : Int32} {H : Heap} {locs : List Loc} (k_x0 : hK h x0 = 5) (k_x1 : hK h x1 = 3), Km h0 h → Wx X h H → va_S (aA (eB X)) s.heap H locs → ∀ (ls : Array Slot), lv_has ls 6 [(0, .ref x0), (1, .ref x1), (3, .int x3), (4, .int x4), (5, .int x5)] → sX5_nearest_16 F f h x0 x1 x3 x4 x5 = some o → W p l e (rm 0 0) s m args below meth c H locs 0 0 (MQ below (QI X h0 o.1 o.2) args s 0 0 (aA (eB X))) (F0 m 16 ls []) := by
  intro f
  induction f with
  | zero =>
    intro h x0 x1 x3 x4 x5 H locs k_x0 k_x1 hkm hW hZ ls hl hE
    rw [sX5_nearest_16] at hE
    cases hE
  | succ f ih =>
    intro h x0 x1 x3 x4 x5 H locs k_x0 k_x1 hkm hW hZ ls hl hE
    rw [sX5_nearest_16] at hE
    have hk_16 : ∀ (h : Hp) (x0 : Nat) (x1 : Nat) (x3 : Int32) (x4 : Int32) (x5 : Int32) (H : Heap) (locs : List Loc), hK h x0 = 5 → hK h x1 = 3 → Km h0 h → Wx X h H → va_S (aA (eB X)) s.heap H locs → ∀ (ls : Array Slot), lv_has ls 6 [(0, .ref x0), (1, .ref x1), (3, .int x3), (4, .int x4), (5, .int x5)] → sX5_nearest_16 F f h x0 x1 x3 x4 x5 = some o → W p l e (rm 0 0) s m args below meth c H locs 0 0 (MQ below (QI X h0 o.1 o.2) args s 0 0 (aA (eB X))) (F0 m 16 ls []) := fun h x0 x1 x3 x4 x5 H locs k_x0 k_x1 a b c ls hl hE => ih k_x0 k_x1 a b c ls hl hE
    refine lv_iload C.1 C.2.1 dX5_nearest_16 (lv_at hl 4 rfl) ?_
    refine lv_if_lt (tgt := 62) C.1 C.2.1 dX5_nearest_18 (by decide) (fun c_1 => ?_) (fun c_1 => ?_)
    · have hE := br_p hE c_1
      exact bX5_nearest_62 C hkm hW hZ _ (lv_sub hl [] rfl) hE
    · have hE := br_n hE c_1
      refine lv_iload C.1 C.2.1 dX5_nearest_21 (lv_at hl 4 rfl) ?_
      refine lv_aload_n C.1 C.2.1 dX5_nearest_23 rfl (lv_at hl 0 rfl) ?_
      obtain ⟨r_2, er_2, hE⟩ := cl_e hE
      refine gf_X5_22 C hW k_x0 er_2 dX5_nearest_24 (fun k_r_2 => ?_)
      refine gf_X5_242 C hW k_r_2 dX5_nearest_27 ?_
      refine lv_icmp_ge (tgt := 62) C.1 C.2.1 dX5_nearest_30 (by decide) (fun c_3 => ?_) (fun c_3 => ?_)
      · have hE := br_p hE c_3
        exact bX5_nearest_62 C hkm hW hZ _ (lv_sub hl [] rfl) hE
      · have hE := br_n hE c_3
        refine lv_iload C.1 C.2.1 dX5_nearest_33 (lv_at hl 3 rfl) ?_
        refine lv_iload_n C.1 C.2.1 dX5_nearest_35 rfl (lv_at hl 2 rfl) ?_
        refine lv_iadd C.1 C.2.1 dX5_nearest_36 ?_
        obtain ⟨v_4, ev_4, hE⟩ := nm_e2 hE
        refine x_nmI ev_4 ?_
        refine lv_istore (lv' := [(4, .int v_4), (0, .ref x0), (1, .ref x1), (3, .int x3), (5, .int x5)]) C.1 C.2.1 dX5_nearest_37 hl (by decide) rfl (fun ls hl => ?_)
        refine lv_aload_n C.1 C.2.1 dX5_nearest_39 rfl (lv_at hl 2 rfl) ?_
        obtain ⟨r_5, er_5, hE⟩ := cl_e hE
        refine gf_X5_42 C hW k_x1 er_5 dX5_nearest_40 (fun k_r_5 => ?_)
        refine lv_iload C.1 C.2.1 dX5_nearest_43 (lv_at hl 0 rfl) ?_
        obtain ⟨g_6, hE⟩ := gd_e hE
        refine y_bald C hW k_r_5 g_6 dX5_nearest_45 ?_
        refine lv_iconst (v := (-1 : Int32)) C.1 C.2.1 dX5_nearest_46 (by decide) ?_
        refine lv_icmp_eq (tgt := 53) C.1 C.2.1 dX5_nearest_47 (by decide) (fun c_7 => ?_) (fun c_7 => ?_)
        · have hE := br_p hE c_7
          refine lv_iload C.1 C.2.1 dX5_nearest_53 (lv_at hl 4 rfl) ?_
          refine lv_iload_n C.1 C.2.1 dX5_nearest_55 rfl (lv_at hl 3 rfl) ?_
          refine lv_iadd C.1 C.2.1 dX5_nearest_56 ?_
          obtain ⟨v_8, ev_8, hE⟩ := nm_e2 hE
          refine x_nmI ev_8 ?_
          refine lv_istore (lv' := [(5, .int v_8), (4, .int v_4), (0, .ref x0), (1, .ref x1), (3, .int x3)]) C.1 C.2.1 dX5_nearest_57 hl (by decide) rfl (fun ls hl => ?_)
          refine lv_goto (tgt := 16) C.1 C.2.1 dX5_nearest_59 (by decide) ?_
          exact hk_16 _ _ _ _ _ _ _ _ k_x0 k_x1 hkm hW hZ _ (lv_sub hl [2, 3, 4, 1, 0] rfl) hE
        · have hE := br_n hE c_7
          refine lv_iload C.1 C.2.1 dX5_nearest_50 (lv_at hl 0 rfl) ?_
          exact x_iret C rfl rfl hW hZ hkm hE dX5_nearest_52
set_option maxRecDepth 20000 in
theorem ct_X5_nearest (l : Launch) (X : Ec) (F : Nat) {h : Hp} {x0 : Nat} {x1 : Nat} {x2 : Int32} {x3 : Int32} {o : Int32 × Hp} (k_x0 : hK h x0 = 5) (k_x1 : hK h x1 = 3) (hE : sX5_nearest F h x0 x1 x2 x3 = some o) : MetI l yX5_nearest cX5_nearest 6 (some .int) 0 0 X [.ref x0, .ref x1, .int x2, .int x3] h o := by
  refine x_met (by decide) (Nat.le_of_ble_eq_true rfl) ?_
  intro p e s m below meth c ls C hl hW hZ
  have hl : lv_has ls 6 [(0, .ref x0), (1, .ref x1), (2, .int x2), (3, .int x3)] := hl
  have hkm : Km h h := Km.rf h
  refine lv_iload_n C.1 C.2.1 dX5_nearest_0 rfl (lv_at hl 2 rfl) ?_
  refine lv_istore (lv' := [(4, .int x2), (0, .ref x0), (1, .ref x1), (2, .int x2), (3, .int x3)]) C.1 C.2.1 dX5_nearest_1 hl (by decide) rfl (fun ls hl => ?_)
  refine lv_aload_n C.1 C.2.1 dX5_nearest_3 rfl (lv_at hl 1 rfl) ?_
  obtain ⟨r_1, er_1, hE⟩ := cl_e hE
  refine gf_X5_22 C hW k_x0 er_1 dX5_nearest_4 (fun k_r_1 => ?_)
  obtain ⟨r_2, er_2, hE⟩ := cl_e hE
  refine gf_X5_239 C hW k_r_1 er_2 dX5_nearest_7 (fun k_r_2 => ?_)
  refine lv_iload_n C.1 C.2.1 dX5_nearest_10 rfl (lv_at hl 3 rfl) ?_
  obtain ⟨g_3, hE⟩ := gd_e hE
  refine y_iald C hW k_r_2 g_3 dX5_nearest_11 ?_
  refine lv_iload_n C.1 C.2.1 dX5_nearest_12 rfl (lv_at hl 4 rfl) ?_
  refine lv_iadd C.1 C.2.1 dX5_nearest_13 ?_
  obtain ⟨v_4, ev_4, hE⟩ := nm_e2 hE
  refine x_nmI ev_4 ?_
  refine lv_istore (lv' := [(5, .int v_4), (4, .int x2), (0, .ref x0), (1, .ref x1), (2, .int x2), (3, .int x3)]) C.1 C.2.1 dX5_nearest_14 hl (by decide) rfl (fun ls hl => ?_)
  exact bX5_nearest_16 C F k_x0 k_x1 hkm hW hZ _ (lv_sub hl [2, 3, 5, 1, 0] rfl) hE
set_option maxRecDepth 100000 in
theorem ms_59 : Cond.selects RX5 yX5_nearest yX5_nearest ∈ W0 := w0_in (List.mem_append_left _ (List.mem_of_getElem? (i := 59) rfl)) rfl
set_option maxRecDepth 100000 in
theorem m_1208 : Cond.methodLink RX5 197 yX5_nearest ∈ W0 := w0_in (List.mem_append_right _ (List.mem_of_getElem? (i := 1208) rfl)) rfl
set_option maxRecDepth 100000 in
theorem m_1210 : Cond.instanceMethod yX5_nearest ∈ W0 := w0_in (List.mem_append_right _ (List.mem_of_getElem? (i := 1210) rfl)) rfl
set_option maxRecDepth 100000 in
theorem m_1211 : Cond.code yX5_nearest cX5_nearest 6 (some .int) ∈ W0 := w0_in (List.mem_append_right _ (List.mem_of_getElem? (i := 1211) rfl)) rfl
set_option maxRecDepth 100000 in
theorem m_1212 : Cond.methodLink RX5 201 Lib.Math.abs.name ∈ W0 := w0_in (List.mem_append_right _ (List.mem_of_getElem? (i := 1212) rfl)) rfl
theorem cw_X5_197 : cwd RX5 197 yX5_nearest cX5_nearest 6 (some .int) false 3 := ⟨m_1211, m_1208, m_7, ⟨m_1210, ms_59⟩, by decide, by decide, by decide +kernel⟩
theorem dX5_addCastling_0 : decode cX5_addCastling 0 = .ok (.iconst 1, 1) := by decide +kernel
theorem dX5_addCastling_1 : decode cX5_addCastling 1 = .ok (.aload_n 0, 1) := by decide +kernel
theorem dX5_addCastling_2 : decode cX5_addCastling 2 = .ok (.getfield 71, 3) := by decide +kernel
theorem dX5_addCastling_5 : decode cX5_addCastling 5 = .ok (.getfield 78, 3) := by decide +kernel
theorem dX5_addCastling_8 : decode cX5_addCastling 8 = .ok (.isub, 1) := by decide +kernel
theorem dX5_addCastling_9 : decode cX5_addCastling 9 = .ok (.istore 4, 2) := by decide +kernel
theorem dX5_addCastling_11 : decode cX5_addCastling 11 = .ok (.aload_n 0, 1) := by decide +kernel
theorem dX5_addCastling_12 : decode cX5_addCastling 12 = .ok (.aload_n 0, 1) := by decide +kernel
theorem dX5_addCastling_13 : decode cX5_addCastling 13 = .ok (.getfield 71, 3) := by decide +kernel
theorem dX5_addCastling_16 : decode cX5_addCastling 16 = .ok (.iload_n 1, 1) := by decide +kernel
theorem dX5_addCastling_17 : decode cX5_addCastling 17 = .ok (.iload_n 2, 1) := by decide +kernel
theorem dX5_addCastling_18 : decode cX5_addCastling 18 = .ok (.invokevirtual 197, 3) := by decide +kernel
theorem dX5_addCastling_21 : decode cX5_addCastling 21 = .ok (.istore 5, 2) := by decide +kernel
theorem dX5_addCastling_23 : decode cX5_addCastling 23 = .ok (.iload 5, 2) := by decide +kernel
theorem dX5_addCastling_25 : decode cX5_addCastling 25 = .ok (.iconst (-1), 1) := by decide +kernel
theorem dX5_addCastling_26 : decode cX5_addCastling 26 = .ok (.if_icmp .eq 47, 3) := by decide +kernel
theorem dX5_addCastling_29 : decode cX5_addCastling 29 = .ok (.iload 5, 2) := by decide +kernel
theorem dX5_addCastling_31 : decode cX5_addCastling 31 = .ok (.iload_n 1, 1) := by decide +kernel
theorem dX5_addCastling_32 : decode cX5_addCastling 32 = .ok (.isub, 1) := by decide +kernel
theorem dX5_addCastling_33 : decode cX5_addCastling 33 = .ok (.invokestatic 201, 3) := by decide +kernel
theorem dX5_addCastling_36 : decode cX5_addCastling 36 = .ok (.iconst 3, 1) := by decide +kernel
theorem dX5_addCastling_37 : decode cX5_addCastling 37 = .ok (.if_icmp .lt 36, 3) := by decide +kernel
theorem dX5_addCastling_40 : decode cX5_addCastling 40 = .ok (.aload_n 0, 1) := by decide +kernel
theorem dX5_addCastling_41 : decode cX5_addCastling 41 = .ok (.getfield 71, 3) := by decide +kernel
theorem dX5_addCastling_44 : decode cX5_addCastling 44 = .ok (.getfield 93, 3) := by decide +kernel
theorem dX5_addCastling_47 : decode cX5_addCastling 47 = .ok (.aload_n 0, 1) := by decide +kernel
theorem dX5_addCastling_48 : decode cX5_addCastling 48 = .ok (.getfield 71, 3) := by decide +kernel
theorem dX5_addCastling_51 : decode cX5_addCastling 51 = .ok (.getfield 33, 3) := by decide +kernel
theorem dX5_addCastling_54 : decode cX5_addCastling 54 = .ok (.aload_n 0, 1) := by decide +kernel
theorem dX5_addCastling_55 : decode cX5_addCastling 55 = .ok (.getfield 71, 3) := by decide +kernel
theorem dX5_addCastling_58 : decode cX5_addCastling 58 = .ok (.getfield 78, 3) := by decide +kernel
theorem dX5_addCastling_61 : decode cX5_addCastling 61 = .ok (.laload, 1) := by decide +kernel
theorem dX5_addCastling_62 : decode cX5_addCastling 62 = .ok (.land, 1) := by decide +kernel
theorem dX5_addCastling_63 : decode cX5_addCastling 63 = .ok (.lconst 1, 1) := by decide +kernel
theorem dX5_addCastling_64 : decode cX5_addCastling 64 = .ok (.iload 5, 2) := by decide +kernel
theorem dX5_addCastling_66 : decode cX5_addCastling 66 = .ok (.lshl, 1) := by decide +kernel
theorem dX5_addCastling_67 : decode cX5_addCastling 67 = .ok (.land, 1) := by decide +kernel
theorem dX5_addCastling_68 : decode cX5_addCastling 68 = .ok (.lconst 0, 1) := by decide +kernel
theorem dX5_addCastling_69 : decode cX5_addCastling 69 = .ok (.lcmp, 1) := by decide +kernel
theorem dX5_addCastling_70 : decode cX5_addCastling 70 = .ok (.ifCond .ne 4, 3) := by decide +kernel
theorem dX5_addCastling_73 : decode cX5_addCastling 73 = .ok (.return_, 1) := by decide +kernel
theorem dX5_addCastling_74 : decode cX5_addCastling 74 = .ok (.aload_n 0, 1) := by decide +kernel
theorem dX5_addCastling_75 : decode cX5_addCastling 75 = .ok (.aload_n 0, 1) := by decide +kernel
theorem dX5_addCastling_76 : decode cX5_addCastling 76 = .ok (.getfield 71, 3) := by decide +kernel
theorem dX5_addCastling_79 : decode cX5_addCastling 79 = .ok (.iload_n 1, 1) := by decide +kernel
theorem dX5_addCastling_80 : decode cX5_addCastling 80 = .ok (.iload 4, 2) := by decide +kernel
theorem dX5_addCastling_82 : decode cX5_addCastling 82 = .ok (.invokevirtual 63, 3) := by decide +kernel
theorem dX5_addCastling_85 : decode cX5_addCastling 85 = .ok (.ifCond .ne 37, 3) := by decide +kernel
theorem dX5_addCastling_88 : decode cX5_addCastling 88 = .ok (.aload_n 0, 1) := by decide +kernel
theorem dX5_addCastling_89 : decode cX5_addCastling 89 = .ok (.aload_n 0, 1) := by decide +kernel
theorem dX5_addCastling_90 : decode cX5_addCastling 90 = .ok (.getfield 71, 3) := by decide +kernel
theorem dX5_addCastling_93 : decode cX5_addCastling 93 = .ok (.iload_n 1, 1) := by decide +kernel
theorem dX5_addCastling_94 : decode cX5_addCastling 94 = .ok (.iload_n 2, 1) := by decide +kernel
theorem dX5_addCastling_95 : decode cX5_addCastling 95 = .ok (.iadd, 1) := by decide +kernel
theorem dX5_addCastling_96 : decode cX5_addCastling 96 = .ok (.iload 4, 2) := by decide +kernel
theorem dX5_addCastling_98 : decode cX5_addCastling 98 = .ok (.invokevirtual 63, 3) := by decide +kernel
theorem dX5_addCastling_101 : decode cX5_addCastling 101 = .ok (.ifCond .ne 21, 3) := by decide +kernel
theorem dX5_addCastling_104 : decode cX5_addCastling 104 = .ok (.aload_n 0, 1) := by decide +kernel
theorem dX5_addCastling_105 : decode cX5_addCastling 105 = .ok (.aload_n 0, 1) := by decide +kernel
theorem dX5_addCastling_106 : decode cX5_addCastling 106 = .ok (.getfield 71, 3) := by decide +kernel
theorem dX5_addCastling_109 : decode cX5_addCastling 109 = .ok (.iload_n 1, 1) := by decide +kernel
theorem dX5_addCastling_110 : decode cX5_addCastling 110 = .ok (.iconst 2, 1) := by decide +kernel
theorem dX5_addCastling_111 : decode cX5_addCastling 111 = .ok (.iload_n 2, 1) := by decide +kernel
theorem dX5_addCastling_112 : decode cX5_addCastling 112 = .ok (.imul, 1) := by decide +kernel
theorem dX5_addCastling_113 : decode cX5_addCastling 113 = .ok (.iadd, 1) := by decide +kernel
theorem dX5_addCastling_114 : decode cX5_addCastling 114 = .ok (.iload 4, 2) := by decide +kernel
theorem dX5_addCastling_116 : decode cX5_addCastling 116 = .ok (.invokevirtual 63, 3) := by decide +kernel
theorem dX5_addCastling_119 : decode cX5_addCastling 119 = .ok (.ifCond .eq 4, 3) := by decide +kernel
theorem dX5_addCastling_122 : decode cX5_addCastling 122 = .ok (.return_, 1) := by decide +kernel
theorem dX5_addCastling_123 : decode cX5_addCastling 123 = .ok (.aload_n 0, 1) := by decide +kernel
theorem dX5_addCastling_124 : decode cX5_addCastling 124 = .ok (.iload_n 1, 1) := by decide +kernel
theorem dX5_addCastling_125 : decode cX5_addCastling 125 = .ok (.iload_n 1, 1) := by decide +kernel
theorem dX5_addCastling_126 : decode cX5_addCastling 126 = .ok (.iconst 2, 1) := by decide +kernel
theorem dX5_addCastling_127 : decode cX5_addCastling 127 = .ok (.iload_n 2, 1) := by decide +kernel
theorem dX5_addCastling_128 : decode cX5_addCastling 128 = .ok (.imul, 1) := by decide +kernel
theorem dX5_addCastling_129 : decode cX5_addCastling 129 = .ok (.iadd, 1) := by decide +kernel
theorem dX5_addCastling_130 : decode cX5_addCastling 130 = .ok (.aload_n 0, 1) := by decide +kernel
theorem dX5_addCastling_131 : decode cX5_addCastling 131 = .ok (.getfield 22, 3) := by decide +kernel
theorem dX5_addCastling_134 : decode cX5_addCastling 134 = .ok (.getfield 129, 3) := by decide +kernel
theorem dX5_addCastling_137 : decode cX5_addCastling 137 = .ok (.iconst 2, 1) := by decide +kernel
theorem dX5_addCastling_138 : decode cX5_addCastling 138 = .ok (.invokestatic 176, 3) := by decide +kernel
theorem dX5_addCastling_141 : decode cX5_addCastling 141 = .ok (.invokevirtual 170, 3) := by decide +kernel
theorem dX5_addCastling_144 : decode cX5_addCastling 144 = .ok (.aload_n 0, 1) := by decide +kernel
theorem dX5_addCastling_145 : decode cX5_addCastling 145 = .ok (.getfield 82, 3) := by decide +kernel
theorem dX5_addCastling_148 : decode cX5_addCastling 148 = .ok (.iconst 1, 1) := by decide +kernel
theorem dX5_addCastling_149 : decode cX5_addCastling 149 = .ok (.isub, 1) := by decide +kernel
theorem dX5_addCastling_150 : decode cX5_addCastling 150 = .ok (.istore 6, 2) := by decide +kernel
theorem dX5_addCastling_152 : decode cX5_addCastling 152 = .ok (.iload 6, 2) := by decide +kernel
theorem dX5_addCastling_154 : decode cX5_addCastling 154 = .ok (.iload_n 3, 1) := by decide +kernel
theorem dX5_addCastling_155 : decode cX5_addCastling 155 = .ok (.if_icmp .le 70, 3) := by decide +kernel
theorem dX5_addCastling_158 : decode cX5_addCastling 158 = .ok (.aload_n 0, 1) := by decide +kernel
theorem dX5_addCastling_159 : decode cX5_addCastling 159 = .ok (.getfield 123, 3) := by decide +kernel
theorem dX5_addCastling_162 : decode cX5_addCastling 162 = .ok (.iload 6, 2) := by decide +kernel
theorem dX5_addCastling_164 : decode cX5_addCastling 164 = .ok (.iconst 1, 1) := by decide +kernel
theorem dX5_addCastling_165 : decode cX5_addCastling 165 = .ok (.isub, 1) := by decide +kernel
theorem dX5_addCastling_166 : decode cX5_addCastling 166 = .ok (.iaload, 1) := by decide +kernel
theorem dX5_addCastling_167 : decode cX5_addCastling 167 = .ok (.invokestatic 184, 3) := by decide +kernel
theorem dX5_addCastling_170 : decode cX5_addCastling 170 = .ok (.aload_n 0, 1) := by decide +kernel
theorem dX5_addCastling_171 : decode cX5_addCastling 171 = .ok (.getfield 123, 3) := by decide +kernel
theorem dX5_addCastling_174 : decode cX5_addCastling 174 = .ok (.iload 6, 2) := by decide +kernel
theorem dX5_addCastling_176 : decode cX5_addCastling 176 = .ok (.iaload, 1) := by decide +kernel
theorem dX5_addCastling_177 : decode cX5_addCastling 177 = .ok (.invokestatic 184, 3) := by decide +kernel
theorem dX5_addCastling_180 : decode cX5_addCastling 180 = .ok (.if_icmp .le 45, 3) := by decide +kernel
theorem dX5_addCastling_183 : decode cX5_addCastling 183 = .ok (.aload_n 0, 1) := by decide +kernel
theorem dX5_addCastling_184 : decode cX5_addCastling 184 = .ok (.getfield 123, 3) := by decide +kernel
theorem dX5_addCastling_187 : decode cX5_addCastling 187 = .ok (.iload 6, 2) := by decide +kernel
theorem dX5_addCastling_189 : decode cX5_addCastling 189 = .ok (.iconst 1, 1) := by decide +kernel
theorem dX5_addCastling_190 : decode cX5_addCastling 190 = .ok (.isub, 1) := by decide +kernel
theorem dX5_addCastling_191 : decode cX5_addCastling 191 = .ok (.iaload, 1) := by decide +kernel
theorem dX5_addCastling_192 : decode cX5_addCastling 192 = .ok (.istore 7, 2) := by decide +kernel
theorem dX5_addCastling_194 : decode cX5_addCastling 194 = .ok (.aload_n 0, 1) := by decide +kernel
theorem dX5_addCastling_195 : decode cX5_addCastling 195 = .ok (.getfield 123, 3) := by decide +kernel
theorem dX5_addCastling_198 : decode cX5_addCastling 198 = .ok (.iload 6, 2) := by decide +kernel
theorem dX5_addCastling_200 : decode cX5_addCastling 200 = .ok (.iconst 1, 1) := by decide +kernel
theorem dX5_addCastling_201 : decode cX5_addCastling 201 = .ok (.isub, 1) := by decide +kernel
theorem dX5_addCastling_202 : decode cX5_addCastling 202 = .ok (.aload_n 0, 1) := by decide +kernel
theorem dX5_addCastling_203 : decode cX5_addCastling 203 = .ok (.getfield 123, 3) := by decide +kernel
theorem dX5_addCastling_206 : decode cX5_addCastling 206 = .ok (.iload 6, 2) := by decide +kernel
theorem dX5_addCastling_208 : decode cX5_addCastling 208 = .ok (.iaload, 1) := by decide +kernel
theorem dX5_addCastling_209 : decode cX5_addCastling 209 = .ok (.iastore, 1) := by decide +kernel
theorem dX5_addCastling_210 : decode cX5_addCastling 210 = .ok (.aload_n 0, 1) := by decide +kernel
theorem dX5_addCastling_211 : decode cX5_addCastling 211 = .ok (.getfield 123, 3) := by decide +kernel
theorem dX5_addCastling_214 : decode cX5_addCastling 214 = .ok (.iload 6, 2) := by decide +kernel
theorem dX5_addCastling_216 : decode cX5_addCastling 216 = .ok (.iload 7, 2) := by decide +kernel
theorem dX5_addCastling_218 : decode cX5_addCastling 218 = .ok (.iastore, 1) := by decide +kernel
theorem dX5_addCastling_219 : decode cX5_addCastling 219 = .ok (.iinc 6 (-1), 3) := by decide +kernel
theorem dX5_addCastling_222 : decode cX5_addCastling 222 = .ok (.goto (-70), 3) := by decide +kernel
theorem dX5_addCastling_225 : decode cX5_addCastling 225 = .ok (.return_, 1) := by decide +kernel
def sX5_addCastling_73 (F : Nat) (h : Hp) : Option (Hp) := some h
def sX5_addCastling_122 (F : Nat) (h : Hp) : Option (Hp) := some h
def sX5_addCastling_225 (F : Nat) (h : Hp) : Option (Hp) := some h
def sX5_addCastling_152 (F : Nat) : Nat → Hp → Nat → Int32 → Int32 → Option (Hp)
  | 0, _, _, _, _ => none
  | f + 1, h, x0, x3, x6 => br (x6 ≤ x3) (sX5_addCastling_225 F h ) (cl (hR h x0 5) fun r_2 => gd (inB (x6 - (1 : Int32)) (hN h r_2)) <| cl (sX5_comeTo h (hI h r_2 (x6 - (1 : Int32)).toNatClampNeg)) fun o_4 => cl (hR o_4.2 x0 5) fun r_5 => gd (inB x6 (hN o_4.2 r_5)) <| cl (sX5_comeTo o_4.2 (hI o_4.2 r_5 x6.toNatClampNeg)) fun o_7 => br (o_4.1 ≤ o_7.1) (sX5_addCastling_225 F o_7.2 ) (cl (hR o_7.2 x0 5) fun r_9 => gd (inB (x6 - (1 : Int32)) (hN o_7.2 r_9)) <| nm (hI o_7.2 r_9 (x6 - (1 : Int32)).toNatClampNeg) fun v_11 => cl (hR o_7.2 x0 5) fun r_12 => cl (hR o_7.2 x0 5) fun r_13 => gd (inB x6 (hN o_7.2 r_13)) <| gd (inB (x6 - (1 : Int32)) (hN o_7.2 r_12)) <| nm (wI o_7.2 r_12 (x6 - (1 : Int32)).toNatClampNeg (hI o_7.2 r_13 x6.toNatClampNeg)) fun h_16 => cl (hR h_16 x0 5) fun r_17 => gd (inB x6 (hN h_16 r_17)) <| nm (wI h_16 r_17 x6.toNatClampNeg v_11) fun h_19 => nm (x6 + (-1 : Int32)) fun v_20 => sX5_addCastling_152 F f h_19 x0 x3 v_20))
def sX5_addCastling (F : Nat) (h : Hp) (x0 : Nat) (x1 : Int32) (x2 : Int32) (x3 : Int32) : Option (Hp) := cl (hR h x0 4) fun r_1 => nm ((1 : Int32) - (hI h r_1 5)) fun v_2 => cl (hR h x0 4) fun r_3 => cl (sX5_nearest F h x0 r_3 x1 x2) fun o_4 => br (o_4.1 = (-1 : Int32)) (sX5_addCastling_73 F o_4.2 ) (br ((if 0 ≤ (o_4.1 - x1) then (o_4.1 - x1) else 0 - (o_4.1 - x1)) < (3 : Int32)) (sX5_addCastling_73 F o_4.2 ) (cl (hR o_4.2 x0 4) fun r_7 => cl (hR o_4.2 x0 4) fun r_8 => cl (hR o_4.2 r_8 1) fun r_9 => cl (hR o_4.2 x0 4) fun r_10 => gd (inB (hI o_4.2 r_10 5) (hN o_4.2 r_9)) <| br ((lg_cmp (((hJ o_4.2 r_7 8) &&& (hJ o_4.2 r_9 (hI o_4.2 r_10 5).toNatClampNeg)) &&& ((1 : Int64) <<< (o_4.1.toInt64 &&& 63))) (0 : Int64)) = 0) (sX5_addCastling_73 F o_4.2 ) (cl (hR o_4.2 x0 4) fun r_13 => cl (sX5_isHit F o_4.2 x0 r_13 x1 v_2) fun o_14 => br (o_14.1 = 0) (cl (hR o_14.2 x0 4) fun r_16 => cl (sX5_isHit F o_14.2 x0 r_16 (x1 + x2) v_2) fun o_17 => br (o_17.1 = 0) (cl (hR o_17.2 x0 4) fun r_19 => cl (sX5_isHit F o_17.2 x0 r_19 (x1 + ((2 : Int32) * x2)) v_2) fun o_20 => br (o_20.1 = 0) (cl (hR o_20.2 x0 0) fun r_22 => cl (sX5_plainMove o_20.2 x1 (x1 + ((2 : Int32) * x2)) (hI o_20.2 r_22 4) (2 : Int32)) fun o_23 => cl (sX5_addMove o_23.2 x0 o_23.1) fun o_24 => nm ((hI o_24 x0 6) - (1 : Int32)) fun v_25 => sX5_addCastling_152 F F o_24 x0 x3 v_25) (sX5_addCastling_122 F o_20.2 )) (sX5_addCastling_122 F o_17.2 )) (sX5_addCastling_122 F o_14.2 ))))
set_option maxRecDepth 20000 in
theorem moX5_addCastling_73 {o : Hp} {F : Nat} {h : Hp} (hE : sX5_addCastling_73 F h  = some o) : Le h o := by
  exact le_some1 hE
set_option maxRecDepth 20000 in
theorem moX5_addCastling_122 {o : Hp} {F : Nat} {h : Hp} (hE : sX5_addCastling_122 F h  = some o) : Le h o := by
  exact le_some1 hE
set_option maxRecDepth 20000 in
theorem moX5_addCastling_225 {o : Hp} {F : Nat} {h : Hp} (hE : sX5_addCastling_225 F h  = some o) : Le h o := by
  exact le_some1 hE
set_option maxRecDepth 20000 in
theorem moX5_addCastling_152 {o : Hp} {F : Nat} : ∀ (f : Nat) {h : Hp} {x0 : Nat} {x3 : Int32} {x6 : Int32}, sX5_addCastling_152 F f h x0 x3 x6 = some o → Le h o := by
  intro f
  induction f with
  | zero =>
    intro h x0 x3 x6 hE
    rw [sX5_addCastling_152] at hE
    cases hE
  | succ f ih =>
    intro h x0 x3 x6 hE
    rw [sX5_addCastling_152] at hE
    have mk_152 : ∀ (h : Hp) (x0 : Nat) (x3 : Int32) (x6 : Int32), sX5_addCastling_152 F f h x0 x3 x6 = some o → Le h o := fun h x0 x3 x6 hE => ih hE
    rcases br_e hE with ⟨_, hE⟩ | ⟨_, hE⟩
    · exact moX5_addCastling_225 hE
    · obtain ⟨r_2, er_2, hE⟩ := cl_e hE
      obtain ⟨g_3, hE⟩ := gd_e hE
      obtain ⟨o_4, eo_4, hE⟩ := cl_e hE
      refine (moX5_comeTo eo_4).tr ?_
      obtain ⟨r_5, er_5, hE⟩ := cl_e hE
      obtain ⟨g_6, hE⟩ := gd_e hE
      obtain ⟨o_7, eo_7, hE⟩ := cl_e hE
      refine (moX5_comeTo eo_7).tr ?_
      rcases br_e hE with ⟨_, hE⟩ | ⟨_, hE⟩
      · exact moX5_addCastling_225 hE
      · obtain ⟨r_9, er_9, hE⟩ := cl_e hE
        obtain ⟨g_10, hE⟩ := gd_e hE
        obtain ⟨v_11, ev_11, hE⟩ := nm_e2 hE
        obtain ⟨r_12, er_12, hE⟩ := cl_e hE
        obtain ⟨r_13, er_13, hE⟩ := cl_e hE
        obtain ⟨g_14, hE⟩ := gd_e hE
        obtain ⟨g_15, hE⟩ := gd_e hE
        obtain ⟨h_16, eh_16, hE⟩ := nm_e2 hE
        refine (le_I eh_16).tr ?_
        obtain ⟨r_17, er_17, hE⟩ := cl_e hE
        obtain ⟨g_18, hE⟩ := gd_e hE
        obtain ⟨h_19, eh_19, hE⟩ := nm_e2 hE
        refine (le_I eh_19).tr ?_
        obtain ⟨v_20, ev_20, hE⟩ := nm_e2 hE
        exact mk_152 _ _ _ _ hE
set_option maxRecDepth 20000 in
theorem moX5_addCastling {o : Hp} {F : Nat} {h : Hp} {x0 : Nat} {x1 : Int32} {x2 : Int32} {x3 : Int32} (hE : sX5_addCastling F h x0 x1 x2 x3 = some o) : Le h o := by
  obtain ⟨r_1, er_1, hE⟩ := cl_e hE
  obtain ⟨v_2, ev_2, hE⟩ := nm_e2 hE
  obtain ⟨r_3, er_3, hE⟩ := cl_e hE
  obtain ⟨o_4, eo_4, hE⟩ := cl_e hE
  refine (moX5_nearest eo_4).tr ?_
  rcases br_e hE with ⟨_, hE⟩ | ⟨_, hE⟩
  · exact moX5_addCastling_73 hE
  · rcases br_e hE with ⟨_, hE⟩ | ⟨_, hE⟩
    · exact moX5_addCastling_73 hE
    · obtain ⟨r_7, er_7, hE⟩ := cl_e hE
      obtain ⟨r_8, er_8, hE⟩ := cl_e hE
      obtain ⟨r_9, er_9, hE⟩ := cl_e hE
      obtain ⟨r_10, er_10, hE⟩ := cl_e hE
      obtain ⟨g_11, hE⟩ := gd_e hE
      rcases br_e hE with ⟨_, hE⟩ | ⟨_, hE⟩
      · exact moX5_addCastling_73 hE
      · obtain ⟨r_13, er_13, hE⟩ := cl_e hE
        obtain ⟨o_14, eo_14, hE⟩ := cl_e hE
        refine (moX5_isHit eo_14).tr ?_
        rcases br_e hE with ⟨_, hE⟩ | ⟨_, hE⟩
        · obtain ⟨r_16, er_16, hE⟩ := cl_e hE
          obtain ⟨o_17, eo_17, hE⟩ := cl_e hE
          refine (moX5_isHit eo_17).tr ?_
          rcases br_e hE with ⟨_, hE⟩ | ⟨_, hE⟩
          · obtain ⟨r_19, er_19, hE⟩ := cl_e hE
            obtain ⟨o_20, eo_20, hE⟩ := cl_e hE
            refine (moX5_isHit eo_20).tr ?_
            rcases br_e hE with ⟨_, hE⟩ | ⟨_, hE⟩
            · obtain ⟨r_22, er_22, hE⟩ := cl_e hE
              obtain ⟨o_23, eo_23, hE⟩ := cl_e hE
              refine (moX5_plainMove eo_23).tr ?_
              obtain ⟨o_24, eo_24, hE⟩ := cl_e hE
              refine (moX5_addMove eo_24).tr ?_
              obtain ⟨v_25, ev_25, hE⟩ := nm_e2 hE
              exact moX5_addCastling_152 _ hE
            · exact moX5_addCastling_122 hE
          · exact moX5_addCastling_122 hE
        · exact moX5_addCastling_122 hE
set_option maxRecDepth 20000 in
theorem bX5_addCastling_73 {p : Program} {l : Launch} {e : Env} {s : State} {m : MethodId} {args : Array Value} {below : List Frame} {meth : Method} {c : Code} {X : Ec} {h0 : Hp} {o : Hp} {F : Nat} (C : Cx X p s m args meth c RX5 cX5_addCastling 8 none "addCastling") {h : Hp} {H : Heap} {locs : List Loc} (hkm : Km h0 h) (hW : Wx X h H) (hZ : va_S (aA (eB X)) s.heap H locs) (ls : Array Slot) (hl : lv_has ls 8 []) (hE : sX5_addCastling_73 F h  = some o) : W p l e (rm 1 38) s m args below meth c H locs 0 0 (MQ below (QV X h0 o) args s 0 0 (aA (eB X))) (F0 m 73 ls []) := by
  exact x_vret C rfl hW hZ hkm hE dX5_addCastling_73
set_option maxRecDepth 20000 in
theorem bX5_addCastling_122 {p : Program} {l : Launch} {e : Env} {s : State} {m : MethodId} {args : Array Value} {below : List Frame} {meth : Method} {c : Code} {X : Ec} {h0 : Hp} {o : Hp} {F : Nat} (C : Cx X p s m args meth c RX5 cX5_addCastling 8 none "addCastling") {h : Hp} {H : Heap} {locs : List Loc} (hkm : Km h0 h) (hW : Wx X h H) (hZ : va_S (aA (eB X)) s.heap H locs) (ls : Array Slot) (hl : lv_has ls 8 []) (hE : sX5_addCastling_122 F h  = some o) : W p l e (rm 1 38) s m args below meth c H locs 0 0 (MQ below (QV X h0 o) args s 0 0 (aA (eB X))) (F0 m 122 ls []) := by
  exact x_vret C rfl hW hZ hkm hE dX5_addCastling_122
set_option maxRecDepth 20000 in
theorem bX5_addCastling_225 {p : Program} {l : Launch} {e : Env} {s : State} {m : MethodId} {args : Array Value} {below : List Frame} {meth : Method} {c : Code} {X : Ec} {h0 : Hp} {o : Hp} {F : Nat} (C : Cx X p s m args meth c RX5 cX5_addCastling 8 none "addCastling") {h : Hp} {H : Heap} {locs : List Loc} (hkm : Km h0 h) (hW : Wx X h H) (hZ : va_S (aA (eB X)) s.heap H locs) (ls : Array Slot) (hl : lv_has ls 8 []) (hE : sX5_addCastling_225 F h  = some o) : W p l e (rm 1 38) s m args below meth c H locs 0 0 (MQ below (QV X h0 o) args s 0 0 (aA (eB X))) (F0 m 225 ls []) := by
  exact x_vret C rfl hW hZ hkm hE dX5_addCastling_225
set_option maxRecDepth 20000 in
theorem bX5_addCastling_152 {p : Program} {l : Launch} {e : Env} {s : State} {m : MethodId} {args : Array Value} {below : List Frame} {meth : Method} {c : Code} {X : Ec} {h0 : Hp} {o : Hp} {F : Nat} (C : Cx X p s m args meth c RX5 cX5_addCastling 8 none "addCastling") : ∀ (f : Nat) {h : Hp} {x0 : Nat} {x3 : Int32} {x6 : Int32} {H : Heap} {locs : List Loc} (k_x0 : hK h x0 = 5), Km h0 h → Wx X h H → va_S (aA (eB X)) s.heap H locs → ∀ (ls : Array Slot), lv_has ls 8 [(0, .ref x0), (3, .int x3), (6, .int x6)] → sX5_addCastling_152 F f h x0 x3 x6 = some o → W p l e (rm 1 38) s m args below meth c H locs 0 0 (MQ below (QV X h0 o) args s 0 0 (aA (eB X))) (F0 m 152 ls []) := by
  intro f
  induction f with
  | zero =>
    intro h x0 x3 x6 H locs k_x0 hkm hW hZ ls hl hE
    rw [sX5_addCastling_152] at hE
    cases hE
  | succ f ih =>
    intro h x0 x3 x6 H locs k_x0 hkm hW hZ ls hl hE
    rw [sX5_addCastling_152] at hE
    have hk_152 : ∀ (h : Hp) (x0 : Nat) (x3 : Int32) (x6 : Int32) (H : Heap) (locs : List Loc), hK h x0 = 5 → Km h0 h → Wx X h H → va_S (aA (eB X)) s.heap H locs → ∀ (ls : Array Slot), lv_has ls 8 [(0, .ref x0), (3, .int x3), (6, .int x6)] → sX5_addCastling_152 F f h x0 x3 x6 = some o → W p l e (rm 1 38) s m args below meth c H locs 0 0 (MQ below (QV X h0 o) args s 0 0 (aA (eB X))) (F0 m 152 ls []) := fun h x0 x3 x6 H locs k_x0 a b c ls hl hE => ih k_x0 a b c ls hl hE
    refine lv_iload C.1 C.2.1 dX5_addCastling_152 (lv_at hl 2 rfl) ?_
    refine lv_iload_n C.1 C.2.1 dX5_addCastling_154 rfl (lv_at hl 1 rfl) ?_
    refine lv_icmp_le (tgt := 225) C.1 C.2.1 dX5_addCastling_155 (by decide) (fun c_1 => ?_) (fun c_1 => ?_)
    · have hE := br_p hE c_1
      exact bX5_addCastling_225 C hkm hW hZ _ (lv_sub hl [] rfl) hE
    · have hE := br_n hE c_1
      refine lv_aload_n C.1 C.2.1 dX5_addCastling_158 rfl (lv_at hl 0 rfl) ?_
      obtain ⟨r_2, er_2, hE⟩ := cl_e hE
      refine gf_X5_123 C hW k_x0 er_2 dX5_addCastling_159 (fun k_r_2 => ?_)
      refine lv_iload C.1 C.2.1 dX5_addCastling_162 (lv_at hl 2 rfl) ?_
      refine lv_iconst (v := (1 : Int32)) C.1 C.2.1 dX5_addCastling_164 (by decide) ?_
      refine lv_isub C.1 C.2.1 dX5_addCastling_165 ?_
      obtain ⟨g_3, hE⟩ := gd_e hE
      refine y_iald C hW k_r_2 g_3 dX5_addCastling_166 ?_
      obtain ⟨o_4, eo_4, hE⟩ := cl_e hE
      refine x_kI (o := o_4) (z_runS (As := [.int (hI h r_2 (x6 - (1 : Int32)).toNatClampNeg)]) (rest := []) C (ct_X5_comeTo l X eo_4) cw_X5_184 hW hZ rfl hl.1 (Nat.le_of_ble_eq_true rfl) rfl dX5_addCastling_167 ⟨Nat.le_of_ble_eq_true rfl, Nat.le_of_ble_eq_true rfl⟩ ⟨Nat.le_refl _, Nat.le_refl _⟩) hZ (fun _ _ hW km hZ => ?_)
      replace hkm := hkm.tr km
      replace k_x0 := km.at k_x0 (by decide)
      refine lv_aload_n C.1 C.2.1 dX5_addCastling_170 rfl (lv_at hl 0 rfl) ?_
      obtain ⟨r_5, er_5, hE⟩ := cl_e hE
      refine gf_X5_123 C hW k_x0 er_5 dX5_addCastling_171 (fun k_r_5 => ?_)
      refine lv_iload C.1 C.2.1 dX5_addCastling_174 (lv_at hl 2 rfl) ?_
      obtain ⟨g_6, hE⟩ := gd_e hE
      refine y_iald C hW k_r_5 g_6 dX5_addCastling_176 ?_
      obtain ⟨o_7, eo_7, hE⟩ := cl_e hE
      refine x_kI (o := o_7) (z_runS (As := [.int (hI o_4.2 r_5 x6.toNatClampNeg)]) (rest := [.int o_4.1]) C (ct_X5_comeTo l X eo_7) cw_X5_184 hW hZ rfl hl.1 (Nat.le_of_ble_eq_true rfl) rfl dX5_addCastling_177 ⟨Nat.le_of_ble_eq_true rfl, Nat.le_of_ble_eq_true rfl⟩ ⟨Nat.le_refl _, Nat.le_refl _⟩) hZ (fun _ _ hW km hZ => ?_)
      replace hkm := hkm.tr km
      replace k_x0 := km.at k_x0 (by decide)
      refine lv_icmp_le (tgt := 225) C.1 C.2.1 dX5_addCastling_180 (by decide) (fun c_8 => ?_) (fun c_8 => ?_)
      · have hE := br_p hE c_8
        exact bX5_addCastling_225 C hkm hW hZ _ (lv_sub hl [] rfl) hE
      · have hE := br_n hE c_8
        refine lv_aload_n C.1 C.2.1 dX5_addCastling_183 rfl (lv_at hl 0 rfl) ?_
        obtain ⟨r_9, er_9, hE⟩ := cl_e hE
        refine gf_X5_123 C hW k_x0 er_9 dX5_addCastling_184 (fun k_r_9 => ?_)
        refine lv_iload C.1 C.2.1 dX5_addCastling_187 (lv_at hl 2 rfl) ?_
        refine lv_iconst (v := (1 : Int32)) C.1 C.2.1 dX5_addCastling_189 (by decide) ?_
        refine lv_isub C.1 C.2.1 dX5_addCastling_190 ?_
        obtain ⟨g_10, hE⟩ := gd_e hE
        refine y_iald C hW k_r_9 g_10 dX5_addCastling_191 ?_
        obtain ⟨v_11, ev_11, hE⟩ := nm_e2 hE
        refine x_nmI ev_11 ?_
        refine lv_istore (lv' := [(7, .int v_11), (0, .ref x0), (3, .int x3), (6, .int x6)]) C.1 C.2.1 dX5_addCastling_192 hl (by decide) rfl (fun ls hl => ?_)
        refine lv_aload_n C.1 C.2.1 dX5_addCastling_194 rfl (lv_at hl 1 rfl) ?_
        obtain ⟨r_12, er_12, hE⟩ := cl_e hE
        refine gf_X5_123 C hW k_x0 er_12 dX5_addCastling_195 (fun k_r_12 => ?_)
        refine lv_iload C.1 C.2.1 dX5_addCastling_198 (lv_at hl 3 rfl) ?_
        refine lv_iconst (v := (1 : Int32)) C.1 C.2.1 dX5_addCastling_200 (by decide) ?_
        refine lv_isub C.1 C.2.1 dX5_addCastling_201 ?_
        refine lv_aload_n C.1 C.2.1 dX5_addCastling_202 rfl (lv_at hl 1 rfl) ?_
        obtain ⟨r_13, er_13, hE⟩ := cl_e hE
        refine gf_X5_123 C hW k_x0 er_13 dX5_addCastling_203 (fun k_r_13 => ?_)
        refine lv_iload C.1 C.2.1 dX5_addCastling_206 (lv_at hl 3 rfl) ?_
        obtain ⟨g_14, hE⟩ := gd_e hE
        refine y_iald C hW k_r_13 g_14 dX5_addCastling_208 ?_
        obtain ⟨g_15, hE⟩ := gd_e hE
        obtain ⟨h_16, eh_16, hE⟩ := nm_e2 hE
        refine y_iast C hW hZ k_r_12 g_15 eh_16 dX5_addCastling_209 (fun _ _ hW km hZ => ?_)
        replace hkm := hkm.tr km
        replace k_x0 := km.at k_x0 (by decide)
        refine lv_aload_n C.1 C.2.1 dX5_addCastling_210 rfl (lv_at hl 1 rfl) ?_
        obtain ⟨r_17, er_17, hE⟩ := cl_e hE
        refine gf_X5_123 C hW k_x0 er_17 dX5_addCastling_211 (fun k_r_17 => ?_)
        refine lv_iload C.1 C.2.1 dX5_addCastling_214 (lv_at hl 3 rfl) ?_
        refine lv_iload C.1 C.2.1 dX5_addCastling_216 (lv_at hl 0 rfl) ?_
        obtain ⟨g_18, hE⟩ := gd_e hE
        obtain ⟨h_19, eh_19, hE⟩ := nm_e2 hE
        refine y_iast C hW hZ k_r_17 g_18 eh_19 dX5_addCastling_218 (fun _ _ hW km hZ => ?_)
        replace hkm := hkm.tr km
        replace k_x0 := km.at k_x0 (by decide)
        obtain ⟨v_20, ev_20, hE⟩ := nm_e2 hE
        refine lv_iinc (v := v_20) (lv' := [(6, .int v_20), (7, .int v_11), (0, .ref x0), (3, .int x3)]) C.1 C.2.1 dX5_addCastling_219 hl (k := 3) rfl (by rw [ev_20]; rfl) (by decide) rfl (fun ls hl => ?_)
        refine lv_goto (tgt := 152) C.1 C.2.1 dX5_addCastling_222 (by decide) ?_
        exact hk_152 _ _ _ _ _ _ k_x0 hkm hW hZ _ (lv_sub hl [2, 3, 0] rfl) hE
set_option maxRecDepth 20000 in
theorem ct_X5_addCastling (l : Launch) (X : Ec) (F : Nat) {h : Hp} {x0 : Nat} {x1 : Int32} {x2 : Int32} {x3 : Int32} {o : Hp} (k_x0 : hK h x0 = 5) (hE : sX5_addCastling F h x0 x1 x2 x3 = some o) : MetV l yX5_addCastling cX5_addCastling 8 none 1 38 X [.ref x0, .int x1, .int x2, .int x3] h o := by
  refine x_met (by decide) (Nat.le_of_ble_eq_true rfl) ?_
  intro p e s m below meth c ls C hl hW hZ
  have hl : lv_has ls 8 [(0, .ref x0), (1, .int x1), (2, .int x2), (3, .int x3)] := hl
  have hkm : Km h h := Km.rf h
  refine lv_iconst (v := (1 : Int32)) C.1 C.2.1 dX5_addCastling_0 (by decide) ?_
  refine lv_aload_n C.1 C.2.1 dX5_addCastling_1 rfl (lv_at hl 0 rfl) ?_
  obtain ⟨r_1, er_1, hE⟩ := cl_e hE
  refine gf_X5_71 C hW k_x0 er_1 dX5_addCastling_2 (fun k_r_1 => ?_)
  refine gf_X5_78 C hW k_r_1 dX5_addCastling_5 ?_
  refine lv_isub C.1 C.2.1 dX5_addCastling_8 ?_
  obtain ⟨v_2, ev_2, hE⟩ := nm_e2 hE
  refine x_nmI ev_2 ?_
  refine lv_istore (lv' := [(4, .int v_2), (0, .ref x0), (1, .int x1), (2, .int x2), (3, .int x3)]) C.1 C.2.1 dX5_addCastling_9 hl (by decide) rfl (fun ls hl => ?_)
  refine lv_aload_n C.1 C.2.1 dX5_addCastling_11 rfl (lv_at hl 1 rfl) ?_
  refine lv_aload_n C.1 C.2.1 dX5_addCastling_12 rfl (lv_at hl 1 rfl) ?_
  obtain ⟨r_3, er_3, hE⟩ := cl_e hE
  refine gf_X5_71 C hW k_x0 er_3 dX5_addCastling_13 (fun k_r_3 => ?_)
  refine lv_iload_n C.1 C.2.1 dX5_addCastling_16 rfl (lv_at hl 2 rfl) ?_
  refine lv_iload_n C.1 C.2.1 dX5_addCastling_17 rfl (lv_at hl 3 rfl) ?_
  obtain ⟨o_4, eo_4, hE⟩ := cl_e hE
  refine x_kI (o := o_4) (z_runV (As := [.ref r_3, .int x1, .int x2]) (rest := []) C (ct_X5_nearest l X F k_x0 k_r_3 eo_4) cw_X5_197 hW hZ k_x0 (by decide) rfl rfl rfl hl.1 (Nat.le_of_ble_eq_true rfl) rfl dX5_addCastling_18 ⟨Nat.le_of_ble_eq_true rfl, Nat.le_of_ble_eq_true rfl⟩ ⟨Nat.le_refl _, Nat.le_refl _⟩) hZ (fun _ _ hW km hZ => ?_)
  replace hkm := hkm.tr km
  replace k_x0 := km.at k_x0 (by decide)
  refine lv_istore (lv' := [(5, .int o_4.1), (4, .int v_2), (0, .ref x0), (1, .int x1), (2, .int x2), (3, .int x3)]) C.1 C.2.1 dX5_addCastling_21 hl (by decide) rfl (fun ls hl => ?_)
  refine lv_iload C.1 C.2.1 dX5_addCastling_23 (lv_at hl 0 rfl) ?_
  refine lv_iconst (v := (-1 : Int32)) C.1 C.2.1 dX5_addCastling_25 (by decide) ?_
  refine lv_icmp_eq (tgt := 73) C.1 C.2.1 dX5_addCastling_26 (by decide) (fun c_5 => ?_) (fun c_5 => ?_)
  · have hE := br_p hE c_5
    exact bX5_addCastling_73 C hkm hW hZ _ (lv_sub hl [] rfl) hE
  · have hE := br_n hE c_5
    refine lv_iload C.1 C.2.1 dX5_addCastling_29 (lv_at hl 0 rfl) ?_
    refine lv_iload_n C.1 C.2.1 dX5_addCastling_31 rfl (lv_at hl 3 rfl) ?_
    refine lv_isub C.1 C.2.1 dX5_addCastling_32 ?_
    refine va_mabs C.1 C.2.1 (C.2.2.1.trans hl.1.symm) C.2.2.2.1 (C.2.2.2.2.1 _ m_1212) (C.2.2.2.2.1 _ m_1213) (C.2.2.2.2.1 _ m_3) (C.2.2.2.2.1 _ m_1214) (Nat.le_of_ble_eq_true rfl) (Nat.le_of_ble_eq_true rfl) (Nat.le_refl _) (Nat.le_refl _) dX5_addCastling_33 ?_
    refine lv_iconst (v := (3 : Int32)) C.1 C.2.1 dX5_addCastling_36 (by decide) ?_
    refine lv_icmp_lt (tgt := 73) C.1 C.2.1 dX5_addCastling_37 (by decide) (fun c_6 => ?_) (fun c_6 => ?_)
    · have hE := br_p hE c_6
      exact bX5_addCastling_73 C hkm hW hZ _ (lv_sub hl [] rfl) hE
    · have hE := br_n hE c_6
      refine lv_aload_n C.1 C.2.1 dX5_addCastling_40 rfl (lv_at hl 2 rfl) ?_
      obtain ⟨r_7, er_7, hE⟩ := cl_e hE
      refine gf_X5_71 C hW k_x0 er_7 dX5_addCastling_41 (fun k_r_7 => ?_)
      refine gf_X5_93 C hW k_r_7 dX5_addCastling_44 ?_
      refine lv_aload_n C.1 C.2.1 dX5_addCastling_47 rfl (lv_at hl 2 rfl) ?_
      obtain ⟨r_8, er_8, hE⟩ := cl_e hE
      refine gf_X5_71 C hW k_x0 er_8 dX5_addCastling_48 (fun k_r_8 => ?_)
      obtain ⟨r_9, er_9, hE⟩ := cl_e hE
      refine gf_X5_33 C hW k_r_8 er_9 dX5_addCastling_51 (fun k_r_9 => ?_)
      refine lv_aload_n C.1 C.2.1 dX5_addCastling_54 rfl (lv_at hl 2 rfl) ?_
      obtain ⟨r_10, er_10, hE⟩ := cl_e hE
      refine gf_X5_71 C hW k_x0 er_10 dX5_addCastling_55 (fun k_r_10 => ?_)
      refine gf_X5_78 C hW k_r_10 dX5_addCastling_58 ?_
      obtain ⟨g_11, hE⟩ := gd_e hE
      refine y_lald C hW k_r_9 g_11 dX5_addCastling_61 ?_
      refine lv_land C.1 C.2.1 dX5_addCastling_62 ?_
      refine lv_lconst (v := (1 : Int64)) C.1 C.2.1 dX5_addCastling_63 (by decide) ?_
      refine lv_iload C.1 C.2.1 dX5_addCastling_64 (lv_at hl 0 rfl) ?_
      refine lv_lshl C.1 C.2.1 dX5_addCastling_66 rfl ?_
      refine lv_land C.1 C.2.1 dX5_addCastling_67 ?_
      refine lv_lconst (v := (0 : Int64)) C.1 C.2.1 dX5_addCastling_68 (by decide) ?_
      refine W.lcmp C.1 C.2.1 dX5_addCastling_69 ?_
      refine lv_if_ne (tgt := 74) C.1 C.2.1 dX5_addCastling_70 (by decide) (fun c_12 => ?_) (fun c_12 => ?_)
      · have hE := br_n hE c_12
        refine lv_aload_n C.1 C.2.1 dX5_addCastling_74 rfl (lv_at hl 2 rfl) ?_
        refine lv_aload_n C.1 C.2.1 dX5_addCastling_75 rfl (lv_at hl 2 rfl) ?_
        obtain ⟨r_13, er_13, hE⟩ := cl_e hE
        refine gf_X5_71 C hW k_x0 er_13 dX5_addCastling_76 (fun k_r_13 => ?_)
        refine lv_iload_n C.1 C.2.1 dX5_addCastling_79 rfl (lv_at hl 3 rfl) ?_
        refine lv_iload C.1 C.2.1 dX5_addCastling_80 (lv_at hl 1 rfl) ?_
        obtain ⟨o_14, eo_14, hE⟩ := cl_e hE
        refine x_kI (o := o_14) (z_runV (As := [.ref r_13, .int x1, .int v_2]) (rest := []) C (ct_X5_isHit l X F k_x0 k_r_13 eo_14) cw_X5_63 hW hZ k_x0 (by decide) rfl rfl rfl hl.1 (Nat.le_of_ble_eq_true rfl) rfl dX5_addCastling_82 ⟨Nat.le_of_ble_eq_true rfl, Nat.le_of_ble_eq_true rfl⟩ ⟨Nat.le_refl _, Nat.le_refl _⟩) hZ (fun _ _ hW km hZ => ?_)
        replace hkm := hkm.tr km
        replace k_x0 := km.at k_x0 (by decide)
        refine lv_if_ne (tgt := 122) C.1 C.2.1 dX5_addCastling_85 (by decide) (fun c_15 => ?_) (fun c_15 => ?_)
        · have hE := br_n hE c_15
          exact bX5_addCastling_122 C hkm hW hZ _ (lv_sub hl [] rfl) hE
        · have hE := br_p hE c_15
          refine lv_aload_n C.1 C.2.1 dX5_addCastling_88 rfl (lv_at hl 2 rfl) ?_
          refine lv_aload_n C.1 C.2.1 dX5_addCastling_89 rfl (lv_at hl 2 rfl) ?_
          obtain ⟨r_16, er_16, hE⟩ := cl_e hE
          refine gf_X5_71 C hW k_x0 er_16 dX5_addCastling_90 (fun k_r_16 => ?_)
          refine lv_iload_n C.1 C.2.1 dX5_addCastling_93 rfl (lv_at hl 3 rfl) ?_
          refine lv_iload_n C.1 C.2.1 dX5_addCastling_94 rfl (lv_at hl 4 rfl) ?_
          refine lv_iadd C.1 C.2.1 dX5_addCastling_95 ?_
          refine lv_iload C.1 C.2.1 dX5_addCastling_96 (lv_at hl 1 rfl) ?_
          obtain ⟨o_17, eo_17, hE⟩ := cl_e hE
          refine x_kI (o := o_17) (z_runV (As := [.ref r_16, .int (x1 + x2), .int v_2]) (rest := []) C (ct_X5_isHit l X F k_x0 k_r_16 eo_17) cw_X5_63 hW hZ k_x0 (by decide) rfl rfl rfl hl.1 (Nat.le_of_ble_eq_true rfl) rfl dX5_addCastling_98 ⟨Nat.le_of_ble_eq_true rfl, Nat.le_of_ble_eq_true rfl⟩ ⟨Nat.le_refl _, Nat.le_refl _⟩) hZ (fun _ _ hW km hZ => ?_)
          replace hkm := hkm.tr km
          replace k_x0 := km.at k_x0 (by decide)
          refine lv_if_ne (tgt := 122) C.1 C.2.1 dX5_addCastling_101 (by decide) (fun c_18 => ?_) (fun c_18 => ?_)
          · have hE := br_n hE c_18
            exact bX5_addCastling_122 C hkm hW hZ _ (lv_sub hl [] rfl) hE
          · have hE := br_p hE c_18
            refine lv_aload_n C.1 C.2.1 dX5_addCastling_104 rfl (lv_at hl 2 rfl) ?_
            refine lv_aload_n C.1 C.2.1 dX5_addCastling_105 rfl (lv_at hl 2 rfl) ?_
            obtain ⟨r_19, er_19, hE⟩ := cl_e hE
            refine gf_X5_71 C hW k_x0 er_19 dX5_addCastling_106 (fun k_r_19 => ?_)
            refine lv_iload_n C.1 C.2.1 dX5_addCastling_109 rfl (lv_at hl 3 rfl) ?_
            refine lv_iconst (v := (2 : Int32)) C.1 C.2.1 dX5_addCastling_110 (by decide) ?_
            refine lv_iload_n C.1 C.2.1 dX5_addCastling_111 rfl (lv_at hl 4 rfl) ?_
            refine lv_imul C.1 C.2.1 dX5_addCastling_112 ?_
            refine lv_iadd C.1 C.2.1 dX5_addCastling_113 ?_
            refine lv_iload C.1 C.2.1 dX5_addCastling_114 (lv_at hl 1 rfl) ?_
            obtain ⟨o_20, eo_20, hE⟩ := cl_e hE
            refine x_kI (o := o_20) (z_runV (As := [.ref r_19, .int (x1 + ((2 : Int32) * x2)), .int v_2]) (rest := []) C (ct_X5_isHit l X F k_x0 k_r_19 eo_20) cw_X5_63 hW hZ k_x0 (by decide) rfl rfl rfl hl.1 (Nat.le_of_ble_eq_true rfl) rfl dX5_addCastling_116 ⟨Nat.le_of_ble_eq_true rfl, Nat.le_of_ble_eq_true rfl⟩ ⟨Nat.le_refl _, Nat.le_refl _⟩) hZ (fun _ _ hW km hZ => ?_)
            replace hkm := hkm.tr km
            replace k_x0 := km.at k_x0 (by decide)
            refine lv_if_eq (tgt := 123) C.1 C.2.1 dX5_addCastling_119 (by decide) (fun c_21 => ?_) (fun c_21 => ?_)
            · have hE := br_p hE c_21
              refine lv_aload_n C.1 C.2.1 dX5_addCastling_123 rfl (lv_at hl 2 rfl) ?_
              refine lv_iload_n C.1 C.2.1 dX5_addCastling_124 rfl (lv_at hl 3 rfl) ?_
              refine lv_iload_n C.1 C.2.1 dX5_addCastling_125 rfl (lv_at hl 3 rfl) ?_
              refine lv_iconst (v := (2 : Int32)) C.1 C.2.1 dX5_addCastling_126 (by decide) ?_
              refine lv_iload_n C.1 C.2.1 dX5_addCastling_127 rfl (lv_at hl 4 rfl) ?_
              refine lv_imul C.1 C.2.1 dX5_addCastling_128 ?_
              refine lv_iadd C.1 C.2.1 dX5_addCastling_129 ?_
              refine lv_aload_n C.1 C.2.1 dX5_addCastling_130 rfl (lv_at hl 2 rfl) ?_
              obtain ⟨r_22, er_22, hE⟩ := cl_e hE
              refine gf_X5_22 C hW k_x0 er_22 dX5_addCastling_131 (fun k_r_22 => ?_)
              refine gf_X5_129 C hW k_r_22 dX5_addCastling_134 ?_
              refine lv_iconst (v := (2 : Int32)) C.1 C.2.1 dX5_addCastling_137 (by decide) ?_
              obtain ⟨o_23, eo_23, hE⟩ := cl_e hE
              refine x_kI (o := o_23) (z_runS (As := [.int x1, .int (x1 + ((2 : Int32) * x2)), .int (hI o_20.2 r_22 4), .int (2 : Int32)]) (rest := [.ref x0]) C (ct_X5_plainMove l X eo_23) cw_X5_176 hW hZ rfl hl.1 (Nat.le_of_ble_eq_true rfl) rfl dX5_addCastling_138 ⟨Nat.le_of_ble_eq_true rfl, Nat.le_of_ble_eq_true rfl⟩ ⟨Nat.le_refl _, Nat.le_refl _⟩) hZ (fun _ _ hW km hZ => ?_)
              replace hkm := hkm.tr km
              replace k_x0 := km.at k_x0 (by decide)
              obtain ⟨o_24, eo_24, hE⟩ := cl_e hE
              refine x_kV (o := o_24) (z_runV (As := [.int o_23.1]) (rest := []) C (ct_X5_addMove l X k_x0 eo_24) cw_X5_170 hW hZ k_x0 (by decide) rfl rfl rfl hl.1 (Nat.le_of_ble_eq_true rfl) rfl dX5_addCastling_141 ⟨Nat.le_of_ble_eq_true rfl, Nat.le_of_ble_eq_true rfl⟩ ⟨Nat.le_refl _, Nat.le_refl _⟩) hZ (fun _ _ hW km hZ => ?_)
              replace hkm := hkm.tr km
              replace k_x0 := km.at k_x0 (by decide)
              refine lv_aload_n C.1 C.2.1 dX5_addCastling_144 rfl (lv_at hl 2 rfl) ?_
              refine gf_X5_82 C hW k_x0 dX5_addCastling_145 ?_
              refine lv_iconst (v := (1 : Int32)) C.1 C.2.1 dX5_addCastling_148 (by decide) ?_
              refine lv_isub C.1 C.2.1 dX5_addCastling_149 ?_
              obtain ⟨v_25, ev_25, hE⟩ := nm_e2 hE
              refine x_nmI ev_25 ?_
              refine lv_istore (lv' := [(6, .int v_25), (5, .int o_4.1), (4, .int v_2), (0, .ref x0), (1, .int x1), (2, .int x2), (3, .int x3)]) C.1 C.2.1 dX5_addCastling_150 hl (by decide) rfl (fun ls hl => ?_)
              exact bX5_addCastling_152 C F k_x0 hkm hW hZ _ (lv_sub hl [3, 6, 0] rfl) hE
            · have hE := br_n hE c_21
              exact bX5_addCastling_122 C hkm hW hZ _ (lv_sub hl [] rfl) hE
      · have hE := br_p hE c_12
        exact bX5_addCastling_73 C hkm hW hZ _ (lv_sub hl [] rfl) hE
theorem dX5_kindOf_0 : decode cX5_kindOf 0 = .ok (.iload_n 0, 1) := by decide +kernel
theorem dX5_kindOf_1 : decode cX5_kindOf 1 = .ok (.bipush 24, 2) := by decide +kernel
theorem dX5_kindOf_3 : decode cX5_kindOf 3 = .ok (.ishr, 1) := by decide +kernel
theorem dX5_kindOf_4 : decode cX5_kindOf 4 = .ok (.iconst 3, 1) := by decide +kernel
theorem dX5_kindOf_5 : decode cX5_kindOf 5 = .ok (.iand, 1) := by decide +kernel
theorem dX5_kindOf_6 : decode cX5_kindOf 6 = .ok (.ireturn, 1) := by decide +kernel
def sX5_kindOf (h : Hp) (x0 : Int32) : Option (Int32 × Hp) := some ((x0 >>> ((24 : Int32) &&& 31)) &&& (3 : Int32), h)
set_option maxRecDepth 20000 in
theorem moX5_kindOf {o : Int32 × Hp} {h : Hp} {x0 : Int32} (hE : sX5_kindOf h x0 = some o) : Le h o.2 := by
  exact le_some2 hE
set_option maxRecDepth 20000 in
theorem ct_X5_kindOf (l : Launch) (X : Ec) {h : Hp} {x0 : Int32} {o : Int32 × Hp} (hE : sX5_kindOf h x0 = some o) : MetI l yX5_kindOf cX5_kindOf 1 (some .int) 0 0 X [.int x0] h o := by
  refine x_met (by decide) (Nat.le_of_ble_eq_true rfl) ?_
  intro p e s m below meth c ls C hl hW hZ
  have hl : lv_has ls 1 [(0, .int x0)] := hl
  have hkm : Km h h := Km.rf h
  refine lv_iload_n C.1 C.2.1 dX5_kindOf_0 rfl (lv_at hl 0 rfl) ?_
  refine lv_bipush (v := (24 : Int32)) C.1 C.2.1 dX5_kindOf_1 (by decide) ?_
  refine lv_ishr C.1 C.2.1 dX5_kindOf_3 ?_
  refine lv_iconst (v := (3 : Int32)) C.1 C.2.1 dX5_kindOf_4 (by decide) ?_
  refine lv_iand C.1 C.2.1 dX5_kindOf_5 ?_
  exact x_iret C rfl rfl hW hZ hkm hE dX5_kindOf_6
theorem dX5_leftBy_0 : decode cX5_leftBy 0 = .ok (.iload_n 0, 1) := by decide +kernel
theorem dX5_leftBy_1 : decode cX5_leftBy 1 = .ok (.bipush 6, 2) := by decide +kernel
theorem dX5_leftBy_3 : decode cX5_leftBy 3 = .ok (.ishr, 1) := by decide +kernel
theorem dX5_leftBy_4 : decode cX5_leftBy 4 = .ok (.bipush 63, 2) := by decide +kernel
theorem dX5_leftBy_6 : decode cX5_leftBy 6 = .ok (.iand, 1) := by decide +kernel
theorem dX5_leftBy_7 : decode cX5_leftBy 7 = .ok (.ireturn, 1) := by decide +kernel
def sX5_leftBy (h : Hp) (x0 : Int32) : Option (Int32 × Hp) := some ((x0 >>> ((6 : Int32) &&& 31)) &&& (63 : Int32), h)
set_option maxRecDepth 20000 in
theorem moX5_leftBy {o : Int32 × Hp} {h : Hp} {x0 : Int32} (hE : sX5_leftBy h x0 = some o) : Le h o.2 := by
  exact le_some2 hE
set_option maxRecDepth 20000 in
theorem ct_X5_leftBy (l : Launch) (X : Ec) {h : Hp} {x0 : Int32} {o : Int32 × Hp} (hE : sX5_leftBy h x0 = some o) : MetI l yX5_leftBy cX5_leftBy 1 (some .int) 0 0 X [.int x0] h o := by
  refine x_met (by decide) (Nat.le_of_ble_eq_true rfl) ?_
  intro p e s m below meth c ls C hl hW hZ
  have hl : lv_has ls 1 [(0, .int x0)] := hl
  have hkm : Km h h := Km.rf h
  refine lv_iload_n C.1 C.2.1 dX5_leftBy_0 rfl (lv_at hl 0 rfl) ?_
  refine lv_bipush (v := (6 : Int32)) C.1 C.2.1 dX5_leftBy_1 (by decide) ?_
  refine lv_ishr C.1 C.2.1 dX5_leftBy_3 ?_
  refine lv_bipush (v := (63 : Int32)) C.1 C.2.1 dX5_leftBy_4 (by decide) ?_
  refine lv_iand C.1 C.2.1 dX5_leftBy_6 ?_
  exact x_iret C rfl rfl hW hZ hkm hE dX5_leftBy_7
set_option maxRecDepth 100000 in
theorem m_1223 : Cond.methodLink RX5 233 yX5_kindOf ∈ W0 := w0_in (List.mem_append_right _ (List.mem_of_getElem? (i := 1223) rfl)) rfl
set_option maxRecDepth 100000 in
theorem m_1224 : Cond.static yX5_kindOf ∈ W0 := w0_in (List.mem_append_right _ (List.mem_of_getElem? (i := 1224) rfl)) rfl
set_option maxRecDepth 100000 in
theorem m_1225 : Cond.code yX5_kindOf cX5_kindOf 1 (some .int) ∈ W0 := w0_in (List.mem_append_right _ (List.mem_of_getElem? (i := 1225) rfl)) rfl
set_option maxRecDepth 100000 in
theorem m_1226 : Cond.methodLink RX5 236 yX5_leftBy ∈ W0 := w0_in (List.mem_append_right _ (List.mem_of_getElem? (i := 1226) rfl)) rfl
set_option maxRecDepth 100000 in
theorem m_1227 : Cond.static yX5_leftBy ∈ W0 := w0_in (List.mem_append_right _ (List.mem_of_getElem? (i := 1227) rfl)) rfl
set_option maxRecDepth 100000 in
theorem m_1228 : Cond.code yX5_leftBy cX5_leftBy 1 (some .int) ∈ W0 := w0_in (List.mem_append_right _ (List.mem_of_getElem? (i := 1228) rfl)) rfl
theorem cw_X5_233 : cwd RX5 233 yX5_kindOf cX5_kindOf 1 (some .int) true 1 := ⟨m_1225, m_1223, m_7, m_1224, by decide, by decide, by decide +kernel⟩
theorem cw_X5_236 : cwd RX5 236 yX5_leftBy cX5_leftBy 1 (some .int) true 1 := ⟨m_1228, m_1226, m_7, m_1227, by decide, by decide, by decide +kernel⟩
theorem dX5_isSafe_0 : decode cX5_isSafe 0 = .ok (.iload_n 1, 1) := by decide +kernel
theorem dX5_isSafe_1 : decode cX5_isSafe 1 = .ok (.invokestatic 233, 3) := by decide +kernel
theorem dX5_isSafe_4 : decode cX5_isSafe 4 = .ok (.istore_n 2, 1) := by decide +kernel
theorem dX5_isSafe_5 : decode cX5_isSafe 5 = .ok (.aload_n 0, 1) := by decide +kernel
theorem dX5_isSafe_6 : decode cX5_isSafe 6 = .ok (.getfield 132, 3) := by decide +kernel
theorem dX5_isSafe_9 : decode cX5_isSafe 9 = .ok (.ifCond .eq 22, 3) := by decide +kernel
theorem dX5_isSafe_12 : decode cX5_isSafe 12 = .ok (.iload_n 2, 1) := by decide +kernel
theorem dX5_isSafe_13 : decode cX5_isSafe 13 = .ok (.iconst 2, 1) := by decide +kernel
theorem dX5_isSafe_14 : decode cX5_isSafe 14 = .ok (.if_icmp .eq 17, 3) := by decide +kernel
theorem dX5_isSafe_17 : decode cX5_isSafe 17 = .ok (.iload_n 1, 1) := by decide +kernel
theorem dX5_isSafe_18 : decode cX5_isSafe 18 = .ok (.invokestatic 194, 3) := by decide +kernel
theorem dX5_isSafe_21 : decode cX5_isSafe 21 = .ok (.aload_n 0, 1) := by decide +kernel
theorem dX5_isSafe_22 : decode cX5_isSafe 22 = .ok (.getfield 22, 3) := by decide +kernel
theorem dX5_isSafe_25 : decode cX5_isSafe 25 = .ok (.getfield 129, 3) := by decide +kernel
theorem dX5_isSafe_28 : decode cX5_isSafe 28 = .ok (.if_icmp .ne 5, 3) := by decide +kernel
theorem dX5_isSafe_31 : decode cX5_isSafe 31 = .ok (.iconst 0, 1) := by decide +kernel
theorem dX5_isSafe_32 : decode cX5_isSafe 32 = .ok (.ireturn, 1) := by decide +kernel
theorem dX5_isSafe_33 : decode cX5_isSafe 33 = .ok (.lconst 1, 1) := by decide +kernel
theorem dX5_isSafe_34 : decode cX5_isSafe 34 = .ok (.iload_n 1, 1) := by decide +kernel
theorem dX5_isSafe_35 : decode cX5_isSafe 35 = .ok (.invokestatic 184, 3) := by decide +kernel
theorem dX5_isSafe_38 : decode cX5_isSafe 38 = .ok (.lshl, 1) := by decide +kernel
theorem dX5_isSafe_39 : decode cX5_isSafe 39 = .ok (.lstore_n 3, 1) := by decide +kernel
theorem dX5_isSafe_40 : decode cX5_isSafe 40 = .ok (.iload_n 2, 1) := by decide +kernel
theorem dX5_isSafe_41 : decode cX5_isSafe 41 = .ok (.iconst 3, 1) := by decide +kernel
theorem dX5_isSafe_42 : decode cX5_isSafe 42 = .ok (.if_icmp .eq 12, 3) := by decide +kernel
theorem dX5_isSafe_45 : decode cX5_isSafe 45 = .ok (.lload_n 3, 1) := by decide +kernel
theorem dX5_isSafe_46 : decode cX5_isSafe 46 = .ok (.lconst 1, 1) := by decide +kernel
theorem dX5_isSafe_47 : decode cX5_isSafe 47 = .ok (.iload_n 1, 1) := by decide +kernel
theorem dX5_isSafe_48 : decode cX5_isSafe 48 = .ok (.invokestatic 236, 3) := by decide +kernel
theorem dX5_isSafe_51 : decode cX5_isSafe 51 = .ok (.lshl, 1) := by decide +kernel
theorem dX5_isSafe_52 : decode cX5_isSafe 52 = .ok (.lor, 1) := by decide +kernel
theorem dX5_isSafe_53 : decode cX5_isSafe 53 = .ok (.lstore_n 3, 1) := by decide +kernel
theorem dX5_isSafe_54 : decode cX5_isSafe 54 = .ok (.iload_n 2, 1) := by decide +kernel
theorem dX5_isSafe_55 : decode cX5_isSafe 55 = .ok (.iconst 1, 1) := by decide +kernel
theorem dX5_isSafe_56 : decode cX5_isSafe 56 = .ok (.if_icmp .ne 16, 3) := by decide +kernel
theorem dX5_isSafe_59 : decode cX5_isSafe 59 = .ok (.lload_n 3, 1) := by decide +kernel
theorem dX5_isSafe_60 : decode cX5_isSafe 60 = .ok (.lconst 1, 1) := by decide +kernel
theorem dX5_isSafe_61 : decode cX5_isSafe 61 = .ok (.aload_n 0, 1) := by decide +kernel
theorem dX5_isSafe_62 : decode cX5_isSafe 62 = .ok (.getfield 71, 3) := by decide +kernel
theorem dX5_isSafe_65 : decode cX5_isSafe 65 = .ok (.iconst 0, 1) := by decide +kernel
theorem dX5_isSafe_66 : decode cX5_isSafe 66 = .ok (.invokevirtual 173, 3) := by decide +kernel
theorem dX5_isSafe_69 : decode cX5_isSafe 69 = .ok (.lshl, 1) := by decide +kernel
theorem dX5_isSafe_70 : decode cX5_isSafe 70 = .ok (.lor, 1) := by decide +kernel
theorem dX5_isSafe_71 : decode cX5_isSafe 71 = .ok (.lstore_n 3, 1) := by decide +kernel
theorem dX5_isSafe_72 : decode cX5_isSafe 72 = .ok (.lload_n 3, 1) := by decide +kernel
theorem dX5_isSafe_73 : decode cX5_isSafe 73 = .ok (.aload_n 0, 1) := by decide +kernel
theorem dX5_isSafe_74 : decode cX5_isSafe 74 = .ok (.getfield 126, 3) := by decide +kernel
theorem dX5_isSafe_77 : decode cX5_isSafe 77 = .ok (.land, 1) := by decide +kernel
theorem dX5_isSafe_78 : decode cX5_isSafe 78 = .ok (.lconst 0, 1) := by decide +kernel
theorem dX5_isSafe_79 : decode cX5_isSafe 79 = .ok (.lcmp, 1) := by decide +kernel
theorem dX5_isSafe_80 : decode cX5_isSafe 80 = .ok (.ifCond .ne 7, 3) := by decide +kernel
theorem dX5_isSafe_83 : decode cX5_isSafe 83 = .ok (.iconst 1, 1) := by decide +kernel
theorem dX5_isSafe_84 : decode cX5_isSafe 84 = .ok (.goto 4, 3) := by decide +kernel
theorem dX5_isSafe_87 : decode cX5_isSafe 87 = .ok (.iconst 0, 1) := by decide +kernel
theorem dX5_isSafe_88 : decode cX5_isSafe 88 = .ok (.ireturn, 1) := by decide +kernel
def sX5_isSafe_31 (h : Hp) : Option (Int32 × Hp) := some ((0 : Int32), h)
def sX5_isSafe_88 (h : Hp) (t0 : Int32) : Option (Int32 × Hp) := gd (t0 &&& 1 = t0) <| some (t0, h)
def sX5_isSafe_72 (h : Hp) (x0 : Nat) (x3 : Int64) : Option (Int32 × Hp) := br ((lg_cmp (x3 &&& (hJ h x0 8)) (0 : Int64)) = 0) (sX5_isSafe_88  h (1 : Int32)) (sX5_isSafe_88  h (0 : Int32))
def sX5_isSafe_54 (h : Hp) (x0 : Nat) (x2 : Int32) (x3 : Int64) : Option (Int32 × Hp) := br (x2 = (1 : Int32)) (cl (hR h x0 4) fun r_2 => cl (sX3_passSquare h r_2 (0 : Int32)) fun o_3 => nm (x3 ||| ((1 : Int64) <<< (o_3.1.toInt64 &&& 63))) fun v_4 => sX5_isSafe_72  o_3.2 x0 v_4) (sX5_isSafe_72  h x0 x3)
def sX5_isSafe (h : Hp) (x0 : Nat) (x1 : Int32) : Option (Int32 × Hp) := cl (sX5_kindOf h x1) fun o_1 => br ((hI o_1.2 x0 9) = 0) (sX5_isSafe_31  o_1.2 ) (br (o_1.1 = (2 : Int32)) (sX5_isSafe_31  o_1.2 ) (cl (sX5_manOf o_1.2 x1) fun o_4 => cl (hR o_4.2 x0 0) fun r_5 => br (o_4.1 = (hI o_4.2 r_5 4)) (sX5_isSafe_31  o_4.2 ) (cl (sX5_comeTo o_4.2 x1) fun o_7 => nm ((1 : Int64) <<< (o_7.1.toInt64 &&& 63)) fun v_8 => br (o_1.1 = (3 : Int32)) (sX5_isSafe_54  o_7.2 x0 o_1.1 v_8) (cl (sX5_leftBy o_7.2 x1) fun o_10 => nm (v_8 ||| ((1 : Int64) <<< (o_10.1.toInt64 &&& 63))) fun v_11 => sX5_isSafe_54  o_10.2 x0 o_1.1 v_11))))
set_option maxRecDepth 20000 in
theorem moX5_isSafe_31 {o : Int32 × Hp} {h : Hp} (hE : sX5_isSafe_31 h  = some o) : Le h o.2 := by
  exact le_some2 hE
set_option maxRecDepth 20000 in
theorem moX5_isSafe_88 {o : Int32 × Hp} {h : Hp} {t0 : Int32} (hE : sX5_isSafe_88 h  t0 = some o) : Le h o.2 := by
  obtain ⟨g_1, hE⟩ := gd_e hE
  exact le_some2 hE
set_option maxRecDepth 20000 in
theorem moX5_isSafe_72 {o : Int32 × Hp} {h : Hp} {x0 : Nat} {x3 : Int64} (hE : sX5_isSafe_72 h x0 x3 = some o) : Le h o.2 := by
  rcases br_e hE with ⟨_, hE⟩ | ⟨_, hE⟩
  · exact moX5_isSafe_88 hE
  · exact moX5_isSafe_88 hE
set_option maxRecDepth 20000 in
theorem moX5_isSafe_54 {o : Int32 × Hp} {h : Hp} {x0 : Nat} {x2 : Int32} {x3 : Int64} (hE : sX5_isSafe_54 h x0 x2 x3 = some o) : Le h o.2 := by
  rcases br_e hE with ⟨_, hE⟩ | ⟨_, hE⟩
  · obtain ⟨r_2, er_2, hE⟩ := cl_e hE
    obtain ⟨o_3, eo_3, hE⟩ := cl_e hE
    refine (moX3_passSquare eo_3).tr ?_
    obtain ⟨v_4, ev_4, hE⟩ := nm_e2 hE
    exact moX5_isSafe_72 hE
  · exact moX5_isSafe_72 hE
set_option maxRecDepth 20000 in
theorem moX5_isSafe {o : Int32 × Hp} {h : Hp} {x0 : Nat} {x1 : Int32} (hE : sX5_isSafe h x0 x1 = some o) : Le h o.2 := by
  obtain ⟨o_1, eo_1, hE⟩ := cl_e hE
  refine (moX5_kindOf eo_1).tr ?_
  rcases br_e hE with ⟨_, hE⟩ | ⟨_, hE⟩
  · exact moX5_isSafe_31 hE
  · rcases br_e hE with ⟨_, hE⟩ | ⟨_, hE⟩
    · exact moX5_isSafe_31 hE
    · obtain ⟨o_4, eo_4, hE⟩ := cl_e hE
      refine (moX5_manOf eo_4).tr ?_
      obtain ⟨r_5, er_5, hE⟩ := cl_e hE
      rcases br_e hE with ⟨_, hE⟩ | ⟨_, hE⟩
      · exact moX5_isSafe_31 hE
      · obtain ⟨o_7, eo_7, hE⟩ := cl_e hE
        refine (moX5_comeTo eo_7).tr ?_
        obtain ⟨v_8, ev_8, hE⟩ := nm_e2 hE
        rcases br_e hE with ⟨_, hE⟩ | ⟨_, hE⟩
        · exact moX5_isSafe_54 hE
        · obtain ⟨o_10, eo_10, hE⟩ := cl_e hE
          refine (moX5_leftBy eo_10).tr ?_
          obtain ⟨v_11, ev_11, hE⟩ := nm_e2 hE
          exact moX5_isSafe_54 hE
set_option maxRecDepth 20000 in
theorem bX5_isSafe_31 {p : Program} {l : Launch} {e : Env} {s : State} {m : MethodId} {args : Array Value} {below : List Frame} {meth : Method} {c : Code} {X : Ec} {h0 : Hp} {o : Int32 × Hp} (C : Cx X p s m args meth c RX5 cX5_isSafe 5 (some .boolean) "isSafe") {h : Hp} {H : Heap} {locs : List Loc} (hkm : Km h0 h) (hW : Wx X h H) (hZ : va_S (aA (eB X)) s.heap H locs) (ls : Array Slot) (hl : lv_has ls 5 []) (hE : sX5_isSafe_31 h  = some o) : W p l e (rm 1 21) s m args below meth c H locs 0 0 (MQ below (QI X h0 o.1 o.2) args s 0 0 (aA (eB X))) (F0 m 31 ls []) := by
  refine lv_iconst (v := (0 : Int32)) C.1 C.2.1 dX5_isSafe_31 (by decide) ?_
  exact x_iret C rfl (by decide) hW hZ hkm hE dX5_isSafe_32
set_option maxRecDepth 20000 in
theorem bX5_isSafe_88 {p : Program} {l : Launch} {e : Env} {s : State} {m : MethodId} {args : Array Value} {below : List Frame} {meth : Method} {c : Code} {X : Ec} {h0 : Hp} {o : Int32 × Hp} (C : Cx X p s m args meth c RX5 cX5_isSafe 5 (some .boolean) "isSafe") {h : Hp} {t0 : Int32} {H : Heap} {locs : List Loc} (hkm : Km h0 h) (hW : Wx X h H) (hZ : va_S (aA (eB X)) s.heap H locs) (ls : Array Slot) (hl : lv_has ls 5 []) (hE : sX5_isSafe_88 h  t0 = some o) : W p l e (rm 1 21) s m args below meth c H locs 0 0 (MQ below (QI X h0 o.1 o.2) args s 0 0 (aA (eB X))) (F0 m 88 ls [.int t0]) := by
  obtain ⟨g_1, hE⟩ := gd_e hE
  exact x_iret C rfl (narB g_1) hW hZ hkm hE dX5_isSafe_88
set_option maxRecDepth 20000 in
theorem bX5_isSafe_72 {p : Program} {l : Launch} {e : Env} {s : State} {m : MethodId} {args : Array Value} {below : List Frame} {meth : Method} {c : Code} {X : Ec} {h0 : Hp} {o : Int32 × Hp} (C : Cx X p s m args meth c RX5 cX5_isSafe 5 (some .boolean) "isSafe") {h : Hp} {x0 : Nat} {x3 : Int64} {H : Heap} {locs : List Loc} (k_x0 : hK h x0 = 5) (hkm : Km h0 h) (hW : Wx X h H) (hZ : va_S (aA (eB X)) s.heap H locs) (ls : Array Slot) (hl : lv_has ls 5 [(0, .ref x0), (3, .long x3)]) (hE : sX5_isSafe_72 h x0 x3 = some o) : W p l e (rm 1 21) s m args below meth c H locs 0 0 (MQ below (QI X h0 o.1 o.2) args s 0 0 (aA (eB X))) (F0 m 72 ls []) := by
  refine lv_lload_n C.1 C.2.1 dX5_isSafe_72 rfl (lv_at hl 1 rfl) ?_
  refine lv_aload_n C.1 C.2.1 dX5_isSafe_73 rfl (lv_at hl 0 rfl) ?_
  refine gf_X5_126 C hW k_x0 dX5_isSafe_74 ?_
  refine lv_land C.1 C.2.1 dX5_isSafe_77 ?_
  refine lv_lconst (v := (0 : Int64)) C.1 C.2.1 dX5_isSafe_78 (by decide) ?_
  refine W.lcmp C.1 C.2.1 dX5_isSafe_79 ?_
  refine lv_if_ne (tgt := 87) C.1 C.2.1 dX5_isSafe_80 (by decide) (fun c_1 => ?_) (fun c_1 => ?_)
  · have hE := br_n hE c_1
    refine lv_iconst (v := (0 : Int32)) C.1 C.2.1 dX5_isSafe_87 (by decide) ?_
    exact bX5_isSafe_88 C hkm hW hZ _ (lv_sub hl [] rfl) hE
  · have hE := br_p hE c_1
    refine lv_iconst (v := (1 : Int32)) C.1 C.2.1 dX5_isSafe_83 (by decide) ?_
    refine lv_goto (tgt := 88) C.1 C.2.1 dX5_isSafe_84 (by decide) ?_
    exact bX5_isSafe_88 C hkm hW hZ _ (lv_sub hl [] rfl) hE
set_option maxRecDepth 20000 in
theorem bX5_isSafe_54 {p : Program} {l : Launch} {e : Env} {s : State} {m : MethodId} {args : Array Value} {below : List Frame} {meth : Method} {c : Code} {X : Ec} {h0 : Hp} {o : Int32 × Hp} (C : Cx X p s m args meth c RX5 cX5_isSafe 5 (some .boolean) "isSafe") {h : Hp} {x0 : Nat} {x2 : Int32} {x3 : Int64} {H : Heap} {locs : List Loc} (k_x0 : hK h x0 = 5) (hkm : Km h0 h) (hW : Wx X h H) (hZ : va_S (aA (eB X)) s.heap H locs) (ls : Array Slot) (hl : lv_has ls 5 [(0, .ref x0), (2, .int x2), (3, .long x3)]) (hE : sX5_isSafe_54 h x0 x2 x3 = some o) : W p l e (rm 1 21) s m args below meth c H locs 0 0 (MQ below (QI X h0 o.1 o.2) args s 0 0 (aA (eB X))) (F0 m 54 ls []) := by
  refine lv_iload_n C.1 C.2.1 dX5_isSafe_54 rfl (lv_at hl 1 rfl) ?_
  refine lv_iconst (v := (1 : Int32)) C.1 C.2.1 dX5_isSafe_55 (by decide) ?_
  refine lv_icmp_ne (tgt := 72) C.1 C.2.1 dX5_isSafe_56 (by decide) (fun c_1 => ?_) (fun c_1 => ?_)
  · have hE := br_n hE c_1
    exact bX5_isSafe_72 C k_x0 hkm hW hZ _ (lv_sub hl [0, 2] rfl) hE
  · have hE := br_p hE c_1
    refine lv_lload_n C.1 C.2.1 dX5_isSafe_59 rfl (lv_at hl 2 rfl) ?_
    refine lv_lconst (v := (1 : Int64)) C.1 C.2.1 dX5_isSafe_60 (by decide) ?_
    refine lv_aload_n C.1 C.2.1 dX5_isSafe_61 rfl (lv_at hl 0 rfl) ?_
    obtain ⟨r_2, er_2, hE⟩ := cl_e hE
    refine gf_X5_71 C hW k_x0 er_2 dX5_isSafe_62 (fun k_r_2 => ?_)
    refine lv_iconst (v := (0 : Int32)) C.1 C.2.1 dX5_isSafe_65 (by decide) ?_
    obtain ⟨o_3, eo_3, hE⟩ := cl_e hE
    refine x_kI (o := o_3) (z_runV (As := [.int (0 : Int32)]) (rest := [.long (1 : Int64), .long x3]) C (ct_X3_passSquare l X k_r_2 eo_3) cw_X5_173 hW hZ k_r_2 (by decide) rfl rfl rfl hl.1 (Nat.le_of_ble_eq_true rfl) rfl dX5_isSafe_66 ⟨Nat.le_of_ble_eq_true rfl, Nat.le_of_ble_eq_true rfl⟩ ⟨Nat.le_refl _, Nat.le_refl _⟩) hZ (fun _ _ hW km hZ => ?_)
    replace hkm := hkm.tr km
    replace k_x0 := km.at k_x0 (by decide)
    refine lv_lshl C.1 C.2.1 dX5_isSafe_69 rfl ?_
    refine lv_lor C.1 C.2.1 dX5_isSafe_70 ?_
    obtain ⟨v_4, ev_4, hE⟩ := nm_e2 hE
    refine x_nmJ ev_4 ?_
    refine lv_lstore_n (lv' := [(3, .long v_4), (0, .ref x0), (2, .int x2)]) C.1 C.2.1 dX5_isSafe_71 rfl hl (by decide) rfl (fun ls hl => ?_)
    exact bX5_isSafe_72 C k_x0 hkm hW hZ _ (lv_sub hl [1, 0] rfl) hE
set_option maxRecDepth 20000 in
theorem ct_X5_isSafe (l : Launch) (X : Ec) {h : Hp} {x0 : Nat} {x1 : Int32} {o : Int32 × Hp} (k_x0 : hK h x0 = 5) (hE : sX5_isSafe h x0 x1 = some o) : MetI l yX5_isSafe cX5_isSafe 5 (some .boolean) 1 21 X [.ref x0, .int x1] h o := by
  refine x_met (by decide) (Nat.le_of_ble_eq_true rfl) ?_
  intro p e s m below meth c ls C hl hW hZ
  have hl : lv_has ls 5 [(0, .ref x0), (1, .int x1)] := hl
  have hkm : Km h h := Km.rf h
  refine lv_iload_n C.1 C.2.1 dX5_isSafe_0 rfl (lv_at hl 1 rfl) ?_
  obtain ⟨o_1, eo_1, hE⟩ := cl_e hE
  refine x_kI (o := o_1) (z_runS (As := [.int x1]) (rest := []) C (ct_X5_kindOf l X eo_1) cw_X5_233 hW hZ rfl hl.1 (Nat.le_of_ble_eq_true rfl) rfl dX5_isSafe_1 ⟨Nat.le_of_ble_eq_true rfl, Nat.le_of_ble_eq_true rfl⟩ ⟨Nat.le_refl _, Nat.le_refl _⟩) hZ (fun _ _ hW km hZ => ?_)
  replace hkm := hkm.tr km
  replace k_x0 := km.at k_x0 (by decide)
  refine lv_istore_n (lv' := [(2, .int o_1.1), (0, .ref x0), (1, .int x1)]) C.1 C.2.1 dX5_isSafe_4 rfl hl (by decide) rfl (fun ls hl => ?_)
  refine lv_aload_n C.1 C.2.1 dX5_isSafe_5 rfl (lv_at hl 1 rfl) ?_
  refine gf_X5_132 C hW k_x0 dX5_isSafe_6 ?_
  refine lv_if_eq (tgt := 31) C.1 C.2.1 dX5_isSafe_9 (by decide) (fun c_2 => ?_) (fun c_2 => ?_)
  · have hE := br_p hE c_2
    exact bX5_isSafe_31 C hkm hW hZ _ (lv_sub hl [] rfl) hE
  · have hE := br_n hE c_2
    refine lv_iload_n C.1 C.2.1 dX5_isSafe_12 rfl (lv_at hl 0 rfl) ?_
    refine lv_iconst (v := (2 : Int32)) C.1 C.2.1 dX5_isSafe_13 (by decide) ?_
    refine lv_icmp_eq (tgt := 31) C.1 C.2.1 dX5_isSafe_14 (by decide) (fun c_3 => ?_) (fun c_3 => ?_)
    · have hE := br_p hE c_3
      exact bX5_isSafe_31 C hkm hW hZ _ (lv_sub hl [] rfl) hE
    · have hE := br_n hE c_3
      refine lv_iload_n C.1 C.2.1 dX5_isSafe_17 rfl (lv_at hl 2 rfl) ?_
      obtain ⟨o_4, eo_4, hE⟩ := cl_e hE
      refine x_kI (o := o_4) (z_runS (As := [.int x1]) (rest := []) C (ct_X5_manOf l X eo_4) cw_X5_194 hW hZ rfl hl.1 (Nat.le_of_ble_eq_true rfl) rfl dX5_isSafe_18 ⟨Nat.le_of_ble_eq_true rfl, Nat.le_of_ble_eq_true rfl⟩ ⟨Nat.le_refl _, Nat.le_refl _⟩) hZ (fun _ _ hW km hZ => ?_)
      replace hkm := hkm.tr km
      replace k_x0 := km.at k_x0 (by decide)
      refine lv_aload_n C.1 C.2.1 dX5_isSafe_21 rfl (lv_at hl 1 rfl) ?_
      obtain ⟨r_5, er_5, hE⟩ := cl_e hE
      refine gf_X5_22 C hW k_x0 er_5 dX5_isSafe_22 (fun k_r_5 => ?_)
      refine gf_X5_129 C hW k_r_5 dX5_isSafe_25 ?_
      refine lv_icmp_ne (tgt := 33) C.1 C.2.1 dX5_isSafe_28 (by decide) (fun c_6 => ?_) (fun c_6 => ?_)
      · have hE := br_n hE c_6
        refine lv_lconst (v := (1 : Int64)) C.1 C.2.1 dX5_isSafe_33 (by decide) ?_
        refine lv_iload_n C.1 C.2.1 dX5_isSafe_34 rfl (lv_at hl 2 rfl) ?_
        obtain ⟨o_7, eo_7, hE⟩ := cl_e hE
        refine x_kI (o := o_7) (z_runS (As := [.int x1]) (rest := [.long (1 : Int64)]) C (ct_X5_comeTo l X eo_7) cw_X5_184 hW hZ rfl hl.1 (Nat.le_of_ble_eq_true rfl) rfl dX5_isSafe_35 ⟨Nat.le_of_ble_eq_true rfl, Nat.le_of_ble_eq_true rfl⟩ ⟨Nat.le_refl _, Nat.le_refl _⟩) hZ (fun _ _ hW km hZ => ?_)
        replace hkm := hkm.tr km
        replace k_x0 := km.at k_x0 (by decide)
        refine lv_lshl C.1 C.2.1 dX5_isSafe_38 rfl ?_
        obtain ⟨v_8, ev_8, hE⟩ := nm_e2 hE
        refine x_nmJ ev_8 ?_
        refine lv_lstore_n (lv' := [(3, .long v_8), (2, .int o_1.1), (0, .ref x0), (1, .int x1)]) C.1 C.2.1 dX5_isSafe_39 rfl hl (by decide) rfl (fun ls hl => ?_)
        refine lv_iload_n C.1 C.2.1 dX5_isSafe_40 rfl (lv_at hl 1 rfl) ?_
        refine lv_iconst (v := (3 : Int32)) C.1 C.2.1 dX5_isSafe_41 (by decide) ?_
        refine lv_icmp_eq (tgt := 54) C.1 C.2.1 dX5_isSafe_42 (by decide) (fun c_9 => ?_) (fun c_9 => ?_)
        · have hE := br_p hE c_9
          exact bX5_isSafe_54 C k_x0 hkm hW hZ _ (lv_sub hl [2, 1, 0] rfl) hE
        · have hE := br_n hE c_9
          refine lv_lload_n C.1 C.2.1 dX5_isSafe_45 rfl (lv_at hl 0 rfl) ?_
          refine lv_lconst (v := (1 : Int64)) C.1 C.2.1 dX5_isSafe_46 (by decide) ?_
          refine lv_iload_n C.1 C.2.1 dX5_isSafe_47 rfl (lv_at hl 3 rfl) ?_
          obtain ⟨o_10, eo_10, hE⟩ := cl_e hE
          refine x_kI (o := o_10) (z_runS (As := [.int x1]) (rest := [.long (1 : Int64), .long v_8]) C (ct_X5_leftBy l X eo_10) cw_X5_236 hW hZ rfl hl.1 (Nat.le_of_ble_eq_true rfl) rfl dX5_isSafe_48 ⟨Nat.le_of_ble_eq_true rfl, Nat.le_of_ble_eq_true rfl⟩ ⟨Nat.le_refl _, Nat.le_refl _⟩) hZ (fun _ _ hW km hZ => ?_)
          replace hkm := hkm.tr km
          replace k_x0 := km.at k_x0 (by decide)
          refine lv_lshl C.1 C.2.1 dX5_isSafe_51 rfl ?_
          refine lv_lor C.1 C.2.1 dX5_isSafe_52 ?_
          obtain ⟨v_11, ev_11, hE⟩ := nm_e2 hE
          refine x_nmJ ev_11 ?_
          refine lv_lstore_n (lv' := [(3, .long v_11), (2, .int o_1.1), (0, .ref x0), (1, .int x1)]) C.1 C.2.1 dX5_isSafe_53 rfl hl (by decide) rfl (fun ls hl => ?_)
          exact bX5_isSafe_54 C k_x0 hkm hW hZ _ (lv_sub hl [2, 1, 0] rfl) hE
      · have hE := br_p hE c_6
        exact bX5_isSafe_31 C hkm hW hZ _ (lv_sub hl [] rfl) hE
