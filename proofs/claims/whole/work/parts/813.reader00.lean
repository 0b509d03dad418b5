set_option maxRecDepth 100000 in
theorem m_194 : Cond.methodLink RX2 3 objectInit ∈ W0 := w0_in (List.mem_append_right _ (List.mem_of_getElem? (i := 194) rfl)) rfl
theorem dX2_init_0 : decode cX2_init 0 = .ok (.aload_n 0, 1) := by decide +kernel
theorem dX2_init_1 : decode cX2_init 1 = .ok (.invokespecial 3, 3) := by decide +kernel
theorem dX2_init_4 : decode cX2_init 4 = .ok (.return_, 1) := by decide +kernel
set_option maxRecDepth 20000 in
theorem moX2_init {o : Hp} {h : Hp} {x0 : Nat} (hE : sX2_init h x0 = some o) : Le h o := by
  exact le_some1 hE
set_option maxRecDepth 20000 in
theorem ct_X2_init (l : Launch) (X : Ec) {h : Hp} {x0 : Nat} {o : Hp} (k_x0 : hK h x0 = 2) (hE : sX2_init h x0 = some o) : MetV l yX2_init cX2_init 1 none 1 20 X [.ref x0] h o := by
  refine x_met (by decide) (Nat.le_of_ble_eq_true rfl) ?_
  intro p e s m below meth c ls C hl hW hZ
  have hl : lv_has ls 1 [(0, .ref x0)] := hl
  have hkm : Km h h := Km.rf h
  refine lv_aload_n C.1 C.2.1 dX2_init_0 rfl (lv_at hl 0 rfl) ?_
  refine W.objInit C.1 C.2.1 C.2.2.2.1 (C.2.2.2.2.1 _ m_194) (C.2.2.2.2.1 _ m_32) (C.2.2.2.2.1 _ m_33) rfl (by rw [C.2.2.1]; exact hl.1) rfl dX2_init_1 (Nat.le_of_ble_eq_true rfl) (Nat.le_of_ble_eq_true rfl) ?_
  refine W.eq (g2 := F0 m 4 ls []) rfl ?_
  exact x_vret C rfl hW hZ hkm hE dX2_init_4
theorem dX2_isLetter_0 : decode cX2_isLetter 0 = .ok (.iload_n 0, 1) := by decide +kernel
theorem dX2_isLetter_1 : decode cX2_isLetter 1 = .ok (.bipush 97, 2) := by decide +kernel
theorem dX2_isLetter_3 : decode cX2_isLetter 3 = .ok (.if_icmp .lt 13, 3) := by decide +kernel
theorem dX2_isLetter_6 : decode cX2_isLetter 6 = .ok (.iload_n 0, 1) := by decide +kernel
theorem dX2_isLetter_7 : decode cX2_isLetter 7 = .ok (.bipush 122, 2) := by decide +kernel
theorem dX2_isLetter_9 : decode cX2_isLetter 9 = .ok (.if_icmp .gt 7, 3) := by decide +kernel
theorem dX2_isLetter_12 : decode cX2_isLetter 12 = .ok (.iconst 1, 1) := by decide +kernel
theorem dX2_isLetter_13 : decode cX2_isLetter 13 = .ok (.goto 4, 3) := by decide +kernel
theorem dX2_isLetter_16 : decode cX2_isLetter 16 = .ok (.iconst 0, 1) := by decide +kernel
theorem dX2_isLetter_17 : decode cX2_isLetter 17 = .ok (.ireturn, 1) := by decide +kernel
set_option maxRecDepth 20000 in
theorem moX2_isLetter_17 {o : Int32 × Hp} {h : Hp} {t0 : Int32} (hE : sX2_isLetter_17 h  t0 = some o) : Le h o.2 := by
  obtain ⟨g_1, hE⟩ := gd_e hE
  exact le_some2 hE
set_option maxRecDepth 20000 in
theorem moX2_isLetter_16 {o : Int32 × Hp} {h : Hp} (hE : sX2_isLetter_16 h  = some o) : Le h o.2 := by
  exact moX2_isLetter_17 hE
set_option maxRecDepth 20000 in
theorem moX2_isLetter {o : Int32 × Hp} {h : Hp} {x0 : Int32} (hE : sX2_isLetter h x0 = some o) : Le h o.2 := by
  rcases br_e hE with ⟨_, hE⟩ | ⟨_, hE⟩
  · exact moX2_isLetter_16 hE
  · rcases br_e hE with ⟨_, hE⟩ | ⟨_, hE⟩
    · exact moX2_isLetter_16 hE
    · exact moX2_isLetter_17 hE
set_option maxRecDepth 20000 in
theorem bX2_isLetter_17 {p : Program} {l : Launch} {e : Env} {s : State} {m : MethodId} {args : Array Value} {below : List Frame} {meth : Method} {c : Code} {X : Ec} {h0 : Hp} {o : Int32 × Hp} (C : Cx X p s m args meth c RX2 cX2_isLetter 1 (some .boolean) "isLetter") {h : Hp} {t0 : Int32} {H : Heap} {locs : List Loc} (hkm : Km h0 h) (hW : Wx X h H) (hZ : va_S (aA (eB X)) s.heap H locs) (ls : Array Slot) (hl : lv_has ls 1 []) (hE : sX2_isLetter_17 h  t0 = some o) : W p l e (rm 0 0) s m args below meth c H locs 0 0 (MQ below (QI X h0 o.1 o.2) args s 0 0 (aA (eB X))) (F0 m 17 ls [.int t0]) := by
  obtain ⟨g_1, hE⟩ := gd_e hE
  exact x_iret C rfl (narB g_1) hW hZ hkm hE dX2_isLetter_17
set_option maxRecDepth 20000 in
theorem bX2_isLetter_16 {p : Program} {l : Launch} {e : Env} {s : State} {m : MethodId} {args : Array Value} {below : List Frame} {meth : Method} {c : Code} {X : Ec} {h0 : Hp} {o : Int32 × Hp} (C : Cx X p s m args meth c RX2 cX2_isLetter 1 (some .boolean) "isLetter") {h : Hp} {H : Heap} {locs : List Loc} (hkm : Km h0 h) (hW : Wx X h H) (hZ : va_S (aA (eB X)) s.heap H locs) (ls : Array Slot) (hl : lv_has ls 1 []) (hE : sX2_isLetter_16 h  = some o) : W p l e (rm 0 0) s m args below meth c H locs 0 0 (MQ below (QI X h0 o.1 o.2) args s 0 0 (aA (eB X))) (F0 m 16 ls []) := by
  refine lv_iconst (v := (0 : Int32)) C.1 C.2.1 dX2_isLetter_16 (by decide) ?_
  exact bX2_isLetter_17 C hkm hW hZ _ (lv_sub hl [] rfl) hE
set_option maxRecDepth 20000 in
theorem ct_X2_isLetter (l : Launch) (X : Ec) {h : Hp} {x0 : Int32} {o : Int32 × Hp} (hE : sX2_isLetter h x0 = some o) : MetI l yX2_isLetter cX2_isLetter 1 (some .boolean) 0 0 X [.int x0] h o := by
  refine x_met (by decide) (Nat.le_of_ble_eq_true rfl) ?_
  intro p e s m below meth c ls C hl hW hZ
  have hl : lv_has ls 1 [(0, .int x0)] := hl
  have hkm : Km h h := Km.rf h
  refine lv_iload_n C.1 C.2.1 dX2_isLetter_0 rfl (lv_at hl 0 rfl) ?_
  refine lv_bipush (v := (97 : Int32)) C.1 C.2.1 dX2_isLetter_1 (by decide) ?_
  refine lv_icmp_lt (tgt := 16) C.1 C.2.1 dX2_isLetter_3 (by decide) (fun c_1 => ?_) (fun c_1 => ?_)
  · have hE := br_p hE c_1
    exact bX2_isLetter_16 C hkm hW hZ _ (lv_sub hl [] rfl) hE
  · have hE := br_n hE c_1
    refine lv_iload_n C.1 C.2.1 dX2_isLetter_6 rfl (lv_at hl 0 rfl) ?_
    refine lv_bipush (v := (122 : Int32)) C.1 C.2.1 dX2_isLetter_7 (by decide) ?_
    refine lv_icmp_gt (tgt := 16) C.1 C.2.1 dX2_isLetter_9 (by decide) (fun c_2 => ?_) (fun c_2 => ?_)
    · have hE := br_p hE c_2
      exact bX2_isLetter_16 C hkm hW hZ _ (lv_sub hl [] rfl) hE
    · have hE := br_n hE c_2
      refine lv_iconst (v := (1 : Int32)) C.1 C.2.1 dX2_isLetter_12 (by decide) ?_
      refine lv_goto (tgt := 17) C.1 C.2.1 dX2_isLetter_13 (by decide) ?_
      exact bX2_isLetter_17 C hkm hW hZ _ (lv_sub hl [] rfl) hE
theorem dX2_isDigit_0 : decode cX2_isDigit 0 = .ok (.iload_n 0, 1) := by decide +kernel
theorem dX2_isDigit_1 : decode cX2_isDigit 1 = .ok (.bipush 48, 2) := by decide +kernel
theorem dX2_isDigit_3 : decode cX2_isDigit 3 = .ok (.if_icmp .lt 13, 3) := by decide +kernel
theorem dX2_isDigit_6 : decode cX2_isDigit 6 = .ok (.iload_n 0, 1) := by decide +kernel
theorem dX2_isDigit_7 : decode cX2_isDigit 7 = .ok (.bipush 57, 2) := by decide +kernel
theorem dX2_isDigit_9 : decode cX2_isDigit 9 = .ok (.if_icmp .gt 7, 3) := by decide +kernel
theorem dX2_isDigit_12 : decode cX2_isDigit 12 = .ok (.iconst 1, 1) := by decide +kernel
theorem dX2_isDigit_13 : decode cX2_isDigit 13 = .ok (.goto 4, 3) := by decide +kernel
theorem dX2_isDigit_16 : decode cX2_isDigit 16 = .ok (.iconst 0, 1) := by decide +kernel
theorem dX2_isDigit_17 : decode cX2_isDigit 17 = .ok (.ireturn, 1) := by decide +kernel
set_option maxRecDepth 20000 in
theorem moX2_isDigit_17 {o : Int32 × Hp} {h : Hp} {t0 : Int32} (hE : sX2_isDigit_17 h  t0 = some o) : Le h o.2 := by
  obtain ⟨g_1, hE⟩ := gd_e hE
  exact le_some2 hE
set_option maxRecDepth 20000 in
theorem moX2_isDigit_16 {o : Int32 × Hp} {h : Hp} (hE : sX2_isDigit_16 h  = some o) : Le h o.2 := by
  exact moX2_isDigit_17 hE
set_option maxRecDepth 20000 in
theorem moX2_isDigit {o : Int32 × Hp} {h : Hp} {x0 : Int32} (hE : sX2_isDigit h x0 = some o) : Le h o.2 := by
  rcases br_e hE with ⟨_, hE⟩ | ⟨_, hE⟩
  · exact moX2_isDigit_16 hE
  · rcases br_e hE with ⟨_, hE⟩ | ⟨_, hE⟩
    · exact moX2_isDigit_16 hE
    · exact moX2_isDigit_17 hE
set_option maxRecDepth 20000 in
theorem bX2_isDigit_17 {p : Program} {l : Launch} {e : Env} {s : State} {m : MethodId} {args : Array Value} {below : List Frame} {meth : Method} {c : Code} {X : Ec} {h0 : Hp} {o : Int32 × Hp} (C : Cx X p s m args meth c RX2 cX2_isDigit 1 (some .boolean) "isDigit") {h : Hp} {t0 : Int32} {H : Heap} {locs : List Loc} (hkm : Km h0 h) (hW : Wx X h H) (hZ : va_S (aA (eB X)) s.heap H locs) (ls : Array Slot) (hl : lv_has ls 1 []) (hE : sX2_isDigit_17 h  t0 = some o) : W p l e (rm 0 0) s m args below meth c H locs 0 0 (MQ below (QI X h0 o.1 o.2) args s 0 0 (aA (eB X))) (F0 m 17 ls [.int t0]) := by
  obtain ⟨g_1, hE⟩ := gd_e hE
  exact x_iret C rfl (narB g_1) hW hZ hkm hE dX2_isDigit_17
set_option maxRecDepth 20000 in
theorem bX2_isDigit_16 {p : Program} {l : Launch} {e : Env} {s : State} {m : MethodId} {args : Array Value} {below : List Frame} {meth : Method} {c : Code} {X : Ec} {h0 : Hp} {o : Int32 × Hp} (C : Cx X p s m args meth c RX2 cX2_isDigit 1 (some .boolean) "isDigit") {h : Hp} {H : Heap} {locs : List Loc} (hkm : Km h0 h) (hW : Wx X h H) (hZ : va_S (aA (eB X)) s.heap H locs) (ls : Array Slot) (hl : lv_has ls 1 []) (hE : sX2_isDigit_16 h  = some o) : W p l e (rm 0 0) s m args below meth c H locs 0 0 (MQ below (QI X h0 o.1 o.2) args s 0 0 (aA (eB X))) (F0 m 16 ls []) := by
  refine lv_iconst (v := (0 : Int32)) C.1 C.2.1 dX2_isDigit_16 (by decide) ?_
  exact bX2_isDigit_17 C hkm hW hZ _ (lv_sub hl [] rfl) hE
set_option maxRecDepth 20000 in
theorem ct_X2_isDigit (l : Launch) (X : Ec) {h : Hp} {x0 : Int32} {o : Int32 × Hp} (hE : sX2_isDigit h x0 = some o) : MetI l yX2_isDigit cX2_isDigit 1 (some .boolean) 0 0 X [.int x0] h o := by
  refine x_met (by decide) (Nat.le_of_ble_eq_true rfl) ?_
  intro p e s m below meth c ls C hl hW hZ
  have hl : lv_has ls 1 [(0, .int x0)] := hl
  have hkm : Km h h := Km.rf h
  refine lv_iload_n C.1 C.2.1 dX2_isDigit_0 rfl (lv_at hl 0 rfl) ?_
  refine lv_bipush (v := (48 : Int32)) C.1 C.2.1 dX2_isDigit_1 (by decide) ?_
  refine lv_icmp_lt (tgt := 16) C.1 C.2.1 dX2_isDigit_3 (by decide) (fun c_1 => ?_) (fun c_1 => ?_)
  · have hE := br_p hE c_1
    exact bX2_isDigit_16 C hkm hW hZ _ (lv_sub hl [] rfl) hE
  · have hE := br_n hE c_1
    refine lv_iload_n C.1 C.2.1 dX2_isDigit_6 rfl (lv_at hl 0 rfl) ?_
    refine lv_bipush (v := (57 : Int32)) C.1 C.2.1 dX2_isDigit_7 (by decide) ?_
    refine lv_icmp_gt (tgt := 16) C.1 C.2.1 dX2_isDigit_9 (by decide) (fun c_2 => ?_) (fun c_2 => ?_)
    · have hE := br_p hE c_2
      exact bX2_isDigit_16 C hkm hW hZ _ (lv_sub hl [] rfl) hE
    · have hE := br_n hE c_2
      refine lv_iconst (v := (1 : Int32)) C.1 C.2.1 dX2_isDigit_12 (by decide) ?_
      refine lv_goto (tgt := 17) C.1 C.2.1 dX2_isDigit_13 (by decide) ?_
      exact bX2_isDigit_17 C hkm hW hZ _ (lv_sub hl [] rfl) hE
set_option maxRecDepth 100000 in
theorem m_5 : Cond.initialized RX2 ∈ W0 := w0_in (List.mem_append_right _ (List.mem_of_getElem? (i := 5) rfl)) rfl
set_option maxRecDepth 100000 in
theorem m_47 : Cond.fieldLink RX2 64 (TX9 1).1 (TX9 1).2.1 (TX9 1).2.2.1 ∈ W0 := w0_in (List.mem_append_right _ (List.mem_of_getElem? (i := 47) rfl)) rfl
set_option maxRecDepth 100000 in
theorem m_195 : Cond.fieldLink RX2 9 (TX2 0).1 (TX2 0).2.1 (TX2 0).2.2.1 ∈ W0 := w0_in (List.mem_append_right _ (List.mem_of_getElem? (i := 195) rfl)) rfl
set_option maxRecDepth 100000 in
theorem m_197 : Cond.fieldLink RX2 61 (TX2 2).1 (TX2 2).2.1 (TX2 2).2.2.1 ∈ W0 := w0_in (List.mem_append_right _ (List.mem_of_getElem? (i := 197) rfl)) rfl
set_option maxRecDepth 100000 in
theorem m_198 : Cond.fieldLink RX2 24 (TX2 3).1 (TX2 3).2.1 (TX2 3).2.2.1 ∈ W0 := w0_in (List.mem_append_right _ (List.mem_of_getElem? (i := 198) rfl)) rfl
set_option maxRecDepth 100000 in
theorem m_199 : Cond.fieldLink RX2 38 (TX2 4).1 (TX2 4).2.1 (TX2 4).2.2.1 ∈ W0 := w0_in (List.mem_append_right _ (List.mem_of_getElem? (i := 199) rfl)) rfl
set_option maxRecDepth 100000 in
theorem m_200 : Cond.fieldLink RX2 84 (TX2 5).1 (TX2 5).2.1 (TX2 5).2.2.1 ∈ W0 := w0_in (List.mem_append_right _ (List.mem_of_getElem? (i := 200) rfl)) rfl
set_option maxRecDepth 100000 in
theorem m_657 : Cond.methodLink RX2 69 yX9_byteAt ∈ W0 := w0_in (List.mem_append_right _ (List.mem_of_getElem? (i := 657) rfl)) rfl
set_option maxRecDepth 100000 in
theorem m_658 : Cond.instanceMethod yX9_byteAt ∈ W0 := w0_in (List.mem_append_right _ (List.mem_of_getElem? (i := 658) rfl)) rfl
set_option maxRecDepth 100000 in
theorem m_659 : Cond.selects RX9 yX9_byteAt yX9_byteAt ∈ W0 := w0_in (List.mem_append_right _ (List.mem_of_getElem? (i := 659) rfl)) rfl
set_option maxRecDepth 100000 in
theorem m_660 : Cond.code yX9_byteAt cX9_byteAt 2 (some .int) ∈ W0 := w0_in (List.mem_append_right _ (List.mem_of_getElem? (i := 660) rfl)) rfl
set_option maxRecDepth 100000 in
theorem m_664 : Cond.methodLink RX2 77 yX2_isDigit ∈ W0 := w0_in (List.mem_append_right _ (List.mem_of_getElem? (i := 664) rfl)) rfl
set_option maxRecDepth 100000 in
theorem m_665 : Cond.static yX2_isDigit ∈ W0 := w0_in (List.mem_append_right _ (List.mem_of_getElem? (i := 665) rfl)) rfl
set_option maxRecDepth 100000 in
theorem m_666 : Cond.code yX2_isDigit cX2_isDigit 1 (some .boolean) ∈ W0 := w0_in (List.mem_append_right _ (List.mem_of_getElem? (i := 666) rfl)) rfl
theorem i_X2 : ∀ w ∈ u_ws RX2 TX2 7, w ∈ W0 := by
  intro w hw
  exact w0_in (List.mem_append_right _ ((by decide +kernel : ∀ w ∈ u_ws RX2 TX2 7, w ∈ tables_1) w hw)) ((by decide +kernel : ∀ w ∈ u_ws RX2 TX2 7, goodWord w = true) w hw)
section
variable {p : Program} {l : Launch} {e : Env} {R : Room} {s : State} {m : MethodId} {args : Array Value} {below : List Frame} {meth : Method} {c : Code} {H : Heap} {locs : List Loc} {cells slots : Nat} {Q : State → Prop}
variable {cc : ByteArray} {pc : Nat} {ls : Array Slot} {rest : List Value} {X : Ec} {h h1 : Hp} {nL : Nat} {rt : Option FieldType} {mn : String}
theorem pf_X2_38 {a : Nat} {v : Int32} (C : Cx X p s m args meth c RX2 cc nL rt mn) (hW : Wx X h H) (hZ : va_S (aA (eB X)) s.heap H locs) (ha : hK h a = 2) (eh : h1 = wI h a 4 v) (hdg : decode cc pc = .ok (.putfield 38, 3)) (kk : ∀ (H1 : Heap) (locs1 : List Loc), Wx X h1 H1 → Km h h1 → va_S (aA (eB X)) s.heap H1 locs1 → W p l e R s m args below meth c H1 locs1 cells slots Q (F0 m (pc + 3) ls rest)) : W p l e R s m args below meth c H locs cells slots Q (F0 m pc ls (.int v :: .ref a :: rest)) :=
  y_puti (ty := .int) C hW hZ ha i_X2 tyX2 tyX2_ok nmX2 (by decide) rfl rfl (by decide) m_199 rfl (by decide +kernel) rfl rfl rfl eh hdg kk
theorem gf_X2_61 {a : Nat} (C : Cx X p s m args meth c RX2 cc nL rt mn) (hW : Wx X h H) (ha : hK h a = 2) (hdg : decode cc pc = .ok (.getfield 61, 3)) (kk : W p l e R s m args below meth c H locs cells slots Q (F0 m (pc + 3) ls (.int (hI h a 2) :: rest))) : W p l e R s m args below meth c H locs cells slots Q (F0 m pc ls (.ref a :: rest)) :=
  y_geti C hW ha i_X2 (by decide) rfl (by decide) m_197 rfl hdg kk
theorem gf_X2_84 {a : Nat} (C : Cx X p s m args meth c RX2 cc nL rt mn) (hW : Wx X h H) (ha : hK h a = 2) (hdg : decode cc pc = .ok (.getfield 84, 3)) (kk : W p l e R s m args below meth c H locs cells slots Q (F0 m (pc + 3) ls (.int (hI h a 5) :: rest))) : W p l e R s m args below meth c H locs cells slots Q (F0 m pc ls (.ref a :: rest)) :=
  y_geti C hW ha i_X2 (by decide) rfl (by decide) m_200 rfl hdg kk
theorem pf_X2_84 {a : Nat} {v : Int32} (C : Cx X p s m args meth c RX2 cc nL rt mn) (hW : Wx X h H) (hZ : va_S (aA (eB X)) s.heap H locs) (ha : hK h a = 2) (eh : h1 = wI h a 5 v) (hdg : decode cc pc = .ok (.putfield 84, 3)) (kk : ∀ (H1 : Heap) (locs1 : List Loc), Wx X h1 H1 → Km h h1 → va_S (aA (eB X)) s.heap H1 locs1 → W p l e R s m args below meth c H1 locs1 cells slots Q (F0 m (pc + 3) ls rest)) : W p l e R s m args below meth c H locs cells slots Q (F0 m pc ls (.int v :: .ref a :: rest)) :=
  y_puti (ty := .int) C hW hZ ha i_X2 tyX2 tyX2_ok nmX2 (by decide) rfl rfl (by decide) m_200 rfl (by decide +kernel) rfl rfl rfl eh hdg kk
theorem gf_X2_24 {a : Nat} (C : Cx X p s m args meth c RX2 cc nL rt mn) (hW : Wx X h H) (ha : hK h a = 2) (hdg : decode cc pc = .ok (.getfield 24, 3)) (kk : W p l e R s m args below meth c H locs cells slots Q (F0 m (pc + 3) ls (.int (hI h a 3) :: rest))) : W p l e R s m args below meth c H locs cells slots Q (F0 m pc ls (.ref a :: rest)) :=
  y_geti C hW ha i_X2 (by decide) rfl (by decide) m_198 rfl hdg kk
theorem pf_X2_24 {a : Nat} {v : Int32} (C : Cx X p s m args meth c RX2 cc nL rt mn) (hW : Wx X h H) (hZ : va_S (aA (eB X)) s.heap H locs) (ha : hK h a = 2) (eh : h1 = wI h a 3 v) (hdg : decode cc pc = .ok (.putfield 24, 3)) (kk : ∀ (H1 : Heap) (locs1 : List Loc), Wx X h1 H1 → Km h h1 → va_S (aA (eB X)) s.heap H1 locs1 → W p l e R s m args below meth c H1 locs1 cells slots Q (F0 m (pc + 3) ls rest)) : W p l e R s m args below meth c H locs cells slots Q (F0 m pc ls (.int v :: .ref a :: rest)) :=
  y_puti (ty := .int) C hW hZ ha i_X2 tyX2 tyX2_ok nmX2 (by decide) rfl rfl (by decide) m_198 rfl (by decide +kernel) rfl rfl rfl eh hdg kk
theorem gf_X2_9 {a r : Nat} (C : Cx X p s m args meth c RX2 cc nL rt mn) (hW : Wx X h H) (ha : hK h a = 2) (hr : hR h a 0 = some r) (hdg : decode cc pc = .ok (.getfield 9, 3)) (kk : hK h r = 9 → W p l e R s m args below meth c H locs cells slots Q (F0 m (pc + 3) ls (.ref r :: rest))) : W p l e R s m args below meth c H locs cells slots Q (F0 m pc ls (.ref a :: rest)) :=
  y_getr C hW ha i_X2 (by decide) rfl (by decide) m_195 rfl rfl hr hdg kk
theorem gf_X2_64 {a : Nat} (C : Cx X p s m args meth c RX2 cc nL rt mn) (hW : Wx X h H) (ha : hK h a = 9) (hdg : decode cc pc = .ok (.getfield 64, 3)) (kk : W p l e R s m args below meth c H locs cells slots Q (F0 m (pc + 3) ls (.int (hI h a 1) :: rest))) : W p l e R s m args below meth c H locs cells slots Q (F0 m pc ls (.ref a :: rest)) :=
  y_geti C hW ha i_X9 (by decide) rfl (by decide) m_47 rfl hdg kk
end
theorem cw_X2_69 : cwd RX2 69 yX9_byteAt cX9_byteAt 2 (some .int) false 1 := ⟨m_660, m_657, m_2, ⟨m_658, m_659⟩, by decide, by decide, by decide +kernel⟩
theorem cw_X2_77 : cwd RX2 77 yX2_isDigit cX2_isDigit 1 (some .boolean) true 1 := ⟨m_666, m_664, m_5, m_665, by decide, by decide, by decide +kernel⟩
theorem dX2_scanNumber_0 : decode cX2_scanNumber 0 = .ok (.aload_n 0, 1) := by decide +kernel
theorem dX2_scanNumber_1 : decode cX2_scanNumber 1 = .ok (.iconst 0, 1) := by decide +kernel
theorem dX2_scanNumber_2 : decode cX2_scanNumber 2 = .ok (.putfield 84, 3) := by decide +kernel
theorem dX2_scanNumber_5 : decode cX2_scanNumber 5 = .ok (.aload_n 0, 1) := by decide +kernel
theorem dX2_scanNumber_6 : decode cX2_scanNumber 6 = .ok (.iload_n 1, 1) := by decide +kernel
theorem dX2_scanNumber_7 : decode cX2_scanNumber 7 = .ok (.putfield 24, 3) := by decide +kernel
theorem dX2_scanNumber_10 : decode cX2_scanNumber 10 = .ok (.aload_n 0, 1) := by decide +kernel
theorem dX2_scanNumber_11 : decode cX2_scanNumber 11 = .ok (.getfield 24, 3) := by decide +kernel
theorem dX2_scanNumber_14 : decode cX2_scanNumber 14 = .ok (.aload_n 0, 1) := by decide +kernel
theorem dX2_scanNumber_15 : decode cX2_scanNumber 15 = .ok (.getfield 9, 3) := by decide +kernel
theorem dX2_scanNumber_18 : decode cX2_scanNumber 18 = .ok (.getfield 64, 3) := by decide +kernel
theorem dX2_scanNumber_21 : decode cX2_scanNumber 21 = .ok (.if_icmp .ge 76, 3) := by decide +kernel
theorem dX2_scanNumber_24 : decode cX2_scanNumber 24 = .ok (.aload_n 0, 1) := by decide +kernel
theorem dX2_scanNumber_25 : decode cX2_scanNumber 25 = .ok (.getfield 9, 3) := by decide +kernel
theorem dX2_scanNumber_28 : decode cX2_scanNumber 28 = .ok (.aload_n 0, 1) := by decide +kernel
theorem dX2_scanNumber_29 : decode cX2_scanNumber 29 = .ok (.getfield 24, 3) := by decide +kernel
theorem dX2_scanNumber_32 : decode cX2_scanNumber 32 = .ok (.invokevirtual 69, 3) := by decide +kernel
theorem dX2_scanNumber_35 : decode cX2_scanNumber 35 = .ok (.invokestatic 77, 3) := by decide +kernel
theorem dX2_scanNumber_38 : decode cX2_scanNumber 38 = .ok (.ifCond .eq 59, 3) := by decide +kernel
theorem dX2_scanNumber_41 : decode cX2_scanNumber 41 = .ok (.aload_n 0, 1) := by decide +kernel
theorem dX2_scanNumber_42 : decode cX2_scanNumber 42 = .ok (.aload_n 0, 1) := by decide +kernel
theorem dX2_scanNumber_43 : decode cX2_scanNumber 43 = .ok (.getfield 24, 3) := by decide +kernel
theorem dX2_scanNumber_46 : decode cX2_scanNumber 46 = .ok (.iload_n 1, 1) := by decide +kernel
theorem dX2_scanNumber_47 : decode cX2_scanNumber 47 = .ok (.isub, 1) := by decide +kernel
theorem dX2_scanNumber_48 : decode cX2_scanNumber 48 = .ok (.iconst 2, 1) := by decide +kernel
theorem dX2_scanNumber_49 : decode cX2_scanNumber 49 = .ok (.if_icmp .ge 28, 3) := by decide +kernel
theorem dX2_scanNumber_52 : decode cX2_scanNumber 52 = .ok (.bipush 10, 2) := by decide +kernel
theorem dX2_scanNumber_54 : decode cX2_scanNumber 54 = .ok (.aload_n 0, 1) := by decide +kernel
theorem dX2_scanNumber_55 : decode cX2_scanNumber 55 = .ok (.getfield 84, 3) := by decide +kernel
theorem dX2_scanNumber_58 : decode cX2_scanNumber 58 = .ok (.imul, 1) := by decide +kernel
theorem dX2_scanNumber_59 : decode cX2_scanNumber 59 = .ok (.aload_n 0, 1) := by decide +kernel
theorem dX2_scanNumber_60 : decode cX2_scanNumber 60 = .ok (.getfield 9, 3) := by decide +kernel
theorem dX2_scanNumber_63 : decode cX2_scanNumber 63 = .ok (.aload_n 0, 1) := by decide +kernel
theorem dX2_scanNumber_64 : decode cX2_scanNumber 64 = .ok (.getfield 24, 3) := by decide +kernel
theorem dX2_scanNumber_67 : decode cX2_scanNumber 67 = .ok (.invokevirtual 69, 3) := by decide +kernel
theorem dX2_scanNumber_70 : decode cX2_scanNumber 70 = .ok (.iadd, 1) := by decide +kernel
theorem dX2_scanNumber_71 : decode cX2_scanNumber 71 = .ok (.bipush 48, 2) := by decide +kernel
theorem dX2_scanNumber_73 : decode cX2_scanNumber 73 = .ok (.isub, 1) := by decide +kernel
theorem dX2_scanNumber_74 : decode cX2_scanNumber 74 = .ok (.goto 7, 3) := by decide +kernel
theorem dX2_scanNumber_77 : decode cX2_scanNumber 77 = .ok (.aload_n 0, 1) := by decide +kernel
theorem dX2_scanNumber_78 : decode cX2_scanNumber 78 = .ok (.getfield 84, 3) := by decide +kernel
theorem dX2_scanNumber_81 : decode cX2_scanNumber 81 = .ok (.putfield 84, 3) := by decide +kernel
theorem dX2_scanNumber_84 : decode cX2_scanNumber 84 = .ok (.aload_n 0, 1) := by decide +kernel
theorem dX2_scanNumber_85 : decode cX2_scanNumber 85 = .ok (.dup, 1) := by decide +kernel
theorem dX2_scanNumber_86 : decode cX2_scanNumber 86 = .ok (.getfield 24, 3) := by decide +kernel
theorem dX2_scanNumber_89 : decode cX2_scanNumber 89 = .ok (.iconst 1, 1) := by decide +kernel
theorem dX2_scanNumber_90 : decode cX2_scanNumber 90 = .ok (.iadd, 1) := by decide +kernel
theorem dX2_scanNumber_91 : decode cX2_scanNumber 91 = .ok (.putfield 24, 3) := by decide +kernel
theorem dX2_scanNumber_94 : decode cX2_scanNumber 94 = .ok (.goto (-84), 3) := by decide +kernel
theorem dX2_scanNumber_97 : decode cX2_scanNumber 97 = .ok (.aload_n 0, 1) := by decide +kernel
theorem dX2_scanNumber_98 : decode cX2_scanNumber 98 = .ok (.aload_n 0, 1) := by decide +kernel
theorem dX2_scanNumber_99 : decode cX2_scanNumber 99 = .ok (.getfield 24, 3) := by decide +kernel
theorem dX2_scanNumber_102 : decode cX2_scanNumber 102 = .ok (.iload_n 1, 1) := by decide +kernel
theorem dX2_scanNumber_103 : decode cX2_scanNumber 103 = .ok (.if_icmp .eq 13, 3) := by decide +kernel
theorem dX2_scanNumber_106 : decode cX2_scanNumber 106 = .ok (.aload_n 0, 1) := by decide +kernel
theorem dX2_scanNumber_107 : decode cX2_scanNumber 107 = .ok (.getfield 24, 3) := by decide +kernel
theorem dX2_scanNumber_110 : decode cX2_scanNumber 110 = .ok (.iload_n 1, 1) := by decide +kernel
theorem dX2_scanNumber_111 : decode cX2_scanNumber 111 = .ok (.isub, 1) := by decide +kernel
theorem dX2_scanNumber_112 : decode cX2_scanNumber 112 = .ok (.iconst 2, 1) := by decide +kernel
theorem dX2_scanNumber_113 : decode cX2_scanNumber 113 = .ok (.if_icmp .le 7, 3) := by decide +kernel
theorem dX2_scanNumber_116 : decode cX2_scanNumber 116 = .ok (.iconst 5, 1) := by decide +kernel
theorem dX2_scanNumber_117 : decode cX2_scanNumber 117 = .ok (.goto 4, 3) := by decide +kernel
theorem dX2_scanNumber_120 : decode cX2_scanNumber 120 = .ok (.iconst 2, 1) := by decide +kernel
theorem dX2_scanNumber_121 : decode cX2_scanNumber 121 = .ok (.putfield 38, 3) := by decide +kernel
theorem dX2_scanNumber_124 : decode cX2_scanNumber 124 = .ok (.iload_n 1, 1) := by decide +kernel
theorem dX2_scanNumber_125 : decode cX2_scanNumber 125 = .ok (.aload_n 0, 1) := by decide +kernel
theorem dX2_scanNumber_126 : decode cX2_scanNumber 126 = .ok (.getfield 61, 3) := by decide +kernel
theorem dX2_scanNumber_129 : decode cX2_scanNumber 129 = .ok (.if_icmp .le 12, 3) := by decide +kernel
theorem dX2_scanNumber_132 : decode cX2_scanNumber 132 = .ok (.aload_n 0, 1) := by decide +kernel
theorem dX2_scanNumber_133 : decode cX2_scanNumber 133 = .ok (.aload_n 0, 1) := by decide +kernel
theorem dX2_scanNumber_134 : decode cX2_scanNumber 134 = .ok (.getfield 84, 3) := by decide +kernel
theorem dX2_scanNumber_137 : decode cX2_scanNumber 137 = .ok (.ineg, 1) := by decide +kernel
theorem dX2_scanNumber_138 : decode cX2_scanNumber 138 = .ok (.putfield 84, 3) := by decide +kernel
theorem dX2_scanNumber_141 : decode cX2_scanNumber 141 = .ok (.return_, 1) := by decide +kernel
set_option maxRecDepth 20000 in
theorem moX2_scanNumber_141 {o : Hp} {F : Nat} {h : Hp} (hE : sX2_scanNumber_141 F h  = some o) : Le h o := by
  exact le_some1 hE
set_option maxRecDepth 20000 in
theorem moX2_scanNumber_121 {o : Hp} {F : Nat} {h : Hp} {x0 : Nat} {x1 : Int32} {t0 : Int32} {t1 : Nat} (hE : sX2_scanNumber_121 F h x0 x1 t0 t1 = some o) : Le h o := by
  obtain ⟨h_1, eh_1, hE⟩ := nm_e2 hE
  refine (le_I eh_1).tr ?_
  rcases br_e hE with ⟨_, hE⟩ | ⟨_, hE⟩
  · exact moX2_scanNumber_141 hE
  · obtain ⟨h_3, eh_3, hE⟩ := nm_e2 hE
    refine (le_I eh_3).tr ?_
    exact moX2_scanNumber_141 hE
set_option maxRecDepth 20000 in
theorem moX2_scanNumber_116 {o : Hp} {F : Nat} {h : Hp} {x0 : Nat} {x1 : Int32} {t0 : Nat} (hE : sX2_scanNumber_116 F h x0 x1 t0 = some o) : Le h o := by
  exact moX2_scanNumber_121 hE
set_option maxRecDepth 20000 in
theorem moX2_scanNumber_97 {o : Hp} {F : Nat} {h : Hp} {x0 : Nat} {x1 : Int32} (hE : sX2_scanNumber_97 F h x0 x1 = some o) : Le h o := by
  rcases br_e hE with ⟨_, hE⟩ | ⟨_, hE⟩
  · exact moX2_scanNumber_116 hE
  · rcases br_e hE with ⟨_, hE⟩ | ⟨_, hE⟩
    · exact moX2_scanNumber_121 hE
    · exact moX2_scanNumber_116 hE
set_option maxRecDepth 20000 in
theorem moX2_scanNumber_81 {o : Hp} {k_10 : Hp → Nat → Int32 → Option (Hp)} {F : Nat} (mk_10 : ∀ (h : Hp) (x0 : Nat) (x1 : Int32), k_10 h x0 x1 = some o → Le h o) {h : Hp} {x0 : Nat} {x1 : Int32} {t0 : Int32} {t1 : Nat} (hE : sX2_scanNumber_81 F k_10 h x0 x1 t0 t1 = some o) : Le h o := by
  obtain ⟨h_1, eh_1, hE⟩ := nm_e2 hE
  refine (le_I eh_1).tr ?_
  obtain ⟨h_2, eh_2, hE⟩ := nm_e2 hE
  refine (le_I eh_2).tr ?_
  exact mk_10 _ _ _ hE
set_option maxRecDepth 20000 in
theorem moX2_scanNumber_10 {o : Hp} {F : Nat} : ∀ (f : Nat) {h : Hp} {x0 : Nat} {x1 : Int32}, sX2_scanNumber_10 F f h x0 x1 = some o → Le h o := by
  intro f
  induction f with
  | zero =>
    intro h x0 x1 hE
    rw [sX2_scanNumber_10] at hE
    cases hE
  | succ f ih =>
    intro h x0 x1 hE
    rw [sX2_scanNumber_10] at hE
    have mk_10 : ∀ (h : Hp) (x0 : Nat) (x1 : Int32), sX2_scanNumber_10 F f h x0 x1 = some o → Le h o := fun h x0 x1 hE => ih hE
    obtain ⟨r_1, er_1, hE⟩ := cl_e hE
    rcases br_e hE with ⟨_, hE⟩ | ⟨_, hE⟩
    · exact moX2_scanNumber_97 hE
    · obtain ⟨r_3, er_3, hE⟩ := cl_e hE
      obtain ⟨o_4, eo_4, hE⟩ := cl_e hE
      refine (moX9_byteAt eo_4).tr ?_
      obtain ⟨o_5, eo_5, hE⟩ := cl_e hE
      refine (moX2_isDigit eo_5).tr ?_
      rcases br_e hE with ⟨_, hE⟩ | ⟨_, hE⟩
      · exact moX2_scanNumber_97 hE
      · rcases br_e hE with ⟨_, hE⟩ | ⟨_, hE⟩
        · exact moX2_scanNumber_81 mk_10 hE
        · obtain ⟨r_8, er_8, hE⟩ := cl_e hE
          obtain ⟨o_9, eo_9, hE⟩ := cl_e hE
          refine (moX9_byteAt eo_9).tr ?_
          exact moX2_scanNumber_81 mk_10 hE
set_option maxRecDepth 20000 in
theorem moX2_scanNumber {o : Hp} {F : Nat} {h : Hp} {x0 : Nat} {x1 : Int32} (hE : sX2_scanNumber F h x0 x1 = some o) : Le h o := by
  obtain ⟨h_1, eh_1, hE⟩ := nm_e2 hE
  refine (le_I eh_1).tr ?_
  obtain ⟨h_2, eh_2, hE⟩ := nm_e2 hE
  refine (le_I eh_2).tr ?_
  exact moX2_scanNumber_10 _ hE
set_option maxRecDepth 20000 in
theorem bX2_scanNumber_141 {p : Program} {l : Launch} {e : Env} {s : State} {m : MethodId} {args : Array Value} {below : List Frame} {meth : Method} {c : Code} {X : Ec} {h0 : Hp} {o : Hp} {F : Nat} (C : Cx X p s m args meth c RX2 cX2_scanNumber 2 none "scanNumber") {h : Hp} {H : Heap} {locs : List Loc} (hkm : Km h0 h) (hW : Wx X h H) (hZ : va_S (aA (eB X)) s.heap H locs) (ls : Array Slot) (hl : lv_has ls 2 []) (hE : sX2_scanNumber_141 F h  = some o) : W p l e (rm 1 21) s m args below meth c H locs 0 0 (MQ below (QV X h0 o) args s 0 0 (aA (eB X))) (F0 m 141 ls []) := by
  exact x_vret C rfl hW hZ hkm hE dX2_scanNumber_141
set_option maxRecDepth 20000 in
theorem bX2_scanNumber_121 {p : Program} {l : Launch} {e : Env} {s : State} {m : MethodId} {args : Array Value} {below : List Frame} {meth : Method} {c : Code} {X : Ec} {h0 : Hp} {o : Hp} {F : Nat} (C : Cx X p s m args meth c RX2 cX2_scanNumber 2 none "scanNumber") {h : Hp} {x0 : Nat} {x1 : Int32} {t0 : Int32} {t1 : Nat} {H : Heap} {locs : List Loc} (k_x0 : hK h x0 = 2) (k_t1 : hK h t1 = 2) (hkm : Km h0 h) (hW : Wx X h H) (hZ : va_S (aA (eB X)) s.heap H locs) (ls : Array Slot) (hl : lv_has ls 2 [(0, .ref x0), (1, .int x1)]) (hE : sX2_scanNumber_121 F h x0 x1 t0 t1 = some o) : W p l e (rm 1 21) s m args below meth c H locs 0 0 (MQ below (QV X h0 o) args s 0 0 (aA (eB X))) (F0 m 121 ls [.int t0, .ref t1]) := by
  obtain ⟨h_1, eh_1, hE⟩ := nm_e2 hE
  refine pf_X2_38 C hW hZ k_t1 eh_1 dX2_scanNumber_121 (fun _ _ hW km hZ => ?_)
  replace hkm := hkm.tr km
  replace k_x0 := km.at k_x0 (by decide)
  refine lv_iload_n C.1 C.2.1 dX2_scanNumber_124 rfl (lv_at hl 1 rfl) ?_
  refine lv_aload_n C.1 C.2.1 dX2_scanNumber_125 rfl (lv_at hl 0 rfl) ?_
  refine gf_X2_61 C hW k_x0 dX2_scanNumber_126 ?_
  refine lv_icmp_le (tgt := 141) C.1 C.2.1 dX2_scanNumber_129 (by decide) (fun c_2 => ?_) (fun c_2 => ?_)
  · have hE := br_p hE c_2
    exact bX2_scanNumber_141 C hkm hW hZ _ (lv_sub hl [] rfl) hE
  · have hE := br_n hE c_2
    refine lv_aload_n C.1 C.2.1 dX2_scanNumber_132 rfl (lv_at hl 0 rfl) ?_
    refine lv_aload_n C.1 C.2.1 dX2_scanNumber_133 rfl (lv_at hl 0 rfl) ?_
    refine gf_X2_84 C hW k_x0 dX2_scanNumber_134 ?_
    refine lv_ineg C.1 C.2.1 dX2_scanNumber_137 ?_
    obtain ⟨h_3, eh_3, hE⟩ := nm_e2 hE
    refine pf_X2_84 C hW hZ k_x0 eh_3 dX2_scanNumber_138 (fun _ _ hW km hZ => ?_)
    replace hkm := hkm.tr km
    replace k_x0 := km.at k_x0 (by decide)
    exact bX2_scanNumber_141 C hkm hW hZ _ (lv_sub hl [] rfl) hE
set_option maxRecDepth 20000 in
theorem bX2_scanNumber_116 {p : Program} {l : Launch} {e : Env} {s : State} {m : MethodId} {args : Array Value} {below : List Frame} {meth : Method} {c : Code} {X : Ec} {h0 : Hp} {o : Hp} {F : Nat} (C : Cx X p s m args meth c RX2 cX2_scanNumber 2 none "scanNumber") {h : Hp} {x0 : Nat} {x1 : Int32} {t0 : Nat} {H : Heap} {locs : List Loc} (k_x0 : hK h x0 = 2) (k_t0 : hK h t0 = 2) (hkm : Km h0 h) (hW : Wx X h H) (hZ : va_S (aA (eB X)) s.heap H locs) (ls : Array Slot) (hl : lv_has ls 2 [(0, .ref x0), (1, .int x1)]) (hE : sX2_scanNumber_116 F h x0 x1 t0 = some o) : W p l e (rm 1 21) s m args below meth c H locs 0 0 (MQ below (QV X h0 o) args s 0 0 (aA (eB X))) (F0 m 116 ls [.ref t0]) := by
  refine lv_iconst (v := (5 : Int32)) C.1 C.2.1 dX2_scanNumber_116 (by decide) ?_
  refine lv_goto (tgt := 121) C.1 C.2.1 dX2_scanNumber_117 (by decide) ?_
  exact bX2_scanNumber_121 C k_x0 k_t0 hkm hW hZ _ (lv_sub hl [0, 1] rfl) hE
set_option maxRecDepth 20000 in
theorem bX2_scanNumber_97 {p : Program} {l : Launch} {e : Env} {s : State} {m : MethodId} {args : Array Value} {below : List Frame} {meth : Method} {c : Code} {X : Ec} {h0 : Hp} {o : Hp} {F : Nat} (C : Cx X p s m args meth c RX2 cX2_scanNumber 2 none "scanNumber") {h : Hp} {x0 : Nat} {x1 : Int32} {H : Heap} {locs : List Loc} (k_x0 : hK h x0 = 2) (hkm : Km h0 h) (hW : Wx X h H) (hZ : va_S (aA (eB X)) s.heap H locs) (ls : Array Slot) (hl : lv_has ls 2 [(0, .ref x0), (1, .int x1)]) (hE : sX2_scanNumber_97 F h x0 x1 = some o) : W p l e (rm 1 21) s m args below meth c H locs 0 0 (MQ below (QV X h0 o) args s 0 0 (aA (eB X))) (F0 m 97 ls []) := by
  refine lv_aload_n C.1 C.2.1 dX2_scanNumber_97 rfl (lv_at hl 0 rfl) ?_
  refine lv_aload_n C.1 C.2.1 dX2_scanNumber_98 rfl (lv_at hl 0 rfl) ?_
  refine gf_X2_24 C hW k_x0 dX2_scanNumber_99 ?_
  refine lv_iload_n C.1 C.2.1 dX2_scanNumber_102 rfl (lv_at hl 1 rfl) ?_
  refine lv_icmp_eq (tgt := 116) C.1 C.2.1 dX2_scanNumber_103 (by decide) (fun c_1 => ?_) (fun c_1 => ?_)
  · have hE := br_p hE c_1
    exact bX2_scanNumber_116 C k_x0 k_x0 hkm hW hZ _ (lv_sub hl [0, 1] rfl) hE
  · have hE := br_n hE c_1
    refine lv_aload_n C.1 C.2.1 dX2_scanNumber_106 rfl (lv_at hl 0 rfl) ?_
    refine gf_X2_24 C hW k_x0 dX2_scanNumber_107 ?_
    refine lv_iload_n C.1 C.2.1 dX2_scanNumber_110 rfl (lv_at hl 1 rfl) ?_
    refine lv_isub C.1 C.2.1 dX2_scanNumber_111 ?_
    refine lv_iconst (v := (2 : Int32)) C.1 C.2.1 dX2_scanNumber_112 (by decide) ?_
    refine lv_icmp_le (tgt := 120) C.1 C.2.1 dX2_scanNumber_113 (by decide) (fun c_2 => ?_) (fun c_2 => ?_)
    · have hE := br_p hE c_2
      refine lv_iconst (v := (2 : Int32)) C.1 C.2.1 dX2_scanNumber_120 (by decide) ?_
      exact bX2_scanNumber_121 C k_x0 k_x0 hkm hW hZ _ (lv_sub hl [0, 1] rfl) hE
    · have hE := br_n hE c_2
      exact bX2_scanNumber_116 C k_x0 k_x0 hkm hW hZ _ (lv_sub hl [0, 1] rfl) hE
set_option maxRecDepth 20000 in
theorem bX2_scanNumber_81 {p : Program} {l : Launch} {e : Env} {s : State} {m : MethodId} {args : Array Value} {below : List Frame} {meth : Method} {c : Code} {X : Ec} {h0 : Hp} {o : Hp} {k_10 : Hp → Nat → Int32 → Option (Hp)} {F : Nat} (C : Cx X p s m args meth c RX2 cX2_scanNumber 2 none "scanNumber") (hk_10 : ∀ (h : Hp) (x0 : Nat) (x1 : Int32) (H : Heap) (locs : List Loc), hK h x0 = 2 → Km h0 h → Wx X h H → va_S (aA (eB X)) s.heap H locs → ∀ (ls : Array Slot), lv_has ls 2 [(0, .ref x0), (1, .int x1)] → k_10 h x0 x1 = some o → W p l e (rm 1 21) s m args below meth c H locs 0 0 (MQ below (QV X h0 o) args s 0 0 (aA (eB X))) (F0 m 10 ls [])) {h : Hp} {x0 : Nat} {x1 : Int32} {t0 : Int32} {t1 : Nat} {H : Heap} {locs : List Loc} (k_x0 : hK h x0 = 2) (k_t1 : hK h t1 = 2) (hkm : Km h0 h) (hW : Wx X h H) (hZ : va_S (aA (eB X)) s.heap H locs) (ls : Array Slot) (hl : lv_has ls 2 [(0, .ref x0), (1, .int x1)]) (hE : sX2_scanNumber_81 F k_10 h x0 x1 t0 t1 = some o) : W p l e (rm 1 21) s m args below meth c H locs 0 0 (MQ below (QV X h0 o) args s 0 0 (aA (eB X))) (F0 m 81 ls [.int t0, .ref t1]) := by
  obtain ⟨h_1, eh_1, hE⟩ := nm_e2 hE
  refine pf_X2_84 C hW hZ k_t1 eh_1 dX2_scanNumber_81 (fun _ _ hW km hZ => ?_)
  replace hkm := hkm.tr km
  replace k_x0 := km.at k_x0 (by decide)
  refine lv_aload_n C.1 C.2.1 dX2_scanNumber_84 rfl (lv_at hl 0 rfl) ?_
  refine lv_dup C.1 C.2.1 dX2_scanNumber_85 rfl ?_
  refine gf_X2_24 C hW k_x0 dX2_scanNumber_86 ?_
  refine lv_iconst (v := (1 : Int32)) C.1 C.2.1 dX2_scanNumber_89 (by decide) ?_
  refine lv_iadd C.1 C.2.1 dX2_scanNumber_90 ?_
  obtain ⟨h_2, eh_2, hE⟩ := nm_e2 hE
  refine pf_X2_24 C hW hZ k_x0 eh_2 dX2_scanNumber_91 (fun _ _ hW km hZ => ?_)
  replace hkm := hkm.tr km
  replace k_x0 := km.at k_x0 (by decide)
  refine lv_goto (tgt := 10) C.1 C.2.1 dX2_scanNumber_94 (by decide) ?_
  exact hk_10 _ _ _ _ _ k_x0 hkm hW hZ _ (lv_sub hl [0, 1] rfl) hE
set_option maxRecDepth 20000 in
theorem bX2_scanNumber_10 {p : Program} {l : Launch} {e : Env} {s : State} {m : MethodId} {args : Array Value} {below : List Frame} {meth : Method} {c : Code} {X : Ec} {h0 : Hp} {o : Hp} {F : Nat} (C : Cx X p s m args meth c RX2 cX2_scanNumber 2 none "scanNumber") : ∀ (f : Nat) {h : Hp} {x0 : Nat} {x1 : Int32} {H : Heap} {locs : List Loc} (k_x0 : hK h x0 = 2), Km h0 h → Wx X h H → va_S (aA (eB X)) s.heap H locs → ∀ (ls : Array Slot), lv_has ls 2 [(0, .ref x0), (1, .int x1)] → sX2_scanNumber_10 F f h x0 x1 = some o → W p l e (rm 1 21) s m args below meth c H locs 0 0 (MQ below (QV X h0 o) args s 0 0 (aA (eB X))) (F0 m 10 ls []) := by
  intro f
  induction f with
  | zero =>
    intro h x0 x1 H locs k_x0 hkm hW hZ ls hl hE
    rw [sX2_scanNumber_10] at hE
    cases hE
  | succ f ih =>
    intro h x0 x1 H locs k_x0 hkm hW hZ ls hl hE
    rw [sX2_scanNumber_10] at hE
    have hk_10 : ∀ (h : Hp) (x0 : Nat) (x1 : Int32) (H : Heap) (locs : List Loc), hK h x0 = 2 → Km h0 h → Wx X h H → va_S (aA (eB X)) s.heap H locs → ∀ (ls : Array Slot), lv_has ls 2 [(0, .ref x0), (1, .int x1)] → sX2_scanNumber_10 F f h x0 x1 = some o → W p l e (rm 1 21) s m args below meth c H locs 0 0 (MQ below (QV X h0 o) args s 0 0 (aA (eB X))) (F0 m 10 ls []) := fun h x0 x1 H locs k_x0 a b c ls hl hE => ih k_x0 a b c ls hl hE
    refine lv_aload_n C.1 C.2.1 dX2_scanNumber_10 rfl (lv_at hl 0 rfl) ?_
    refine gf_X2_24 C hW k_x0 dX2_scanNumber_11 ?_
    refine lv_aload_n C.1 C.2.1 dX2_scanNumber_14 rfl (lv_at hl 0 rfl) ?_
    obtain ⟨r_1, er_1, hE⟩ := cl_e hE
    refine gf_X2_9 C hW k_x0 er_1 dX2_scanNumber_15 (fun k_r_1 => ?_)
    refine gf_X2_64 C hW k_r_1 dX2_scanNumber_18 ?_
    refine lv_icmp_ge (tgt := 97) C.1 C.2.1 dX2_scanNumber_21 (by decide) (fun c_2 => ?_) (fun c_2 => ?_)
    · have hE := br_p hE c_2
      exact bX2_scanNumber_97 C k_x0 hkm hW hZ _ (lv_sub hl [0, 1] rfl) hE
    · have hE := br_n hE c_2
      refine lv_aload_n C.1 C.2.1 dX2_scanNumber_24 rfl (lv_at hl 0 rfl) ?_
      obtain ⟨r_3, er_3, hE⟩ := cl_e hE
      refine gf_X2_9 C hW k_x0 er_3 dX2_scanNumber_25 (fun k_r_3 => ?_)
      refine lv_aload_n C.1 C.2.1 dX2_scanNumber_28 rfl (lv_at hl 0 rfl) ?_
      refine gf_X2_24 C hW k_x0 dX2_scanNumber_29 ?_
      obtain ⟨o_4, eo_4, hE⟩ := cl_e hE
      refine x_kI (o := o_4) (z_runV (As := [.int (hI h x0 3)]) (rest := []) C (ct_X9_byteAt l X k_r_3 eo_4) cw_X2_69 hW hZ k_r_3 (by decide) rfl rfl rfl hl.1 (Nat.le_of_ble_eq_true rfl) rfl dX2_scanNumber_32 ⟨Nat.le_of_ble_eq_true rfl, Nat.le_of_ble_eq_true rfl⟩ ⟨Nat.le_refl _, Nat.le_refl _⟩) hZ (fun _ _ hW km hZ => ?_)
      replace hkm := hkm.tr km
      replace k_x0 := km.at k_x0 (by decide)
      obtain ⟨o_5, eo_5, hE⟩ := cl_e hE
      refine x_kI (o := o_5) (z_runS (As := [.int o_4.1]) (rest := []) C (ct_X2_isDigit l X eo_5) cw_X2_77 hW hZ rfl hl.1 (Nat.le_of_ble_eq_true rfl) rfl dX2_scanNumber_35 ⟨Nat.le_of_ble_eq_true rfl, Nat.le_of_ble_eq_true rfl⟩ ⟨Nat.le_refl _, Nat.le_refl _⟩) hZ (fun _ _ hW km hZ => ?_)
      replace hkm := hkm.tr km
      replace k_x0 := km.at k_x0 (by decide)
      refine lv_if_eq (tgt := 97) C.1 C.2.1 dX2_scanNumber_38 (by decide) (fun c_6 => ?_) (fun c_6 => ?_)
      · have hE := br_p hE c_6
        exact bX2_scanNumber_97 C k_x0 hkm hW hZ _ (lv_sub hl [0, 1] rfl) hE
      · have hE := br_n hE c_6
        refine lv_aload_n C.1 C.2.1 dX2_scanNumber_41 rfl (lv_at hl 0 rfl) ?_
        refine lv_aload_n C.1 C.2.1 dX2_scanNumber_42 rfl (lv_at hl 0 rfl) ?_
        refine gf_X2_24 C hW k_x0 dX2_scanNumber_43 ?_
        refine lv_iload_n C.1 C.2.1 dX2_scanNumber_46 rfl (lv_at hl 1 rfl) ?_
        refine lv_isub C.1 C.2.1 dX2_scanNumber_47 ?_
        refine lv_iconst (v := (2 : Int32)) C.1 C.2.1 dX2_scanNumber_48 (by decide) ?_
        refine lv_icmp_ge (tgt := 77) C.1 C.2.1 dX2_scanNumber_49 (by decide) (fun c_7 => ?_) (fun c_7 => ?_)
        · have hE := br_p hE c_7
          refine lv_aload_n C.1 C.2.1 dX2_scanNumber_77 rfl (lv_at hl 0 rfl) ?_
          refine gf_X2_84 C hW k_x0 dX2_scanNumber_78 ?_
          exact bX2_scanNumber_81 C hk_10 k_x0 k_x0 hkm hW hZ _ (lv_sub hl [0, 1] rfl) hE
        · have hE := br_n hE c_7
          refine lv_bipush (v := (10 : Int32)) C.1 C.2.1 dX2_scanNumber_52 (by decide) ?_
          refine lv_aload_n C.1 C.2.1 dX2_scanNumber_54 rfl (lv_at hl 0 rfl) ?_
          refine gf_X2_84 C hW k_x0 dX2_scanNumber_55 ?_
          refine lv_imul C.1 C.2.1 dX2_scanNumber_58 ?_
          refine lv_aload_n C.1 C.2.1 dX2_scanNumber_59 rfl (lv_at hl 0 rfl) ?_
          obtain ⟨r_8, er_8, hE⟩ := cl_e hE
          refine gf_X2_9 C hW k_x0 er_8 dX2_scanNumber_60 (fun k_r_8 => ?_)
          refine lv_aload_n C.1 C.2.1 dX2_scanNumber_63 rfl (lv_at hl 0 rfl) ?_
          refine gf_X2_24 C hW k_x0 dX2_scanNumber_64 ?_
          obtain ⟨o_9, eo_9, hE⟩ := cl_e hE
          refine x_kI (o := o_9) (z_runV (As := [.int (hI o_5.2 x0 3)]) (rest := [.int ((10 : Int32) * (hI o_5.2 x0 5)), .ref x0]) C (ct_X9_byteAt l X k_r_8 eo_9) cw_X2_69 hW hZ k_r_8 (by decide) rfl rfl rfl hl.1 (Nat.le_of_ble_eq_true rfl) rfl dX2_scanNumber_67 ⟨Nat.le_of_ble_eq_true rfl, Nat.le_of_ble_eq_true rfl⟩ ⟨Nat.le_refl _, Nat.le_refl _⟩) hZ (fun _ _ hW km hZ => ?_)
          replace hkm := hkm.tr km
          replace k_x0 := km.at k_x0 (by decide)
          refine lv_iadd C.1 C.2.1 dX2_scanNumber_70 ?_
          refine lv_bipush (v := (48 : Int32)) C.1 C.2.1 dX2_scanNumber_71 (by decide) ?_
          refine lv_isub C.1 C.2.1 dX2_scanNumber_73 ?_
          refine lv_goto (tgt := 81) C.1 C.2.1 dX2_scanNumber_74 (by decide) ?_
          exact bX2_scanNumber_81 C hk_10 k_x0 k_x0 hkm hW hZ _ (lv_sub hl [0, 1] rfl) hE
set_option maxRecDepth 20000 in
theorem ct_X2_scanNumber (l : Launch) (X : Ec) (F : Nat) {h : Hp} {x0 : Nat} {x1 : Int32} {o : Hp} (k_x0 : hK h x0 = 2) (hE : sX2_scanNumber F h x0 x1 = some o) : MetV l yX2_scanNumber cX2_scanNumber 2 none 1 21 X [.ref x0, .int x1] h o := by
  refine x_met (by decide) (Nat.le_of_ble_eq_true rfl) ?_
  intro p e s m below meth c ls C hl hW hZ
  have hl : lv_has ls 2 [(0, .ref x0), (1, .int x1)] := hl
  have hkm : Km h h := Km.rf h
  refine lv_aload_n C.1 C.2.1 dX2_scanNumber_0 rfl (lv_at hl 0 rfl) ?_
  refine lv_iconst (v := (0 : Int32)) C.1 C.2.1 dX2_scanNumber_1 (by decide) ?_
  obtain ⟨h_1, eh_1, hE⟩ := nm_e2 hE
  refine pf_X2_84 C hW hZ k_x0 eh_1 dX2_scanNumber_2 (fun _ _ hW km hZ => ?_)
  replace hkm := hkm.tr km
  replace k_x0 := km.at k_x0 (by decide)
  refine lv_aload_n C.1 C.2.1 dX2_scanNumber_5 rfl (lv_at hl 0 rfl) ?_
  refine lv_iload_n C.1 C.2.1 dX2_scanNumber_6 rfl (lv_at hl 1 rfl) ?_
  obtain ⟨h_2, eh_2, hE⟩ := nm_e2 hE
  refine pf_X2_24 C hW hZ k_x0 eh_2 dX2_scanNumber_7 (fun _ _ hW km hZ => ?_)
  replace hkm := hkm.tr km
  replace k_x0 := km.at k_x0 (by decide)
  exact bX2_scanNumber_10 C F k_x0 hkm hW hZ _ (lv_sub hl [0, 1] rfl) hE
set_option maxRecDepth 100000 in
theorem ms_1 : Cond.selects RX2 yX2_scanNumber yX2_scanNumber ∈ W0 := w0_in (List.mem_append_left _ (List.mem_of_getElem? (i := 1) rfl)) rfl
set_option maxRecDepth 100000 in
theorem m_661 : Cond.methodLink RX2 73 yX2_isLetter ∈ W0 := w0_in (List.mem_append_right _ (List.mem_of_getElem? (i := 661) rfl)) rfl
set_option maxRecDepth 100000 in
theorem m_662 : Cond.static yX2_isLetter ∈ W0 := w0_in (List.mem_append_right _ (List.mem_of_getElem? (i := 662) rfl)) rfl
set_option maxRecDepth 100000 in
theorem m_663 : Cond.code yX2_isLetter cX2_isLetter 1 (some .boolean) ∈ W0 := w0_in (List.mem_append_right _ (List.mem_of_getElem? (i := 663) rfl)) rfl
set_option maxRecDepth 100000 in
theorem m_667 : Cond.methodLink RX2 80 yX2_scanNumber ∈ W0 := w0_in (List.mem_append_right _ (List.mem_of_getElem? (i := 667) rfl)) rfl
set_option maxRecDepth 100000 in
theorem m_669 : Cond.instanceMethod yX2_scanNumber ∈ W0 := w0_in (List.mem_append_right _ (List.mem_of_getElem? (i := 669) rfl)) rfl
set_option maxRecDepth 100000 in
theorem m_670 : Cond.code yX2_scanNumber cX2_scanNumber 2 none ∈ W0 := w0_in (List.mem_append_right _ (List.mem_of_getElem? (i := 670) rfl)) rfl
section
variable {p : Program} {l : Launch} {e : Env} {R : Room} {s : State} {m : MethodId} {args : Array Value} {below : List Frame} {meth : Method} {c : Code} {H : Heap} {locs : List Loc} {cells slots : Nat} {Q : State → Prop}
variable {cc : ByteArray} {pc : Nat} {ls : Array Slot} {rest : List Value} {X : Ec} {h h1 : Hp} {nL : Nat} {rt : Option FieldType} {mn : String}
theorem pf_X2_61 {a : Nat} {v : Int32} (C : Cx X p s m args meth c RX2 cc nL rt mn) (hW : Wx X h H) (hZ : va_S (aA (eB X)) s.heap H locs) (ha : hK h a = 2) (eh : h1 = wI h a 2 v) (hdg : decode cc pc = .ok (.putfield 61, 3)) (kk : ∀ (H1 : Heap) (locs1 : List Loc), Wx X h1 H1 → Km h h1 → va_S (aA (eB X)) s.heap H1 locs1 → W p l e R s m args below meth c H1 locs1 cells slots Q (F0 m (pc + 3) ls rest)) : W p l e R s m args below meth c H locs cells slots Q (F0 m pc ls (.int v :: .ref a :: rest)) :=
  y_puti (ty := .int) C hW hZ ha i_X2 tyX2 tyX2_ok nmX2 (by decide) rfl rfl (by decide) m_197 rfl (by decide +kernel) rfl rfl rfl eh hdg kk
end
theorem cw_X2_80 : cwd RX2 80 yX2_scanNumber cX2_scanNumber 2 none false 1 := ⟨m_670, m_667, m_5, ⟨m_669, ms_1⟩, by decide, by decide, by decide +kernel⟩
theorem cw_X2_73 : cwd RX2 73 yX2_isLetter cX2_isLetter 1 (some .boolean) true 1 := ⟨m_663, m_661, m_5, m_662, by decide, by decide, by decide +kernel⟩
theorem dX2_advance_0 : decode cX2_advance 0 = .ok (.aload_n 0, 1) := by decide +kernel
theorem dX2_advance_1 : decode cX2_advance 1 = .ok (.aload_n 0, 1) := by decide +kernel
theorem dX2_advance_2 : decode cX2_advance 2 = .ok (.getfield 24, 3) := by decide +kernel
theorem dX2_advance_5 : decode cX2_advance 5 = .ok (.putfield 61, 3) := by decide +kernel
theorem dX2_advance_8 : decode cX2_advance 8 = .ok (.aload_n 0, 1) := by decide +kernel
theorem dX2_advance_9 : decode cX2_advance 9 = .ok (.getfield 61, 3) := by decide +kernel
theorem dX2_advance_12 : decode cX2_advance 12 = .ok (.aload_n 0, 1) := by decide +kernel
theorem dX2_advance_13 : decode cX2_advance 13 = .ok (.getfield 9, 3) := by decide +kernel
theorem dX2_advance_16 : decode cX2_advance 16 = .ok (.getfield 64, 3) := by decide +kernel
theorem dX2_advance_19 : decode cX2_advance 19 = .ok (.if_icmp .ge 48, 3) := by decide +kernel
theorem dX2_advance_22 : decode cX2_advance 22 = .ok (.aload_n 0, 1) := by decide +kernel
theorem dX2_advance_23 : decode cX2_advance 23 = .ok (.getfield 9, 3) := by decide +kernel
theorem dX2_advance_26 : decode cX2_advance 26 = .ok (.aload_n 0, 1) := by decide +kernel
theorem dX2_advance_27 : decode cX2_advance 27 = .ok (.getfield 61, 3) := by decide +kernel
theorem dX2_advance_30 : decode cX2_advance 30 = .ok (.invokevirtual 69, 3) := by decide +kernel
theorem dX2_advance_33 : decode cX2_advance 33 = .ok (.bipush 32, 2) := by decide +kernel
theorem dX2_advance_35 : decode cX2_advance 35 = .ok (.if_icmp .eq 19, 3) := by decide +kernel
theorem dX2_advance_38 : decode cX2_advance 38 = .ok (.aload_n 0, 1) := by decide +kernel
theorem dX2_advance_39 : decode cX2_advance 39 = .ok (.getfield 9, 3) := by decide +kernel
theorem dX2_advance_42 : decode cX2_advance 42 = .ok (.aload_n 0, 1) := by decide +kernel
theorem dX2_advance_43 : decode cX2_advance 43 = .ok (.getfield 61, 3) := by decide +kernel
theorem dX2_advance_46 : decode cX2_advance 46 = .ok (.invokevirtual 69, 3) := by decide +kernel
theorem dX2_advance_49 : decode cX2_advance 49 = .ok (.bipush 10, 2) := by decide +kernel
theorem dX2_advance_51 : decode cX2_advance 51 = .ok (.if_icmp .ne 16, 3) := by decide +kernel
theorem dX2_advance_54 : decode cX2_advance 54 = .ok (.aload_n 0, 1) := by decide +kernel
theorem dX2_advance_55 : decode cX2_advance 55 = .ok (.dup, 1) := by decide +kernel
theorem dX2_advance_56 : decode cX2_advance 56 = .ok (.getfield 61, 3) := by decide +kernel
theorem dX2_advance_59 : decode cX2_advance 59 = .ok (.iconst 1, 1) := by decide +kernel
theorem dX2_advance_60 : decode cX2_advance 60 = .ok (.iadd, 1) := by decide +kernel
theorem dX2_advance_61 : decode cX2_advance 61 = .ok (.putfield 61, 3) := by decide +kernel
theorem dX2_advance_64 : decode cX2_advance 64 = .ok (.goto (-56), 3) := by decide +kernel
theorem dX2_advance_67 : decode cX2_advance 67 = .ok (.aload_n 0, 1) := by decide +kernel
theorem dX2_advance_68 : decode cX2_advance 68 = .ok (.getfield 9, 3) := by decide +kernel
theorem dX2_advance_71 : decode cX2_advance 71 = .ok (.aload_n 0, 1) := by decide +kernel
theorem dX2_advance_72 : decode cX2_advance 72 = .ok (.getfield 61, 3) := by decide +kernel
theorem dX2_advance_75 : decode cX2_advance 75 = .ok (.invokevirtual 69, 3) := by decide +kernel
theorem dX2_advance_78 : decode cX2_advance 78 = .ok (.istore_n 1, 1) := by decide +kernel
theorem dX2_advance_79 : decode cX2_advance 79 = .ok (.aload_n 0, 1) := by decide +kernel
theorem dX2_advance_80 : decode cX2_advance 80 = .ok (.aload_n 0, 1) := by decide +kernel
theorem dX2_advance_81 : decode cX2_advance 81 = .ok (.getfield 61, 3) := by decide +kernel
theorem dX2_advance_84 : decode cX2_advance 84 = .ok (.iconst 1, 1) := by decide +kernel
theorem dX2_advance_85 : decode cX2_advance 85 = .ok (.iadd, 1) := by decide +kernel
theorem dX2_advance_86 : decode cX2_advance 86 = .ok (.putfield 24, 3) := by decide +kernel
theorem dX2_advance_89 : decode cX2_advance 89 = .ok (.iload_n 1, 1) := by decide +kernel
theorem dX2_advance_90 : decode cX2_advance 90 = .ok (.iconst (-1), 1) := by decide +kernel
theorem dX2_advance_91 : decode cX2_advance 91 = .ok (.if_icmp .ne 19, 3) := by decide +kernel
theorem dX2_advance_94 : decode cX2_advance 94 = .ok (.aload_n 0, 1) := by decide +kernel
theorem dX2_advance_95 : decode cX2_advance 95 = .ok (.iconst 0, 1) := by decide +kernel
theorem dX2_advance_96 : decode cX2_advance 96 = .ok (.putfield 38, 3) := by decide +kernel
theorem dX2_advance_99 : decode cX2_advance 99 = .ok (.aload_n 0, 1) := by decide +kernel
theorem dX2_advance_100 : decode cX2_advance 100 = .ok (.aload_n 0, 1) := by decide +kernel
theorem dX2_advance_101 : decode cX2_advance 101 = .ok (.getfield 61, 3) := by decide +kernel
theorem dX2_advance_104 : decode cX2_advance 104 = .ok (.putfield 24, 3) := by decide +kernel
theorem dX2_advance_107 : decode cX2_advance 107 = .ok (.goto 123, 3) := by decide +kernel
theorem dX2_advance_110 : decode cX2_advance 110 = .ok (.iload_n 1, 1) := by decide +kernel
theorem dX2_advance_111 : decode cX2_advance 111 = .ok (.invokestatic 73, 3) := by decide +kernel
theorem dX2_advance_114 : decode cX2_advance 114 = .ok (.ifCond .eq 52, 3) := by decide +kernel
theorem dX2_advance_117 : decode cX2_advance 117 = .ok (.aload_n 0, 1) := by decide +kernel
theorem dX2_advance_118 : decode cX2_advance 118 = .ok (.iconst 1, 1) := by decide +kernel
theorem dX2_advance_119 : decode cX2_advance 119 = .ok (.putfield 38, 3) := by decide +kernel
theorem dX2_advance_122 : decode cX2_advance 122 = .ok (.aload_n 0, 1) := by decide +kernel
theorem dX2_advance_123 : decode cX2_advance 123 = .ok (.getfield 24, 3) := by decide +kernel
theorem dX2_advance_126 : decode cX2_advance 126 = .ok (.aload_n 0, 1) := by decide +kernel
theorem dX2_advance_127 : decode cX2_advance 127 = .ok (.getfield 9, 3) := by decide +kernel
theorem dX2_advance_130 : decode cX2_advance 130 = .ok (.getfield 64, 3) := by decide +kernel
theorem dX2_advance_133 : decode cX2_advance 133 = .ok (.if_icmp .ge 97, 3) := by decide +kernel
theorem dX2_advance_136 : decode cX2_advance 136 = .ok (.aload_n 0, 1) := by decide +kernel
theorem dX2_advance_137 : decode cX2_advance 137 = .ok (.getfield 9, 3) := by decide +kernel
theorem dX2_advance_140 : decode cX2_advance 140 = .ok (.aload_n 0, 1) := by decide +kernel
theorem dX2_advance_141 : decode cX2_advance 141 = .ok (.getfield 24, 3) := by decide +kernel
theorem dX2_advance_144 : decode cX2_advance 144 = .ok (.invokevirtual 69, 3) := by decide +kernel
theorem dX2_advance_147 : decode cX2_advance 147 = .ok (.invokestatic 73, 3) := by decide +kernel
theorem dX2_advance_150 : decode cX2_advance 150 = .ok (.ifCond .eq 80, 3) := by decide +kernel
theorem dX2_advance_153 : decode cX2_advance 153 = .ok (.aload_n 0, 1) := by decide +kernel
theorem dX2_advance_154 : decode cX2_advance 154 = .ok (.dup, 1) := by decide +kernel
theorem dX2_advance_155 : decode cX2_advance 155 = .ok (.getfield 24, 3) := by decide +kernel
theorem dX2_advance_158 : decode cX2_advance 158 = .ok (.iconst 1, 1) := by decide +kernel
theorem dX2_advance_159 : decode cX2_advance 159 = .ok (.iadd, 1) := by decide +kernel
theorem dX2_advance_160 : decode cX2_advance 160 = .ok (.putfield 24, 3) := by decide +kernel
theorem dX2_advance_163 : decode cX2_advance 163 = .ok (.goto (-41), 3) := by decide +kernel
theorem dX2_advance_166 : decode cX2_advance 166 = .ok (.iload_n 1, 1) := by decide +kernel
theorem dX2_advance_167 : decode cX2_advance 167 = .ok (.invokestatic 77, 3) := by decide +kernel
theorem dX2_advance_170 : decode cX2_advance 170 = .ok (.ifCond .ne 9, 3) := by decide +kernel
theorem dX2_advance_173 : decode cX2_advance 173 = .ok (.iload_n 1, 1) := by decide +kernel
theorem dX2_advance_174 : decode cX2_advance 174 = .ok (.bipush 45, 2) := by decide +kernel
theorem dX2_advance_176 : decode cX2_advance 176 = .ok (.if_icmp .ne 29, 3) := by decide +kernel
theorem dX2_advance_179 : decode cX2_advance 179 = .ok (.aload_n 0, 1) := by decide +kernel
theorem dX2_advance_180 : decode cX2_advance 180 = .ok (.iload_n 1, 1) := by decide +kernel
theorem dX2_advance_181 : decode cX2_advance 181 = .ok (.bipush 45, 2) := by decide +kernel
theorem dX2_advance_183 : decode cX2_advance 183 = .ok (.if_icmp .ne 12, 3) := by decide +kernel
theorem dX2_advance_186 : decode cX2_advance 186 = .ok (.aload_n 0, 1) := by decide +kernel
theorem dX2_advance_187 : decode cX2_advance 187 = .ok (.getfield 61, 3) := by decide +kernel
theorem dX2_advance_190 : decode cX2_advance 190 = .ok (.iconst 1, 1) := by decide +kernel
theorem dX2_advance_191 : decode cX2_advance 191 = .ok (.iadd, 1) := by decide +kernel
theorem dX2_advance_192 : decode cX2_advance 192 = .ok (.goto 7, 3) := by decide +kernel
theorem dX2_advance_195 : decode cX2_advance 195 = .ok (.aload_n 0, 1) := by decide +kernel
theorem dX2_advance_196 : decode cX2_advance 196 = .ok (.getfield 61, 3) := by decide +kernel
theorem dX2_advance_199 : decode cX2_advance 199 = .ok (.invokevirtual 80, 3) := by decide +kernel
theorem dX2_advance_202 : decode cX2_advance 202 = .ok (.goto 28, 3) := by decide +kernel
theorem dX2_advance_205 : decode cX2_advance 205 = .ok (.aload_n 0, 1) := by decide +kernel
theorem dX2_advance_206 : decode cX2_advance 206 = .ok (.iload_n 1, 1) := by decide +kernel
theorem dX2_advance_207 : decode cX2_advance 207 = .ok (.bipush 59, 2) := by decide +kernel
theorem dX2_advance_209 : decode cX2_advance 209 = .ok (.if_icmp .ne 7, 3) := by decide +kernel
theorem dX2_advance_212 : decode cX2_advance 212 = .ok (.iconst 3, 1) := by decide +kernel
theorem dX2_advance_213 : decode cX2_advance 213 = .ok (.goto 14, 3) := by decide +kernel
theorem dX2_advance_216 : decode cX2_advance 216 = .ok (.iload_n 1, 1) := by decide +kernel
theorem dX2_advance_217 : decode cX2_advance 217 = .ok (.bipush 44, 2) := by decide +kernel
theorem dX2_advance_219 : decode cX2_advance 219 = .ok (.if_icmp .ne 7, 3) := by decide +kernel
theorem dX2_advance_222 : decode cX2_advance 222 = .ok (.iconst 4, 1) := by decide +kernel
theorem dX2_advance_223 : decode cX2_advance 223 = .ok (.goto 4, 3) := by decide +kernel
theorem dX2_advance_226 : decode cX2_advance 226 = .ok (.iconst 5, 1) := by decide +kernel
theorem dX2_advance_227 : decode cX2_advance 227 = .ok (.putfield 38, 3) := by decide +kernel
theorem dX2_advance_230 : decode cX2_advance 230 = .ok (.return_, 1) := by decide +kernel
set_option maxRecDepth 20000 in
theorem moX2_advance_230 {o : Hp} {F : Nat} {h : Hp} (hE : sX2_advance_230 F h  = some o) : Le h o := by
  exact le_some1 hE
set_option maxRecDepth 20000 in
theorem moX2_advance_199 {o : Hp} {F : Nat} {h : Hp} {t0 : Int32} {t1 : Nat} (hE : sX2_advance_199 F h  t0 t1 = some o) : Le h o := by
  obtain ⟨o_1, eo_1, hE⟩ := cl_e hE
  refine (moX2_scanNumber eo_1).tr ?_
  exact moX2_advance_230 hE
set_option maxRecDepth 20000 in
theorem moX2_advance_179 {o : Hp} {F : Nat} {h : Hp} {x0 : Nat} {x1 : Int32} (hE : sX2_advance_179 F h x0 x1 = some o) : Le h o := by
  rcases br_e hE with ⟨_, hE⟩ | ⟨_, hE⟩
  · exact moX2_advance_199 hE
  · exact moX2_advance_199 hE
set_option maxRecDepth 20000 in
theorem moX2_advance_227 {o : Hp} {F : Nat} {h : Hp} {t0 : Int32} {t1 : Nat} (hE : sX2_advance_227 F h  t0 t1 = some o) : Le h o := by
  obtain ⟨h_1, eh_1, hE⟩ := nm_e2 hE
  refine (le_I eh_1).tr ?_
  exact moX2_advance_230 hE
set_option maxRecDepth 20000 in
theorem moX2_advance_122 {o : Hp} {F : Nat} : ∀ (f : Nat) {h : Hp} {x0 : Nat}, sX2_advance_122 F f h x0 = some o → Le h o := by
  intro f
  induction f with
  | zero =>
    intro h x0 hE
    rw [sX2_advance_122] at hE
    cases hE
  | succ f ih =>
    intro h x0 hE
    rw [sX2_advance_122] at hE
    have mk_122 : ∀ (h : Hp) (x0 : Nat), sX2_advance_122 F f h x0 = some o → Le h o := fun h x0 hE => ih hE
    obtain ⟨r_1, er_1, hE⟩ := cl_e hE
    rcases br_e hE with ⟨_, hE⟩ | ⟨_, hE⟩
    · exact moX2_advance_230 hE
    · obtain ⟨r_3, er_3, hE⟩ := cl_e hE
      obtain ⟨o_4, eo_4, hE⟩ := cl_e hE
      refine (moX9_byteAt eo_4).tr ?_
      obtain ⟨o_5, eo_5, hE⟩ := cl_e hE
      refine (moX2_isLetter eo_5).tr ?_
      rcases br_e hE with ⟨_, hE⟩ | ⟨_, hE⟩
      · exact moX2_advance_230 hE
      · obtain ⟨h_7, eh_7, hE⟩ := nm_e2 hE
        refine (le_I eh_7).tr ?_
        exact mk_122 _ _ hE
set_option maxRecDepth 20000 in
theorem moX2_advance_67 {o : Hp} {F : Nat} {h : Hp} {x0 : Nat} (hE : sX2_advance_67 F h x0 = some o) : Le h o := by
  obtain ⟨r_1, er_1, hE⟩ := cl_e hE
  obtain ⟨o_2, eo_2, hE⟩ := cl_e hE
  refine (moX9_byteAt eo_2).tr ?_
  obtain ⟨h_3, eh_3, hE⟩ := nm_e2 hE
  refine (le_I eh_3).tr ?_
  rcases br_e hE with ⟨_, hE⟩ | ⟨_, hE⟩
  · obtain ⟨h_13, eh_13, hE⟩ := nm_e2 hE
    refine (le_I eh_13).tr ?_
    obtain ⟨h_14, eh_14, hE⟩ := nm_e2 hE
    refine (le_I eh_14).tr ?_
    exact moX2_advance_230 hE
  · obtain ⟨o_5, eo_5, hE⟩ := cl_e hE
    refine (moX2_isLetter eo_5).tr ?_
    rcases br_e hE with ⟨_, hE⟩ | ⟨_, hE⟩
    · obtain ⟨o_7, eo_7, hE⟩ := cl_e hE
      refine (moX2_isDigit eo_7).tr ?_
      rcases br_e hE with ⟨_, hE⟩ | ⟨_, hE⟩
      · rcases br_e hE with ⟨_, hE⟩ | ⟨_, hE⟩
        · exact moX2_advance_179 hE
        · rcases br_e hE with ⟨_, hE⟩ | ⟨_, hE⟩
          · exact moX2_advance_227 hE
          · rcases br_e hE with ⟨_, hE⟩ | ⟨_, hE⟩
            · exact moX2_advance_227 hE
            · exact moX2_advance_227 hE
      · exact moX2_advance_179 hE
    · obtain ⟨h_12, eh_12, hE⟩ := nm_e2 hE
      refine (le_I eh_12).tr ?_
      exact moX2_advance_122 _ hE
set_option maxRecDepth 20000 in
theorem moX2_advance_54 {o : Hp} {k_8 : Hp → Nat → Option (Hp)} {F : Nat} (mk_8 : ∀ (h : Hp) (x0 : Nat), k_8 h x0 = some o → Le h o) {h : Hp} {x0 : Nat} (hE : sX2_advance_54 F k_8 h x0 = some o) : Le h o := by
  obtain ⟨h_1, eh_1, hE⟩ := nm_e2 hE
  refine (le_I eh_1).tr ?_
  exact mk_8 _ _ hE
set_option maxRecDepth 20000 in
theorem moX2_advance_8 {o : Hp} {F : Nat} : ∀ (f : Nat) {h : Hp} {x0 : Nat}, sX2_advance_8 F f h x0 = some o → Le h o := by
  intro f
  induction f with
  | zero =>
    intro h x0 hE
    rw [sX2_advance_8] at hE
    cases hE
  | succ f ih =>
    intro h x0 hE
    rw [sX2_advance_8] at hE
    have mk_8 : ∀ (h : Hp) (x0 : Nat), sX2_advance_8 F f h x0 = some o → Le h o := fun h x0 hE => ih hE
    obtain ⟨r_1, er_1, hE⟩ := cl_e hE
    rcases br_e hE with ⟨_, hE⟩ | ⟨_, hE⟩
    · exact moX2_advance_67 hE
    · obtain ⟨r_3, er_3, hE⟩ := cl_e hE
      obtain ⟨o_4, eo_4, hE⟩ := cl_e hE
      refine (moX9_byteAt eo_4).tr ?_
      rcases br_e hE with ⟨_, hE⟩ | ⟨_, hE⟩
      · exact moX2_advance_54 mk_8 hE
      · obtain ⟨r_6, er_6, hE⟩ := cl_e hE
        obtain ⟨o_7, eo_7, hE⟩ := cl_e hE
        refine (moX9_byteAt eo_7).tr ?_
        rcases br_e hE with ⟨_, hE⟩ | ⟨_, hE⟩
        · exact moX2_advance_54 mk_8 hE
        · exact moX2_advance_67 hE
set_option maxRecDepth 20000 in
theorem moX2_advance {o : Hp} {F : Nat} {h : Hp} {x0 : Nat} (hE : sX2_advance F h x0 = some o) : Le h o := by
  obtain ⟨h_1, eh_1, hE⟩ := nm_e2 hE
  refine (le_I eh_1).tr ?_
  exact moX2_advance_8 _ hE
set_option maxRecDepth 20000 in
theorem bX2_advance_230 {p : Program} {l : Launch} {e : Env} {s : State} {m : MethodId} {args : Array Value} {below : List Frame} {meth : Method} {c : Code} {X : Ec} {h0 : Hp} {o : Hp} {F : Nat} (C : Cx X p s m args meth c RX2 cX2_advance 2 none "advance") {h : Hp} {H : Heap} {locs : List Loc} (hkm : Km h0 h) (hW : Wx X h H) (hZ : va_S (aA (eB X)) s.heap H locs) (ls : Array Slot) (hl : lv_has ls 2 []) (hE : sX2_advance_230 F h  = some o) : W p l e (rm 2 42) s m args below meth c H locs 0 0 (MQ below (QV X h0 o) args s 0 0 (aA (eB X))) (F0 m 230 ls []) := by
  exact x_vret C rfl hW hZ hkm hE dX2_advance_230
set_option maxRecDepth 20000 in
theorem bX2_advance_199 {p : Program} {l : Launch} {e : Env} {s : State} {m : MethodId} {args : Array Value} {below : List Frame} {meth : Method} {c : Code} {X : Ec} {h0 : Hp} {o : Hp} {F : Nat} (C : Cx X p s m args meth c RX2 cX2_advance 2 none "advance") {h : Hp} {t0 : Int32} {t1 : Nat} {H : Heap} {locs : List Loc} (k_t1 : hK h t1 = 2) (hkm : Km h0 h) (hW : Wx X h H) (hZ : va_S (aA (eB X)) s.heap H locs) (ls : Array Slot) (hl : lv_has ls 2 []) (hE : sX2_advance_199 F h  t0 t1 = some o) : W p l e (rm 2 42) s m args below meth c H locs 0 0 (MQ below (QV X h0 o) args s 0 0 (aA (eB X))) (F0 m 199 ls [.int t0, .ref t1]) := by
  obtain ⟨o_1, eo_1, hE⟩ := cl_e hE
  refine x_kV (o := o_1) (z_runV (As := [.int t0]) (rest := []) C (ct_X2_scanNumber l X F k_t1 eo_1) cw_X2_80 hW hZ k_t1 (by decide) rfl rfl rfl hl.1 (Nat.le_of_ble_eq_true rfl) rfl dX2_advance_199 ⟨Nat.le_of_ble_eq_true rfl, Nat.le_of_ble_eq_true rfl⟩ ⟨Nat.le_refl _, Nat.le_refl _⟩) hZ (fun _ _ hW km hZ => ?_)
  replace hkm := hkm.tr km
  refine lv_goto (tgt := 230) C.1 C.2.1 dX2_advance_202 (by decide) ?_
  exact bX2_advance_230 C hkm hW hZ _ (lv_sub hl [] rfl) hE
set_option maxRecDepth 20000 in
theorem bX2_advance_179 {p : Program} {l : Launch} {e : Env} {s : State} {m : MethodId} {args : Array Value} {below : List Frame} {meth : Method} {c : Code} {X : Ec} {h0 : Hp} {o : Hp} {F : Nat} (C : Cx X p s m args meth c RX2 cX2_advance 2 none "advance") {h : Hp} {x0 : Nat} {x1 : Int32} {H : Heap} {locs : List Loc} (k_x0 : hK h x0 = 2) (hkm : Km h0 h) (hW : Wx X h H) (hZ : va_S (aA (eB X)) s.heap H locs) (ls : Array Slot) (hl : lv_has ls 2 [(0, .ref x0), (1, .int x1)]) (hE : sX2_advance_179 F h x0 x1 = some o) : W p l e (rm 2 42) s m args below meth c H locs 0 0 (MQ below (QV X h0 o) args s 0 0 (aA (eB X))) (F0 m 179 ls []) := by
  refine lv_aload_n C.1 C.2.1 dX2_advance_179 rfl (lv_at hl 0 rfl) ?_
  refine lv_iload_n C.1 C.2.1 dX2_advance_180 rfl (lv_at hl 1 rfl) ?_
  refine lv_bipush (v := (45 : Int32)) C.1 C.2.1 dX2_advance_181 (by decide) ?_
  refine lv_icmp_ne (tgt := 195) C.1 C.2.1 dX2_advance_183 (by decide) (fun c_1 => ?_) (fun c_1 => ?_)
  · have hE := br_n hE c_1
    refine lv_aload_n C.1 C.2.1 dX2_advance_195 rfl (lv_at hl 0 rfl) ?_
    refine gf_X2_61 C hW k_x0 dX2_advance_196 ?_
    exact bX2_advance_199 C k_x0 hkm hW hZ _ (lv_sub hl [] rfl) hE
  · have hE := br_p hE c_1
    refine lv_aload_n C.1 C.2.1 dX2_advance_186 rfl (lv_at hl 0 rfl) ?_
    refine gf_X2_61 C hW k_x0 dX2_advance_187 ?_
    refine lv_iconst (v := (1 : Int32)) C.1 C.2.1 dX2_advance_190 (by decide) ?_
    refine lv_iadd C.1 C.2.1 dX2_advance_191 ?_
    refine lv_goto (tgt := 199) C.1 C.2.1 dX2_advance_192 (by decide) ?_
    exact bX2_advance_199 C k_x0 hkm hW hZ _ (lv_sub hl [] rfl) hE
set_option maxRecDepth 20000 in
theorem bX2_advance_227 {p : Program} {l : Launch} {e : Env} {s : State} {m : MethodId} {args : Array Value} {below : List Frame} {meth : Method} {c : Code} {X : Ec} {h0 : Hp} {o : Hp} {F : Nat} (C : Cx X p s m args meth c RX2 cX2_advance 2 none "advance") {h : Hp} {t0 : Int32} {t1 : Nat} {H : Heap} {locs : List Loc} (k_t1 : hK h t1 = 2) (hkm : Km h0 h) (hW : Wx X h H) (hZ : va_S (aA (eB X)) s.heap H locs) (ls : Array Slot) (hl : lv_has ls 2 []) (hE : sX2_advance_227 F h  t0 t1 = some o) : W p l e (rm 2 42) s m args below meth c H locs 0 0 (MQ below (QV X h0 o) args s 0 0 (aA (eB X))) (F0 m 227 ls [.int t0, .ref t1]) := by
  obtain ⟨h_1, eh_1, hE⟩ := nm_e2 hE
  refine pf_X2_38 C hW hZ k_t1 eh_1 dX2_advance_227 (fun _ _ hW km hZ => ?_)
  replace hkm := hkm.tr km
  exact bX2_advance_230 C hkm hW hZ _ (lv_sub hl [] rfl) hE
set_option maxRecDepth 20000 in
theorem bX2_advance_122 {p : Program} {l : Launch} {e : Env} {s : State} {m : MethodId} {args : Array Value} {below : List Frame} {meth : Method} {c : Code} {X : Ec} {h0 : Hp} {o : Hp} {F : Nat} (C : Cx X p s m args meth c RX2 cX2_advance 2 none "advance") : ∀ (f : Nat) {h : Hp} {x0 : Nat} {H : Heap} {locs : List Loc} (k_x0 : hK h x0 = 2), Km h0 h → Wx X h H → va_S (aA (eB X)) s.heap H locs → ∀ (ls : Array Slot), lv_has ls 2 [(0, .ref x0)] → sX2_advance_122 F f h x0 = some o → W p l e (rm 2 42) s m args below meth c H locs 0 0 (MQ below (QV X h0 o) args s 0 0 (aA (eB X))) (F0 m 122 ls []) := by
  intro f
  induction f with
  | zero =>
    intro h x0 H locs k_x0 hkm hW hZ ls hl hE
    rw [sX2_advance_122] at hE
    cases hE
  | succ f ih =>
    intro h x0 H locs k_x0 hkm hW hZ ls hl hE
    rw [sX2_advance_122] at hE
    have hk_122 : ∀ (h : Hp) (x0 : Nat) (H : Heap) (locs : List Loc), hK h x0 = 2 → Km h0 h → Wx X h H → va_S (aA (eB X)) s.heap H locs → ∀ (ls : Array Slot), lv_has ls 2 [(0, .ref x0)] → sX2_advance_122 F f h x0 = some o → W p l e (rm 2 42) s m args below meth c H locs 0 0 (MQ below (QV X h0 o) args s 0 0 (aA (eB X))) (F0 m 122 ls []) := fun h x0 H locs k_x0 a b c ls hl hE => ih k_x0 a b c ls hl hE
    refine lv_aload_n C.1 C.2.1 dX2_advance_122 rfl (lv_at hl 0 rfl) ?_
    refine gf_X2_24 C hW k_x0 dX2_advance_123 ?_
    refine lv_aload_n C.1 C.2.1 dX2_advance_126 rfl (lv_at hl 0 rfl) ?_
    obtain ⟨r_1, er_1, hE⟩ := cl_e hE
    refine gf_X2_9 C hW k_x0 er_1 dX2_advance_127 (fun k_r_1 => ?_)
    refine gf_X2_64 C hW k_r_1 dX2_advance_130 ?_
    refine lv_icmp_ge (tgt := 230) C.1 C.2.1 dX2_advance_133 (by decide) (fun c_2 => ?_) (fun c_2 => ?_)
    · have hE := br_p hE c_2
      exact bX2_advance_230 C hkm hW hZ _ (lv_sub hl [] rfl) hE
    · have hE := br_n hE c_2
      refine lv_aload_n C.1 C.2.1 dX2_advance_136 rfl (lv_at hl 0 rfl) ?_
      obtain ⟨r_3, er_3, hE⟩ := cl_e hE
      refine gf_X2_9 C hW k_x0 er_3 dX2_advance_137 (fun k_r_3 => ?_)
      refine lv_aload_n C.1 C.2.1 dX2_advance_140 rfl (lv_at hl 0 rfl) ?_
      refine gf_X2_24 C hW k_x0 dX2_advance_141 ?_
      obtain ⟨o_4, eo_4, hE⟩ := cl_e hE
      refine x_kI (o := o_4) (z_runV (As := [.int (hI h x0 3)]) (rest := []) C (ct_X9_byteAt l X k_r_3 eo_4) cw_X2_69 hW hZ k_r_3 (by decide) rfl rfl rfl hl.1 (Nat.le_of_ble_eq_true rfl) rfl dX2_advance_144 ⟨Nat.le_of_ble_eq_true rfl, Nat.le_of_ble_eq_true rfl⟩ ⟨Nat.le_refl _, Nat.le_refl _⟩) hZ (fun _ _ hW km hZ => ?_)
      replace hkm := hkm.tr km
      replace k_x0 := km.at k_x0 (by decide)
      obtain ⟨o_5, eo_5, hE⟩ := cl_e hE
      refine x_kI (o := o_5) (z_runS (As := [.int o_4.1]) (rest := []) C (ct_X2_isLetter l X eo_5) cw_X2_73 hW hZ rfl hl.1 (Nat.le_of_ble_eq_true rfl) rfl dX2_advance_147 ⟨Nat.le_of_ble_eq_true rfl, Nat.le_of_ble_eq_true rfl⟩ ⟨Nat.le_refl _, Nat.le_refl _⟩) hZ (fun _ _ hW km hZ => ?_)
      replace hkm := hkm.tr km
      replace k_x0 := km.at k_x0 (by decide)
      refine lv_if_eq (tgt := 230) C.1 C.2.1 dX2_advance_150 (by decide) (fun c_6 => ?_) (fun c_6 => ?_)
      · have hE := br_p hE c_6
        exact bX2_advance_230 C hkm hW hZ _ (lv_sub hl [] rfl) hE
      · have hE := br_n hE c_6
        refine lv_aload_n C.1 C.2.1 dX2_advance_153 rfl (lv_at hl 0 rfl) ?_
        refine lv_dup C.1 C.2.1 dX2_advance_154 rfl ?_
        refine gf_X2_24 C hW k_x0 dX2_advance_155 ?_
        refine lv_iconst (v := (1 : Int32)) C.1 C.2.1 dX2_advance_158 (by decide) ?_
        refine lv_iadd C.1 C.2.1 dX2_advance_159 ?_
        obtain ⟨h_7, eh_7, hE⟩ := nm_e2 hE
        refine pf_X2_24 C hW hZ k_x0 eh_7 dX2_advance_160 (fun _ _ hW km hZ => ?_)
        replace hkm := hkm.tr km
        replace k_x0 := km.at k_x0 (by decide)
        refine lv_goto (tgt := 122) C.1 C.2.1 dX2_advance_163 (by decide) ?_
        exact hk_122 _ _ _ _ k_x0 hkm hW hZ _ (lv_sub hl [0] rfl) hE
set_option maxRecDepth 20000 in
theorem bX2_advance_67 {p : Program} {l : Launch} {e : Env} {s : State} {m : MethodId} {args : Array Value} {below : List Frame} {meth : Method} {c : Code} {X : Ec} {h0 : Hp} {o : Hp} {F : Nat} (C : Cx X p s m args meth c RX2 cX2_advance 2 none "advance") {h : Hp} {x0 : Nat} {H : Heap} {locs : List Loc} (k_x0 : hK h x0 = 2) (hkm : Km h0 h) (hW : Wx X h H) (hZ : va_S (aA (eB X)) s.heap H locs) (ls : Array Slot) (hl : lv_has ls 2 [(0, .ref x0)]) (hE : sX2_advance_67 F h x0 = some o) : W p l e (rm 2 42) s m args below meth c H locs 0 0 (MQ below (QV X h0 o) args s 0 0 (aA (eB X))) (F0 m 67 ls []) := by
  refine lv_aload_n C.1 C.2.1 dX2_advance_67 rfl (lv_at hl 0 rfl) ?_
  obtain ⟨r_1, er_1, hE⟩ := cl_e hE
  refine gf_X2_9 C hW k_x0 er_1 dX2_advance_68 (fun k_r_1 => ?_)
  refine lv_aload_n C.1 C.2.1 dX2_advance_71 rfl (lv_at hl 0 rfl) ?_
  refine gf_X2_61 C hW k_x0 dX2_advance_72 ?_
  obtain ⟨o_2, eo_2, hE⟩ := cl_e hE
  refine x_kI (o := o_2) (z_runV (As := [.int (hI h x0 2)]) (rest := []) C (ct_X9_byteAt l X k_r_1 eo_2) cw_X2_69 hW hZ k_r_1 (by decide) rfl rfl rfl hl.1 (Nat.le_of_ble_eq_true rfl) rfl dX2_advance_75 ⟨Nat.le_of_ble_eq_true rfl, Nat.le_of_ble_eq_true rfl⟩ ⟨Nat.le_refl _, Nat.le_refl _⟩) hZ (fun _ _ hW km hZ => ?_)
  replace hkm := hkm.tr km
  replace k_x0 := km.at k_x0 (by decide)
  refine lv_istore_n (lv' := [(1, .int o_2.1), (0, .ref x0)]) C.1 C.2.1 dX2_advance_78 rfl hl (by decide) rfl (fun ls hl => ?_)
  refine lv_aload_n C.1 C.2.1 dX2_advance_79 rfl (lv_at hl 1 rfl) ?_
  refine lv_aload_n C.1 C.2.1 dX2_advance_80 rfl (lv_at hl 1 rfl) ?_
  refine gf_X2_61 C hW k_x0 dX2_advance_81 ?_
  refine lv_iconst (v := (1 : Int32)) C.1 C.2.1 dX2_advance_84 (by decide) ?_
  refine lv_iadd C.1 C.2.1 dX2_advance_85 ?_
  obtain ⟨h_3, eh_3, hE⟩ := nm_e2 hE
  refine pf_X2_24 C hW hZ k_x0 eh_3 dX2_advance_86 (fun _ _ hW km hZ => ?_)
  replace hkm := hkm.tr km
  replace k_x0 := km.at k_x0 (by decide)
  refine lv_iload_n C.1 C.2.1 dX2_advance_89 rfl (lv_at hl 0 rfl) ?_
  refine lv_iconst (v := (-1 : Int32)) C.1 C.2.1 dX2_advance_90 (by decide) ?_
  refine lv_icmp_ne (tgt := 110) C.1 C.2.1 dX2_advance_91 (by decide) (fun c_4 => ?_) (fun c_4 => ?_)
  · have hE := br_n hE c_4
    refine lv_iload_n C.1 C.2.1 dX2_advance_110 rfl (lv_at hl 0 rfl) ?_
    obtain ⟨o_5, eo_5, hE⟩ := cl_e hE
    refine x_kI (o := o_5) (z_runS (As := [.int o_2.1]) (rest := []) C (ct_X2_isLetter l X eo_5) cw_X2_73 hW hZ rfl hl.1 (Nat.le_of_ble_eq_true rfl) rfl dX2_advance_111 ⟨Nat.le_of_ble_eq_true rfl, Nat.le_of_ble_eq_true rfl⟩ ⟨Nat.le_refl _, Nat.le_refl _⟩) hZ (fun _ _ hW km hZ => ?_)
    replace hkm := hkm.tr km
    replace k_x0 := km.at k_x0 (by decide)
    refine lv_if_eq (tgt := 166) C.1 C.2.1 dX2_advance_114 (by decide) (fun c_6 => ?_) (fun c_6 => ?_)
    · have hE := br_p hE c_6
      refine lv_iload_n C.1 C.2.1 dX2_advance_166 rfl (lv_at hl 0 rfl) ?_
      obtain ⟨o_7, eo_7, hE⟩ := cl_e hE
      refine x_kI (o := o_7) (z_runS (As := [.int o_2.1]) (rest := []) C (ct_X2_isDigit l X eo_7) cw_X2_77 hW hZ rfl hl.1 (Nat.le_of_ble_eq_true rfl) rfl dX2_advance_167 ⟨Nat.le_of_ble_eq_true rfl, Nat.le_of_ble_eq_true rfl⟩ ⟨Nat.le_refl _, Nat.le_refl _⟩) hZ (fun _ _ hW km hZ => ?_)
      replace hkm := hkm.tr km
      replace k_x0 := km.at k_x0 (by decide)
      refine lv_if_ne (tgt := 179) C.1 C.2.1 dX2_advance_170 (by decide) (fun c_8 => ?_) (fun c_8 => ?_)
      · have hE := br_n hE c_8
        exact bX2_advance_179 C k_x0 hkm hW hZ _ (lv_sub hl [1, 0] rfl) hE
      · have hE := br_p hE c_8
        refine lv_iload_n C.1 C.2.1 dX2_advance_173 rfl (lv_at hl 0 rfl) ?_
        refine lv_bipush (v := (45 : Int32)) C.1 C.2.1 dX2_advance_174 (by decide) ?_
        refine lv_icmp_ne (tgt := 205) C.1 C.2.1 dX2_advance_176 (by decide) (fun c_9 => ?_) (fun c_9 => ?_)
        · have hE := br_n hE c_9
          refine lv_aload_n C.1 C.2.1 dX2_advance_205 rfl (lv_at hl 1 rfl) ?_
          refine lv_iload_n C.1 C.2.1 dX2_advance_206 rfl (lv_at hl 0 rfl) ?_
          refine lv_bipush (v := (59 : Int32)) C.1 C.2.1 dX2_advance_207 (by decide) ?_
          refine lv_icmp_ne (tgt := 216) C.1 C.2.1 dX2_advance_209 (by decide) (fun c_10 => ?_) (fun c_10 => ?_)
          · have hE := br_n hE c_10
            refine lv_iload_n C.1 C.2.1 dX2_advance_216 rfl (lv_at hl 0 rfl) ?_
            refine lv_bipush (v := (44 : Int32)) C.1 C.2.1 dX2_advance_217 (by decide) ?_
            refine lv_icmp_ne (tgt := 226) C.1 C.2.1 dX2_advance_219 (by decide) (fun c_11 => ?_) (fun c_11 => ?_)
            · have hE := br_n hE c_11
              refine lv_iconst (v := (5 : Int32)) C.1 C.2.1 dX2_advance_226 (by decide) ?_
              exact bX2_advance_227 C k_x0 hkm hW hZ _ (lv_sub hl [] rfl) hE
            · have hE := br_p hE c_11
              refine lv_iconst (v := (4 : Int32)) C.1 C.2.1 dX2_advance_222 (by decide) ?_
              refine lv_goto (tgt := 227) C.1 C.2.1 dX2_advance_223 (by decide) ?_
              exact bX2_advance_227 C k_x0 hkm hW hZ _ (lv_sub hl [] rfl) hE
          · have hE := br_p hE c_10
            refine lv_iconst (v := (3 : Int32)) C.1 C.2.1 dX2_advance_212 (by decide) ?_
            refine lv_goto (tgt := 227) C.1 C.2.1 dX2_advance_213 (by decide) ?_
            exact bX2_advance_227 C k_x0 hkm hW hZ _ (lv_sub hl [] rfl) hE
        · have hE := br_p hE c_9
          exact bX2_advance_179 C k_x0 hkm hW hZ _ (lv_sub hl [1, 0] rfl) hE
    · have hE := br_n hE c_6
      refine lv_aload_n C.1 C.2.1 dX2_advance_117 rfl (lv_at hl 1 rfl) ?_
      refine lv_iconst (v := (1 : Int32)) C.1 C.2.1 dX2_advance_118 (by decide) ?_
      obtain ⟨h_12, eh_12, hE⟩ := nm_e2 hE
      refine pf_X2_38 C hW hZ k_x0 eh_12 dX2_advance_119 (fun _ _ hW km hZ => ?_)
      replace hkm := hkm.tr km
      replace k_x0 := km.at k_x0 (by decide)
      exact bX2_advance_122 C F k_x0 hkm hW hZ _ (lv_sub hl [1] rfl) hE
  · have hE := br_p hE c_4
    refine lv_aload_n C.1 C.2.1 dX2_advance_94 rfl (lv_at hl 1 rfl) ?_
    refine lv_iconst (v := (0 : Int32)) C.1 C.2.1 dX2_advance_95 (by decide) ?_
    obtain ⟨h_13, eh_13, hE⟩ := nm_e2 hE
    refine pf_X2_38 C hW hZ k_x0 eh_13 dX2_advance_96 (fun _ _ hW km hZ => ?_)
    replace hkm := hkm.tr km
    replace k_x0 := km.at k_x0 (by decide)
    refine lv_aload_n C.1 C.2.1 dX2_advance_99 rfl (lv_at hl 1 rfl) ?_
    refine lv_aload_n C.1 C.2.1 dX2_advance_100 rfl (lv_at hl 1 rfl) ?_
    refine gf_X2_61 C hW k_x0 dX2_advance_101 ?_
    obtain ⟨h_14, eh_14, hE⟩ := nm_e2 hE
    refine pf_X2_24 C hW hZ k_x0 eh_14 dX2_advance_104 (fun _ _ hW km hZ => ?_)
    replace hkm := hkm.tr km
    replace k_x0 := km.at k_x0 (by decide)
    refine lv_goto (tgt := 230) C.1 C.2.1 dX2_advance_107 (by decide) ?_
    exact bX2_advance_230 C hkm hW hZ _ (lv_sub hl [] rfl) hE
set_option maxRecDepth 20000 in
theorem bX2_advance_54 {p : Program} {l : Launch} {e : Env} {s : State} {m : MethodId} {args : Array Value} {below : List Frame} {meth : Method} {c : Code} {X : Ec} {h0 : Hp} {o : Hp} {k_8 : Hp → Nat → Option (Hp)} {F : Nat} (C : Cx X p s m args meth c RX2 cX2_advance 2 none "advance") (hk_8 : ∀ (h : Hp) (x0 : Nat) (H : Heap) (locs : List Loc), hK h x0 = 2 → Km h0 h → Wx X h H → va_S (aA (eB X)) s.heap H locs → ∀ (ls : Array Slot), lv_has ls 2 [(0, .ref x0)] → k_8 h x0 = some o → W p l e (rm 2 42) s m args below meth c H locs 0 0 (MQ below (QV X h0 o) args s 0 0 (aA (eB X))) (F0 m 8 ls [])) {h : Hp} {x0 : Nat} {H : Heap} {locs : List Loc} (k_x0 : hK h x0 = 2) (hkm : Km h0 h) (hW : Wx X h H) (hZ : va_S (aA (eB X)) s.heap H locs) (ls : Array Slot) (hl : lv_has ls 2 [(0, .ref x0)]) (hE : sX2_advance_54 F k_8 h x0 = some o) : W p l e (rm 2 42) s m args below meth c H locs 0 0 (MQ below (QV X h0 o) args s 0 0 (aA (eB X))) (F0 m 54 ls []) := by
  refine lv_aload_n C.1 C.2.1 dX2_advance_54 rfl (lv_at hl 0 rfl) ?_
  refine lv_dup C.1 C.2.1 dX2_advance_55 rfl ?_
  refine gf_X2_61 C hW k_x0 dX2_advance_56 ?_
  refine lv_iconst (v := (1 : Int32)) C.1 C.2.1 dX2_advance_59 (by decide) ?_
  refine lv_iadd C.1 C.2.1 dX2_advance_60 ?_
  obtain ⟨h_1, eh_1, hE⟩ := nm_e2 hE
  refine pf_X2_61 C hW hZ k_x0 eh_1 dX2_advance_61 (fun _ _ hW km hZ => ?_)
  replace hkm := hkm.tr km
  replace k_x0 := km.at k_x0 (by decide)
  refine lv_goto (tgt := 8) C.1 C.2.1 dX2_advance_64 (by decide) ?_
  exact hk_8 _ _ _ _ k_x0 hkm hW hZ _ (lv_sub hl [0] rfl) hE
set_option maxRecDepth 20000 in
theorem bX2_advance_8 {p : Program} {l : Launch} {e : Env} {s : State} {m : MethodId} {args : Array Value} {below : List Frame} {meth : Method} {c : Code} {X : Ec} {h0 : Hp} {o : Hp} {F : Nat} (C : Cx X p s m args meth c RX2 cX2_advance 2 none "advance") : ∀ (f : Nat) {h : Hp} {x0 : Nat} {H : Heap} {locs : List Loc} (k_x0 : hK h x0 = 2), Km h0 h → Wx X h H → va_S (aA (eB X)) s.heap H locs → ∀ (ls : Array Slot), lv_has ls 2 [(0, .ref x0)] → sX2_advance_8 F f h x0 = some o → W p l e (rm 2 42) s m args below meth c H locs 0 0 (MQ below (QV X h0 o) args s 0 0 (aA (eB X))) (F0 m 8 ls []) := by
  intro f
  induction f with
  | zero =>
    intro h x0 H locs k_x0 hkm hW hZ ls hl hE
    rw [sX2_advance_8] at hE
    cases hE
  | succ f ih =>
    intro h x0 H locs k_x0 hkm hW hZ ls hl hE
    rw [sX2_advance_8] at hE
    have hk_8 : ∀ (h : Hp) (x0 : Nat) (H : Heap) (locs : List Loc), hK h x0 = 2 → Km h0 h → Wx X h H → va_S (aA (eB X)) s.heap H locs → ∀ (ls : Array Slot), lv_has ls 2 [(0, .ref x0)] → sX2_advance_8 F f h x0 = some o → W p l e (rm 2 42) s m args below meth c H locs 0 0 (MQ below (QV X h0 o) args s 0 0 (aA (eB X))) (F0 m 8 ls []) := fun h x0 H locs k_x0 a b c ls hl hE => ih k_x0 a b c ls hl hE
    refine lv_aload_n C.1 C.2.1 dX2_advance_8 rfl (lv_at hl 0 rfl) ?_
    refine gf_X2_61 C hW k_x0 dX2_advance_9 ?_
    refine lv_aload_n C.1 C.2.1 dX2_advance_12 rfl (lv_at hl 0 rfl) ?_
    obtain ⟨r_1, er_1, hE⟩ := cl_e hE
    refine gf_X2_9 C hW k_x0 er_1 dX2_advance_13 (fun k_r_1 => ?_)
    refine gf_X2_64 C hW k_r_1 dX2_advance_16 ?_
    refine lv_icmp_ge (tgt := 67) C.1 C.2.1 dX2_advance_19 (by decide) (fun c_2 => ?_) (fun c_2 => ?_)
    · have hE := br_p hE c_2
      exact bX2_advance_67 C k_x0 hkm hW hZ _ (lv_sub hl [0] rfl) hE
    · have hE := br_n hE c_2
      refine lv_aload_n C.1 C.2.1 dX2_advance_22 rfl (lv_at hl 0 rfl) ?_
      obtain ⟨r_3, er_3, hE⟩ := cl_e hE
      refine gf_X2_9 C hW k_x0 er_3 dX2_advance_23 (fun k_r_3 => ?_)
      refine lv_aload_n C.1 C.2.1 dX2_advance_26 rfl (lv_at hl 0 rfl) ?_
      refine gf_X2_61 C hW k_x0 dX2_advance_27 ?_
      obtain ⟨o_4, eo_4, hE⟩ := cl_e hE
      refine x_kI (o := o_4) (z_runV (As := [.int (hI h x0 2)]) (rest := []) C (ct_X9_byteAt l X k_r_3 eo_4) cw_X2_69 hW hZ k_r_3 (by decide) rfl rfl rfl hl.1 (Nat.le_of_ble_eq_true rfl) rfl dX2_advance_30 ⟨Nat.le_of_ble_eq_true rfl, Nat.le_of_ble_eq_true rfl⟩ ⟨Nat.le_refl _, Nat.le_refl _⟩) hZ (fun _ _ hW km hZ => ?_)
      replace hkm := hkm.tr km
      replace k_x0 := km.at k_x0 (by decide)
      refine lv_bipush (v := (32 : Int32)) C.1 C.2.1 dX2_advance_33 (by decide) ?_
      refine lv_icmp_eq (tgt := 54) C.1 C.2.1 dX2_advance_35 (by decide) (fun c_5 => ?_) (fun c_5 => ?_)
      · have hE := br_p hE c_5
        exact bX2_advance_54 C hk_8 k_x0 hkm hW hZ _ (lv_sub hl [0] rfl) hE
      · have hE := br_n hE c_5
        refine lv_aload_n C.1 C.2.1 dX2_advance_38 rfl (lv_at hl 0 rfl) ?_
        obtain ⟨r_6, er_6, hE⟩ := cl_e hE
        refine gf_X2_9 C hW k_x0 er_6 dX2_advance_39 (fun k_r_6 => ?_)
        refine lv_aload_n C.1 C.2.1 dX2_advance_42 rfl (lv_at hl 0 rfl) ?_
        refine gf_X2_61 C hW k_x0 dX2_advance_43 ?_
        obtain ⟨o_7, eo_7, hE⟩ := cl_e hE
        refine x_kI (o := o_7) (z_runV (As := [.int (hI o_4.2 x0 2)]) (rest := []) C (ct_X9_byteAt l X k_r_6 eo_7) cw_X2_69 hW hZ k_r_6 (by decide) rfl rfl rfl hl.1 (Nat.le_of_ble_eq_true rfl) rfl dX2_advance_46 ⟨Nat.le_of_ble_eq_true rfl, Nat.le_of_ble_eq_true rfl⟩ ⟨Nat.le_refl _, Nat.le_refl _⟩) hZ (fun _ _ hW km hZ => ?_)
        replace hkm := hkm.tr km
        replace k_x0 := km.at k_x0 (by decide)
        refine lv_bipush (v := (10 : Int32)) C.1 C.2.1 dX2_advance_49 (by decide) ?_
        refine lv_icmp_ne (tgt := 67) C.1 C.2.1 dX2_advance_51 (by decide) (fun c_8 => ?_) (fun c_8 => ?_)
        · have hE := br_n hE c_8
          exact bX2_advance_67 C k_x0 hkm hW hZ _ (lv_sub hl [0] rfl) hE
        · have hE := br_p hE c_8
          exact bX2_advance_54 C hk_8 k_x0 hkm hW hZ _ (lv_sub hl [0] rfl) hE
set_option maxRecDepth 20000 in
theorem ct_X2_advance (l : Launch) (X : Ec) (F : Nat) {h : Hp} {x0 : Nat} {o : Hp} (k_x0 : hK h x0 = 2) (hE : sX2_advance F h x0 = some o) : MetV l yX2_advance cX2_advance 2 none 2 42 X [.ref x0] h o := by
  refine x_met (by decide) (Nat.le_of_ble_eq_true rfl) ?_
  intro p e s m below meth c ls C hl hW hZ
  have hl : lv_has ls 2 [(0, .ref x0)] := hl
  have hkm : Km h h := Km.rf h
  refine lv_aload_n C.1 C.2.1 dX2_advance_0 rfl (lv_at hl 0 rfl) ?_
  refine lv_aload_n C.1 C.2.1 dX2_advance_1 rfl (lv_at hl 0 rfl) ?_
  refine gf_X2_24 C hW k_x0 dX2_advance_2 ?_
  obtain ⟨h_1, eh_1, hE⟩ := nm_e2 hE
  refine pf_X2_61 C hW hZ k_x0 eh_1 dX2_advance_5 (fun _ _ hW km hZ => ?_)
  replace hkm := hkm.tr km
  replace k_x0 := km.at k_x0 (by decide)
  exact bX2_advance_8 C F k_x0 hkm hW hZ _ (lv_sub hl [0] rfl) hE
set_option maxRecDepth 100000 in
theorem m_680 : Cond.methodLink RX2 87 yJ0_length_8abf5 ∈ W0 := w0_in (List.mem_append_right _ (List.mem_of_getElem? (i := 680) rfl)) rfl
set_option maxRecDepth 100000 in
theorem m_681 : Cond.methodLink RX2 92 yJ0_charAt_5068e ∈ W0 := w0_in (List.mem_append_right _ (List.mem_of_getElem? (i := 681) rfl)) rfl
section
variable {p : Program} {l : Launch} {e : Env} {R : Room} {s : State} {m : MethodId} {args : Array Value} {below : List Frame} {meth : Method} {c : Code} {H : Heap} {locs : List Loc} {cells slots : Nat} {Q : State → Prop}
variable {cc : ByteArray} {pc : Nat} {ls : Array Slot} {rest : List Value} {X : Ec} {h h1 : Hp} {nL : Nat} {rt : Option FieldType} {mn : String}
theorem gf_X2_38 {a : Nat} (C : Cx X p s m args meth c RX2 cc nL rt mn) (hW : Wx X h H) (ha : hK h a = 2) (hdg : decode cc pc = .ok (.getfield 38, 3)) (kk : W p l e R s m args below meth c H locs cells slots Q (F0 m (pc + 3) ls (.int (hI h a 4) :: rest))) : W p l e R s m args below meth c H locs cells slots Q (F0 m pc ls (.ref a :: rest)) :=
  y_geti C hW ha i_X2 (by decide) rfl (by decide) m_199 rfl hdg kk
end
theorem cw_X2_87 : cwd RX2 87 yJ0_length_8abf5 cJ0_length_8abf5 1 (some .int) false 0 := ⟨m_593, m_680, m_15, ⟨m_591, m_592⟩, by decide, by decide, by decide +kernel⟩
theorem cw_X2_92 : cwd RX2 92 yJ0_charAt_5068e cJ0_charAt_5068e 2 (some .char) false 1 := ⟨m_603, m_681, m_15, ⟨m_601, m_602⟩, by decide, by decide, by decide +kernel⟩
theorem dX2_isWord_0 : decode cX2_isWord 0 = .ok (.aload_n 0, 1) := by decide +kernel
theorem dX2_isWord_1 : decode cX2_isWord 1 = .ok (.getfield 38, 3) := by decide +kernel
theorem dX2_isWord_4 : decode cX2_isWord 4 = .ok (.iconst 1, 1) := by decide +kernel
theorem dX2_isWord_5 : decode cX2_isWord 5 = .ok (.if_icmp .ne 19, 3) := by decide +kernel
theorem dX2_isWord_8 : decode cX2_isWord 8 = .ok (.aload_n 0, 1) := by decide +kernel
theorem dX2_isWord_9 : decode cX2_isWord 9 = .ok (.getfield 24, 3) := by decide +kernel
theorem dX2_isWord_12 : decode cX2_isWord 12 = .ok (.aload_n 0, 1) := by decide +kernel
theorem dX2_isWord_13 : decode cX2_isWord 13 = .ok (.getfield 61, 3) := by decide +kernel
theorem dX2_isWord_16 : decode cX2_isWord 16 = .ok (.isub, 1) := by decide +kernel
theorem dX2_isWord_17 : decode cX2_isWord 17 = .ok (.aload_n 1, 1) := by decide +kernel
theorem dX2_isWord_18 : decode cX2_isWord 18 = .ok (.invokevirtual 87, 3) := by decide +kernel
theorem dX2_isWord_21 : decode cX2_isWord 21 = .ok (.if_icmp .eq 5, 3) := by decide +kernel
theorem dX2_isWord_24 : decode cX2_isWord 24 = .ok (.iconst 0, 1) := by decide +kernel
theorem dX2_isWord_25 : decode cX2_isWord 25 = .ok (.ireturn, 1) := by decide +kernel
theorem dX2_isWord_26 : decode cX2_isWord 26 = .ok (.iconst 0, 1) := by decide +kernel
theorem dX2_isWord_27 : decode cX2_isWord 27 = .ok (.istore_n 2, 1) := by decide +kernel
theorem dX2_isWord_28 : decode cX2_isWord 28 = .ok (.iload_n 2, 1) := by decide +kernel
theorem dX2_isWord_29 : decode cX2_isWord 29 = .ok (.aload_n 1, 1) := by decide +kernel
theorem dX2_isWord_30 : decode cX2_isWord 30 = .ok (.invokevirtual 87, 3) := by decide +kernel
theorem dX2_isWord_33 : decode cX2_isWord 33 = .ok (.if_icmp .ge 32, 3) := by decide +kernel
theorem dX2_isWord_36 : decode cX2_isWord 36 = .ok (.aload_n 0, 1) := by decide +kernel
theorem dX2_isWord_37 : decode cX2_isWord 37 = .ok (.getfield 9, 3) := by decide +kernel
theorem dX2_isWord_40 : decode cX2_isWord 40 = .ok (.aload_n 0, 1) := by decide +kernel
theorem dX2_isWord_41 : decode cX2_isWord 41 = .ok (.getfield 61, 3) := by decide +kernel
theorem dX2_isWord_44 : decode cX2_isWord 44 = .ok (.iload_n 2, 1) := by decide +kernel
theorem dX2_isWord_45 : decode cX2_isWord 45 = .ok (.iadd, 1) := by decide +kernel
theorem dX2_isWord_46 : decode cX2_isWord 46 = .ok (.invokevirtual 69, 3) := by decide +kernel
theorem dX2_isWord_49 : decode cX2_isWord 49 = .ok (.aload_n 1, 1) := by decide +kernel
theorem dX2_isWord_50 : decode cX2_isWord 50 = .ok (.iload_n 2, 1) := by decide +kernel
theorem dX2_isWord_51 : decode cX2_isWord 51 = .ok (.invokevirtual 92, 3) := by decide +kernel
theorem dX2_isWord_54 : decode cX2_isWord 54 = .ok (.if_icmp .eq 5, 3) := by decide +kernel
theorem dX2_isWord_57 : decode cX2_isWord 57 = .ok (.iconst 0, 1) := by decide +kernel
theorem dX2_isWord_58 : decode cX2_isWord 58 = .ok (.ireturn, 1) := by decide +kernel
theorem dX2_isWord_59 : decode cX2_isWord 59 = .ok (.iinc 2 1, 3) := by decide +kernel
theorem dX2_isWord_62 : decode cX2_isWord 62 = .ok (.goto (-34), 3) := by decide +kernel
theorem dX2_isWord_65 : decode cX2_isWord 65 = .ok (.iconst 1, 1) := by decide +kernel
theorem dX2_isWord_66 : decode cX2_isWord 66 = .ok (.ireturn, 1) := by decide +kernel
set_option maxRecDepth 20000 in
theorem moX2_isWord_24 {o : Int32 × Hp} {F : Nat} {h : Hp} (hE : sX2_isWord_24 F h  = some o) : Le h o.2 := by
  exact le_some2 hE
set_option maxRecDepth 20000 in
theorem moX2_isWord_28 {o : Int32 × Hp} {F : Nat} : ∀ (f : Nat) {h : Hp} {x0 : Nat} {x1 : Nat} {x2 : Int32}, sX2_isWord_28 F f h x0 x1 x2 = some o → Le h o.2 := by
  intro f
  induction f with
  | zero =>
    intro h x0 x1 x2 hE
    rw [sX2_isWord_28] at hE
    cases hE
  | succ f ih =>
    intro h x0 x1 x2 hE
    rw [sX2_isWord_28] at hE
    have mk_28 : ∀ (h : Hp) (x0 : Nat) (x1 : Nat) (x2 : Int32), sX2_isWord_28 F f h x0 x1 x2 = some o → Le h o.2 := fun h x0 x1 x2 hE => ih hE
    rcases br_e hE with ⟨_, hE⟩ | ⟨_, hE⟩
    · exact le_some2 hE
    · obtain ⟨r_2, er_2, hE⟩ := cl_e hE
      obtain ⟨o_3, eo_3, hE⟩ := cl_e hE
      refine (moX9_byteAt eo_3).tr ?_
      obtain ⟨g_4, hE⟩ := gd_e hE
      rcases br_e hE with ⟨_, hE⟩ | ⟨_, hE⟩
      · obtain ⟨v_6, ev_6, hE⟩ := nm_e2 hE
        exact mk_28 _ _ _ _ hE
      · exact le_some2 hE
set_option maxRecDepth 20000 in
theorem moX2_isWord {o : Int32 × Hp} {F : Nat} {h : Hp} {x0 : Nat} {x1 : Nat} (hE : sX2_isWord F h x0 x1 = some o) : Le h o.2 := by
  rcases br_e hE with ⟨_, hE⟩ | ⟨_, hE⟩
  · rcases br_e hE with ⟨_, hE⟩ | ⟨_, hE⟩
    · exact moX2_isWord_28 _ hE
    · exact moX2_isWord_24 hE
  · exact moX2_isWord_24 hE
set_option maxRecDepth 20000 in
theorem bX2_isWord_24 {p : Program} {l : Launch} {e : Env} {s : State} {m : MethodId} {args : Array Value} {below : List Frame} {meth : Method} {c : Code} {X : Ec} {h0 : Hp} {o : Int32 × Hp} {F : Nat} (C : Cx X p s m args meth c RX2 cX2_isWord 3 (some .boolean) "isWord") {h : Hp} {H : Heap} {locs : List Loc} (hkm : Km h0 h) (hW : Wx X h H) (hZ : va_S (aA (eB X)) s.heap H locs) (ls : Array Slot) (hl : lv_has ls 3 []) (hE : sX2_isWord_24 F h  = some o) : W p l e (rm 4 85) s m args below meth c H locs 0 0 (MQ below (QI X h0 o.1 o.2) args s 0 0 (aA (eB X))) (F0 m 24 ls []) := by
  refine lv_iconst (v := (0 : Int32)) C.1 C.2.1 dX2_isWord_24 (by decide) ?_
  exact x_iret C rfl (by decide) hW hZ hkm hE dX2_isWord_25
set_option maxRecDepth 20000 in
theorem bX2_isWord_28 {p : Program} {l : Launch} {e : Env} {s : State} {m : MethodId} {args : Array Value} {below : List Frame} {meth : Method} {c : Code} {X : Ec} {h0 : Hp} {o : Int32 × Hp} {F : Nat} (C : Cx X p s m args meth c RX2 cX2_isWord 3 (some .boolean) "isWord") : ∀ (f : Nat) {h : Hp} {x0 : Nat} {x1 : Nat} {x2 : Int32} {H : Heap} {locs : List Loc} (k_x0 : hK h x0 = 2) (k_x1 : x1 < 52), Km h0 h → Wx X h H → va_S (aA (eB X)) s.heap H locs → ∀ (ls : Array Slot), lv_has ls 3 [(0, .ref x0), (1, .ref (X.2.2.2.1 x1)), (2, .int x2)] → sX2_isWord_28 F f h x0 x1 x2 = some o → W p l e (rm 4 85) s m args below meth c H locs 0 0 (MQ below (QI X h0 o.1 o.2) args s 0 0 (aA (eB X))) (F0 m 28 ls []) := by
  intro f
  induction f with
  | zero =>
    intro h x0 x1 x2 H locs k_x0 k_x1 hkm hW hZ ls hl hE
    rw [sX2_isWord_28] at hE
    cases hE
  | succ f ih =>
    intro h x0 x1 x2 H locs k_x0 k_x1 hkm hW hZ ls hl hE
    rw [sX2_isWord_28] at hE
    have hk_28 : ∀ (h : Hp) (x0 : Nat) (x1 : Nat) (x2 : Int32) (H : Heap) (locs : List Loc), hK h x0 = 2 → x1 < 52 → Km h0 h → Wx X h H → va_S (aA (eB X)) s.heap H locs → ∀ (ls : Array Slot), lv_has ls 3 [(0, .ref x0), (1, .ref (X.2.2.2.1 x1)), (2, .int x2)] → sX2_isWord_28 F f h x0 x1 x2 = some o → W p l e (rm 4 85) s m args below meth c H locs 0 0 (MQ below (QI X h0 o.1 o.2) args s 0 0 (aA (eB X))) (F0 m 28 ls []) := fun h x0 x1 x2 H locs k_x0 k_x1 a b c ls hl hE => ih k_x0 k_x1 a b c ls hl hE
    refine lv_iload_n C.1 C.2.1 dX2_isWord_28 rfl (lv_at hl 2 rfl) ?_
    refine lv_aload_n C.1 C.2.1 dX2_isWord_29 rfl (lv_at hl 1 rfl) ?_
    refine x_kI (o := (nI (lB x1).length, h)) (x_runVS (As := []) (rest := [.int x2]) C (ct_J0_length_8abf5 l X k_x1) cw_X2_87 hW hZ k_x1 rfl rfl hl.1 (Nat.le_of_ble_eq_true rfl) rfl dX2_isWord_30 ⟨Nat.le_of_ble_eq_true rfl, Nat.le_of_ble_eq_true rfl⟩ ⟨Nat.le_refl _, Nat.le_refl _⟩) hZ (fun _ _ hW km hZ => ?_)
    refine lv_icmp_ge (tgt := 65) C.1 C.2.1 dX2_isWord_33 (by decide) (fun c_1 => ?_) (fun c_1 => ?_)
    · have hE := br_p hE c_1
      refine lv_iconst (v := (1 : Int32)) C.1 C.2.1 dX2_isWord_65 (by decide) ?_
      exact x_iret C rfl (by decide) hW hZ hkm hE dX2_isWord_66
    · have hE := br_n hE c_1
      refine lv_aload_n C.1 C.2.1 dX2_isWord_36 rfl (lv_at hl 0 rfl) ?_
      obtain ⟨r_2, er_2, hE⟩ := cl_e hE
      refine gf_X2_9 C hW k_x0 er_2 dX2_isWord_37 (fun k_r_2 => ?_)
      refine lv_aload_n C.1 C.2.1 dX2_isWord_40 rfl (lv_at hl 0 rfl) ?_
      refine gf_X2_61 C hW k_x0 dX2_isWord_41 ?_
      refine lv_iload_n C.1 C.2.1 dX2_isWord_44 rfl (lv_at hl 2 rfl) ?_
      refine lv_iadd C.1 C.2.1 dX2_isWord_45 ?_
      obtain ⟨o_3, eo_3, hE⟩ := cl_e hE
      refine x_kI (o := o_3) (z_runV (As := [.int ((hI h x0 2) + x2)]) (rest := []) C (ct_X9_byteAt l X k_r_2 eo_3) cw_X2_69 hW hZ k_r_2 (by decide) rfl rfl rfl hl.1 (Nat.le_of_ble_eq_true rfl) rfl dX2_isWord_46 ⟨Nat.le_of_ble_eq_true rfl, Nat.le_of_ble_eq_true rfl⟩ ⟨Nat.le_refl _, Nat.le_refl _⟩) hZ (fun _ _ hW km hZ => ?_)
      replace hkm := hkm.tr km
      replace k_x0 := km.at k_x0 (by decide)
      refine lv_aload_n C.1 C.2.1 dX2_isWord_49 rfl (lv_at hl 1 rfl) ?_
      refine lv_iload_n C.1 C.2.1 dX2_isWord_50 rfl (lv_at hl 2 rfl) ?_
      obtain ⟨g_4, hE⟩ := gd_e hE
      refine x_kI (o := (schr x1 x2, o_3.2)) (x_runVS (As := [.int x2]) (rest := [.int o_3.1]) C (ct_J0_charAt_5068e l X k_x1 g_4) cw_X2_92 hW hZ k_x1 rfl rfl hl.1 (Nat.le_of_ble_eq_true rfl) rfl dX2_isWord_51 ⟨Nat.le_of_ble_eq_true rfl, Nat.le_of_ble_eq_true rfl⟩ ⟨Nat.le_refl _, Nat.le_refl _⟩) hZ (fun _ _ hW km hZ => ?_)
      refine lv_icmp_eq (tgt := 59) C.1 C.2.1 dX2_isWord_54 (by decide) (fun c_5 => ?_) (fun c_5 => ?_)
      · have hE := br_p hE c_5
        obtain ⟨v_6, ev_6, hE⟩ := nm_e2 hE
        refine lv_iinc (v := v_6) (lv' := [(2, .int v_6), (0, .ref x0), (1, .ref (X.2.2.2.1 x1))]) C.1 C.2.1 dX2_isWord_59 hl (k := 2) rfl (by rw [ev_6]; rfl) (by decide) rfl (fun ls hl => ?_)
        refine lv_goto (tgt := 28) C.1 C.2.1 dX2_isWord_62 (by decide) ?_
        exact hk_28 _ _ _ _ _ _ k_x0 k_x1 hkm hW hZ _ (lv_sub hl [1, 2, 0] rfl) hE
      · have hE := br_n hE c_5
        refine lv_iconst (v := (0 : Int32)) C.1 C.2.1 dX2_isWord_57 (by decide) ?_
        exact x_iret C rfl (by decide) hW hZ hkm hE dX2_isWord_58
set_option maxRecDepth 20000 in
theorem ct_X2_isWord (l : Launch) (X : Ec) (F : Nat) {h : Hp} {x0 : Nat} {x1 : Nat} {o : Int32 × Hp} (k_x0 : hK h x0 = 2) (k_x1 : x1 < 52) (hE : sX2_isWord F h x0 x1 = some o) : MetI l yX2_isWord cX2_isWord 3 (some .boolean) 4 85 X [.ref x0, .ref (X.2.2.2.1 x1)] h o := by
  refine x_met (by decide) (Nat.le_of_ble_eq_true rfl) ?_
  intro p e s m below meth c ls C hl hW hZ
  have hl : lv_has ls 3 [(0, .ref x0), (1, .ref (X.2.2.2.1 x1))] := hl
  have hkm : Km h h := Km.rf h
  refine lv_aload_n C.1 C.2.1 dX2_isWord_0 rfl (lv_at hl 0 rfl) ?_
  refine gf_X2_38 C hW k_x0 dX2_isWord_1 ?_
  refine lv_iconst (v := (1 : Int32)) C.1 C.2.1 dX2_isWord_4 (by decide) ?_
  refine lv_icmp_ne (tgt := 24) C.1 C.2.1 dX2_isWord_5 (by decide) (fun c_1 => ?_) (fun c_1 => ?_)
  · have hE := br_n hE c_1
    exact bX2_isWord_24 C hkm hW hZ _ (lv_sub hl [] rfl) hE
  · have hE := br_p hE c_1
    refine lv_aload_n C.1 C.2.1 dX2_isWord_8 rfl (lv_at hl 0 rfl) ?_
    refine gf_X2_24 C hW k_x0 dX2_isWord_9 ?_
    refine lv_aload_n C.1 C.2.1 dX2_isWord_12 rfl (lv_at hl 0 rfl) ?_
    refine gf_X2_61 C hW k_x0 dX2_isWord_13 ?_
    refine lv_isub C.1 C.2.1 dX2_isWord_16 ?_
    refine lv_aload_n C.1 C.2.1 dX2_isWord_17 rfl (lv_at hl 1 rfl) ?_
    refine x_kI (o := (nI (lB x1).length, h)) (x_runVS (As := []) (rest := [.int ((hI h x0 3) - (hI h x0 2))]) C (ct_J0_length_8abf5 l X k_x1) cw_X2_87 hW hZ k_x1 rfl rfl hl.1 (Nat.le_of_ble_eq_true rfl) rfl dX2_isWord_18 ⟨Nat.le_of_ble_eq_true rfl, Nat.le_of_ble_eq_true rfl⟩ ⟨Nat.le_refl _, Nat.le_refl _⟩) hZ (fun _ _ hW km hZ => ?_)
    refine lv_icmp_eq (tgt := 26) C.1 C.2.1 dX2_isWord_21 (by decide) (fun c_2 => ?_) (fun c_2 => ?_)
    · have hE := br_p hE c_2
      refine lv_iconst (v := (0 : Int32)) C.1 C.2.1 dX2_isWord_26 (by decide) ?_
      refine lv_istore_n (lv' := [(2, .int (0 : Int32)), (0, .ref x0), (1, .ref (X.2.2.2.1 x1))]) C.1 C.2.1 dX2_isWord_27 rfl hl (by decide) rfl (fun ls hl => ?_)
      exact bX2_isWord_28 C F k_x0 k_x1 hkm hW hZ _ (lv_sub hl [1, 2, 0] rfl) hE
    · have hE := br_n hE c_2
      exact bX2_isWord_24 C hkm hW hZ _ (lv_sub hl [] rfl) hE
theorem dX2_isNumber_0 : decode cX2_isNumber 0 = .ok (.aload_n 0, 1) := by decide +kernel
theorem dX2_isNumber_1 : decode cX2_isNumber 1 = .ok (.getfield 38, 3) := by decide +kernel
theorem dX2_isNumber_4 : decode cX2_isNumber 4 = .ok (.iconst 2, 1) := by decide +kernel
theorem dX2_isNumber_5 : decode cX2_isNumber 5 = .ok (.if_icmp .ne 23, 3) := by decide +kernel
theorem dX2_isNumber_8 : decode cX2_isNumber 8 = .ok (.aload_n 0, 1) := by decide +kernel
theorem dX2_isNumber_9 : decode cX2_isNumber 9 = .ok (.getfield 84, 3) := by decide +kernel
theorem dX2_isNumber_12 : decode cX2_isNumber 12 = .ok (.iload_n 1, 1) := by decide +kernel
theorem dX2_isNumber_13 : decode cX2_isNumber 13 = .ok (.if_icmp .lt 15, 3) := by decide +kernel
theorem dX2_isNumber_16 : decode cX2_isNumber 16 = .ok (.aload_n 0, 1) := by decide +kernel
theorem dX2_isNumber_17 : decode cX2_isNumber 17 = .ok (.getfield 84, 3) := by decide +kernel
theorem dX2_isNumber_20 : decode cX2_isNumber 20 = .ok (.iload_n 2, 1) := by decide +kernel
theorem dX2_isNumber_21 : decode cX2_isNumber 21 = .ok (.if_icmp .gt 7, 3) := by decide +kernel
theorem dX2_isNumber_24 : decode cX2_isNumber 24 = .ok (.iconst 1, 1) := by decide +kernel
theorem dX2_isNumber_25 : decode cX2_isNumber 25 = .ok (.goto 4, 3) := by decide +kernel
theorem dX2_isNumber_28 : decode cX2_isNumber 28 = .ok (.iconst 0, 1) := by decide +kernel
theorem dX2_isNumber_29 : decode cX2_isNumber 29 = .ok (.ireturn, 1) := by decide +kernel
set_option maxRecDepth 20000 in
theorem moX2_isNumber_29 {o : Int32 × Hp} {h : Hp} {t0 : Int32} (hE : sX2_isNumber_29 h  t0 = some o) : Le h o.2 := by
  obtain ⟨g_1, hE⟩ := gd_e hE
  exact le_some2 hE
set_option maxRecDepth 20000 in
theorem moX2_isNumber_28 {o : Int32 × Hp} {h : Hp} (hE : sX2_isNumber_28 h  = some o) : Le h o.2 := by
  exact moX2_isNumber_29 hE
set_option maxRecDepth 20000 in
theorem moX2_isNumber {o : Int32 × Hp} {h : Hp} {x0 : Nat} {x1 : Int32} {x2 : Int32} (hE : sX2_isNumber h x0 x1 x2 = some o) : Le h o.2 := by
  rcases br_e hE with ⟨_, hE⟩ | ⟨_, hE⟩
  · rcases br_e hE with ⟨_, hE⟩ | ⟨_, hE⟩
    · exact moX2_isNumber_28 hE
    · rcases br_e hE with ⟨_, hE⟩ | ⟨_, hE⟩
      · exact moX2_isNumber_28 hE
      · exact moX2_isNumber_29 hE
  · exact moX2_isNumber_28 hE
set_option maxRecDepth 20000 in
theorem bX2_isNumber_29 {p : Program} {l : Launch} {e : Env} {s : State} {m : MethodId} {args : Array Value} {below : List Frame} {meth : Method} {c : Code} {X : Ec} {h0 : Hp} {o : Int32 × Hp} (C : Cx X p s m args meth c RX2 cX2_isNumber 3 (some .boolean) "isNumber") {h : Hp} {t0 : Int32} {H : Heap} {locs : List Loc} (hkm : Km h0 h) (hW : Wx X h H) (hZ : va_S (aA (eB X)) s.heap H locs) (ls : Array Slot) (hl : lv_has ls 3 []) (hE : sX2_isNumber_29 h  t0 = some o) : W p l e (rm 0 0) s m args below meth c H locs 0 0 (MQ below (QI X h0 o.1 o.2) args s 0 0 (aA (eB X))) (F0 m 29 ls [.int t0]) := by
  obtain ⟨g_1, hE⟩ := gd_e hE
  exact x_iret C rfl (narB g_1) hW hZ hkm hE dX2_isNumber_29
set_option maxRecDepth 20000 in
theorem bX2_isNumber_28 {p : Program} {l : Launch} {e : Env} {s : State} {m : MethodId} {args : Array Value} {below : List Frame} {meth : Method} {c : Code} {X : Ec} {h0 : Hp} {o : Int32 × Hp} (C : Cx X p s m args meth c RX2 cX2_isNumber 3 (some .boolean) "isNumber") {h : Hp} {H : Heap} {locs : List Loc} (hkm : Km h0 h) (hW : Wx X h H) (hZ : va_S (aA (eB X)) s.heap H locs) (ls : Array Slot) (hl : lv_has ls 3 []) (hE : sX2_isNumber_28 h  = some o) : W p l e (rm 0 0) s m args below meth c H locs 0 0 (MQ below (QI X h0 o.1 o.2) args s 0 0 (aA (eB X))) (F0 m 28 ls []) := by
  refine lv_iconst (v := (0 : Int32)) C.1 C.2.1 dX2_isNumber_28 (by decide) ?_
  exact bX2_isNumber_29 C hkm hW hZ _ (lv_sub hl [] rfl) hE
set_option maxRecDepth 20000 in
theorem ct_X2_isNumber (l : Launch) (X : Ec) {h : Hp} {x0 : Nat} {x1 : Int32} {x2 : Int32} {o : Int32 × Hp} (k_x0 : hK h x0 = 2) (hE : sX2_isNumber h x0 x1 x2 = some o) : MetI l yX2_isNumber cX2_isNumber 3 (some .boolean) 0 0 X [.ref x0, .int x1, .int x2] h o := by
  refine x_met (by decide) (Nat.le_of_ble_eq_true rfl) ?_
  intro p e s m below meth c ls C hl hW hZ
  have hl : lv_has ls 3 [(0, .ref x0), (1, .int x1), (2, .int x2)] := hl
  have hkm : Km h h := Km.rf h
  refine lv_aload_n C.1 C.2.1 dX2_isNumber_0 rfl (lv_at hl 0 rfl) ?_
  refine gf_X2_38 C hW k_x0 dX2_isNumber_1 ?_
  refine lv_iconst (v := (2 : Int32)) C.1 C.2.1 dX2_isNumber_4 (by decide) ?_
  refine lv_icmp_ne (tgt := 28) C.1 C.2.1 dX2_isNumber_5 (by decide) (fun c_1 => ?_) (fun c_1 => ?_)
  · have hE := br_n hE c_1
    exact bX2_isNumber_28 C hkm hW hZ _ (lv_sub hl [] rfl) hE
  · have hE := br_p hE c_1
    refine lv_aload_n C.1 C.2.1 dX2_isNumber_8 rfl (lv_at hl 0 rfl) ?_
    refine gf_X2_84 C hW k_x0 dX2_isNumber_9 ?_
    refine lv_iload_n C.1 C.2.1 dX2_isNumber_12 rfl (lv_at hl 1 rfl) ?_
    refine lv_icmp_lt (tgt := 28) C.1 C.2.1 dX2_isNumber_13 (by decide) (fun c_2 => ?_) (fun c_2 => ?_)
    · have hE := br_p hE c_2
      exact bX2_isNumber_28 C hkm hW hZ _ (lv_sub hl [] rfl) hE
    · have hE := br_n hE c_2
      refine lv_aload_n C.1 C.2.1 dX2_isNumber_16 rfl (lv_at hl 0 rfl) ?_
      refine gf_X2_84 C hW k_x0 dX2_isNumber_17 ?_
      refine lv_iload_n C.1 C.2.1 dX2_isNumber_20 rfl (lv_at hl 2 rfl) ?_
      refine lv_icmp_gt (tgt := 28) C.1 C.2.1 dX2_isNumber_21 (by decide) (fun c_3 => ?_) (fun c_3 => ?_)
      · have hE := br_p hE c_3
        exact bX2_isNumber_28 C hkm hW hZ _ (lv_sub hl [] rfl) hE
      · have hE := br_n hE c_3
        refine lv_iconst (v := (1 : Int32)) C.1 C.2.1 dX2_isNumber_24 (by decide) ?_
        refine lv_goto (tgt := 29) C.1 C.2.1 dX2_isNumber_25 (by decide) ?_
        exact bX2_isNumber_29 C hkm hW hZ _ (lv_sub hl [] rfl) hE
set_option maxRecDepth 100000 in
theorem ms_0 : Cond.selects RX2 yX2_advance yX2_advance ∈ W0 := w0_in (List.mem_append_left _ (List.mem_of_getElem? (i := 0) rfl)) rfl
set_option maxRecDepth 100000 in
theorem m_653 : Cond.methodLink RX2 31 yX2_advance ∈ W0 := w0_in (List.mem_append_right _ (List.mem_of_getElem? (i := 653) rfl)) rfl
set_option maxRecDepth 100000 in
theorem m_655 : Cond.instanceMethod yX2_advance ∈ W0 := w0_in (List.mem_append_right _ (List.mem_of_getElem? (i := 655) rfl)) rfl
set_option maxRecDepth 100000 in
theorem m_656 : Cond.code yX2_advance cX2_advance 2 none ∈ W0 := w0_in (List.mem_append_right _ (List.mem_of_getElem? (i := 656) rfl)) rfl
theorem cw_X2_31 : cwd RX2 31 yX2_advance cX2_advance 2 none false 0 := ⟨m_656, m_653, m_5, ⟨m_655, ms_0⟩, by decide, by decide, by decide +kernel⟩
theorem dX2_takeEnd_0 : decode cX2_takeEnd 0 = .ok (.aload_n 0, 1) := by decide +kernel
theorem dX2_takeEnd_1 : decode cX2_takeEnd 1 = .ok (.getfield 38, 3) := by decide +kernel
theorem dX2_takeEnd_4 : decode cX2_takeEnd 4 = .ok (.iconst 3, 1) := by decide +kernel
theorem dX2_takeEnd_5 : decode cX2_takeEnd 5 = .ok (.if_icmp .eq 5, 3) := by decide +kernel
theorem dX2_takeEnd_8 : decode cX2_takeEnd 8 = .ok (.iconst 0, 1) := by decide +kernel
theorem dX2_takeEnd_9 : decode cX2_takeEnd 9 = .ok (.ireturn, 1) := by decide +kernel
theorem dX2_takeEnd_10 : decode cX2_takeEnd 10 = .ok (.aload_n 0, 1) := by decide +kernel
theorem dX2_takeEnd_11 : decode cX2_takeEnd 11 = .ok (.invokevirtual 31, 3) := by decide +kernel
theorem dX2_takeEnd_14 : decode cX2_takeEnd 14 = .ok (.iconst 1, 1) := by decide +kernel
theorem dX2_takeEnd_15 : decode cX2_takeEnd 15 = .ok (.ireturn, 1) := by decide +kernel
set_option maxRecDepth 20000 in
theorem moX2_takeEnd {o : Int32 × Hp} {F : Nat} {h : Hp} {x0 : Nat} (hE : sX2_takeEnd F h x0 = some o) : Le h o.2 := by
  rcases br_e hE with ⟨_, hE⟩ | ⟨_, hE⟩
  · obtain ⟨o_2, eo_2, hE⟩ := cl_e hE
    refine (moX2_advance eo_2).tr ?_
    exact le_some2 hE
  · exact le_some2 hE
set_option maxRecDepth 20000 in
theorem ct_X2_takeEnd (l : Launch) (X : Ec) (F : Nat) {h : Hp} {x0 : Nat} {o : Int32 × Hp} (k_x0 : hK h x0 = 2) (hE : sX2_takeEnd F h x0 = some o) : MetI l yX2_takeEnd cX2_takeEnd 1 (some .boolean) 3 63 X [.ref x0] h o := by
  refine x_met (by decide) (Nat.le_of_ble_eq_true rfl) ?_
  intro p e s m below meth c ls C hl hW hZ
  have hl : lv_has ls 1 [(0, .ref x0)] := hl
  have hkm : Km h h := Km.rf h
  refine lv_aload_n C.1 C.2.1 dX2_takeEnd_0 rfl (lv_at hl 0 rfl) ?_
  refine gf_X2_38 C hW k_x0 dX2_takeEnd_1 ?_
  refine lv_iconst (v := (3 : Int32)) C.1 C.2.1 dX2_takeEnd_4 (by decide) ?_
  refine lv_icmp_eq (tgt := 10) C.1 C.2.1 dX2_takeEnd_5 (by decide) (fun c_1 => ?_) (fun c_1 => ?_)
  · have hE := br_p hE c_1
    refine lv_aload_n C.1 C.2.1 dX2_takeEnd_10 rfl (lv_at hl 0 rfl) ?_
    obtain ⟨o_2, eo_2, hE⟩ := cl_e hE
    refine x_kV (o := o_2) (z_runV (As := []) (rest := []) C (ct_X2_advance l X F k_x0 eo_2) cw_X2_31 hW hZ k_x0 (by decide) rfl rfl rfl hl.1 (Nat.le_of_ble_eq_true rfl) rfl dX2_takeEnd_11 ⟨Nat.le_of_ble_eq_true rfl, Nat.le_of_ble_eq_true rfl⟩ ⟨Nat.le_refl _, Nat.le_refl _⟩) hZ (fun _ _ hW km hZ => ?_)
    replace hkm := hkm.tr km
    replace k_x0 := km.at k_x0 (by decide)
    refine lv_iconst (v := (1 : Int32)) C.1 C.2.1 dX2_takeEnd_14 (by decide) ?_
    exact x_iret C rfl (by decide) hW hZ hkm hE dX2_takeEnd_15
  · have hE := br_n hE c_1
    refine lv_iconst (v := (0 : Int32)) C.1 C.2.1 dX2_takeEnd_8 (by decide) ?_
    exact x_iret C rfl (by decide) hW hZ hkm hE dX2_takeEnd_9
set_option maxRecDepth 100000 in
theorem ms_5 : Cond.selects RX2 yX2_takeEnd yX2_takeEnd ∈ W0 := w0_in (List.mem_append_left _ (List.mem_of_getElem? (i := 5) rfl)) rfl
set_option maxRecDepth 100000 in
theorem ms_4 : Cond.selects RX2 yX2_isNumber yX2_isNumber ∈ W0 := w0_in (List.mem_append_left _ (List.mem_of_getElem? (i := 4) rfl)) rfl
set_option maxRecDepth 100000 in
theorem ms_3 : Cond.selects RX2 yX2_isWord yX2_isWord ∈ W0 := w0_in (List.mem_append_left _ (List.mem_of_getElem? (i := 3) rfl)) rfl
set_option maxRecDepth 100000 in
theorem m_196 : Cond.fieldLink RX2 15 (TX2 1).1 (TX2 1).2.1 (TX2 1).2.2.1 ∈ W0 := w0_in (List.mem_append_right _ (List.mem_of_getElem? (i := 196) rfl)) rfl
set_option maxRecDepth 100000 in
theorem m_676 : Cond.methodLink RX2 43 yX2_isWord ∈ W0 := w0_in (List.mem_append_right _ (List.mem_of_getElem? (i := 676) rfl)) rfl
set_option maxRecDepth 100000 in
theorem m_678 : Cond.instanceMethod yX2_isWord ∈ W0 := w0_in (List.mem_append_right _ (List.mem_of_getElem? (i := 678) rfl)) rfl
set_option maxRecDepth 100000 in
theorem m_679 : Cond.code yX2_isWord cX2_isWord 3 (some .boolean) ∈ W0 := w0_in (List.mem_append_right _ (List.mem_of_getElem? (i := 679) rfl)) rfl
set_option maxRecDepth 100000 in
theorem m_682 : Cond.methodLink RX2 104 yX2_isNumber ∈ W0 := w0_in (List.mem_append_right _ (List.mem_of_getElem? (i := 682) rfl)) rfl
set_option maxRecDepth 100000 in
theorem m_684 : Cond.instanceMethod yX2_isNumber ∈ W0 := w0_in (List.mem_append_right _ (List.mem_of_getElem? (i := 684) rfl)) rfl
set_option maxRecDepth 100000 in
theorem m_685 : Cond.code yX2_isNumber cX2_isNumber 3 (some .boolean) ∈ W0 := w0_in (List.mem_append_right _ (List.mem_of_getElem? (i := 685) rfl)) rfl
set_option maxRecDepth 100000 in
theorem m_686 : Cond.methodLink RX2 108 yX1_setBoard ∈ W0 := w0_in (List.mem_append_right _ (List.mem_of_getElem? (i := 686) rfl)) rfl
set_option maxRecDepth 100000 in
theorem m_687 : Cond.instanceMethod yX1_setBoard ∈ W0 := w0_in (List.mem_append_right _ (List.mem_of_getElem? (i := 687) rfl)) rfl
set_option maxRecDepth 100000 in
theorem m_688 : Cond.selects RX1 yX1_setBoard yX1_setBoard ∈ W0 := w0_in (List.mem_append_right _ (List.mem_of_getElem? (i := 688) rfl)) rfl
set_option maxRecDepth 100000 in
theorem m_689 : Cond.code yX1_setBoard cX1_setBoard 5 none ∈ W0 := w0_in (List.mem_append_right _ (List.mem_of_getElem? (i := 689) rfl)) rfl
set_option maxRecDepth 100000 in
theorem m_690 : Cond.methodLink RX2 58 yX2_takeEnd ∈ W0 := w0_in (List.mem_append_right _ (List.mem_of_getElem? (i := 690) rfl)) rfl
set_option maxRecDepth 100000 in
theorem m_692 : Cond.instanceMethod yX2_takeEnd ∈ W0 := w0_in (List.mem_append_right _ (List.mem_of_getElem? (i := 692) rfl)) rfl
set_option maxRecDepth 100000 in
theorem m_693 : Cond.code yX2_takeEnd cX2_takeEnd 1 (some .boolean) ∈ W0 := w0_in (List.mem_append_right _ (List.mem_of_getElem? (i := 693) rfl)) rfl
section
variable {p : Program} {l : Launch} {e : Env} {R : Room} {s : State} {m : MethodId} {args : Array Value} {below : List Frame} {meth : Method} {c : Code} {H : Heap} {locs : List Loc} {cells slots : Nat} {Q : State → Prop}
variable {cc : ByteArray} {pc : Nat} {ls : Array Slot} {rest : List Value} {X : Ec} {h h1 : Hp} {nL : Nat} {rt : Option FieldType} {mn : String}
theorem gf_X2_15 {a r : Nat} (C : Cx X p s m args meth c RX2 cc nL rt mn) (hW : Wx X h H) (ha : hK h a = 2) (hr : hR h a 1 = some r) (hdg : decode cc pc = .ok (.getfield 15, 3)) (kk : hK h r = 1 → W p l e R s m args below meth c H locs cells slots Q (F0 m (pc + 3) ls (.ref r :: rest))) : W p l e R s m args below meth c H locs cells slots Q (F0 m pc ls (.ref a :: rest)) :=
  y_getr C hW ha i_X2 (by decide) rfl (by decide) m_196 rfl rfl hr hdg kk
end
theorem cw_X2_43 : cwd RX2 43 yX2_isWord cX2_isWord 3 (some .boolean) false 1 := ⟨m_679, m_676, m_5, ⟨m_678, ms_3⟩, by decide, by decide, by decide +kernel⟩
theorem cw_X2_104 : cwd RX2 104 yX2_isNumber cX2_isNumber 3 (some .boolean) false 2 := ⟨m_685, m_682, m_5, ⟨m_684, ms_4⟩, by decide, by decide, by decide +kernel⟩
theorem cw_X2_108 : cwd RX2 108 yX1_setBoard cX1_setBoard 5 none false 2 := ⟨m_689, m_686, m_4, ⟨m_687, m_688⟩, by decide, by decide, by decide +kernel⟩
theorem cw_X2_58 : cwd RX2 58 yX2_takeEnd cX2_takeEnd 1 (some .boolean) false 0 := ⟨m_693, m_690, m_5, ⟨m_692, ms_5⟩, by decide, by decide, by decide +kernel⟩
theorem dX2_takeBoard_0 : decode cX2_takeBoard 0 = .ok (.aload_n 0, 1) := by decide +kernel
theorem dX2_takeBoard_1 : decode cX2_takeBoard 1 = .ok (.ldc 102, 2) := by decide +kernel
theorem dX2_takeBoard_3 : decode cX2_takeBoard 3 = .ok (.invokevirtual 43, 3) := by decide +kernel
theorem dX2_takeBoard_6 : decode cX2_takeBoard 6 = .ok (.ifCond .ne 5, 3) := by decide +kernel
theorem dX2_takeBoard_9 : decode cX2_takeBoard 9 = .ok (.iconst 0, 1) := by decide +kernel
theorem dX2_takeBoard_10 : decode cX2_takeBoard 10 = .ok (.ireturn, 1) := by decide +kernel
theorem dX2_takeBoard_11 : decode cX2_takeBoard 11 = .ok (.aload_n 0, 1) := by decide +kernel
theorem dX2_takeBoard_12 : decode cX2_takeBoard 12 = .ok (.invokevirtual 31, 3) := by decide +kernel
theorem dX2_takeBoard_15 : decode cX2_takeBoard 15 = .ok (.aload_n 0, 1) := by decide +kernel
theorem dX2_takeBoard_16 : decode cX2_takeBoard 16 = .ok (.iconst 3, 1) := by decide +kernel
theorem dX2_takeBoard_17 : decode cX2_takeBoard 17 = .ok (.bipush 8, 2) := by decide +kernel
theorem dX2_takeBoard_19 : decode cX2_takeBoard 19 = .ok (.invokevirtual 104, 3) := by decide +kernel
theorem dX2_takeBoard_22 : decode cX2_takeBoard 22 = .ok (.ifCond .ne 5, 3) := by decide +kernel
theorem dX2_takeBoard_25 : decode cX2_takeBoard 25 = .ok (.iconst 0, 1) := by decide +kernel
theorem dX2_takeBoard_26 : decode cX2_takeBoard 26 = .ok (.ireturn, 1) := by decide +kernel
theorem dX2_takeBoard_27 : decode cX2_takeBoard 27 = .ok (.aload_n 0, 1) := by decide +kernel
theorem dX2_takeBoard_28 : decode cX2_takeBoard 28 = .ok (.getfield 84, 3) := by decide +kernel
theorem dX2_takeBoard_31 : decode cX2_takeBoard 31 = .ok (.istore_n 1, 1) := by decide +kernel
theorem dX2_takeBoard_32 : decode cX2_takeBoard 32 = .ok (.aload_n 0, 1) := by decide +kernel
theorem dX2_takeBoard_33 : decode cX2_takeBoard 33 = .ok (.invokevirtual 31, 3) := by decide +kernel
theorem dX2_takeBoard_36 : decode cX2_takeBoard 36 = .ok (.aload_n 0, 1) := by decide +kernel
theorem dX2_takeBoard_37 : decode cX2_takeBoard 37 = .ok (.iconst 3, 1) := by decide +kernel
theorem dX2_takeBoard_38 : decode cX2_takeBoard 38 = .ok (.bipush 8, 2) := by decide +kernel
theorem dX2_takeBoard_40 : decode cX2_takeBoard 40 = .ok (.invokevirtual 104, 3) := by decide +kernel
theorem dX2_takeBoard_43 : decode cX2_takeBoard 43 = .ok (.ifCond .ne 5, 3) := by decide +kernel
theorem dX2_takeBoard_46 : decode cX2_takeBoard 46 = .ok (.iconst 0, 1) := by decide +kernel
theorem dX2_takeBoard_47 : decode cX2_takeBoard 47 = .ok (.ireturn, 1) := by decide +kernel
theorem dX2_takeBoard_48 : decode cX2_takeBoard 48 = .ok (.aload_n 0, 1) := by decide +kernel
theorem dX2_takeBoard_49 : decode cX2_takeBoard 49 = .ok (.getfield 15, 3) := by decide +kernel
theorem dX2_takeBoard_52 : decode cX2_takeBoard 52 = .ok (.iload_n 1, 1) := by decide +kernel
theorem dX2_takeBoard_53 : decode cX2_takeBoard 53 = .ok (.aload_n 0, 1) := by decide +kernel
theorem dX2_takeBoard_54 : decode cX2_takeBoard 54 = .ok (.getfield 84, 3) := by decide +kernel
theorem dX2_takeBoard_57 : decode cX2_takeBoard 57 = .ok (.invokevirtual 108, 3) := by decide +kernel
theorem dX2_takeBoard_60 : decode cX2_takeBoard 60 = .ok (.aload_n 0, 1) := by decide +kernel
theorem dX2_takeBoard_61 : decode cX2_takeBoard 61 = .ok (.invokevirtual 31, 3) := by decide +kernel
theorem dX2_takeBoard_64 : decode cX2_takeBoard 64 = .ok (.aload_n 0, 1) := by decide +kernel
theorem dX2_takeBoard_65 : decode cX2_takeBoard 65 = .ok (.invokevirtual 58, 3) := by decide +kernel
theorem dX2_takeBoard_68 : decode cX2_takeBoard 68 = .ok (.ireturn, 1) := by decide +kernel
set_option maxRecDepth 20000 in
theorem moX2_takeBoard {o : Int32 × Hp} {F : Nat} {h : Hp} {x0 : Nat} (hE : sX2_takeBoard F h x0 = some o) : Le h o.2 := by
  obtain ⟨o_1, eo_1, hE⟩ := cl_e hE
  refine (moX2_isWord eo_1).tr ?_
  rcases br_e hE with ⟨_, hE⟩ | ⟨_, hE⟩
  · exact le_some2 hE
  · obtain ⟨o_3, eo_3, hE⟩ := cl_e hE
    refine (moX2_advance eo_3).tr ?_
    obtain ⟨o_4, eo_4, hE⟩ := cl_e hE
    refine (moX2_isNumber eo_4).tr ?_
    rcases br_e hE with ⟨_, hE⟩ | ⟨_, hE⟩
    · exact le_some2 hE
    · obtain ⟨v_6, ev_6, hE⟩ := nm_e2 hE
      obtain ⟨o_7, eo_7, hE⟩ := cl_e hE
      refine (moX2_advance eo_7).tr ?_
      obtain ⟨o_8, eo_8, hE⟩ := cl_e hE
      refine (moX2_isNumber eo_8).tr ?_
      rcases br_e hE with ⟨_, hE⟩ | ⟨_, hE⟩
      · exact le_some2 hE
      · obtain ⟨r_10, er_10, hE⟩ := cl_e hE
        obtain ⟨o_11, eo_11, hE⟩ := cl_e hE
        refine (moX1_setBoard eo_11).tr ?_
        obtain ⟨o_12, eo_12, hE⟩ := cl_e hE
        refine (moX2_advance eo_12).tr ?_
        obtain ⟨o_13, eo_13, hE⟩ := cl_e hE
        refine (moX2_takeEnd eo_13).tr ?_
        obtain ⟨g_14, hE⟩ := gd_e hE
        exact le_some2 hE
set_option maxRecDepth 20000 in
theorem ct_X2_takeBoard (l : Launch) (X : Ec) (F : Nat) {h : Hp} {x0 : Nat} {o : Int32 × Hp} (k_x0 : hK h x0 = 2) (hE : sX2_takeBoard F h x0 = some o) : MetI l yX2_takeBoard cX2_takeBoard 2 (some .boolean) 5 107 X [.ref x0] h o := by
  refine x_met (by decide) (Nat.le_of_ble_eq_true rfl) ?_
  intro p e s m below meth c ls C hl hW hZ
  have hl : lv_has ls 2 [(0, .ref x0)] := hl
  have hkm : Km h h := Km.rf h
  refine lv_aload_n C.1 C.2.1 dX2_takeBoard_0 rfl (lv_at hl 0 rfl) ?_
  refine va_ldcS C.1 C.2.1 C.2.2.2.1 (C.2.2.2.2.2.2.2.2.1 3 (by decide)).2 dX2_takeBoard_1 ?_
  obtain ⟨o_1, eo_1, hE⟩ := cl_e hE
  refine x_kI (o := o_1) (z_runV (As := [.ref (X.2.2.2.1 3)]) (rest := []) C (ct_X2_isWord l X F k_x0 (by decide) eo_1) cw_X2_43 hW hZ k_x0 (by decide) rfl rfl rfl hl.1 (Nat.le_of_ble_eq_true rfl) rfl dX2_takeBoard_3 ⟨Nat.le_of_ble_eq_true rfl, Nat.le_of_ble_eq_true rfl⟩ ⟨Nat.le_refl _, Nat.le_refl _⟩) hZ (fun _ _ hW km hZ => ?_)
  replace hkm := hkm.tr km
  replace k_x0 := km.at k_x0 (by decide)
  refine lv_if_ne (tgt := 11) C.1 C.2.1 dX2_takeBoard_6 (by decide) (fun c_2 => ?_) (fun c_2 => ?_)
  · have hE := br_n hE c_2
    refine lv_aload_n C.1 C.2.1 dX2_takeBoard_11 rfl (lv_at hl 0 rfl) ?_
    obtain ⟨o_3, eo_3, hE⟩ := cl_e hE
    refine x_kV (o := o_3) (z_runV (As := []) (rest := []) C (ct_X2_advance l X F k_x0 eo_3) cw_X2_31 hW hZ k_x0 (by decide) rfl rfl rfl hl.1 (Nat.le_of_ble_eq_true rfl) rfl dX2_takeBoard_12 ⟨Nat.le_of_ble_eq_true rfl, Nat.le_of_ble_eq_true rfl⟩ ⟨Nat.le_refl _, Nat.le_refl _⟩) hZ (fun _ _ hW km hZ => ?_)
    replace hkm := hkm.tr km
    replace k_x0 := km.at k_x0 (by decide)
    refine lv_aload_n C.1 C.2.1 dX2_takeBoard_15 rfl (lv_at hl 0 rfl) ?_
    refine lv_iconst (v := (3 : Int32)) C.1 C.2.1 dX2_takeBoard_16 (by decide) ?_
    refine lv_bipush (v := (8 : Int32)) C.1 C.2.1 dX2_takeBoard_17 (by decide) ?_
    obtain ⟨o_4, eo_4, hE⟩ := cl_e hE
    refine x_kI (o := o_4) (z_runV (As := [.int (3 : Int32), .int (8 : Int32)]) (rest := []) C (ct_X2_isNumber l X k_x0 eo_4) cw_X2_104 hW hZ k_x0 (by decide) rfl rfl rfl hl.1 (Nat.le_of_ble_eq_true rfl) rfl dX2_takeBoard_19 ⟨Nat.le_of_ble_eq_true rfl, Nat.le_of_ble_eq_true rfl⟩ ⟨Nat.le_refl _, Nat.le_refl _⟩) hZ (fun _ _ hW km hZ => ?_)
    replace hkm := hkm.tr km
    replace k_x0 := km.at k_x0 (by decide)
    refine lv_if_ne (tgt := 27) C.1 C.2.1 dX2_takeBoard_22 (by decide) (fun c_5 => ?_) (fun c_5 => ?_)
    · have hE := br_n hE c_5
      refine lv_aload_n C.1 C.2.1 dX2_takeBoard_27 rfl (lv_at hl 0 rfl) ?_
      refine gf_X2_84 C hW k_x0 dX2_takeBoard_28 ?_
      obtain ⟨v_6, ev_6, hE⟩ := nm_e2 hE
      refine x_nmI ev_6 ?_
      refine lv_istore_n (lv' := [(1, .int v_6), (0, .ref x0)]) C.1 C.2.1 dX2_takeBoard_31 rfl hl (by decide) rfl (fun ls hl => ?_)
      refine lv_aload_n C.1 C.2.1 dX2_takeBoard_32 rfl (lv_at hl 1 rfl) ?_
      obtain ⟨o_7, eo_7, hE⟩ := cl_e hE
      refine x_kV (o := o_7) (z_runV (As := []) (rest := []) C (ct_X2_advance l X F k_x0 eo_7) cw_X2_31 hW hZ k_x0 (by decide) rfl rfl rfl hl.1 (Nat.le_of_ble_eq_true rfl) rfl dX2_takeBoard_33 ⟨Nat.le_of_ble_eq_true rfl, Nat.le_of_ble_eq_true rfl⟩ ⟨Nat.le_refl _, Nat.le_refl _⟩) hZ (fun _ _ hW km hZ => ?_)
      replace hkm := hkm.tr km
      replace k_x0 := km.at k_x0 (by decide)
      refine lv_aload_n C.1 C.2.1 dX2_takeBoard_36 rfl (lv_at hl 1 rfl) ?_
      refine lv_iconst (v := (3 : Int32)) C.1 C.2.1 dX2_takeBoard_37 (by decide) ?_
      refine lv_bipush (v := (8 : Int32)) C.1 C.2.1 dX2_takeBoard_38 (by decide) ?_
      obtain ⟨o_8, eo_8, hE⟩ := cl_e hE
      refine x_kI (o := o_8) (z_runV (As := [.int (3 : Int32), .int (8 : Int32)]) (rest := []) C (ct_X2_isNumber l X k_x0 eo_8) cw_X2_104 hW hZ k_x0 (by decide) rfl rfl rfl hl.1 (Nat.le_of_ble_eq_true rfl) rfl dX2_takeBoard_40 ⟨Nat.le_of_ble_eq_true rfl, Nat.le_of_ble_eq_true rfl⟩ ⟨Nat.le_refl _, Nat.le_refl _⟩) hZ (fun _ _ hW km hZ => ?_)
      replace hkm := hkm.tr km
      replace k_x0 := km.at k_x0 (by decide)
      refine lv_if_ne (tgt := 48) C.1 C.2.1 dX2_takeBoard_43 (by decide) (fun c_9 => ?_) (fun c_9 => ?_)
      · have hE := br_n hE c_9
        refine lv_aload_n C.1 C.2.1 dX2_takeBoard_48 rfl (lv_at hl 1 rfl) ?_
        obtain ⟨r_10, er_10, hE⟩ := cl_e hE
        refine gf_X2_15 C hW k_x0 er_10 dX2_takeBoard_49 (fun k_r_10 => ?_)
        refine lv_iload_n C.1 C.2.1 dX2_takeBoard_52 rfl (lv_at hl 0 rfl) ?_
        refine lv_aload_n C.1 C.2.1 dX2_takeBoard_53 rfl (lv_at hl 1 rfl) ?_
        refine gf_X2_84 C hW k_x0 dX2_takeBoard_54 ?_
        obtain ⟨o_11, eo_11, hE⟩ := cl_e hE
        refine x_kV (o := o_11) (z_runV (As := [.int v_6, .int (hI o_8.2 x0 5)]) (rest := []) C (ct_X1_setBoard l X F k_r_10 eo_11) cw_X2_108 hW hZ k_r_10 (by decide) rfl rfl rfl hl.1 (Nat.le_of_ble_eq_true rfl) rfl dX2_takeBoard_57 ⟨Nat.le_of_ble_eq_true rfl, Nat.le_of_ble_eq_true rfl⟩ ⟨Nat.le_refl _, Nat.le_refl _⟩) hZ (fun _ _ hW km hZ => ?_)
        replace hkm := hkm.tr km
        replace k_x0 := km.at k_x0 (by decide)
        refine lv_aload_n C.1 C.2.1 dX2_takeBoard_60 rfl (lv_at hl 1 rfl) ?_
        obtain ⟨o_12, eo_12, hE⟩ := cl_e hE
        refine x_kV (o := o_12) (z_runV (As := []) (rest := []) C (ct_X2_advance l X F k_x0 eo_12) cw_X2_31 hW hZ k_x0 (by decide) rfl rfl rfl hl.1 (Nat.le_of_ble_eq_true rfl) rfl dX2_takeBoard_61 ⟨Nat.le_of_ble_eq_true rfl, Nat.le_of_ble_eq_true rfl⟩ ⟨Nat.le_refl _, Nat.le_refl _⟩) hZ (fun _ _ hW km hZ => ?_)
        replace hkm := hkm.tr km
        replace k_x0 := km.at k_x0 (by decide)
        refine lv_aload_n C.1 C.2.1 dX2_takeBoard_64 rfl (lv_at hl 1 rfl) ?_
        obtain ⟨o_13, eo_13, hE⟩ := cl_e hE
        refine x_kI (o := o_13) (z_runV (As := []) (rest := []) C (ct_X2_takeEnd l X F k_x0 eo_13) cw_X2_58 hW hZ k_x0 (by decide) rfl rfl rfl hl.1 (Nat.le_of_ble_eq_true rfl) rfl dX2_takeBoard_65 ⟨Nat.le_of_ble_eq_true rfl, Nat.le_of_ble_eq_true rfl⟩ ⟨Nat.le_refl _, Nat.le_refl _⟩) hZ (fun _ _ hW km hZ => ?_)
        replace hkm := hkm.tr km
        replace k_x0 := km.at k_x0 (by decide)
        obtain ⟨g_14, hE⟩ := gd_e hE
        exact x_iret C rfl (narB g_14) hW hZ hkm hE dX2_takeBoard_68
      · have hE := br_p hE c_9
        refine lv_iconst (v := (0 : Int32)) C.1 C.2.1 dX2_takeBoard_46 (by decide) ?_
        exact x_iret C rfl (by decide) hW hZ hkm hE dX2_takeBoard_47
    · have hE := br_p hE c_5
      refine lv_iconst (v := (0 : Int32)) C.1 C.2.1 dX2_takeBoard_25 (by decide) ?_
      exact x_iret C rfl (by decide) hW hZ hkm hE dX2_takeBoard_26
  · have hE := br_p hE c_2
    refine lv_iconst (v := (0 : Int32)) C.1 C.2.1 dX2_takeBoard_9 (by decide) ?_
    exact x_iret C rfl (by decide) hW hZ hkm hE dX2_takeBoard_10
