theorem dX15_freePlace_0 : decode cX15_freePlace 0 = .ok (.iconst 0, 1) := by decide +kernel
theorem dX15_freePlace_1 : decode cX15_freePlace 1 = .ok (.istore_n 1, 1) := by decide +kernel
theorem dX15_freePlace_2 : decode cX15_freePlace 2 = .ok (.iload_n 1, 1) := by decide +kernel
theorem dX15_freePlace_3 : decode cX15_freePlace 3 = .ok (.bipush 60, 2) := by decide +kernel
theorem dX15_freePlace_5 : decode cX15_freePlace 5 = .ok (.if_icmp .ge 20, 3) := by decide +kernel
theorem dX15_freePlace_8 : decode cX15_freePlace 8 = .ok (.aload_n 0, 1) := by decide +kernel
theorem dX15_freePlace_9 : decode cX15_freePlace 9 = .ok (.getfield 261, 3) := by decide +kernel
theorem dX15_freePlace_12 : decode cX15_freePlace 12 = .ok (.iload_n 1, 1) := by decide +kernel
theorem dX15_freePlace_13 : decode cX15_freePlace 13 = .ok (.iaload, 1) := by decide +kernel
theorem dX15_freePlace_14 : decode cX15_freePlace 14 = .ok (.ifCond .ne 5, 3) := by decide +kernel
theorem dX15_freePlace_17 : decode cX15_freePlace 17 = .ok (.iload_n 1, 1) := by decide +kernel
theorem dX15_freePlace_18 : decode cX15_freePlace 18 = .ok (.ireturn, 1) := by decide +kernel
theorem dX15_freePlace_19 : decode cX15_freePlace 19 = .ok (.iinc 1 1, 3) := by decide +kernel
theorem dX15_freePlace_22 : decode cX15_freePlace 22 = .ok (.goto (-20), 3) := by decide +kernel
theorem dX15_freePlace_25 : decode cX15_freePlace 25 = .ok (.iconst (-1), 1) := by decide +kernel
theorem dX15_freePlace_26 : decode cX15_freePlace 26 = .ok (.ireturn, 1) := by decide +kernel
def sX15_freePlace_2 (F : Nat) : Nat → Hp → Nat → Int32 → Option (Int32 × Hp)
  | 0, _, _, _ => none
  | f + 1, h, x0, x1 => br ((60 : Int32) ≤ x1) (some ((-1 : Int32), h)) (cl (hR h x0 15) fun r_2 => gd (inB x1 (hN h r_2)) <| br ((hI h r_2 x1.toNatClampNeg) = 0) (some (x1, h)) (nm (x1 + (1 : Int32)) fun v_5 => sX15_freePlace_2 F f h x0 v_5))
def sX15_freePlace (F : Nat) (h : Hp) (x0 : Nat) : Option (Int32 × Hp) := sX15_freePlace_2 F F h x0 (0 : Int32)
theorem moX15_freePlace_2 {o : Int32 × Hp} {F : Nat} : ∀ (f : Nat) {h : Hp} {x0 : Nat} {x1 : Int32}, sX15_freePlace_2 F f h x0 x1 = some o → Le h o.2 := by
  intro f
  induction f with
  | zero =>
    intro h x0 x1 hE
    rw [sX15_freePlace_2] at hE
    cases hE
  | succ f ih =>
    intro h x0 x1 hE
    rw [sX15_freePlace_2] at hE
    have mk_2 : ∀ (h : Hp) (x0 : Nat) (x1 : Int32), sX15_freePlace_2 F f h x0 x1 = some o → Le h o.2 := fun h x0 x1 hE => ih hE
    rcases br_e hE with ⟨_, hE⟩ | ⟨_, hE⟩
    · cases hE
      exact Le.rf _
    · obtain ⟨r_2, er_2, hE⟩ := cl_e hE
      obtain ⟨g_3, hE⟩ := gd_e hE
      rcases br_e hE with ⟨_, hE⟩ | ⟨_, hE⟩
      · cases hE
        exact Le.rf _
      · obtain ⟨v_5, ev_5, hE⟩ := nm_e2 hE
        exact mk_2 _ _ _ hE
theorem moX15_freePlace {o : Int32 × Hp} {F : Nat} {h : Hp} {x0 : Nat} (hE : sX15_freePlace F h x0 = some o) : Le h o.2 := by
  exact moX15_freePlace_2 _ hE
set_option maxRecDepth 20000 in
theorem bX15_freePlace_2 {p : Program} {l : Launch} {e : Env} {s : State} {m : MethodId} {args : Array Value} {below : List Frame} {meth : Method} {c : Code} {X : Ec} {h0 : Hp} {o : Int32 × Hp} {F : Nat} (C : Cx X p s m args meth c RX15 cX15_freePlace 2 (some .int) "freePlace") : ∀ (f : Nat) {h : Hp} {x0 : Nat} {x1 : Int32} {H : Heap} {locs : List Loc} (k_x0 : hK h x0 = 15), Km h0 h → Wx X h H → va_S (aA (eB X)) s.heap H locs → ∀ (ls : Array Slot), lv_has ls 2 [(0, .ref x0), (1, .int x1)] → sX15_freePlace_2 F f h x0 x1 = some o → W p l e (rm 0 0) s m args below meth c H locs 0 0 (MQ below (QI X h0 o.1 o.2) args s 0 0 (aA (eB X))) (F0 m 2 ls []) := by
  intro f
  induction f with
  | zero =>
    intro h x0 x1 H locs k_x0 hkm hW hZ ls hl hE
    rw [sX15_freePlace_2] at hE
    cases hE
  | succ f ih =>
    intro h x0 x1 H locs k_x0 hkm hW hZ ls hl hE
    rw [sX15_freePlace_2] at hE
    have hk_2 : ∀ (h : Hp) (x0 : Nat) (x1 : Int32) (H : Heap) (locs : List Loc), hK h x0 = 15 → Km h0 h → Wx X h H → va_S (aA (eB X)) s.heap H locs → ∀ (ls : Array Slot), lv_has ls 2 [(0, .ref x0), (1, .int x1)] → sX15_freePlace_2 F f h x0 x1 = some o → W p l e (rm 0 0) s m args below meth c H locs 0 0 (MQ below (QI X h0 o.1 o.2) args s 0 0 (aA (eB X))) (F0 m 2 ls []) := fun h x0 x1 H locs k_x0 a b c ls hl hE => ih k_x0 a b c ls hl hE
    refine lv_iload_n C.1 C.2.1 dX15_freePlace_2 rfl (lv_at hl 1 rfl) ?_
    refine lv_bipush (v := (60 : Int32)) C.1 C.2.1 dX15_freePlace_3 (by decide) ?_
    refine lv_icmp_ge (tgt := 25) C.1 C.2.1 dX15_freePlace_5 (by decide) (fun c_1 => ?_) (fun c_1 => ?_)
    · have hE := br_p hE c_1
      refine lv_iconst (v := (-1 : Int32)) C.1 C.2.1 dX15_freePlace_25 (by decide) ?_
      exact x_iret C rfl rfl hW hZ hkm hE dX15_freePlace_26
    · have hE := br_n hE c_1
      refine lv_aload_n C.1 C.2.1 dX15_freePlace_8 rfl (lv_at hl 0 rfl) ?_
      obtain ⟨r_2, er_2, hE⟩ := cl_e hE
      refine gf_X15_261 C hW k_x0 er_2 dX15_freePlace_9 (fun k_r_2 => ?_)
      refine lv_iload_n C.1 C.2.1 dX15_freePlace_12 rfl (lv_at hl 1 rfl) ?_
      obtain ⟨g_3, hE⟩ := gd_e hE
      refine y_iald C hW k_r_2 g_3 dX15_freePlace_13 ?_
      refine lv_if_ne (tgt := 19) C.1 C.2.1 dX15_freePlace_14 (by decide) (fun c_4 => ?_) (fun c_4 => ?_)
      · have hE := br_n hE c_4
        obtain ⟨v_5, ev_5, hE⟩ := nm_e2 hE
        refine lv_iinc (v := v_5) (lv' := [(1, .int v_5), (0, .ref x0)]) C.1 C.2.1 dX15_freePlace_19 hl (k := 1) rfl (by rw [ev_5]; rfl) (by decide) rfl (fun ls hl => ?_)
        refine lv_goto (tgt := 2) C.1 C.2.1 dX15_freePlace_22 (by decide) ?_
        exact hk_2 _ _ _ _ _ k_x0 hkm hW hZ _ (lv_sub hl [1, 0] rfl) hE
      · have hE := br_p hE c_4
        refine lv_iload_n C.1 C.2.1 dX15_freePlace_17 rfl (lv_at hl 1 rfl) ?_
        exact x_iret C rfl rfl hW hZ hkm hE dX15_freePlace_18
set_option maxRecDepth 20000 in
theorem ct_X15_freePlace (l : Launch) (X : Ec) (F : Nat) {h : Hp} {x0 : Nat} {o : Int32 × Hp} (k_x0 : hK h x0 = 15) (hE : sX15_freePlace F h x0 = some o) : MetI l yX15_freePlace cX15_freePlace 2 (some .int) 0 0 X [.ref x0] h o := by
  refine x_met (by decide) (Nat.le_of_ble_eq_true rfl) ?_
  intro p e s m below meth c ls C hl hW hZ
  have hl : lv_has ls 2 [(0, .ref x0)] := hl
  have hkm : Km h h := Km.rf h
  refine lv_iconst (v := (0 : Int32)) C.1 C.2.1 dX15_freePlace_0 (by decide) ?_
  refine lv_istore_n (lv' := [(1, .int (0 : Int32)), (0, .ref x0)]) C.1 C.2.1 dX15_freePlace_1 rfl hl (by decide) rfl (fun ls hl => ?_)
  exact bX15_freePlace_2 C F k_x0 hkm hW hZ _ (lv_sub hl [1, 0] rfl) hE
theorem m_2149 : Cond.fieldLink RX15 418 (TX15 17).1 (TX15 17).2.1 (TX15 17).2.2.1 ∈ W0 := w0_in (List.mem_append_right _ (List.mem_of_getElem? (i := 2149) (by decide +kernel))) rfl
theorem m_2150 : Cond.fieldLink RX15 415 (TX15 18).1 (TX15 18).2.1 (TX15 18).2.2.1 ∈ W0 := w0_in (List.mem_append_right _ (List.mem_of_getElem? (i := 2150) (by decide +kernel))) rfl
theorem m_2151 : Cond.fieldLink RX15 412 (TX15 19).1 (TX15 19).2.1 (TX15 19).2.2.1 ∈ W0 := w0_in (List.mem_append_right _ (List.mem_of_getElem? (i := 2151) (by decide +kernel))) rfl
section
variable {p : Program} {l : Launch} {e : Env} {R : Room} {s : State} {m : MethodId} {args : Array Value} {below : List Frame} {meth : Method} {c : Code} {H : Heap} {locs : List Loc} {cells slots : Nat} {Q : State → Prop}
variable {cc : ByteArray} {pc : Nat} {ls : Array Slot} {rest : List Value} {X : Ec} {h h1 : Hp} {nL : Nat} {rt : Option FieldType} {mn : String}
theorem gf_X15_412 {a : Nat} (C : Cx X p s m args meth c RX15 cc nL rt mn) (hW : Wx X h H) (ha : hK h a = 15) (hdg : decode cc pc = .ok (.getfield 412, 3)) (kk : W p l e R s m args below meth c H locs cells slots Q (F0 m (pc + 3) ls (.int (hI h a 19) :: rest))) : W p l e R s m args below meth c H locs cells slots Q (F0 m pc ls (.ref a :: rest)) :=
  y_geti C hW ha i_X15 (by decide) rfl (by decide) m_2151 rfl hdg kk
theorem gf_X15_415 {a : Nat} (C : Cx X p s m args meth c RX15 cc nL rt mn) (hW : Wx X h H) (ha : hK h a = 15) (hdg : decode cc pc = .ok (.getfield 415, 3)) (kk : W p l e R s m args below meth c H locs cells slots Q (F0 m (pc + 3) ls (.int (hI h a 18) :: rest))) : W p l e R s m args below meth c H locs cells slots Q (F0 m pc ls (.ref a :: rest)) :=
  y_geti C hW ha i_X15 (by decide) rfl (by decide) m_2150 rfl hdg kk
theorem gf_X15_418 {a r : Nat} (C : Cx X p s m args meth c RX15 cc nL rt mn) (hW : Wx X h H) (ha : hK h a = 15) (hr : hR h a 17 = some r) (hdg : decode cc pc = .ok (.getfield 418, 3)) (kk : hK h r = 16 → W p l e R s m args below meth c H locs cells slots Q (F0 m (pc + 3) ls (.ref r :: rest))) : W p l e R s m args below meth c H locs cells slots Q (F0 m pc ls (.ref a :: rest)) :=
  y_getr C hW ha i_X15 (by decide) rfl (by decide) m_2149 rfl rfl hr hdg kk
end
theorem dX15_look_0 : decode cX15_look 0 = .ok (.aload_n 0, 1) := by decide +kernel
theorem dX15_look_1 : decode cX15_look 1 = .ok (.getfield 412, 3) := by decide +kernel
theorem dX15_look_4 : decode cX15_look 4 = .ok (.aload_n 0, 1) := by decide +kernel
theorem dX15_look_5 : decode cX15_look 5 = .ok (.getfield 415, 3) := by decide +kernel
theorem dX15_look_8 : decode cX15_look 8 = .ok (.if_icmp .ge 15, 3) := by decide +kernel
theorem dX15_look_11 : decode cX15_look 11 = .ok (.aload_n 0, 1) := by decide +kernel
theorem dX15_look_12 : decode cX15_look 12 = .ok (.getfield 418, 3) := by decide +kernel
theorem dX15_look_15 : decode cX15_look 15 = .ok (.aload_n 0, 1) := by decide +kernel
theorem dX15_look_16 : decode cX15_look 16 = .ok (.getfield 412, 3) := by decide +kernel
theorem dX15_look_19 : decode cX15_look 19 = .ok (.baload, 1) := by decide +kernel
theorem dX15_look_20 : decode cX15_look 20 = .ok (.goto 4, 3) := by decide +kernel
theorem dX15_look_23 : decode cX15_look 23 = .ok (.iconst (-1), 1) := by decide +kernel
theorem dX15_look_24 : decode cX15_look 24 = .ok (.ireturn, 1) := by decide +kernel
def sX15_look_24 (h : Hp) (t0 : Int32) : Option (Int32 × Hp) := some (t0, h)
def sX15_look (h : Hp) (x0 : Nat) : Option (Int32 × Hp) := br ((hI h x0 18) ≤ (hI h x0 19)) (sX15_look_24  h (-1 : Int32)) (cl (hR h x0 17) fun r_2 => gd (inB (hI h x0 19) (hN h r_2)) <| sX15_look_24  h (hI h r_2 (hI h x0 19).toNatClampNeg))
theorem moX15_look_24 {o : Int32 × Hp} {h : Hp} {t0 : Int32} (hE : sX15_look_24 h  t0 = some o) : Le h o.2 := by
  cases hE
  exact Le.rf _
theorem moX15_look {o : Int32 × Hp} {h : Hp} {x0 : Nat} (hE : sX15_look h x0 = some o) : Le h o.2 := by
  rcases br_e hE with ⟨_, hE⟩ | ⟨_, hE⟩
  · exact moX15_look_24 hE
  · obtain ⟨r_2, er_2, hE⟩ := cl_e hE
    obtain ⟨g_3, hE⟩ := gd_e hE
    exact moX15_look_24 hE
set_option maxRecDepth 20000 in
theorem bX15_look_24 {p : Program} {l : Launch} {e : Env} {s : State} {m : MethodId} {args : Array Value} {below : List Frame} {meth : Method} {c : Code} {X : Ec} {h0 : Hp} {o : Int32 × Hp} (C : Cx X p s m args meth c RX15 cX15_look 1 (some .int) "look") {h : Hp} {t0 : Int32} {H : Heap} {locs : List Loc} (hkm : Km h0 h) (hW : Wx X h H) (hZ : va_S (aA (eB X)) s.heap H locs) (ls : Array Slot) (hl : lv_has ls 1 []) (hE : sX15_look_24 h  t0 = some o) : W p l e (rm 0 0) s m args below meth c H locs 0 0 (MQ below (QI X h0 o.1 o.2) args s 0 0 (aA (eB X))) (F0 m 24 ls [.int t0]) := by
  exact x_iret C rfl rfl hW hZ hkm hE dX15_look_24
set_option maxRecDepth 20000 in
theorem ct_X15_look (l : Launch) (X : Ec) {h : Hp} {x0 : Nat} {o : Int32 × Hp} (k_x0 : hK h x0 = 15) (hE : sX15_look h x0 = some o) : MetI l yX15_look cX15_look 1 (some .int) 0 0 X [.ref x0] h o := by
  refine x_met (by decide) (Nat.le_of_ble_eq_true rfl) ?_
  intro p e s m below meth c ls C hl hW hZ
  have hl : lv_has ls 1 [(0, .ref x0)] := hl
  have hkm : Km h h := Km.rf h
  refine lv_aload_n C.1 C.2.1 dX15_look_0 rfl (lv_at hl 0 rfl) ?_
  refine gf_X15_412 C hW k_x0 dX15_look_1 ?_
  refine lv_aload_n C.1 C.2.1 dX15_look_4 rfl (lv_at hl 0 rfl) ?_
  refine gf_X15_415 C hW k_x0 dX15_look_5 ?_
  refine lv_icmp_ge (tgt := 23) C.1 C.2.1 dX15_look_8 (by decide) (fun c_1 => ?_) (fun c_1 => ?_)
  · have hE := br_p hE c_1
    refine lv_iconst (v := (-1 : Int32)) C.1 C.2.1 dX15_look_23 (by decide) ?_
    exact bX15_look_24 C hkm hW hZ _ (lv_sub hl [] rfl) hE
  · have hE := br_n hE c_1
    refine lv_aload_n C.1 C.2.1 dX15_look_11 rfl (lv_at hl 0 rfl) ?_
    obtain ⟨r_2, er_2, hE⟩ := cl_e hE
    refine gf_X15_418 C hW k_x0 er_2 dX15_look_12 (fun k_r_2 => ?_)
    refine lv_aload_n C.1 C.2.1 dX15_look_15 rfl (lv_at hl 0 rfl) ?_
    refine gf_X15_412 C hW k_x0 dX15_look_16 ?_
    obtain ⟨g_3, hE⟩ := gd_e hE
    refine y_bald C hW k_r_2 g_3 dX15_look_19 ?_
    refine lv_goto (tgt := 24) C.1 C.2.1 dX15_look_20 (by decide) ?_
    exact bX15_look_24 C hkm hW hZ _ (lv_sub hl [] rfl) hE
theorem dX15_valueOf_0 : decode cX15_valueOf 0 = .ok (.iconst 1, 1) := by decide +kernel
theorem dX15_valueOf_1 : decode cX15_valueOf 1 = .ok (.iconst 2, 1) := by decide +kernel
theorem dX15_valueOf_2 : decode cX15_valueOf 2 = .ok (.iload_n 0, 1) := by decide +kernel
theorem dX15_valueOf_3 : decode cX15_valueOf 3 = .ok (.imul, 1) := by decide +kernel
theorem dX15_valueOf_4 : decode cX15_valueOf 4 = .ok (.iadd, 1) := by decide +kernel
theorem dX15_valueOf_5 : decode cX15_valueOf 5 = .ok (.iload_n 1, 1) := by decide +kernel
theorem dX15_valueOf_6 : decode cX15_valueOf 6 = .ok (.iadd, 1) := by decide +kernel
theorem dX15_valueOf_7 : decode cX15_valueOf 7 = .ok (.ireturn, 1) := by decide +kernel
def sX15_valueOf (h : Hp) (x0 : Int32) (x1 : Int32) : Option (Int32 × Hp) := some (((1 : Int32) + ((2 : Int32) * x0)) + x1, h)
theorem moX15_valueOf {o : Int32 × Hp} {h : Hp} {x0 : Int32} {x1 : Int32} (hE : sX15_valueOf h x0 x1 = some o) : Le h o.2 := by
  cases hE
  exact Le.rf _
set_option maxRecDepth 20000 in
theorem ct_X15_valueOf (l : Launch) (X : Ec) {h : Hp} {x0 : Int32} {x1 : Int32} {o : Int32 × Hp} (hE : sX15_valueOf h x0 x1 = some o) : MetI l yX15_valueOf cX15_valueOf 2 (some .int) 0 0 X [.int x0, .int x1] h o := by
  refine x_met (by decide) (Nat.le_of_ble_eq_true rfl) ?_
  intro p e s m below meth c ls C hl hW hZ
  have hl : lv_has ls 2 [(0, .int x0), (1, .int x1)] := hl
  have hkm : Km h h := Km.rf h
  refine lv_iconst (v := (1 : Int32)) C.1 C.2.1 dX15_valueOf_0 (by decide) ?_
  refine lv_iconst (v := (2 : Int32)) C.1 C.2.1 dX15_valueOf_1 (by decide) ?_
  refine lv_iload_n C.1 C.2.1 dX15_valueOf_2 rfl (lv_at hl 0 rfl) ?_
  refine lv_imul C.1 C.2.1 dX15_valueOf_3 ?_
  refine lv_iadd C.1 C.2.1 dX15_valueOf_4 ?_
  refine lv_iload_n C.1 C.2.1 dX15_valueOf_5 rfl (lv_at hl 1 rfl) ?_
  refine lv_iadd C.1 C.2.1 dX15_valueOf_6 ?_
  exact x_iret C rfl rfl hW hZ hkm hE dX15_valueOf_7
theorem m_2382 : Cond.methodLink RX15 398 yX15_valueOf ∈ W0 := w0_in (List.mem_append_right _ (List.mem_of_getElem? (i := 2382) (by decide +kernel))) rfl
theorem m_2383 : Cond.static yX15_valueOf ∈ W0 := w0_in (List.mem_append_right _ (List.mem_of_getElem? (i := 2383) (by decide +kernel))) rfl
theorem m_2384 : Cond.code yX15_valueOf cX15_valueOf 2 (some .int) ∈ W0 := w0_in (List.mem_append_right _ (List.mem_of_getElem? (i := 2384) (by decide +kernel))) rfl
theorem cw_X15_398 : cwd RX15 398 yX15_valueOf cX15_valueOf 2 (some .int) true 2 := ⟨m_2384, m_2382, m_20, m_2383, by decide, by decide, by decide +kernel⟩
theorem dX15_manLetter_0 : decode cX15_manLetter 0 = .ok (.iconst 0, 1) := by decide +kernel
theorem dX15_manLetter_1 : decode cX15_manLetter 1 = .ok (.istore_n 2, 1) := by decide +kernel
theorem dX15_manLetter_2 : decode cX15_manLetter 2 = .ok (.iload_n 2, 1) := by decide +kernel
theorem dX15_manLetter_3 : decode cX15_manLetter 3 = .ok (.aload_n 0, 1) := by decide +kernel
theorem dX15_manLetter_4 : decode cX15_manLetter 4 = .ok (.getfield 252, 3) := by decide +kernel
theorem dX15_manLetter_7 : decode cX15_manLetter 7 = .ok (.getfield 169, 3) := by decide +kernel
theorem dX15_manLetter_10 : decode cX15_manLetter 10 = .ok (.if_icmp .ge 50, 3) := by decide +kernel
theorem dX15_manLetter_13 : decode cX15_manLetter 13 = .ok (.iload_n 1, 1) := by decide +kernel
theorem dX15_manLetter_14 : decode cX15_manLetter 14 = .ok (.aload_n 0, 1) := by decide +kernel
theorem dX15_manLetter_15 : decode cX15_manLetter 15 = .ok (.getfield 252, 3) := by decide +kernel
theorem dX15_manLetter_18 : decode cX15_manLetter 18 = .ok (.getfield 172, 3) := by decide +kernel
theorem dX15_manLetter_21 : decode cX15_manLetter 21 = .ok (.iload_n 2, 1) := by decide +kernel
theorem dX15_manLetter_22 : decode cX15_manLetter 22 = .ok (.iaload, 1) := by decide +kernel
theorem dX15_manLetter_23 : decode cX15_manLetter 23 = .ok (.if_icmp .ne 9, 3) := by decide +kernel
theorem dX15_manLetter_26 : decode cX15_manLetter 26 = .ok (.iload_n 2, 1) := by decide +kernel
theorem dX15_manLetter_27 : decode cX15_manLetter 27 = .ok (.iconst 1, 1) := by decide +kernel
theorem dX15_manLetter_28 : decode cX15_manLetter 28 = .ok (.invokestatic 398, 3) := by decide +kernel
theorem dX15_manLetter_31 : decode cX15_manLetter 31 = .ok (.ireturn, 1) := by decide +kernel
theorem dX15_manLetter_32 : decode cX15_manLetter 32 = .ok (.iload_n 1, 1) := by decide +kernel
theorem dX15_manLetter_33 : decode cX15_manLetter 33 = .ok (.aload_n 0, 1) := by decide +kernel
theorem dX15_manLetter_34 : decode cX15_manLetter 34 = .ok (.getfield 252, 3) := by decide +kernel
theorem dX15_manLetter_37 : decode cX15_manLetter 37 = .ok (.getfield 172, 3) := by decide +kernel
theorem dX15_manLetter_40 : decode cX15_manLetter 40 = .ok (.iload_n 2, 1) := by decide +kernel
theorem dX15_manLetter_41 : decode cX15_manLetter 41 = .ok (.iaload, 1) := by decide +kernel
theorem dX15_manLetter_42 : decode cX15_manLetter 42 = .ok (.bipush 32, 2) := by decide +kernel
theorem dX15_manLetter_44 : decode cX15_manLetter 44 = .ok (.isub, 1) := by decide +kernel
theorem dX15_manLetter_45 : decode cX15_manLetter 45 = .ok (.if_icmp .ne 9, 3) := by decide +kernel
theorem dX15_manLetter_48 : decode cX15_manLetter 48 = .ok (.iload_n 2, 1) := by decide +kernel
theorem dX15_manLetter_49 : decode cX15_manLetter 49 = .ok (.iconst 0, 1) := by decide +kernel
theorem dX15_manLetter_50 : decode cX15_manLetter 50 = .ok (.invokestatic 398, 3) := by decide +kernel
theorem dX15_manLetter_53 : decode cX15_manLetter 53 = .ok (.ireturn, 1) := by decide +kernel
theorem dX15_manLetter_54 : decode cX15_manLetter 54 = .ok (.iinc 2 1, 3) := by decide +kernel
theorem dX15_manLetter_57 : decode cX15_manLetter 57 = .ok (.goto (-55), 3) := by decide +kernel
theorem dX15_manLetter_60 : decode cX15_manLetter 60 = .ok (.iconst 0, 1) := by decide +kernel
theorem dX15_manLetter_61 : decode cX15_manLetter 61 = .ok (.ireturn, 1) := by decide +kernel
def sX15_manLetter_2 (F : Nat) : Nat → Hp → Nat → Int32 → Int32 → Option (Int32 × Hp)
  | 0, _, _, _, _ => none
  | f + 1, h, x0, x1, x2 => cl (hR h x0 4) fun r_1 => br ((hI h r_1 2) ≤ x2) (some ((0 : Int32), h)) (cl (hR h x0 4) fun r_3 => cl (hR h r_3 3) fun r_4 => gd (inB x2 (hN h r_4)) <| br (x1 = (hI h r_4 x2.toNatClampNeg)) (cl (sX15_valueOf h x2 (1 : Int32)) fun o_13 => some (o_13.1, o_13.2)) (cl (hR h x0 4) fun r_7 => cl (hR h r_7 3) fun r_8 => gd (inB x2 (hN h r_8)) <| br (x1 = ((hI h r_8 x2.toNatClampNeg) - (32 : Int32))) (cl (sX15_valueOf h x2 (0 : Int32)) fun o_12 => some (o_12.1, o_12.2)) (nm (x2 + (1 : Int32)) fun v_11 => sX15_manLetter_2 F f h x0 x1 v_11)))
def sX15_manLetter (F : Nat) (h : Hp) (x0 : Nat) (x1 : Int32) : Option (Int32 × Hp) := sX15_manLetter_2 F F h x0 x1 (0 : Int32)
theorem moX15_manLetter_2 {o : Int32 × Hp} {F : Nat} : ∀ (f : Nat) {h : Hp} {x0 : Nat} {x1 : Int32} {x2 : Int32}, sX15_manLetter_2 F f h x0 x1 x2 = some o → Le h o.2 := by
  intro f
  induction f with
  | zero =>
    intro h x0 x1 x2 hE
    rw [sX15_manLetter_2] at hE
    cases hE
  | succ f ih =>
    intro h x0 x1 x2 hE
    rw [sX15_manLetter_2] at hE
    have mk_2 : ∀ (h : Hp) (x0 : Nat) (x1 : Int32) (x2 : Int32), sX15_manLetter_2 F f h x0 x1 x2 = some o → Le h o.2 := fun h x0 x1 x2 hE => ih hE
    obtain ⟨r_1, er_1, hE⟩ := cl_e hE
    rcases br_e hE with ⟨_, hE⟩ | ⟨_, hE⟩
    · cases hE
      exact Le.rf _
    · obtain ⟨r_3, er_3, hE⟩ := cl_e hE
      obtain ⟨r_4, er_4, hE⟩ := cl_e hE
      obtain ⟨g_5, hE⟩ := gd_e hE
      rcases br_e hE with ⟨_, hE⟩ | ⟨_, hE⟩
      · obtain ⟨o_13, eo_13, hE⟩ := cl_e hE
        refine (moX15_valueOf eo_13).tr ?_
        cases hE
        exact Le.rf _
      · obtain ⟨r_7, er_7, hE⟩ := cl_e hE
        obtain ⟨r_8, er_8, hE⟩ := cl_e hE
        obtain ⟨g_9, hE⟩ := gd_e hE
        rcases br_e hE with ⟨_, hE⟩ | ⟨_, hE⟩
        · obtain ⟨o_12, eo_12, hE⟩ := cl_e hE
          refine (moX15_valueOf eo_12).tr ?_
          cases hE
          exact Le.rf _
        · obtain ⟨v_11, ev_11, hE⟩ := nm_e2 hE
          exact mk_2 _ _ _ _ hE
theorem moX15_manLetter {o : Int32 × Hp} {F : Nat} {h : Hp} {x0 : Nat} {x1 : Int32} (hE : sX15_manLetter F h x0 x1 = some o) : Le h o.2 := by
  exact moX15_manLetter_2 _ hE
set_option maxRecDepth 20000 in
theorem bX15_manLetter_2 {p : Program} {l : Launch} {e : Env} {s : State} {m : MethodId} {args : Array Value} {below : List Frame} {meth : Method} {c : Code} {X : Ec} {h0 : Hp} {o : Int32 × Hp} {F : Nat} (C : Cx X p s m args meth c RX15 cX15_manLetter 3 (some .int) "manLetter") : ∀ (f : Nat) {h : Hp} {x0 : Nat} {x1 : Int32} {x2 : Int32} {H : Heap} {locs : List Loc} (k_x0 : hK h x0 = 15), Km h0 h → Wx X h H → va_S (aA (eB X)) s.heap H locs → ∀ (ls : Array Slot), lv_has ls 3 [(0, .ref x0), (1, .int x1), (2, .int x2)] → sX15_manLetter_2 F f h x0 x1 x2 = some o → W p l e (rm 1 21) s m args below meth c H locs 0 0 (MQ below (QI X h0 o.1 o.2) args s 0 0 (aA (eB X))) (F0 m 2 ls []) := by
  intro f
  induction f with
  | zero =>
    intro h x0 x1 x2 H locs k_x0 hkm hW hZ ls hl hE
    rw [sX15_manLetter_2] at hE
    cases hE
  | succ f ih =>
    intro h x0 x1 x2 H locs k_x0 hkm hW hZ ls hl hE
    rw [sX15_manLetter_2] at hE
    have hk_2 : ∀ (h : Hp) (x0 : Nat) (x1 : Int32) (x2 : Int32) (H : Heap) (locs : List Loc), hK h x0 = 15 → Km h0 h → Wx X h H → va_S (aA (eB X)) s.heap H locs → ∀ (ls : Array Slot), lv_has ls 3 [(0, .ref x0), (1, .int x1), (2, .int x2)] → sX15_manLetter_2 F f h x0 x1 x2 = some o → W p l e (rm 1 21) s m args below meth c H locs 0 0 (MQ below (QI X h0 o.1 o.2) args s 0 0 (aA (eB X))) (F0 m 2 ls []) := fun h x0 x1 x2 H locs k_x0 a b c ls hl hE => ih k_x0 a b c ls hl hE
    refine lv_iload_n C.1 C.2.1 dX15_manLetter_2 rfl (lv_at hl 2 rfl) ?_
    refine lv_aload_n C.1 C.2.1 dX15_manLetter_3 rfl (lv_at hl 0 rfl) ?_
    obtain ⟨r_1, er_1, hE⟩ := cl_e hE
    refine gf_X15_252 C hW k_x0 er_1 dX15_manLetter_4 (fun k_r_1 => ?_)
    refine gf_X15_169 C hW k_r_1 dX15_manLetter_7 ?_
    refine lv_icmp_ge (tgt := 60) C.1 C.2.1 dX15_manLetter_10 (by decide) (fun c_2 => ?_) (fun c_2 => ?_)
    · have hE := br_p hE c_2
      refine lv_iconst (v := (0 : Int32)) C.1 C.2.1 dX15_manLetter_60 (by decide) ?_
      exact x_iret C rfl rfl hW hZ hkm hE dX15_manLetter_61
    · have hE := br_n hE c_2
      refine lv_iload_n C.1 C.2.1 dX15_manLetter_13 rfl (lv_at hl 1 rfl) ?_
      refine lv_aload_n C.1 C.2.1 dX15_manLetter_14 rfl (lv_at hl 0 rfl) ?_
      obtain ⟨r_3, er_3, hE⟩ := cl_e hE
      refine gf_X15_252 C hW k_x0 er_3 dX15_manLetter_15 (fun k_r_3 => ?_)
      obtain ⟨r_4, er_4, hE⟩ := cl_e hE
      refine gf_X15_172 C hW k_r_3 er_4 dX15_manLetter_18 (fun k_r_4 => ?_)
      refine lv_iload_n C.1 C.2.1 dX15_manLetter_21 rfl (lv_at hl 2 rfl) ?_
      obtain ⟨g_5, hE⟩ := gd_e hE
      refine y_iald C hW k_r_4 g_5 dX15_manLetter_22 ?_
      refine lv_icmp_ne (tgt := 32) C.1 C.2.1 dX15_manLetter_23 (by decide) (fun c_6 => ?_) (fun c_6 => ?_)
      · have hE := br_n hE c_6
        refine lv_iload_n C.1 C.2.1 dX15_manLetter_32 rfl (lv_at hl 1 rfl) ?_
        refine lv_aload_n C.1 C.2.1 dX15_manLetter_33 rfl (lv_at hl 0 rfl) ?_
        obtain ⟨r_7, er_7, hE⟩ := cl_e hE
        refine gf_X15_252 C hW k_x0 er_7 dX15_manLetter_34 (fun k_r_7 => ?_)
        obtain ⟨r_8, er_8, hE⟩ := cl_e hE
        refine gf_X15_172 C hW k_r_7 er_8 dX15_manLetter_37 (fun k_r_8 => ?_)
        refine lv_iload_n C.1 C.2.1 dX15_manLetter_40 rfl (lv_at hl 2 rfl) ?_
        obtain ⟨g_9, hE⟩ := gd_e hE
        refine y_iald C hW k_r_8 g_9 dX15_manLetter_41 ?_
        refine lv_bipush (v := (32 : Int32)) C.1 C.2.1 dX15_manLetter_42 (by decide) ?_
        refine lv_isub C.1 C.2.1 dX15_manLetter_44 ?_
        refine lv_icmp_ne (tgt := 54) C.1 C.2.1 dX15_manLetter_45 (by decide) (fun c_10 => ?_) (fun c_10 => ?_)
        · have hE := br_n hE c_10
          obtain ⟨v_11, ev_11, hE⟩ := nm_e2 hE
          refine lv_iinc (v := v_11) (lv' := [(2, .int v_11), (0, .ref x0), (1, .int x1)]) C.1 C.2.1 dX15_manLetter_54 hl (k := 2) rfl (by rw [ev_11]; rfl) (by decide) rfl (fun ls hl => ?_)
          refine lv_goto (tgt := 2) C.1 C.2.1 dX15_manLetter_57 (by decide) ?_
          exact hk_2 _ _ _ _ _ _ k_x0 hkm hW hZ _ (lv_sub hl [1, 2, 0] rfl) hE
        · have hE := br_p hE c_10
          refine lv_iload_n C.1 C.2.1 dX15_manLetter_48 rfl (lv_at hl 2 rfl) ?_
          refine lv_iconst (v := (0 : Int32)) C.1 C.2.1 dX15_manLetter_49 (by decide) ?_
          obtain ⟨o_12, eo_12, hE⟩ := cl_e hE
          refine x_kI (o := o_12) (z_runS (As := [.int x2, .int (0 : Int32)]) (rest := []) C (ct_X15_valueOf l X eo_12) cw_X15_398 hW hZ rfl hl.1 (Nat.le_of_ble_eq_true rfl) rfl dX15_manLetter_50 ⟨Nat.le_of_ble_eq_true rfl, Nat.le_of_ble_eq_true rfl⟩ ⟨Nat.le_refl _, Nat.le_refl _⟩) hZ (fun _ _ hW km hZ => ?_)
          replace hkm := hkm.tr km
          replace k_x0 := km.at k_x0 (by decide)
          exact x_iret C rfl rfl hW hZ hkm hE dX15_manLetter_53
      · have hE := br_p hE c_6
        refine lv_iload_n C.1 C.2.1 dX15_manLetter_26 rfl (lv_at hl 2 rfl) ?_
        refine lv_iconst (v := (1 : Int32)) C.1 C.2.1 dX15_manLetter_27 (by decide) ?_
        obtain ⟨o_13, eo_13, hE⟩ := cl_e hE
        refine x_kI (o := o_13) (z_runS (As := [.int x2, .int (1 : Int32)]) (rest := []) C (ct_X15_valueOf l X eo_13) cw_X15_398 hW hZ rfl hl.1 (Nat.le_of_ble_eq_true rfl) rfl dX15_manLetter_28 ⟨Nat.le_of_ble_eq_true rfl, Nat.le_of_ble_eq_true rfl⟩ ⟨Nat.le_refl _, Nat.le_refl _⟩) hZ (fun _ _ hW km hZ => ?_)
        replace hkm := hkm.tr km
        replace k_x0 := km.at k_x0 (by decide)
        exact x_iret C rfl rfl hW hZ hkm hE dX15_manLetter_31
set_option maxRecDepth 20000 in
theorem ct_X15_manLetter (l : Launch) (X : Ec) (F : Nat) {h : Hp} {x0 : Nat} {x1 : Int32} {o : Int32 × Hp} (k_x0 : hK h x0 = 15) (hE : sX15_manLetter F h x0 x1 = some o) : MetI l yX15_manLetter cX15_manLetter 3 (some .int) 1 21 X [.ref x0, .int x1] h o := by
  refine x_met (by decide) (Nat.le_of_ble_eq_true rfl) ?_
  intro p e s m below meth c ls C hl hW hZ
  have hl : lv_has ls 3 [(0, .ref x0), (1, .int x1)] := hl
  have hkm : Km h h := Km.rf h
  refine lv_iconst (v := (0 : Int32)) C.1 C.2.1 dX15_manLetter_0 (by decide) ?_
  refine lv_istore_n (lv' := [(2, .int (0 : Int32)), (0, .ref x0), (1, .int x1)]) C.1 C.2.1 dX15_manLetter_1 rfl hl (by decide) rfl (fun ls hl => ?_)
  exact bX15_manLetter_2 C F k_x0 hkm hW hZ _ (lv_sub hl [1, 2, 0] rfl) hE
theorem ms_137 : Cond.selects RX15 yX15_look yX15_look ∈ W0 := w0_in (List.mem_append_left _ (List.mem_of_getElem? (i := 137) (by decide +kernel))) rfl
theorem m_2374 : Cond.methodLink RX15 421 yX15_look ∈ W0 := w0_in (List.mem_append_right _ (List.mem_of_getElem? (i := 2374) (by decide +kernel))) rfl
theorem m_2376 : Cond.instanceMethod yX15_look ∈ W0 := w0_in (List.mem_append_right _ (List.mem_of_getElem? (i := 2376) (by decide +kernel))) rfl
theorem m_2377 : Cond.code yX15_look cX15_look 1 (some .int) ∈ W0 := w0_in (List.mem_append_right _ (List.mem_of_getElem? (i := 2377) (by decide +kernel))) rfl
section
variable {p : Program} {l : Launch} {e : Env} {R : Room} {s : State} {m : MethodId} {args : Array Value} {below : List Frame} {meth : Method} {c : Code} {H : Heap} {locs : List Loc} {cells slots : Nat} {Q : State → Prop}
variable {cc : ByteArray} {pc : Nat} {ls : Array Slot} {rest : List Value} {X : Ec} {h h1 : Hp} {nL : Nat} {rt : Option FieldType} {mn : String}
theorem pf_X15_412 {a : Nat} {v : Int32} (C : Cx X p s m args meth c RX15 cc nL rt mn) (hW : Wx X h H) (hZ : va_S (aA (eB X)) s.heap H locs) (ha : hK h a = 15) (eh : h1 = wI h a 19 v) (hdg : decode cc pc = .ok (.putfield 412, 3)) (kk : ∀ (H1 : Heap) (locs1 : List Loc), Wx X h1 H1 → Km h h1 → va_S (aA (eB X)) s.heap H1 locs1 → W p l e R s m args below meth c H1 locs1 cells slots Q (F0 m (pc + 3) ls rest)) : W p l e R s m args below meth c H locs cells slots Q (F0 m pc ls (.int v :: .ref a :: rest)) :=
  y_puti (ty := .int) C hW hZ ha i_X15 tyX15 tyX15_ok nmX15 (by decide) rfl rfl (by decide) m_2151 rfl (by decide +kernel) rfl rfl rfl eh hdg kk
end
theorem cw_X15_421 : cwd RX15 421 yX15_look cX15_look 1 (some .int) false 0 := ⟨m_2377, m_2374, m_20, ⟨m_2376, ms_137⟩, by decide, by decide, by decide +kernel⟩
theorem dX15_reads_0 : decode cX15_reads 0 = .ok (.aload_n 0, 1) := by decide +kernel
theorem dX15_reads_1 : decode cX15_reads 1 = .ok (.invokevirtual 421, 3) := by decide +kernel
theorem dX15_reads_4 : decode cX15_reads 4 = .ok (.iload_n 1, 1) := by decide +kernel
theorem dX15_reads_5 : decode cX15_reads 5 = .ok (.if_icmp .eq 5, 3) := by decide +kernel
theorem dX15_reads_8 : decode cX15_reads 8 = .ok (.iconst 0, 1) := by decide +kernel
theorem dX15_reads_9 : decode cX15_reads 9 = .ok (.ireturn, 1) := by decide +kernel
theorem dX15_reads_10 : decode cX15_reads 10 = .ok (.aload_n 0, 1) := by decide +kernel
theorem dX15_reads_11 : decode cX15_reads 11 = .ok (.dup, 1) := by decide +kernel
theorem dX15_reads_12 : decode cX15_reads 12 = .ok (.getfield 412, 3) := by decide +kernel
theorem dX15_reads_15 : decode cX15_reads 15 = .ok (.iconst 1, 1) := by decide +kernel
theorem dX15_reads_16 : decode cX15_reads 16 = .ok (.iadd, 1) := by decide +kernel
theorem dX15_reads_17 : decode cX15_reads 17 = .ok (.putfield 412, 3) := by decide +kernel
theorem dX15_reads_20 : decode cX15_reads 20 = .ok (.iconst 1, 1) := by decide +kernel
theorem dX15_reads_21 : decode cX15_reads 21 = .ok (.ireturn, 1) := by decide +kernel
def sX15_reads (h : Hp) (x0 : Nat) (x1 : Int32) : Option (Int32 × Hp) := cl (sX15_look h x0) fun o_1 => br (o_1.1 = x1) (nm (wI o_1.2 x0 19 ((hI o_1.2 x0 19) + (1 : Int32))) fun h_3 => some ((1 : Int32), h_3)) (some ((0 : Int32), o_1.2))
theorem moX15_reads {o : Int32 × Hp} {h : Hp} {x0 : Nat} {x1 : Int32} (hE : sX15_reads h x0 x1 = some o) : Le h o.2 := by
  obtain ⟨o_1, eo_1, hE⟩ := cl_e hE
  refine (moX15_look eo_1).tr ?_
  rcases br_e hE with ⟨_, hE⟩ | ⟨_, hE⟩
  · obtain ⟨h_3, eh_3, hE⟩ := nm_e2 hE
    refine (le_I eh_3).tr ?_
    cases hE
    exact Le.rf _
  · cases hE
    exact Le.rf _
set_option maxRecDepth 20000 in
theorem ct_X15_reads (l : Launch) (X : Ec) {h : Hp} {x0 : Nat} {x1 : Int32} {o : Int32 × Hp} (k_x0 : hK h x0 = 15) (hE : sX15_reads h x0 x1 = some o) : MetI l yX15_reads cX15_reads 2 (some .boolean) 1 20 X [.ref x0, .int x1] h o := by
  refine x_met (by decide) (Nat.le_of_ble_eq_true rfl) ?_
  intro p e s m below meth c ls C hl hW hZ
  have hl : lv_has ls 2 [(0, .ref x0), (1, .int x1)] := hl
  have hkm : Km h h := Km.rf h
  refine lv_aload_n C.1 C.2.1 dX15_reads_0 rfl (lv_at hl 0 rfl) ?_
  obtain ⟨o_1, eo_1, hE⟩ := cl_e hE
  refine x_kI (o := o_1) (z_runV (As := []) (rest := []) C (ct_X15_look l X k_x0 eo_1) cw_X15_421 hW hZ k_x0 (by decide) rfl rfl rfl hl.1 (Nat.le_of_ble_eq_true rfl) rfl dX15_reads_1 ⟨Nat.le_of_ble_eq_true rfl, Nat.le_of_ble_eq_true rfl⟩ ⟨Nat.le_refl _, Nat.le_refl _⟩) hZ (fun _ _ hW km hZ => ?_)
  replace hkm := hkm.tr km
  replace k_x0 := km.at k_x0 (by decide)
  refine lv_iload_n C.1 C.2.1 dX15_reads_4 rfl (lv_at hl 1 rfl) ?_
  refine lv_icmp_eq (tgt := 10) C.1 C.2.1 dX15_reads_5 (by decide) (fun c_2 => ?_) (fun c_2 => ?_)
  · have hE := br_p hE c_2
    refine lv_aload_n C.1 C.2.1 dX15_reads_10 rfl (lv_at hl 0 rfl) ?_
    refine lv_dup C.1 C.2.1 dX15_reads_11 rfl ?_
    refine gf_X15_412 C hW k_x0 dX15_reads_12 ?_
    refine lv_iconst (v := (1 : Int32)) C.1 C.2.1 dX15_reads_15 (by decide) ?_
    refine lv_iadd C.1 C.2.1 dX15_reads_16 ?_
    obtain ⟨h_3, eh_3, hE⟩ := nm_e2 hE
    refine pf_X15_412 C hW hZ k_x0 eh_3 dX15_reads_17 (fun _ _ hW km hZ => ?_)
    replace hkm := hkm.tr km
    replace k_x0 := km.at k_x0 (by decide)
    refine lv_iconst (v := (1 : Int32)) C.1 C.2.1 dX15_reads_20 (by decide) ?_
    exact x_iret C rfl (by decide) hW hZ hkm hE dX15_reads_21
  · have hE := br_n hE c_2
    refine lv_iconst (v := (0 : Int32)) C.1 C.2.1 dX15_reads_8 (by decide) ?_
    exact x_iret C rfl (by decide) hW hZ hkm hE dX15_reads_9
theorem ms_139 : Cond.selects RX15 yX15_reads yX15_reads ∈ W0 := w0_in (List.mem_append_left _ (List.mem_of_getElem? (i := 139) (by decide +kernel))) rfl
theorem ms_138 : Cond.selects RX15 yX15_manLetter yX15_manLetter ∈ W0 := w0_in (List.mem_append_left _ (List.mem_of_getElem? (i := 138) (by decide +kernel))) rfl
theorem n_1930 : Cond.fieldLinkNest RX15 396 (TX12 0).1 (TX12 0).2.1 (TX12 0).2.2.1 "GameRulesModel" ∈ tables_1 := List.mem_of_getElem? (i := 1930) (by decide +kernel)
theorem m_2378 : Cond.methodLink RX15 424 yX15_manLetter ∈ W0 := w0_in (List.mem_append_right _ (List.mem_of_getElem? (i := 2378) (by decide +kernel))) rfl
theorem m_2380 : Cond.instanceMethod yX15_manLetter ∈ W0 := w0_in (List.mem_append_right _ (List.mem_of_getElem? (i := 2380) (by decide +kernel))) rfl
theorem m_2381 : Cond.code yX15_manLetter cX15_manLetter 3 (some .int) ∈ W0 := w0_in (List.mem_append_right _ (List.mem_of_getElem? (i := 2381) (by decide +kernel))) rfl
theorem m_2385 : Cond.methodLink RX15 427 yX15_reads ∈ W0 := w0_in (List.mem_append_right _ (List.mem_of_getElem? (i := 2385) (by decide +kernel))) rfl
theorem m_2387 : Cond.instanceMethod yX15_reads ∈ W0 := w0_in (List.mem_append_right _ (List.mem_of_getElem? (i := 2387) (by decide +kernel))) rfl
theorem m_2388 : Cond.code yX15_reads cX15_reads 2 (some .boolean) ∈ W0 := w0_in (List.mem_append_right _ (List.mem_of_getElem? (i := 2388) (by decide +kernel))) rfl
section
variable {p : Program} {l : Launch} {e : Env} {R : Room} {s : State} {m : MethodId} {args : Array Value} {below : List Frame} {meth : Method} {c : Code} {H : Heap} {locs : List Loc} {cells slots : Nat} {Q : State → Prop}
variable {cc : ByteArray} {pc : Nat} {ls : Array Slot} {rest : List Value} {X : Ec} {h h1 : Hp} {nL : Nat} {rt : Option FieldType} {mn : String}
theorem gf_X15_396 {a r : Nat} (C : Cx X p s m args meth c RX15 cc nL rt mn) (hW : Wx X h H) (ha : hK h a = 12) (hr : hR h a 0 = some r) (hdg : decode cc pc = .ok (.getfield 396, 3)) (kk : hK h r = 17 → W p l e R s m args below meth c H locs cells slots Q (F0 m (pc + 3) ls (.ref r :: rest))) : W p l e R s m args below meth c H locs cells slots Q (F0 m pc ls (.ref a :: rest)) :=
  y_getrN C hW ha i_X12 (by decide) rfl (by decide) n_1930 rfl rfl hr hdg kk
end
theorem cw_X15_427 : cwd RX15 427 yX15_reads cX15_reads 2 (some .boolean) false 1 := ⟨m_2388, m_2385, m_20, ⟨m_2387, ms_139⟩, by decide, by decide, by decide +kernel⟩
theorem cw_X15_424 : cwd RX15 424 yX15_manLetter cX15_manLetter 3 (some .int) false 1 := ⟨m_2381, m_2378, m_20, ⟨m_2380, ms_138⟩, by decide, by decide, by decide +kernel⟩
theorem dX15_readMen_0 : decode cX15_readMen 0 = .ok (.aload_n 0, 1) := by decide +kernel
theorem dX15_readMen_1 : decode cX15_readMen 1 = .ok (.getfield 383, 3) := by decide +kernel
theorem dX15_readMen_4 : decode cX15_readMen 4 = .ok (.iconst 1, 1) := by decide +kernel
theorem dX15_readMen_5 : decode cX15_readMen 5 = .ok (.isub, 1) := by decide +kernel
theorem dX15_readMen_6 : decode cX15_readMen 6 = .ok (.istore_n 2, 1) := by decide +kernel
theorem dX15_readMen_7 : decode cX15_readMen 7 = .ok (.iload_n 2, 1) := by decide +kernel
theorem dX15_readMen_8 : decode cX15_readMen 8 = .ok (.ifCond .lt 128, 3) := by decide +kernel
theorem dX15_readMen_11 : decode cX15_readMen 11 = .ok (.iconst 0, 1) := by decide +kernel
theorem dX15_readMen_12 : decode cX15_readMen 12 = .ok (.istore_n 3, 1) := by decide +kernel
theorem dX15_readMen_13 : decode cX15_readMen 13 = .ok (.iload_n 3, 1) := by decide +kernel
theorem dX15_readMen_14 : decode cX15_readMen 14 = .ok (.aload_n 0, 1) := by decide +kernel
theorem dX15_readMen_15 : decode cX15_readMen 15 = .ok (.getfield 382, 3) := by decide +kernel
theorem dX15_readMen_18 : decode cX15_readMen 18 = .ok (.if_icmp .ge 97, 3) := by decide +kernel
theorem dX15_readMen_21 : decode cX15_readMen 21 = .ok (.aload_n 0, 1) := by decide +kernel
theorem dX15_readMen_22 : decode cX15_readMen 22 = .ok (.invokevirtual 421, 3) := by decide +kernel
theorem dX15_readMen_25 : decode cX15_readMen 25 = .ok (.istore 4, 2) := by decide +kernel
theorem dX15_readMen_27 : decode cX15_readMen 27 = .ok (.aload_n 0, 1) := by decide +kernel
theorem dX15_readMen_28 : decode cX15_readMen 28 = .ok (.iload 4, 2) := by decide +kernel
theorem dX15_readMen_30 : decode cX15_readMen 30 = .ok (.invokevirtual 424, 3) := by decide +kernel
theorem dX15_readMen_33 : decode cX15_readMen 33 = .ok (.istore 5, 2) := by decide +kernel
theorem dX15_readMen_35 : decode cX15_readMen 35 = .ok (.iload 5, 2) := by decide +kernel
theorem dX15_readMen_37 : decode cX15_readMen 37 = .ok (.ifCond .le 24, 3) := by decide +kernel
theorem dX15_readMen_40 : decode cX15_readMen 40 = .ok (.aload_n 1, 1) := by decide +kernel
theorem dX15_readMen_41 : decode cX15_readMen 41 = .ok (.getfield 396, 3) := by decide +kernel
theorem dX15_readMen_44 : decode cX15_readMen 44 = .ok (.iload_n 2, 1) := by decide +kernel
theorem dX15_readMen_45 : decode cX15_readMen 45 = .ok (.aload_n 0, 1) := by decide +kernel
theorem dX15_readMen_46 : decode cX15_readMen 46 = .ok (.getfield 382, 3) := by decide +kernel
theorem dX15_readMen_49 : decode cX15_readMen 49 = .ok (.imul, 1) := by decide +kernel
theorem dX15_readMen_50 : decode cX15_readMen 50 = .ok (.iload_n 3, 1) := by decide +kernel
theorem dX15_readMen_51 : decode cX15_readMen 51 = .ok (.iadd, 1) := by decide +kernel
theorem dX15_readMen_52 : decode cX15_readMen 52 = .ok (.iload 5, 2) := by decide +kernel
theorem dX15_readMen_54 : decode cX15_readMen 54 = .ok (.iastore, 1) := by decide +kernel
theorem dX15_readMen_55 : decode cX15_readMen 55 = .ok (.iinc 3 1, 3) := by decide +kernel
theorem dX15_readMen_58 : decode cX15_readMen 58 = .ok (.goto 44, 3) := by decide +kernel
theorem dX15_readMen_61 : decode cX15_readMen 61 = .ok (.iload 4, 2) := by decide +kernel
theorem dX15_readMen_63 : decode cX15_readMen 63 = .ok (.bipush 49, 2) := by decide +kernel
theorem dX15_readMen_65 : decode cX15_readMen 65 = .ok (.if_icmp .lt 35, 3) := by decide +kernel
theorem dX15_readMen_68 : decode cX15_readMen 68 = .ok (.iload 4, 2) := by decide +kernel
theorem dX15_readMen_70 : decode cX15_readMen 70 = .ok (.bipush 56, 2) := by decide +kernel
theorem dX15_readMen_72 : decode cX15_readMen 72 = .ok (.if_icmp .gt 28, 3) := by decide +kernel
theorem dX15_readMen_75 : decode cX15_readMen 75 = .ok (.iload_n 3, 1) := by decide +kernel
theorem dX15_readMen_76 : decode cX15_readMen 76 = .ok (.iload 4, 2) := by decide +kernel
theorem dX15_readMen_78 : decode cX15_readMen 78 = .ok (.iadd, 1) := by decide +kernel
theorem dX15_readMen_79 : decode cX15_readMen 79 = .ok (.bipush 48, 2) := by decide +kernel
theorem dX15_readMen_81 : decode cX15_readMen 81 = .ok (.isub, 1) := by decide +kernel
theorem dX15_readMen_82 : decode cX15_readMen 82 = .ok (.aload_n 0, 1) := by decide +kernel
theorem dX15_readMen_83 : decode cX15_readMen 83 = .ok (.getfield 382, 3) := by decide +kernel
theorem dX15_readMen_86 : decode cX15_readMen 86 = .ok (.if_icmp .gt 14, 3) := by decide +kernel
theorem dX15_readMen_89 : decode cX15_readMen 89 = .ok (.iload_n 3, 1) := by decide +kernel
theorem dX15_readMen_90 : decode cX15_readMen 90 = .ok (.iload 4, 2) := by decide +kernel
theorem dX15_readMen_92 : decode cX15_readMen 92 = .ok (.bipush 48, 2) := by decide +kernel
theorem dX15_readMen_94 : decode cX15_readMen 94 = .ok (.isub, 1) := by decide +kernel
theorem dX15_readMen_95 : decode cX15_readMen 95 = .ok (.iadd, 1) := by decide +kernel
theorem dX15_readMen_96 : decode cX15_readMen 96 = .ok (.istore_n 3, 1) := by decide +kernel
theorem dX15_readMen_97 : decode cX15_readMen 97 = .ok (.goto 5, 3) := by decide +kernel
theorem dX15_readMen_100 : decode cX15_readMen 100 = .ok (.iconst 0, 1) := by decide +kernel
theorem dX15_readMen_101 : decode cX15_readMen 101 = .ok (.ireturn, 1) := by decide +kernel
theorem dX15_readMen_102 : decode cX15_readMen 102 = .ok (.aload_n 0, 1) := by decide +kernel
theorem dX15_readMen_103 : decode cX15_readMen 103 = .ok (.dup, 1) := by decide +kernel
theorem dX15_readMen_104 : decode cX15_readMen 104 = .ok (.getfield 412, 3) := by decide +kernel
theorem dX15_readMen_107 : decode cX15_readMen 107 = .ok (.iconst 1, 1) := by decide +kernel
theorem dX15_readMen_108 : decode cX15_readMen 108 = .ok (.iadd, 1) := by decide +kernel
theorem dX15_readMen_109 : decode cX15_readMen 109 = .ok (.putfield 412, 3) := by decide +kernel
theorem dX15_readMen_112 : decode cX15_readMen 112 = .ok (.goto (-99), 3) := by decide +kernel
theorem dX15_readMen_115 : decode cX15_readMen 115 = .ok (.iload_n 2, 1) := by decide +kernel
theorem dX15_readMen_116 : decode cX15_readMen 116 = .ok (.ifCond .le 14, 3) := by decide +kernel
theorem dX15_readMen_119 : decode cX15_readMen 119 = .ok (.aload_n 0, 1) := by decide +kernel
theorem dX15_readMen_120 : decode cX15_readMen 120 = .ok (.bipush 47, 2) := by decide +kernel
theorem dX15_readMen_122 : decode cX15_readMen 122 = .ok (.invokevirtual 427, 3) := by decide +kernel
theorem dX15_readMen_125 : decode cX15_readMen 125 = .ok (.ifCond .ne 5, 3) := by decide +kernel
theorem dX15_readMen_128 : decode cX15_readMen 128 = .ok (.iconst 0, 1) := by decide +kernel
theorem dX15_readMen_129 : decode cX15_readMen 129 = .ok (.ireturn, 1) := by decide +kernel
theorem dX15_readMen_130 : decode cX15_readMen 130 = .ok (.iinc 2 (-1), 3) := by decide +kernel
theorem dX15_readMen_133 : decode cX15_readMen 133 = .ok (.goto (-126), 3) := by decide +kernel
theorem dX15_readMen_136 : decode cX15_readMen 136 = .ok (.aload_n 0, 1) := by decide +kernel
theorem dX15_readMen_137 : decode cX15_readMen 137 = .ok (.bipush 32, 2) := by decide +kernel
theorem dX15_readMen_139 : decode cX15_readMen 139 = .ok (.invokevirtual 427, 3) := by decide +kernel
theorem dX15_readMen_142 : decode cX15_readMen 142 = .ok (.ireturn, 1) := by decide +kernel
def sX15_readMen_130 (F : Nat) (k_7 : Hp → Nat → Nat → Int32 → Option (Int32 × Hp)) (h : Hp) (x0 : Nat) (x1 : Nat) (x2 : Int32) : Option (Int32 × Hp) := nm (x2 + (-1 : Int32)) fun v_1 => k_7 h x0 x1 v_1
def sX15_readMen_100 (F : Nat) (h : Hp) : Option (Int32 × Hp) := some ((0 : Int32), h)
def sX15_readMen_102 (F : Nat) (k_7 : Hp → Nat → Nat → Int32 → Option (Int32 × Hp)) (k_13 : Hp → Nat → Nat → Int32 → Int32 → Option (Int32 × Hp)) (h : Hp) (x0 : Nat) (x1 : Nat) (x2 : Int32) (x3 : Int32) : Option (Int32 × Hp) := nm (wI h x0 19 ((hI h x0 19) + (1 : Int32))) fun h_1 => k_13 h_1 x0 x1 x2 x3
def sX15_readMen_13 (F : Nat) (k_7 : Hp → Nat → Nat → Int32 → Option (Int32 × Hp)) : Nat → Hp → Nat → Nat → Int32 → Int32 → Option (Int32 × Hp)
  | 0, _, _, _, _, _ => none
  | f + 1, h, x0, x1, x2, x3 => br ((hI h x0 11) ≤ x3) (br (x2 ≤ 0) (sX15_readMen_130 F k_7 h x0 x1 x2) (cl (sX15_reads h x0 (47 : Int32)) fun o_3 => br (o_3.1 = 0) (some ((0 : Int32), o_3.2)) (sX15_readMen_130 F k_7 o_3.2 x0 x1 x2))) (cl (sX15_look h x0) fun o_5 => cl (sX15_manLetter F o_5.2 x0 o_5.1) fun o_6 => br (o_6.1 ≤ 0) (br (o_5.1 < (49 : Int32)) (sX15_readMen_100 F o_6.2 ) (br ((56 : Int32) < o_5.1) (sX15_readMen_100 F o_6.2 ) (br ((hI o_6.2 x0 11) < ((x3 + o_5.1) - (48 : Int32))) (sX15_readMen_100 F o_6.2 ) (nm (x3 + (o_5.1 - (48 : Int32))) fun v_11 => sX15_readMen_102 F k_7 (sX15_readMen_13 F k_7 f) o_6.2 x0 x1 x2 v_11)))) (cl (hR o_6.2 x1 0) fun r_12 => gd (inB ((x2 * (hI o_6.2 x0 11)) + x3) (hN o_6.2 r_12)) <| nm (wI o_6.2 r_12 ((x2 * (hI o_6.2 x0 11)) + x3).toNatClampNeg o_6.1) fun h_14 => nm (x3 + (1 : Int32)) fun v_15 => sX15_readMen_102 F k_7 (sX15_readMen_13 F k_7 f) h_14 x0 x1 x2 v_15))
def sX15_readMen_7 (F : Nat) : Nat → Hp → Nat → Nat → Int32 → Option (Int32 × Hp)
  | 0, _, _, _, _ => none
  | f + 1, h, x0, x1, x2 => br (x2 < 0) (cl (sX15_reads h x0 (32 : Int32)) fun o_2 => gd (o_2.1 &&& 1 = o_2.1) <| some (o_2.1, o_2.2)) (sX15_readMen_13 F (sX15_readMen_7 F f) F h x0 x1 x2 (0 : Int32))
def sX15_readMen (F : Nat) (h : Hp) (x0 : Nat) (x1 : Nat) : Option (Int32 × Hp) := nm ((hI h x0 12) - (1 : Int32)) fun v_1 => sX15_readMen_7 F F h x0 x1 v_1
theorem moX15_readMen_130 {o : Int32 × Hp} {k_7 : Hp → Nat → Nat → Int32 → Option (Int32 × Hp)} {F : Nat} (mk_7 : ∀ (h : Hp) (x0 : Nat) (x1 : Nat) (x2 : Int32), k_7 h x0 x1 x2 = some o → Le h o.2) {h : Hp} {x0 : Nat} {x1 : Nat} {x2 : Int32} (hE : sX15_readMen_130 F k_7 h x0 x1 x2 = some o) : Le h o.2 := by
  obtain ⟨v_1, ev_1, hE⟩ := nm_e2 hE
  exact mk_7 _ _ _ _ hE
theorem moX15_readMen_100 {o : Int32 × Hp} {F : Nat} {h : Hp} (hE : sX15_readMen_100 F h  = some o) : Le h o.2 := by
  cases hE
  exact Le.rf _
theorem moX15_readMen_102 {o : Int32 × Hp} {k_7 : Hp → Nat → Nat → Int32 → Option (Int32 × Hp)} {k_13 : Hp → Nat → Nat → Int32 → Int32 → Option (Int32 × Hp)} {F : Nat} (mk_7 : ∀ (h : Hp) (x0 : Nat) (x1 : Nat) (x2 : Int32), k_7 h x0 x1 x2 = some o → Le h o.2) (mk_13 : ∀ (h : Hp) (x0 : Nat) (x1 : Nat) (x2 : Int32) (x3 : Int32), k_13 h x0 x1 x2 x3 = some o → Le h o.2) {h : Hp} {x0 : Nat} {x1 : Nat} {x2 : Int32} {x3 : Int32} (hE : sX15_readMen_102 F k_7 k_13 h x0 x1 x2 x3 = some o) : Le h o.2 := by
  obtain ⟨h_1, eh_1, hE⟩ := nm_e2 hE
  refine (le_I eh_1).tr ?_
  exact mk_13 _ _ _ _ _ hE
theorem moX15_readMen_13 {o : Int32 × Hp} {k_7 : Hp → Nat → Nat → Int32 → Option (Int32 × Hp)} {F : Nat} (mk_7 : ∀ (h : Hp) (x0 : Nat) (x1 : Nat) (x2 : Int32), k_7 h x0 x1 x2 = some o → Le h o.2) : ∀ (f : Nat) {h : Hp} {x0 : Nat} {x1 : Nat} {x2 : Int32} {x3 : Int32}, sX15_readMen_13 F k_7 f h x0 x1 x2 x3 = some o → Le h o.2 := by
  intro f
  induction f with
  | zero =>
    intro h x0 x1 x2 x3 hE
    rw [sX15_readMen_13] at hE
    cases hE
  | succ f ih =>
    intro h x0 x1 x2 x3 hE
    rw [sX15_readMen_13] at hE
    have mk_13 : ∀ (h : Hp) (x0 : Nat) (x1 : Nat) (x2 : Int32) (x3 : Int32), sX15_readMen_13 F k_7 f h x0 x1 x2 x3 = some o → Le h o.2 := fun h x0 x1 x2 x3 hE => ih hE
    rcases br_e hE with ⟨_, hE⟩ | ⟨_, hE⟩
    · rcases br_e hE with ⟨_, hE⟩ | ⟨_, hE⟩
      · exact moX15_readMen_130 mk_7 hE
      · obtain ⟨o_3, eo_3, hE⟩ := cl_e hE
        refine (moX15_reads eo_3).tr ?_
        rcases br_e hE with ⟨_, hE⟩ | ⟨_, hE⟩
        · cases hE
          exact Le.rf _
        · exact moX15_readMen_130 mk_7 hE
    · obtain ⟨o_5, eo_5, hE⟩ := cl_e hE
      refine (moX15_look eo_5).tr ?_
      obtain ⟨o_6, eo_6, hE⟩ := cl_e hE
      refine (moX15_manLetter eo_6).tr ?_
      rcases br_e hE with ⟨_, hE⟩ | ⟨_, hE⟩
      · rcases br_e hE with ⟨_, hE⟩ | ⟨_, hE⟩
        · exact moX15_readMen_100 hE
        · rcases br_e hE with ⟨_, hE⟩ | ⟨_, hE⟩
          · exact moX15_readMen_100 hE
          · rcases br_e hE with ⟨_, hE⟩ | ⟨_, hE⟩
            · exact moX15_readMen_100 hE
            · obtain ⟨v_11, ev_11, hE⟩ := nm_e2 hE
              exact moX15_readMen_102 mk_7 mk_13 hE
      · obtain ⟨r_12, er_12, hE⟩ := cl_e hE
        obtain ⟨g_13, hE⟩ := gd_e hE
        obtain ⟨h_14, eh_14, hE⟩ := nm_e2 hE
        refine (le_I eh_14).tr ?_
        obtain ⟨v_15, ev_15, hE⟩ := nm_e2 hE
        exact moX15_readMen_102 mk_7 mk_13 hE
theorem moX15_readMen_7 {o : Int32 × Hp} {F : Nat} : ∀ (f : Nat) {h : Hp} {x0 : Nat} {x1 : Nat} {x2 : Int32}, sX15_readMen_7 F f h x0 x1 x2 = some o → Le h o.2 := by
  intro f
  induction f with
  | zero =>
    intro h x0 x1 x2 hE
    rw [sX15_readMen_7] at hE
    cases hE
  | succ f ih =>
    intro h x0 x1 x2 hE
    rw [sX15_readMen_7] at hE
    have mk_7 : ∀ (h : Hp) (x0 : Nat) (x1 : Nat) (x2 : Int32), sX15_readMen_7 F f h x0 x1 x2 = some o → Le h o.2 := fun h x0 x1 x2 hE => ih hE
    rcases br_e hE with ⟨_, hE⟩ | ⟨_, hE⟩
    · obtain ⟨o_2, eo_2, hE⟩ := cl_e hE
      refine (moX15_reads eo_2).tr ?_
      obtain ⟨g_3, hE⟩ := gd_e hE
      cases hE
      exact Le.rf _
    · exact moX15_readMen_13 mk_7 _ hE
theorem moX15_readMen {o : Int32 × Hp} {F : Nat} {h : Hp} {x0 : Nat} {x1 : Nat} (hE : sX15_readMen F h x0 x1 = some o) : Le h o.2 := by
  obtain ⟨v_1, ev_1, hE⟩ := nm_e2 hE
  exact moX15_readMen_7 _ hE
set_option maxRecDepth 20000 in
theorem bX15_readMen_130 {p : Program} {l : Launch} {e : Env} {s : State} {m : MethodId} {args : Array Value} {below : List Frame} {meth : Method} {c : Code} {X : Ec} {h0 : Hp} {o : Int32 × Hp} {k_7 : Hp → Nat → Nat → Int32 → Option (Int32 × Hp)} {F : Nat} (C : Cx X p s m args meth c RX15 cX15_readMen 6 (some .boolean) "readMen") (hk_7 : ∀ (h : Hp) (x0 : Nat) (x1 : Nat) (x2 : Int32) (H : Heap) (locs : List Loc), hK h x0 = 15 → hK h x1 = 12 → Km h0 h → Wx X h H → va_S (aA (eB X)) s.heap H locs → ∀ (ls : Array Slot), lv_has ls 6 [(0, .ref x0), (1, .ref x1), (2, .int x2)] → k_7 h x0 x1 x2 = some o → W p l e (rm 2 43) s m args below meth c H locs 0 0 (MQ below (QI X h0 o.1 o.2) args s 0 0 (aA (eB X))) (F0 m 7 ls [])) {h : Hp} {x0 : Nat} {x1 : Nat} {x2 : Int32} {H : Heap} {locs : List Loc} (k_x0 : hK h x0 = 15) (k_x1 : hK h x1 = 12) (hkm : Km h0 h) (hW : Wx X h H) (hZ : va_S (aA (eB X)) s.heap H locs) (ls : Array Slot) (hl : lv_has ls 6 [(0, .ref x0), (1, .ref x1), (2, .int x2)]) (hE : sX15_readMen_130 F k_7 h x0 x1 x2 = some o) : W p l e (rm 2 43) s m args below meth c H locs 0 0 (MQ below (QI X h0 o.1 o.2) args s 0 0 (aA (eB X))) (F0 m 130 ls []) := by
  obtain ⟨v_1, ev_1, hE⟩ := nm_e2 hE
  refine lv_iinc (v := v_1) (lv' := [(2, .int v_1), (0, .ref x0), (1, .ref x1)]) C.1 C.2.1 dX15_readMen_130 hl (k := 2) rfl (by rw [ev_1]; rfl) (by decide) rfl (fun ls hl => ?_)
  refine lv_goto (tgt := 7) C.1 C.2.1 dX15_readMen_133 (by decide) ?_
  exact hk_7 _ _ _ _ _ _ k_x0 k_x1 hkm hW hZ _ (lv_sub hl [1, 2, 0] rfl) hE
set_option maxRecDepth 20000 in
theorem bX15_readMen_100 {p : Program} {l : Launch} {e : Env} {s : State} {m : MethodId} {args : Array Value} {below : List Frame} {meth : Method} {c : Code} {X : Ec} {h0 : Hp} {o : Int32 × Hp} {F : Nat} (C : Cx X p s m args meth c RX15 cX15_readMen 6 (some .boolean) "readMen") {h : Hp} {H : Heap} {locs : List Loc} (hkm : Km h0 h) (hW : Wx X h H) (hZ : va_S (aA (eB X)) s.heap H locs) (ls : Array Slot) (hl : lv_has ls 6 []) (hE : sX15_readMen_100 F h  = some o) : W p l e (rm 2 43) s m args below meth c H locs 0 0 (MQ below (QI X h0 o.1 o.2) args s 0 0 (aA (eB X))) (F0 m 100 ls []) := by
  refine lv_iconst (v := (0 : Int32)) C.1 C.2.1 dX15_readMen_100 (by decide) ?_
  exact x_iret C rfl (by decide) hW hZ hkm hE dX15_readMen_101
set_option maxRecDepth 20000 in
theorem bX15_readMen_102 {p : Program} {l : Launch} {e : Env} {s : State} {m : MethodId} {args : Array Value} {below : List Frame} {meth : Method} {c : Code} {X : Ec} {h0 : Hp} {o : Int32 × Hp} {k_7 : Hp → Nat → Nat → Int32 → Option (Int32 × Hp)} {k_13 : Hp → Nat → Nat → Int32 → Int32 → Option (Int32 × Hp)} {F : Nat} (C : Cx X p s m args meth c RX15 cX15_readMen 6 (some .boolean) "readMen") (hk_7 : ∀ (h : Hp) (x0 : Nat) (x1 : Nat) (x2 : Int32) (H : Heap) (locs : List Loc), hK h x0 = 15 → hK h x1 = 12 → Km h0 h → Wx X h H → va_S (aA (eB X)) s.heap H locs → ∀ (ls : Array Slot), lv_has ls 6 [(0, .ref x0), (1, .ref x1), (2, .int x2)] → k_7 h x0 x1 x2 = some o → W p l e (rm 2 43) s m args below meth c H locs 0 0 (MQ below (QI X h0 o.1 o.2) args s 0 0 (aA (eB X))) (F0 m 7 ls [])) (hk_13 : ∀ (h : Hp) (x0 : Nat) (x1 : Nat) (x2 : Int32) (x3 : Int32) (H : Heap) (locs : List Loc), hK h x0 = 15 → hK h x1 = 12 → Km h0 h → Wx X h H → va_S (aA (eB X)) s.heap H locs → ∀ (ls : Array Slot), lv_has ls 6 [(0, .ref x0), (1, .ref x1), (2, .int x2), (3, .int x3)] → k_13 h x0 x1 x2 x3 = some o → W p l e (rm 2 43) s m args below meth c H locs 0 0 (MQ below (QI X h0 o.1 o.2) args s 0 0 (aA (eB X))) (F0 m 13 ls [])) {h : Hp} {x0 : Nat} {x1 : Nat} {x2 : Int32} {x3 : Int32} {H : Heap} {locs : List Loc} (k_x0 : hK h x0 = 15) (k_x1 : hK h x1 = 12) (hkm : Km h0 h) (hW : Wx X h H) (hZ : va_S (aA (eB X)) s.heap H locs) (ls : Array Slot) (hl : lv_has ls 6 [(0, .ref x0), (1, .ref x1), (2, .int x2), (3, .int x3)]) (hE : sX15_readMen_102 F k_7 k_13 h x0 x1 x2 x3 = some o) : W p l e (rm 2 43) s m args below meth c H locs 0 0 (MQ below (QI X h0 o.1 o.2) args s 0 0 (aA (eB X))) (F0 m 102 ls []) := by
  refine lv_aload_n C.1 C.2.1 dX15_readMen_102 rfl (lv_at hl 0 rfl) ?_
  refine lv_dup C.1 C.2.1 dX15_readMen_103 rfl ?_
  refine gf_X15_412 C hW k_x0 dX15_readMen_104 ?_
  refine lv_iconst (v := (1 : Int32)) C.1 C.2.1 dX15_readMen_107 (by decide) ?_
  refine lv_iadd C.1 C.2.1 dX15_readMen_108 ?_
  obtain ⟨h_1, eh_1, hE⟩ := nm_e2 hE
  refine pf_X15_412 C hW hZ k_x0 eh_1 dX15_readMen_109 (fun _ _ hW km hZ => ?_)
  replace hkm := hkm.tr km
  replace k_x0 := km.at k_x0 (by decide)
  replace k_x1 := km.at k_x1 (by decide)
  refine lv_goto (tgt := 13) C.1 C.2.1 dX15_readMen_112 (by decide) ?_
  exact hk_13 _ _ _ _ _ _ _ k_x0 k_x1 hkm hW hZ _ (lv_sub hl [0, 1, 2, 3] rfl) hE
set_option maxRecDepth 20000 in
theorem bX15_readMen_13 {p : Program} {l : Launch} {e : Env} {s : State} {m : MethodId} {args : Array Value} {below : List Frame} {meth : Method} {c : Code} {X : Ec} {h0 : Hp} {o : Int32 × Hp} {k_7 : Hp → Nat → Nat → Int32 → Option (Int32 × Hp)} {F : Nat} (C : Cx X p s m args meth c RX15 cX15_readMen 6 (some .boolean) "readMen") (hk_7 : ∀ (h : Hp) (x0 : Nat) (x1 : Nat) (x2 : Int32) (H : Heap) (locs : List Loc), hK h x0 = 15 → hK h x1 = 12 → Km h0 h → Wx X h H → va_S (aA (eB X)) s.heap H locs → ∀ (ls : Array Slot), lv_has ls 6 [(0, .ref x0), (1, .ref x1), (2, .int x2)] → k_7 h x0 x1 x2 = some o → W p l e (rm 2 43) s m args below meth c H locs 0 0 (MQ below (QI X h0 o.1 o.2) args s 0 0 (aA (eB X))) (F0 m 7 ls [])) : ∀ (f : Nat) {h : Hp} {x0 : Nat} {x1 : Nat} {x2 : Int32} {x3 : Int32} {H : Heap} {locs : List Loc} (k_x0 : hK h x0 = 15) (k_x1 : hK h x1 = 12), Km h0 h → Wx X h H → va_S (aA (eB X)) s.heap H locs → ∀ (ls : Array Slot), lv_has ls 6 [(0, .ref x0), (1, .ref x1), (2, .int x2), (3, .int x3)] → sX15_readMen_13 F k_7 f h x0 x1 x2 x3 = some o → W p l e (rm 2 43) s m args below meth c H locs 0 0 (MQ below (QI X h0 o.1 o.2) args s 0 0 (aA (eB X))) (F0 m 13 ls []) := by
  intro f
  induction f with
  | zero =>
    intro h x0 x1 x2 x3 H locs k_x0 k_x1 hkm hW hZ ls hl hE
    rw [sX15_readMen_13] at hE
    cases hE
  | succ f ih =>
    intro h x0 x1 x2 x3 H locs k_x0 k_x1 hkm hW hZ ls hl hE
    rw [sX15_readMen_13] at hE
    have hk_13 : ∀ (h : Hp) (x0 : Nat) (x1 : Nat) (x2 : Int32) (x3 : Int32) (H : Heap) (locs : List Loc), hK h x0 = 15 → hK h x1 = 12 → Km h0 h → Wx X h H → va_S (aA (eB X)) s.heap H locs → ∀ (ls : Array Slot), lv_has ls 6 [(0, .ref x0), (1, .ref x1), (2, .int x2), (3, .int x3)] → sX15_readMen_13 F k_7 f h x0 x1 x2 x3 = some o → W p l e (rm 2 43) s m args below meth c H locs 0 0 (MQ below (QI X h0 o.1 o.2) args s 0 0 (aA (eB X))) (F0 m 13 ls []) := fun h x0 x1 x2 x3 H locs k_x0 k_x1 a b c ls hl hE => ih k_x0 k_x1 a b c ls hl hE
    refine lv_iload_n C.1 C.2.1 dX15_readMen_13 rfl (lv_at hl 3 rfl) ?_
    refine lv_aload_n C.1 C.2.1 dX15_readMen_14 rfl (lv_at hl 0 rfl) ?_
    refine gf_X15_382 C hW k_x0 dX15_readMen_15 ?_
    refine lv_icmp_ge (tgt := 115) C.1 C.2.1 dX15_readMen_18 (by decide) (fun c_1 => ?_) (fun c_1 => ?_)
    · have hE := br_p hE c_1
      refine lv_iload_n C.1 C.2.1 dX15_readMen_115 rfl (lv_at hl 2 rfl) ?_
      refine lv_if_le (tgt := 130) C.1 C.2.1 dX15_readMen_116 (by decide) (fun c_2 => ?_) (fun c_2 => ?_)
      · have hE := br_p hE c_2
        exact bX15_readMen_130 C hk_7 k_x0 k_x1 hkm hW hZ _ (lv_sub hl [0, 1, 2] rfl) hE
      · have hE := br_n hE c_2
        refine lv_aload_n C.1 C.2.1 dX15_readMen_119 rfl (lv_at hl 0 rfl) ?_
        refine lv_bipush (v := (47 : Int32)) C.1 C.2.1 dX15_readMen_120 (by decide) ?_
        obtain ⟨o_3, eo_3, hE⟩ := cl_e hE
        refine x_kI (o := o_3) (z_runV (As := [.int (47 : Int32)]) (rest := []) C (ct_X15_reads l X k_x0 eo_3) cw_X15_427 hW hZ k_x0 (by decide) rfl rfl rfl hl.1 (Nat.le_of_ble_eq_true rfl) rfl dX15_readMen_122 ⟨Nat.le_of_ble_eq_true rfl, Nat.le_of_ble_eq_true rfl⟩ ⟨Nat.le_refl _, Nat.le_refl _⟩) hZ (fun _ _ hW km hZ => ?_)
        replace hkm := hkm.tr km
        replace k_x0 := km.at k_x0 (by decide)
        replace k_x1 := km.at k_x1 (by decide)
        refine lv_if_ne (tgt := 130) C.1 C.2.1 dX15_readMen_125 (by decide) (fun c_4 => ?_) (fun c_4 => ?_)
        · have hE := br_n hE c_4
          exact bX15_readMen_130 C hk_7 k_x0 k_x1 hkm hW hZ _ (lv_sub hl [0, 1, 2] rfl) hE
        · have hE := br_p hE c_4
          refine lv_iconst (v := (0 : Int32)) C.1 C.2.1 dX15_readMen_128 (by decide) ?_
          exact x_iret C rfl (by decide) hW hZ hkm hE dX15_readMen_129
    · have hE := br_n hE c_1
      refine lv_aload_n C.1 C.2.1 dX15_readMen_21 rfl (lv_at hl 0 rfl) ?_
      obtain ⟨o_5, eo_5, hE⟩ := cl_e hE
      refine x_kI (o := o_5) (z_runV (As := []) (rest := []) C (ct_X15_look l X k_x0 eo_5) cw_X15_421 hW hZ k_x0 (by decide) rfl rfl rfl hl.1 (Nat.le_of_ble_eq_true rfl) rfl dX15_readMen_22 ⟨Nat.le_of_ble_eq_true rfl, Nat.le_of_ble_eq_true rfl⟩ ⟨Nat.le_refl _, Nat.le_refl _⟩) hZ (fun _ _ hW km hZ => ?_)
      replace hkm := hkm.tr km
      replace k_x0 := km.at k_x0 (by decide)
      replace k_x1 := km.at k_x1 (by decide)
      refine lv_istore (lv' := [(4, .int o_5.1), (0, .ref x0), (1, .ref x1), (2, .int x2), (3, .int x3)]) C.1 C.2.1 dX15_readMen_25 hl (by decide) rfl (fun ls hl => ?_)
      refine lv_aload_n C.1 C.2.1 dX15_readMen_27 rfl (lv_at hl 1 rfl) ?_
      refine lv_iload C.1 C.2.1 dX15_readMen_28 (lv_at hl 0 rfl) ?_
      obtain ⟨o_6, eo_6, hE⟩ := cl_e hE
      refine x_kI (o := o_6) (z_runV (As := [.int o_5.1]) (rest := []) C (ct_X15_manLetter l X F k_x0 eo_6) cw_X15_424 hW hZ k_x0 (by decide) rfl rfl rfl hl.1 (Nat.le_of_ble_eq_true rfl) rfl dX15_readMen_30 ⟨Nat.le_of_ble_eq_true rfl, Nat.le_of_ble_eq_true rfl⟩ ⟨Nat.le_refl _, Nat.le_refl _⟩) hZ (fun _ _ hW km hZ => ?_)
      replace hkm := hkm.tr km
      replace k_x0 := km.at k_x0 (by decide)
      replace k_x1 := km.at k_x1 (by decide)
      refine lv_istore (lv' := [(5, .int o_6.1), (4, .int o_5.1), (0, .ref x0), (1, .ref x1), (2, .int x2), (3, .int x3)]) C.1 C.2.1 dX15_readMen_33 hl (by decide) rfl (fun ls hl => ?_)
      refine lv_iload C.1 C.2.1 dX15_readMen_35 (lv_at hl 0 rfl) ?_
      refine lv_if_le (tgt := 61) C.1 C.2.1 dX15_readMen_37 (by decide) (fun c_7 => ?_) (fun c_7 => ?_)
      · have hE := br_p hE c_7
        refine lv_iload C.1 C.2.1 dX15_readMen_61 (lv_at hl 1 rfl) ?_
        refine lv_bipush (v := (49 : Int32)) C.1 C.2.1 dX15_readMen_63 (by decide) ?_
        refine lv_icmp_lt (tgt := 100) C.1 C.2.1 dX15_readMen_65 (by decide) (fun c_8 => ?_) (fun c_8 => ?_)
        · have hE := br_p hE c_8
          exact bX15_readMen_100 C hkm hW hZ _ (lv_sub hl [] rfl) hE
        · have hE := br_n hE c_8
          refine lv_iload C.1 C.2.1 dX15_readMen_68 (lv_at hl 1 rfl) ?_
          refine lv_bipush (v := (56 : Int32)) C.1 C.2.1 dX15_readMen_70 (by decide) ?_
          refine lv_icmp_gt (tgt := 100) C.1 C.2.1 dX15_readMen_72 (by decide) (fun c_9 => ?_) (fun c_9 => ?_)
          · have hE := br_p hE c_9
            exact bX15_readMen_100 C hkm hW hZ _ (lv_sub hl [] rfl) hE
          · have hE := br_n hE c_9
            refine lv_iload_n C.1 C.2.1 dX15_readMen_75 rfl (lv_at hl 5 rfl) ?_
            refine lv_iload C.1 C.2.1 dX15_readMen_76 (lv_at hl 1 rfl) ?_
            refine lv_iadd C.1 C.2.1 dX15_readMen_78 ?_
            refine lv_bipush (v := (48 : Int32)) C.1 C.2.1 dX15_readMen_79 (by decide) ?_
            refine lv_isub C.1 C.2.1 dX15_readMen_81 ?_
            refine lv_aload_n C.1 C.2.1 dX15_readMen_82 rfl (lv_at hl 2 rfl) ?_
            refine gf_X15_382 C hW k_x0 dX15_readMen_83 ?_
            refine lv_icmp_gt (tgt := 100) C.1 C.2.1 dX15_readMen_86 (by decide) (fun c_10 => ?_) (fun c_10 => ?_)
            · have hE := br_p hE c_10
              exact bX15_readMen_100 C hkm hW hZ _ (lv_sub hl [] rfl) hE
            · have hE := br_n hE c_10
              refine lv_iload_n C.1 C.2.1 dX15_readMen_89 rfl (lv_at hl 5 rfl) ?_
              refine lv_iload C.1 C.2.1 dX15_readMen_90 (lv_at hl 1 rfl) ?_
              refine lv_bipush (v := (48 : Int32)) C.1 C.2.1 dX15_readMen_92 (by decide) ?_
              refine lv_isub C.1 C.2.1 dX15_readMen_94 ?_
              refine lv_iadd C.1 C.2.1 dX15_readMen_95 ?_
              obtain ⟨v_11, ev_11, hE⟩ := nm_e2 hE
              refine x_nmI ev_11 ?_
              refine lv_istore_n (lv' := [(3, .int v_11), (5, .int o_6.1), (4, .int o_5.1), (0, .ref x0), (1, .ref x1), (2, .int x2)]) C.1 C.2.1 dX15_readMen_96 rfl hl (by decide) rfl (fun ls hl => ?_)
              refine lv_goto (tgt := 102) C.1 C.2.1 dX15_readMen_97 (by decide) ?_
              exact bX15_readMen_102 C hk_7 hk_13 k_x0 k_x1 hkm hW hZ _ (lv_sub hl [3, 4, 5, 0] rfl) hE
      · have hE := br_n hE c_7
        refine lv_aload_n C.1 C.2.1 dX15_readMen_40 rfl (lv_at hl 3 rfl) ?_
        obtain ⟨r_12, er_12, hE⟩ := cl_e hE
        refine gf_X15_396 C hW k_x1 er_12 dX15_readMen_41 (fun k_r_12 => ?_)
        refine lv_iload_n C.1 C.2.1 dX15_readMen_44 rfl (lv_at hl 4 rfl) ?_
        refine lv_aload_n C.1 C.2.1 dX15_readMen_45 rfl (lv_at hl 2 rfl) ?_
        refine gf_X15_382 C hW k_x0 dX15_readMen_46 ?_
        refine lv_imul C.1 C.2.1 dX15_readMen_49 ?_
        refine lv_iload_n C.1 C.2.1 dX15_readMen_50 rfl (lv_at hl 5 rfl) ?_
        refine lv_iadd C.1 C.2.1 dX15_readMen_51 ?_
        refine lv_iload C.1 C.2.1 dX15_readMen_52 (lv_at hl 0 rfl) ?_
        obtain ⟨g_13, hE⟩ := gd_e hE
        obtain ⟨h_14, eh_14, hE⟩ := nm_e2 hE
        refine y_iast C hW hZ k_r_12 g_13 eh_14 dX15_readMen_54 (fun _ _ hW km hZ => ?_)
        replace hkm := hkm.tr km
        replace k_x0 := km.at k_x0 (by decide)
        replace k_x1 := km.at k_x1 (by decide)
        obtain ⟨v_15, ev_15, hE⟩ := nm_e2 hE
        refine lv_iinc (v := v_15) (lv' := [(3, .int v_15), (5, .int o_6.1), (4, .int o_5.1), (0, .ref x0), (1, .ref x1), (2, .int x2)]) C.1 C.2.1 dX15_readMen_55 hl (k := 5) rfl (by rw [ev_15]; rfl) (by decide) rfl (fun ls hl => ?_)
        refine lv_goto (tgt := 102) C.1 C.2.1 dX15_readMen_58 (by decide) ?_
        exact bX15_readMen_102 C hk_7 hk_13 k_x0 k_x1 hkm hW hZ _ (lv_sub hl [3, 4, 5, 0] rfl) hE
set_option maxRecDepth 20000 in
theorem bX15_readMen_7 {p : Program} {l : Launch} {e : Env} {s : State} {m : MethodId} {args : Array Value} {below : List Frame} {meth : Method} {c : Code} {X : Ec} {h0 : Hp} {o : Int32 × Hp} {F : Nat} (C : Cx X p s m args meth c RX15 cX15_readMen 6 (some .boolean) "readMen") : ∀ (f : Nat) {h : Hp} {x0 : Nat} {x1 : Nat} {x2 : Int32} {H : Heap} {locs : List Loc} (k_x0 : hK h x0 = 15) (k_x1 : hK h x1 = 12), Km h0 h → Wx X h H → va_S (aA (eB X)) s.heap H locs → ∀ (ls : Array Slot), lv_has ls 6 [(0, .ref x0), (1, .ref x1), (2, .int x2)] → sX15_readMen_7 F f h x0 x1 x2 = some o → W p l e (rm 2 43) s m args below meth c H locs 0 0 (MQ below (QI X h0 o.1 o.2) args s 0 0 (aA (eB X))) (F0 m 7 ls []) := by
  intro f
  induction f with
  | zero =>
    intro h x0 x1 x2 H locs k_x0 k_x1 hkm hW hZ ls hl hE
    rw [sX15_readMen_7] at hE
    cases hE
  | succ f ih =>
    intro h x0 x1 x2 H locs k_x0 k_x1 hkm hW hZ ls hl hE
    rw [sX15_readMen_7] at hE
    have hk_7 : ∀ (h : Hp) (x0 : Nat) (x1 : Nat) (x2 : Int32) (H : Heap) (locs : List Loc), hK h x0 = 15 → hK h x1 = 12 → Km h0 h → Wx X h H → va_S (aA (eB X)) s.heap H locs → ∀ (ls : Array Slot), lv_has ls 6 [(0, .ref x0), (1, .ref x1), (2, .int x2)] → sX15_readMen_7 F f h x0 x1 x2 = some o → W p l e (rm 2 43) s m args below meth c H locs 0 0 (MQ below (QI X h0 o.1 o.2) args s 0 0 (aA (eB X))) (F0 m 7 ls []) := fun h x0 x1 x2 H locs k_x0 k_x1 a b c ls hl hE => ih k_x0 k_x1 a b c ls hl hE
    refine lv_iload_n C.1 C.2.1 dX15_readMen_7 rfl (lv_at hl 2 rfl) ?_
    refine lv_if_lt (tgt := 136) C.1 C.2.1 dX15_readMen_8 (by decide) (fun c_1 => ?_) (fun c_1 => ?_)
    · have hE := br_p hE c_1
      refine lv_aload_n C.1 C.2.1 dX15_readMen_136 rfl (lv_at hl 0 rfl) ?_
      refine lv_bipush (v := (32 : Int32)) C.1 C.2.1 dX15_readMen_137 (by decide) ?_
      obtain ⟨o_2, eo_2, hE⟩ := cl_e hE
      refine x_kI (o := o_2) (z_runV (As := [.int (32 : Int32)]) (rest := []) C (ct_X15_reads l X k_x0 eo_2) cw_X15_427 hW hZ k_x0 (by decide) rfl rfl rfl hl.1 (Nat.le_of_ble_eq_true rfl) rfl dX15_readMen_139 ⟨Nat.le_of_ble_eq_true rfl, Nat.le_of_ble_eq_true rfl⟩ ⟨Nat.le_refl _, Nat.le_refl _⟩) hZ (fun _ _ hW km hZ => ?_)
      replace hkm := hkm.tr km
      replace k_x0 := km.at k_x0 (by decide)
      replace k_x1 := km.at k_x1 (by decide)
      obtain ⟨g_3, hE⟩ := gd_e hE
      exact x_iret C rfl (narB g_3) hW hZ hkm hE dX15_readMen_142
    · have hE := br_n hE c_1
      refine lv_iconst (v := (0 : Int32)) C.1 C.2.1 dX15_readMen_11 (by decide) ?_
      refine lv_istore_n (lv' := [(3, .int (0 : Int32)), (0, .ref x0), (1, .ref x1), (2, .int x2)]) C.1 C.2.1 dX15_readMen_12 rfl hl (by decide) rfl (fun ls hl => ?_)
      exact bX15_readMen_13 C hk_7 F k_x0 k_x1 hkm hW hZ _ (lv_sub hl [1, 2, 3, 0] rfl) hE
set_option maxRecDepth 20000 in
theorem ct_X15_readMen (l : Launch) (X : Ec) (F : Nat) {h : Hp} {x0 : Nat} {x1 : Nat} {o : Int32 × Hp} (k_x0 : hK h x0 = 15) (k_x1 : hK h x1 = 12) (hE : sX15_readMen F h x0 x1 = some o) : MetI l yX15_readMen cX15_readMen 6 (some .boolean) 2 43 X [.ref x0, .ref x1] h o := by
  refine x_met (by decide) (Nat.le_of_ble_eq_true rfl) ?_
  intro p e s m below meth c ls C hl hW hZ
  have hl : lv_has ls 6 [(0, .ref x0), (1, .ref x1)] := hl
  have hkm : Km h h := Km.rf h
  refine lv_aload_n C.1 C.2.1 dX15_readMen_0 rfl (lv_at hl 0 rfl) ?_
  refine gf_X15_383 C hW k_x0 dX15_readMen_1 ?_
  refine lv_iconst (v := (1 : Int32)) C.1 C.2.1 dX15_readMen_4 (by decide) ?_
  refine lv_isub C.1 C.2.1 dX15_readMen_5 ?_
  obtain ⟨v_1, ev_1, hE⟩ := nm_e2 hE
  refine x_nmI ev_1 ?_
  refine lv_istore_n (lv' := [(2, .int v_1), (0, .ref x0), (1, .ref x1)]) C.1 C.2.1 dX15_readMen_6 rfl hl (by decide) rfl (fun ls hl => ?_)
  exact bX15_readMen_7 C F k_x0 k_x1 hkm hW hZ _ (lv_sub hl [1, 2, 0] rfl) hE
theorem n_1932 : Cond.fieldLinkNest RX15 452 (TX12 1).1 (TX12 1).2.1 (TX12 1).2.2.1 "GameRulesModel" ∈ tables_1 := List.mem_of_getElem? (i := 1932) (by decide +kernel)
section
variable {p : Program} {l : Launch} {e : Env} {R : Room} {s : State} {m : MethodId} {args : Array Value} {below : List Frame} {meth : Method} {c : Code} {H : Heap} {locs : List Loc} {cells slots : Nat} {Q : State → Prop}
variable {cc : ByteArray} {pc : Nat} {ls : Array Slot} {rest : List Value} {X : Ec} {h h1 : Hp} {nL : Nat} {rt : Option FieldType} {mn : String}
theorem pf_X15_452 {a : Nat} {v : Int32} (C : Cx X p s m args meth c RX15 cc nL rt mn) (hW : Wx X h H) (hZ : va_S (aA (eB X)) s.heap H locs) (ha : hK h a = 12) (eh : h1 = wI h a 1 v) (hdg : decode cc pc = .ok (.putfield 452, 3)) (kk : ∀ (H1 : Heap) (locs1 : List Loc), Wx X h1 H1 → Km h h1 → va_S (aA (eB X)) s.heap H1 locs1 → W p l e R s m args below meth c H1 locs1 cells slots Q (F0 m (pc + 3) ls rest)) : W p l e R s m args below meth c H locs cells slots Q (F0 m pc ls (.int v :: .ref a :: rest)) :=
  y_putiN (ty := .int) C hW hZ ha i_X12 tyX12 tyX12_ok nmX12 (by decide) rfl rfl (by decide) n_1932 rfl (by decide +kernel) rfl rfl rfl eh hdg kk
end
theorem dX15_readSide_0 : decode cX15_readSide 0 = .ok (.aload_n 0, 1) := by decide +kernel
theorem dX15_readSide_1 : decode cX15_readSide 1 = .ok (.invokevirtual 421, 3) := by decide +kernel
theorem dX15_readSide_4 : decode cX15_readSide 4 = .ok (.bipush 119, 2) := by decide +kernel
theorem dX15_readSide_6 : decode cX15_readSide 6 = .ok (.if_icmp .eq 14, 3) := by decide +kernel
theorem dX15_readSide_9 : decode cX15_readSide 9 = .ok (.aload_n 0, 1) := by decide +kernel
theorem dX15_readSide_10 : decode cX15_readSide 10 = .ok (.invokevirtual 421, 3) := by decide +kernel
theorem dX15_readSide_13 : decode cX15_readSide 13 = .ok (.bipush 98, 2) := by decide +kernel
theorem dX15_readSide_15 : decode cX15_readSide 15 = .ok (.if_icmp .eq 5, 3) := by decide +kernel
theorem dX15_readSide_18 : decode cX15_readSide 18 = .ok (.iconst 0, 1) := by decide +kernel
theorem dX15_readSide_19 : decode cX15_readSide 19 = .ok (.ireturn, 1) := by decide +kernel
theorem dX15_readSide_20 : decode cX15_readSide 20 = .ok (.aload_n 1, 1) := by decide +kernel
theorem dX15_readSide_21 : decode cX15_readSide 21 = .ok (.aload_n 0, 1) := by decide +kernel
theorem dX15_readSide_22 : decode cX15_readSide 22 = .ok (.invokevirtual 421, 3) := by decide +kernel
theorem dX15_readSide_25 : decode cX15_readSide 25 = .ok (.bipush 119, 2) := by decide +kernel
theorem dX15_readSide_27 : decode cX15_readSide 27 = .ok (.if_icmp .ne 7, 3) := by decide +kernel
theorem dX15_readSide_30 : decode cX15_readSide 30 = .ok (.iconst 0, 1) := by decide +kernel
theorem dX15_readSide_31 : decode cX15_readSide 31 = .ok (.goto 4, 3) := by decide +kernel
theorem dX15_readSide_34 : decode cX15_readSide 34 = .ok (.iconst 1, 1) := by decide +kernel
theorem dX15_readSide_35 : decode cX15_readSide 35 = .ok (.putfield 452, 3) := by decide +kernel
theorem dX15_readSide_38 : decode cX15_readSide 38 = .ok (.aload_n 0, 1) := by decide +kernel
theorem dX15_readSide_39 : decode cX15_readSide 39 = .ok (.dup, 1) := by decide +kernel
theorem dX15_readSide_40 : decode cX15_readSide 40 = .ok (.getfield 412, 3) := by decide +kernel
theorem dX15_readSide_43 : decode cX15_readSide 43 = .ok (.iconst 1, 1) := by decide +kernel
theorem dX15_readSide_44 : decode cX15_readSide 44 = .ok (.iadd, 1) := by decide +kernel
theorem dX15_readSide_45 : decode cX15_readSide 45 = .ok (.putfield 412, 3) := by decide +kernel
theorem dX15_readSide_48 : decode cX15_readSide 48 = .ok (.aload_n 0, 1) := by decide +kernel
theorem dX15_readSide_49 : decode cX15_readSide 49 = .ok (.bipush 32, 2) := by decide +kernel
theorem dX15_readSide_51 : decode cX15_readSide 51 = .ok (.invokevirtual 427, 3) := by decide +kernel
theorem dX15_readSide_54 : decode cX15_readSide 54 = .ok (.ireturn, 1) := by decide +kernel
def sX15_readSide_35 (h : Hp) (x0 : Nat) (t0 : Int32) (t1 : Nat) : Option (Int32 × Hp) := nm (wI h t1 1 t0) fun h_1 => nm (wI h_1 x0 19 ((hI h_1 x0 19) + (1 : Int32))) fun h_2 => cl (sX15_reads h_2 x0 (32 : Int32)) fun o_3 => gd (o_3.1 &&& 1 = o_3.1) <| some (o_3.1, o_3.2)
def sX15_readSide_20 (h : Hp) (x0 : Nat) (x1 : Nat) : Option (Int32 × Hp) := cl (sX15_look h x0) fun o_1 => br (o_1.1 = (119 : Int32)) (sX15_readSide_35  o_1.2 x0 (0 : Int32) x1) (sX15_readSide_35  o_1.2 x0 (1 : Int32) x1)
def sX15_readSide (h : Hp) (x0 : Nat) (x1 : Nat) : Option (Int32 × Hp) := cl (sX15_look h x0) fun o_1 => br (o_1.1 = (119 : Int32)) (sX15_readSide_20  o_1.2 x0 x1) (cl (sX15_look o_1.2 x0) fun o_3 => br (o_3.1 = (98 : Int32)) (sX15_readSide_20  o_3.2 x0 x1) (some ((0 : Int32), o_3.2)))
theorem moX15_readSide_35 {o : Int32 × Hp} {h : Hp} {x0 : Nat} {t0 : Int32} {t1 : Nat} (hE : sX15_readSide_35 h x0 t0 t1 = some o) : Le h o.2 := by
  obtain ⟨h_1, eh_1, hE⟩ := nm_e2 hE
  refine (le_I eh_1).tr ?_
  obtain ⟨h_2, eh_2, hE⟩ := nm_e2 hE
  refine (le_I eh_2).tr ?_
  obtain ⟨o_3, eo_3, hE⟩ := cl_e hE
  refine (moX15_reads eo_3).tr ?_
  obtain ⟨g_4, hE⟩ := gd_e hE
  cases hE
  exact Le.rf _
theorem moX15_readSide_20 {o : Int32 × Hp} {h : Hp} {x0 : Nat} {x1 : Nat} (hE : sX15_readSide_20 h x0 x1 = some o) : Le h o.2 := by
  obtain ⟨o_1, eo_1, hE⟩ := cl_e hE
  refine (moX15_look eo_1).tr ?_
  rcases br_e hE with ⟨_, hE⟩ | ⟨_, hE⟩
  · exact moX15_readSide_35 hE
  · exact moX15_readSide_35 hE
theorem moX15_readSide {o : Int32 × Hp} {h : Hp} {x0 : Nat} {x1 : Nat} (hE : sX15_readSide h x0 x1 = some o) : Le h o.2 := by
  obtain ⟨o_1, eo_1, hE⟩ := cl_e hE
  refine (moX15_look eo_1).tr ?_
  rcases br_e hE with ⟨_, hE⟩ | ⟨_, hE⟩
  · exact moX15_readSide_20 hE
  · obtain ⟨o_3, eo_3, hE⟩ := cl_e hE
    refine (moX15_look eo_3).tr ?_
    rcases br_e hE with ⟨_, hE⟩ | ⟨_, hE⟩
    · exact moX15_readSide_20 hE
    · cases hE
      exact Le.rf _
set_option maxRecDepth 20000 in
theorem bX15_readSide_35 {p : Program} {l : Launch} {e : Env} {s : State} {m : MethodId} {args : Array Value} {below : List Frame} {meth : Method} {c : Code} {X : Ec} {h0 : Hp} {o : Int32 × Hp} (C : Cx X p s m args meth c RX15 cX15_readSide 2 (some .boolean) "readSide") {h : Hp} {x0 : Nat} {t0 : Int32} {t1 : Nat} {H : Heap} {locs : List Loc} (k_x0 : hK h x0 = 15) (k_t1 : hK h t1 = 12) (hkm : Km h0 h) (hW : Wx X h H) (hZ : va_S (aA (eB X)) s.heap H locs) (ls : Array Slot) (hl : lv_has ls 2 [(0, .ref x0)]) (hE : sX15_readSide_35 h x0 t0 t1 = some o) : W p l e (rm 2 41) s m args below meth c H locs 0 0 (MQ below (QI X h0 o.1 o.2) args s 0 0 (aA (eB X))) (F0 m 35 ls [.int t0, .ref t1]) := by
  obtain ⟨h_1, eh_1, hE⟩ := nm_e2 hE
  refine pf_X15_452 C hW hZ k_t1 eh_1 dX15_readSide_35 (fun _ _ hW km hZ => ?_)
  replace hkm := hkm.tr km
  replace k_x0 := km.at k_x0 (by decide)
  refine lv_aload_n C.1 C.2.1 dX15_readSide_38 rfl (lv_at hl 0 rfl) ?_
  refine lv_dup C.1 C.2.1 dX15_readSide_39 rfl ?_
  refine gf_X15_412 C hW k_x0 dX15_readSide_40 ?_
  refine lv_iconst (v := (1 : Int32)) C.1 C.2.1 dX15_readSide_43 (by decide) ?_
  refine lv_iadd C.1 C.2.1 dX15_readSide_44 ?_
  obtain ⟨h_2, eh_2, hE⟩ := nm_e2 hE
  refine pf_X15_412 C hW hZ k_x0 eh_2 dX15_readSide_45 (fun _ _ hW km hZ => ?_)
  replace hkm := hkm.tr km
  replace k_x0 := km.at k_x0 (by decide)
  refine lv_aload_n C.1 C.2.1 dX15_readSide_48 rfl (lv_at hl 0 rfl) ?_
  refine lv_bipush (v := (32 : Int32)) C.1 C.2.1 dX15_readSide_49 (by decide) ?_
  obtain ⟨o_3, eo_3, hE⟩ := cl_e hE
  refine x_kI (o := o_3) (z_runV (As := [.int (32 : Int32)]) (rest := []) C (ct_X15_reads l X k_x0 eo_3) cw_X15_427 hW hZ k_x0 (by decide) rfl rfl rfl hl.1 (Nat.le_of_ble_eq_true rfl) rfl dX15_readSide_51 ⟨Nat.le_of_ble_eq_true rfl, Nat.le_of_ble_eq_true rfl⟩ ⟨Nat.le_refl _, Nat.le_refl _⟩) hZ (fun _ _ hW km hZ => ?_)
  replace hkm := hkm.tr km
  replace k_x0 := km.at k_x0 (by decide)
  obtain ⟨g_4, hE⟩ := gd_e hE
  exact x_iret C rfl (narB g_4) hW hZ hkm hE dX15_readSide_54
set_option maxRecDepth 20000 in
theorem bX15_readSide_20 {p : Program} {l : Launch} {e : Env} {s : State} {m : MethodId} {args : Array Value} {below : List Frame} {meth : Method} {c : Code} {X : Ec} {h0 : Hp} {o : Int32 × Hp} (C : Cx X p s m args meth c RX15 cX15_readSide 2 (some .boolean) "readSide") {h : Hp} {x0 : Nat} {x1 : Nat} {H : Heap} {locs : List Loc} (k_x0 : hK h x0 = 15) (k_x1 : hK h x1 = 12) (hkm : Km h0 h) (hW : Wx X h H) (hZ : va_S (aA (eB X)) s.heap H locs) (ls : Array Slot) (hl : lv_has ls 2 [(0, .ref x0), (1, .ref x1)]) (hE : sX15_readSide_20 h x0 x1 = some o) : W p l e (rm 2 41) s m args below meth c H locs 0 0 (MQ below (QI X h0 o.1 o.2) args s 0 0 (aA (eB X))) (F0 m 20 ls []) := by
  refine lv_aload_n C.1 C.2.1 dX15_readSide_20 rfl (lv_at hl 1 rfl) ?_
  refine lv_aload_n C.1 C.2.1 dX15_readSide_21 rfl (lv_at hl 0 rfl) ?_
  obtain ⟨o_1, eo_1, hE⟩ := cl_e hE
  refine x_kI (o := o_1) (z_runV (As := []) (rest := [.ref x1]) C (ct_X15_look l X k_x0 eo_1) cw_X15_421 hW hZ k_x0 (by decide) rfl rfl rfl hl.1 (Nat.le_of_ble_eq_true rfl) rfl dX15_readSide_22 ⟨Nat.le_of_ble_eq_true rfl, Nat.le_of_ble_eq_true rfl⟩ ⟨Nat.le_refl _, Nat.le_refl _⟩) hZ (fun _ _ hW km hZ => ?_)
  replace hkm := hkm.tr km
  replace k_x0 := km.at k_x0 (by decide)
  replace k_x1 := km.at k_x1 (by decide)
  refine lv_bipush (v := (119 : Int32)) C.1 C.2.1 dX15_readSide_25 (by decide) ?_
  refine lv_icmp_ne (tgt := 34) C.1 C.2.1 dX15_readSide_27 (by decide) (fun c_2 => ?_) (fun c_2 => ?_)
  · have hE := br_n hE c_2
    refine lv_iconst (v := (1 : Int32)) C.1 C.2.1 dX15_readSide_34 (by decide) ?_
    exact bX15_readSide_35 C k_x0 k_x1 hkm hW hZ _ (lv_sub hl [0] rfl) hE
  · have hE := br_p hE c_2
    refine lv_iconst (v := (0 : Int32)) C.1 C.2.1 dX15_readSide_30 (by decide) ?_
    refine lv_goto (tgt := 35) C.1 C.2.1 dX15_readSide_31 (by decide) ?_
    exact bX15_readSide_35 C k_x0 k_x1 hkm hW hZ _ (lv_sub hl [0] rfl) hE
set_option maxRecDepth 20000 in
theorem ct_X15_readSide (l : Launch) (X : Ec) {h : Hp} {x0 : Nat} {x1 : Nat} {o : Int32 × Hp} (k_x0 : hK h x0 = 15) (k_x1 : hK h x1 = 12) (hE : sX15_readSide h x0 x1 = some o) : MetI l yX15_readSide cX15_readSide 2 (some .boolean) 2 41 X [.ref x0, .ref x1] h o := by
  refine x_met (by decide) (Nat.le_of_ble_eq_true rfl) ?_
  intro p e s m below meth c ls C hl hW hZ
  have hl : lv_has ls 2 [(0, .ref x0), (1, .ref x1)] := hl
  have hkm : Km h h := Km.rf h
  refine lv_aload_n C.1 C.2.1 dX15_readSide_0 rfl (lv_at hl 0 rfl) ?_
  obtain ⟨o_1, eo_1, hE⟩ := cl_e hE
  refine x_kI (o := o_1) (z_runV (As := []) (rest := []) C (ct_X15_look l X k_x0 eo_1) cw_X15_421 hW hZ k_x0 (by decide) rfl rfl rfl hl.1 (Nat.le_of_ble_eq_true rfl) rfl dX15_readSide_1 ⟨Nat.le_of_ble_eq_true rfl, Nat.le_of_ble_eq_true rfl⟩ ⟨Nat.le_refl _, Nat.le_refl _⟩) hZ (fun _ _ hW km hZ => ?_)
  replace hkm := hkm.tr km
  replace k_x0 := km.at k_x0 (by decide)
  replace k_x1 := km.at k_x1 (by decide)
  refine lv_bipush (v := (119 : Int32)) C.1 C.2.1 dX15_readSide_4 (by decide) ?_
  refine lv_icmp_eq (tgt := 20) C.1 C.2.1 dX15_readSide_6 (by decide) (fun c_2 => ?_) (fun c_2 => ?_)
  · have hE := br_p hE c_2
    exact bX15_readSide_20 C k_x0 k_x1 hkm hW hZ _ (lv_sub hl [0, 1] rfl) hE
  · have hE := br_n hE c_2
    refine lv_aload_n C.1 C.2.1 dX15_readSide_9 rfl (lv_at hl 0 rfl) ?_
    obtain ⟨o_3, eo_3, hE⟩ := cl_e hE
    refine x_kI (o := o_3) (z_runV (As := []) (rest := []) C (ct_X15_look l X k_x0 eo_3) cw_X15_421 hW hZ k_x0 (by decide) rfl rfl rfl hl.1 (Nat.le_of_ble_eq_true rfl) rfl dX15_readSide_10 ⟨Nat.le_of_ble_eq_true rfl, Nat.le_of_ble_eq_true rfl⟩ ⟨Nat.le_refl _, Nat.le_refl _⟩) hZ (fun _ _ hW km hZ => ?_)
    replace hkm := hkm.tr km
    replace k_x0 := km.at k_x0 (by decide)
    replace k_x1 := km.at k_x1 (by decide)
    refine lv_bipush (v := (98 : Int32)) C.1 C.2.1 dX15_readSide_13 (by decide) ?_
    refine lv_icmp_eq (tgt := 20) C.1 C.2.1 dX15_readSide_15 (by decide) (fun c_4 => ?_) (fun c_4 => ?_)
    · have hE := br_p hE c_4
      exact bX15_readSide_20 C k_x0 k_x1 hkm hW hZ _ (lv_sub hl [0, 1] rfl) hE
    · have hE := br_n hE c_4
      refine lv_iconst (v := (0 : Int32)) C.1 C.2.1 dX15_readSide_18 (by decide) ?_
      exact x_iret C rfl (by decide) hW hZ hkm hE dX15_readSide_19
theorem m_2152 : Cond.fieldLink RX15 430 (TX15 20).1 (TX15 20).2.1 (TX15 20).2.2.1 ∈ W0 := w0_in (List.mem_append_right _ (List.mem_of_getElem? (i := 2152) (by decide +kernel))) rfl
section
variable {p : Program} {l : Launch} {e : Env} {R : Room} {s : State} {m : MethodId} {args : Array Value} {below : List Frame} {meth : Method} {c : Code} {H : Heap} {locs : List Loc} {cells slots : Nat} {Q : State → Prop}
variable {cc : ByteArray} {pc : Nat} {ls : Array Slot} {rest : List Value} {X : Ec} {h h1 : Hp} {nL : Nat} {rt : Option FieldType} {mn : String}
theorem pf_X15_430 {a : Nat} {v : Int32} (C : Cx X p s m args meth c RX15 cc nL rt mn) (hW : Wx X h H) (hZ : va_S (aA (eB X)) s.heap H locs) (ha : hK h a = 15) (eh : h1 = wI h a 20 v) (hdg : decode cc pc = .ok (.putfield 430, 3)) (kk : ∀ (H1 : Heap) (locs1 : List Loc), Wx X h1 H1 → Km h h1 → va_S (aA (eB X)) s.heap H1 locs1 → W p l e R s m args below meth c H1 locs1 cells slots Q (F0 m (pc + 3) ls rest)) : W p l e R s m args below meth c H locs cells slots Q (F0 m pc ls (.int v :: .ref a :: rest)) :=
  y_puti (ty := .int) C hW hZ ha i_X15 tyX15 tyX15_ok nmX15 (by decide) rfl rfl (by decide) m_2152 rfl (by decide +kernel) rfl rfl rfl eh hdg kk
theorem gf_X15_430 {a : Nat} (C : Cx X p s m args meth c RX15 cc nL rt mn) (hW : Wx X h H) (ha : hK h a = 15) (hdg : decode cc pc = .ok (.getfield 430, 3)) (kk : W p l e R s m args below meth c H locs cells slots Q (F0 m (pc + 3) ls (.int (hI h a 20) :: rest))) : W p l e R s m args below meth c H locs cells slots Q (F0 m pc ls (.ref a :: rest)) :=
  y_geti C hW ha i_X15 (by decide) rfl (by decide) m_2152 rfl hdg kk
end
theorem dX15_readSquare_0 : decode cX15_readSquare 0 = .ok (.aload_n 0, 1) := by decide +kernel
theorem dX15_readSquare_1 : decode cX15_readSquare 1 = .ok (.invokevirtual 421, 3) := by decide +kernel
theorem dX15_readSquare_4 : decode cX15_readSquare 4 = .ok (.bipush 97, 2) := by decide +kernel
theorem dX15_readSquare_6 : decode cX15_readSquare 6 = .ok (.isub, 1) := by decide +kernel
theorem dX15_readSquare_7 : decode cX15_readSquare 7 = .ok (.istore_n 2, 1) := by decide +kernel
theorem dX15_readSquare_8 : decode cX15_readSquare 8 = .ok (.aload_n 0, 1) := by decide +kernel
theorem dX15_readSquare_9 : decode cX15_readSquare 9 = .ok (.invokevirtual 421, 3) := by decide +kernel
theorem dX15_readSquare_12 : decode cX15_readSquare 12 = .ok (.iconst (-1), 1) := by decide +kernel
theorem dX15_readSquare_13 : decode cX15_readSquare 13 = .ok (.if_icmp .eq 15, 3) := by decide +kernel
theorem dX15_readSquare_16 : decode cX15_readSquare 16 = .ok (.iload_n 2, 1) := by decide +kernel
theorem dX15_readSquare_17 : decode cX15_readSquare 17 = .ok (.ifCond .lt 11, 3) := by decide +kernel
theorem dX15_readSquare_20 : decode cX15_readSquare 20 = .ok (.iload_n 2, 1) := by decide +kernel
theorem dX15_readSquare_21 : decode cX15_readSquare 21 = .ok (.aload_n 0, 1) := by decide +kernel
theorem dX15_readSquare_22 : decode cX15_readSquare 22 = .ok (.getfield 382, 3) := by decide +kernel
theorem dX15_readSquare_25 : decode cX15_readSquare 25 = .ok (.if_icmp .lt 5, 3) := by decide +kernel
theorem dX15_readSquare_28 : decode cX15_readSquare 28 = .ok (.iconst 0, 1) := by decide +kernel
theorem dX15_readSquare_29 : decode cX15_readSquare 29 = .ok (.ireturn, 1) := by decide +kernel
theorem dX15_readSquare_30 : decode cX15_readSquare 30 = .ok (.aload_n 0, 1) := by decide +kernel
theorem dX15_readSquare_31 : decode cX15_readSquare 31 = .ok (.dup, 1) := by decide +kernel
theorem dX15_readSquare_32 : decode cX15_readSquare 32 = .ok (.getfield 412, 3) := by decide +kernel
theorem dX15_readSquare_35 : decode cX15_readSquare 35 = .ok (.iconst 1, 1) := by decide +kernel
theorem dX15_readSquare_36 : decode cX15_readSquare 36 = .ok (.iadd, 1) := by decide +kernel
theorem dX15_readSquare_37 : decode cX15_readSquare 37 = .ok (.putfield 412, 3) := by decide +kernel
theorem dX15_readSquare_40 : decode cX15_readSquare 40 = .ok (.aload_n 0, 1) := by decide +kernel
theorem dX15_readSquare_41 : decode cX15_readSquare 41 = .ok (.invokevirtual 421, 3) := by decide +kernel
theorem dX15_readSquare_44 : decode cX15_readSquare 44 = .ok (.bipush 49, 2) := by decide +kernel
theorem dX15_readSquare_46 : decode cX15_readSquare 46 = .ok (.isub, 1) := by decide +kernel
theorem dX15_readSquare_47 : decode cX15_readSquare 47 = .ok (.istore_n 3, 1) := by decide +kernel
theorem dX15_readSquare_48 : decode cX15_readSquare 48 = .ok (.aload_n 0, 1) := by decide +kernel
theorem dX15_readSquare_49 : decode cX15_readSquare 49 = .ok (.invokevirtual 421, 3) := by decide +kernel
theorem dX15_readSquare_52 : decode cX15_readSquare 52 = .ok (.iconst (-1), 1) := by decide +kernel
theorem dX15_readSquare_53 : decode cX15_readSquare 53 = .ok (.if_icmp .eq 15, 3) := by decide +kernel
theorem dX15_readSquare_56 : decode cX15_readSquare 56 = .ok (.iload_n 3, 1) := by decide +kernel
theorem dX15_readSquare_57 : decode cX15_readSquare 57 = .ok (.ifCond .lt 11, 3) := by decide +kernel
theorem dX15_readSquare_60 : decode cX15_readSquare 60 = .ok (.iload_n 3, 1) := by decide +kernel
theorem dX15_readSquare_61 : decode cX15_readSquare 61 = .ok (.aload_n 0, 1) := by decide +kernel
theorem dX15_readSquare_62 : decode cX15_readSquare 62 = .ok (.getfield 383, 3) := by decide +kernel
theorem dX15_readSquare_65 : decode cX15_readSquare 65 = .ok (.if_icmp .lt 5, 3) := by decide +kernel
theorem dX15_readSquare_68 : decode cX15_readSquare 68 = .ok (.iconst 0, 1) := by decide +kernel
theorem dX15_readSquare_69 : decode cX15_readSquare 69 = .ok (.ireturn, 1) := by decide +kernel
theorem dX15_readSquare_70 : decode cX15_readSquare 70 = .ok (.aload_n 0, 1) := by decide +kernel
theorem dX15_readSquare_71 : decode cX15_readSquare 71 = .ok (.iload_n 3, 1) := by decide +kernel
theorem dX15_readSquare_72 : decode cX15_readSquare 72 = .ok (.aload_n 0, 1) := by decide +kernel
theorem dX15_readSquare_73 : decode cX15_readSquare 73 = .ok (.getfield 382, 3) := by decide +kernel
theorem dX15_readSquare_76 : decode cX15_readSquare 76 = .ok (.imul, 1) := by decide +kernel
theorem dX15_readSquare_77 : decode cX15_readSquare 77 = .ok (.iload_n 2, 1) := by decide +kernel
theorem dX15_readSquare_78 : decode cX15_readSquare 78 = .ok (.iadd, 1) := by decide +kernel
theorem dX15_readSquare_79 : decode cX15_readSquare 79 = .ok (.putfield 430, 3) := by decide +kernel
theorem dX15_readSquare_82 : decode cX15_readSquare 82 = .ok (.aload_n 0, 1) := by decide +kernel
theorem dX15_readSquare_83 : decode cX15_readSquare 83 = .ok (.getfield 430, 3) := by decide +kernel
theorem dX15_readSquare_86 : decode cX15_readSquare 86 = .ok (.iload_n 1, 1) := by decide +kernel
theorem dX15_readSquare_87 : decode cX15_readSquare 87 = .ok (.if_icmp .gt 15, 3) := by decide +kernel
theorem dX15_readSquare_90 : decode cX15_readSquare 90 = .ok (.aload_n 0, 1) := by decide +kernel
theorem dX15_readSquare_91 : decode cX15_readSquare 91 = .ok (.dup, 1) := by decide +kernel
theorem dX15_readSquare_92 : decode cX15_readSquare 92 = .ok (.getfield 412, 3) := by decide +kernel
theorem dX15_readSquare_95 : decode cX15_readSquare 95 = .ok (.iconst 1, 1) := by decide +kernel
theorem dX15_readSquare_96 : decode cX15_readSquare 96 = .ok (.isub, 1) := by decide +kernel
theorem dX15_readSquare_97 : decode cX15_readSquare 97 = .ok (.putfield 412, 3) := by decide +kernel
theorem dX15_readSquare_100 : decode cX15_readSquare 100 = .ok (.iconst 0, 1) := by decide +kernel
theorem dX15_readSquare_101 : decode cX15_readSquare 101 = .ok (.ireturn, 1) := by decide +kernel
theorem dX15_readSquare_102 : decode cX15_readSquare 102 = .ok (.aload_n 0, 1) := by decide +kernel
theorem dX15_readSquare_103 : decode cX15_readSquare 103 = .ok (.dup, 1) := by decide +kernel
theorem dX15_readSquare_104 : decode cX15_readSquare 104 = .ok (.getfield 412, 3) := by decide +kernel
theorem dX15_readSquare_107 : decode cX15_readSquare 107 = .ok (.iconst 1, 1) := by decide +kernel
theorem dX15_readSquare_108 : decode cX15_readSquare 108 = .ok (.iadd, 1) := by decide +kernel
theorem dX15_readSquare_109 : decode cX15_readSquare 109 = .ok (.putfield 412, 3) := by decide +kernel
theorem dX15_readSquare_112 : decode cX15_readSquare 112 = .ok (.iconst 1, 1) := by decide +kernel
theorem dX15_readSquare_113 : decode cX15_readSquare 113 = .ok (.ireturn, 1) := by decide +kernel
def sX15_readSquare_28 (h : Hp) : Option (Int32 × Hp) := some ((0 : Int32), h)
def sX15_readSquare_68 (h : Hp) : Option (Int32 × Hp) := some ((0 : Int32), h)
def sX15_readSquare (h : Hp) (x0 : Nat) (x1 : Int32) : Option (Int32 × Hp) := cl (sX15_look h x0) fun o_1 => nm (o_1.1 - (97 : Int32)) fun v_2 => cl (sX15_look o_1.2 x0) fun o_3 => br (o_3.1 = (-1 : Int32)) (sX15_readSquare_28  o_3.2 ) (br (v_2 < 0) (sX15_readSquare_28  o_3.2 ) (br (v_2 < (hI o_3.2 x0 11)) (nm (wI o_3.2 x0 19 ((hI o_3.2 x0 19) + (1 : Int32))) fun h_7 => cl (sX15_look h_7 x0) fun o_8 => nm (o_8.1 - (49 : Int32)) fun v_9 => cl (sX15_look o_8.2 x0) fun o_10 => br (o_10.1 = (-1 : Int32)) (sX15_readSquare_68  o_10.2 ) (br (v_9 < 0) (sX15_readSquare_68  o_10.2 ) (br (v_9 < (hI o_10.2 x0 12)) (nm (wI o_10.2 x0 20 ((v_9 * (hI o_10.2 x0 11)) + v_2)) fun h_14 => br (x1 < (hI h_14 x0 20)) (nm (wI h_14 x0 19 ((hI h_14 x0 19) + (1 : Int32))) fun h_16 => some ((1 : Int32), h_16)) (nm (wI h_14 x0 19 ((hI h_14 x0 19) - (1 : Int32))) fun h_17 => some ((0 : Int32), h_17))) (sX15_readSquare_68  o_10.2 )))) (sX15_readSquare_28  o_3.2 )))
theorem moX15_readSquare_28 {o : Int32 × Hp} {h : Hp} (hE : sX15_readSquare_28 h  = some o) : Le h o.2 := by
  cases hE
  exact Le.rf _
theorem moX15_readSquare_68 {o : Int32 × Hp} {h : Hp} (hE : sX15_readSquare_68 h  = some o) : Le h o.2 := by
  cases hE
  exact Le.rf _
theorem moX15_readSquare {o : Int32 × Hp} {h : Hp} {x0 : Nat} {x1 : Int32} (hE : sX15_readSquare h x0 x1 = some o) : Le h o.2 := by
  obtain ⟨o_1, eo_1, hE⟩ := cl_e hE
  refine (moX15_look eo_1).tr ?_
  obtain ⟨v_2, ev_2, hE⟩ := nm_e2 hE
  obtain ⟨o_3, eo_3, hE⟩ := cl_e hE
  refine (moX15_look eo_3).tr ?_
  rcases br_e hE with ⟨_, hE⟩ | ⟨_, hE⟩
  · exact moX15_readSquare_28 hE
  · rcases br_e hE with ⟨_, hE⟩ | ⟨_, hE⟩
    · exact moX15_readSquare_28 hE
    · rcases br_e hE with ⟨_, hE⟩ | ⟨_, hE⟩
      · obtain ⟨h_7, eh_7, hE⟩ := nm_e2 hE
        refine (le_I eh_7).tr ?_
        obtain ⟨o_8, eo_8, hE⟩ := cl_e hE
        refine (moX15_look eo_8).tr ?_
        obtain ⟨v_9, ev_9, hE⟩ := nm_e2 hE
        obtain ⟨o_10, eo_10, hE⟩ := cl_e hE
        refine (moX15_look eo_10).tr ?_
        rcases br_e hE with ⟨_, hE⟩ | ⟨_, hE⟩
        · exact moX15_readSquare_68 hE
        · rcases br_e hE with ⟨_, hE⟩ | ⟨_, hE⟩
          · exact moX15_readSquare_68 hE
          · rcases br_e hE with ⟨_, hE⟩ | ⟨_, hE⟩
            · obtain ⟨h_14, eh_14, hE⟩ := nm_e2 hE
              refine (le_I eh_14).tr ?_
              rcases br_e hE with ⟨_, hE⟩ | ⟨_, hE⟩
              · obtain ⟨h_16, eh_16, hE⟩ := nm_e2 hE
                refine (le_I eh_16).tr ?_
                cases hE
                exact Le.rf _
              · obtain ⟨h_17, eh_17, hE⟩ := nm_e2 hE
                refine (le_I eh_17).tr ?_
                cases hE
                exact Le.rf _
            · exact moX15_readSquare_68 hE
      · exact moX15_readSquare_28 hE
set_option maxRecDepth 20000 in
theorem bX15_readSquare_28 {p : Program} {l : Launch} {e : Env} {s : State} {m : MethodId} {args : Array Value} {below : List Frame} {meth : Method} {c : Code} {X : Ec} {h0 : Hp} {o : Int32 × Hp} (C : Cx X p s m args meth c RX15 cX15_readSquare 4 (some .boolean) "readSquare") {h : Hp} {H : Heap} {locs : List Loc} (hkm : Km h0 h) (hW : Wx X h H) (hZ : va_S (aA (eB X)) s.heap H locs) (ls : Array Slot) (hl : lv_has ls 4 []) (hE : sX15_readSquare_28 h  = some o) : W p l e (rm 1 20) s m args below meth c H locs 0 0 (MQ below (QI X h0 o.1 o.2) args s 0 0 (aA (eB X))) (F0 m 28 ls []) := by
  refine lv_iconst (v := (0 : Int32)) C.1 C.2.1 dX15_readSquare_28 (by decide) ?_
  exact x_iret C rfl (by decide) hW hZ hkm hE dX15_readSquare_29
set_option maxRecDepth 20000 in
theorem bX15_readSquare_68 {p : Program} {l : Launch} {e : Env} {s : State} {m : MethodId} {args : Array Value} {below : List Frame} {meth : Method} {c : Code} {X : Ec} {h0 : Hp} {o : Int32 × Hp} (C : Cx X p s m args meth c RX15 cX15_readSquare 4 (some .boolean) "readSquare") {h : Hp} {H : Heap} {locs : List Loc} (hkm : Km h0 h) (hW : Wx X h H) (hZ : va_S (aA (eB X)) s.heap H locs) (ls : Array Slot) (hl : lv_has ls 4 []) (hE : sX15_readSquare_68 h  = some o) : W p l e (rm 1 20) s m args below meth c H locs 0 0 (MQ below (QI X h0 o.1 o.2) args s 0 0 (aA (eB X))) (F0 m 68 ls []) := by
  refine lv_iconst (v := (0 : Int32)) C.1 C.2.1 dX15_readSquare_68 (by decide) ?_
  exact x_iret C rfl (by decide) hW hZ hkm hE dX15_readSquare_69
set_option maxRecDepth 20000 in
theorem ct_X15_readSquare (l : Launch) (X : Ec) {h : Hp} {x0 : Nat} {x1 : Int32} {o : Int32 × Hp} (k_x0 : hK h x0 = 15) (hE : sX15_readSquare h x0 x1 = some o) : MetI l yX15_readSquare cX15_readSquare 4 (some .boolean) 1 20 X [.ref x0, .int x1] h o := by
  refine x_met (by decide) (Nat.le_of_ble_eq_true rfl) ?_
  intro p e s m below meth c ls C hl hW hZ
  have hl : lv_has ls 4 [(0, .ref x0), (1, .int x1)] := hl
  have hkm : Km h h := Km.rf h
  refine lv_aload_n C.1 C.2.1 dX15_readSquare_0 rfl (lv_at hl 0 rfl) ?_
  obtain ⟨o_1, eo_1, hE⟩ := cl_e hE
  refine x_kI (o := o_1) (z_runV (As := []) (rest := []) C (ct_X15_look l X k_x0 eo_1) cw_X15_421 hW hZ k_x0 (by decide) rfl rfl rfl hl.1 (Nat.le_of_ble_eq_true rfl) rfl dX15_readSquare_1 ⟨Nat.le_of_ble_eq_true rfl, Nat.le_of_ble_eq_true rfl⟩ ⟨Nat.le_refl _, Nat.le_refl _⟩) hZ (fun _ _ hW km hZ => ?_)
  replace hkm := hkm.tr km
  replace k_x0 := km.at k_x0 (by decide)
  refine lv_bipush (v := (97 : Int32)) C.1 C.2.1 dX15_readSquare_4 (by decide) ?_
  refine lv_isub C.1 C.2.1 dX15_readSquare_6 ?_
  obtain ⟨v_2, ev_2, hE⟩ := nm_e2 hE
  refine x_nmI ev_2 ?_
  refine lv_istore_n (lv' := [(2, .int v_2), (0, .ref x0), (1, .int x1)]) C.1 C.2.1 dX15_readSquare_7 rfl hl (by decide) rfl (fun ls hl => ?_)
  refine lv_aload_n C.1 C.2.1 dX15_readSquare_8 rfl (lv_at hl 1 rfl) ?_
  obtain ⟨o_3, eo_3, hE⟩ := cl_e hE
  refine x_kI (o := o_3) (z_runV (As := []) (rest := []) C (ct_X15_look l X k_x0 eo_3) cw_X15_421 hW hZ k_x0 (by decide) rfl rfl rfl hl.1 (Nat.le_of_ble_eq_true rfl) rfl dX15_readSquare_9 ⟨Nat.le_of_ble_eq_true rfl, Nat.le_of_ble_eq_true rfl⟩ ⟨Nat.le_refl _, Nat.le_refl _⟩) hZ (fun _ _ hW km hZ => ?_)
  replace hkm := hkm.tr km
  replace k_x0 := km.at k_x0 (by decide)
  refine lv_iconst (v := (-1 : Int32)) C.1 C.2.1 dX15_readSquare_12 (by decide) ?_
  refine lv_icmp_eq (tgt := 28) C.1 C.2.1 dX15_readSquare_13 (by decide) (fun c_4 => ?_) (fun c_4 => ?_)
  · have hE := br_p hE c_4
    exact bX15_readSquare_28 C hkm hW hZ _ (lv_sub hl [] rfl) hE
  · have hE := br_n hE c_4
    refine lv_iload_n C.1 C.2.1 dX15_readSquare_16 rfl (lv_at hl 0 rfl) ?_
    refine lv_if_lt (tgt := 28) C.1 C.2.1 dX15_readSquare_17 (by decide) (fun c_5 => ?_) (fun c_5 => ?_)
    · have hE := br_p hE c_5
      exact bX15_readSquare_28 C hkm hW hZ _ (lv_sub hl [] rfl) hE
    · have hE := br_n hE c_5
      refine lv_iload_n C.1 C.2.1 dX15_readSquare_20 rfl (lv_at hl 0 rfl) ?_
      refine lv_aload_n C.1 C.2.1 dX15_readSquare_21 rfl (lv_at hl 1 rfl) ?_
      refine gf_X15_382 C hW k_x0 dX15_readSquare_22 ?_
      refine lv_icmp_lt (tgt := 30) C.1 C.2.1 dX15_readSquare_25 (by decide) (fun c_6 => ?_) (fun c_6 => ?_)
      · have hE := br_p hE c_6
        refine lv_aload_n C.1 C.2.1 dX15_readSquare_30 rfl (lv_at hl 1 rfl) ?_
        refine lv_dup C.1 C.2.1 dX15_readSquare_31 rfl ?_
        refine gf_X15_412 C hW k_x0 dX15_readSquare_32 ?_
        refine lv_iconst (v := (1 : Int32)) C.1 C.2.1 dX15_readSquare_35 (by decide) ?_
        refine lv_iadd C.1 C.2.1 dX15_readSquare_36 ?_
        obtain ⟨h_7, eh_7, hE⟩ := nm_e2 hE
        refine pf_X15_412 C hW hZ k_x0 eh_7 dX15_readSquare_37 (fun _ _ hW km hZ => ?_)
        replace hkm := hkm.tr km
        replace k_x0 := km.at k_x0 (by decide)
        refine lv_aload_n C.1 C.2.1 dX15_readSquare_40 rfl (lv_at hl 1 rfl) ?_
        obtain ⟨o_8, eo_8, hE⟩ := cl_e hE
        refine x_kI (o := o_8) (z_runV (As := []) (rest := []) C (ct_X15_look l X k_x0 eo_8) cw_X15_421 hW hZ k_x0 (by decide) rfl rfl rfl hl.1 (Nat.le_of_ble_eq_true rfl) rfl dX15_readSquare_41 ⟨Nat.le_of_ble_eq_true rfl, Nat.le_of_ble_eq_true rfl⟩ ⟨Nat.le_refl _, Nat.le_refl _⟩) hZ (fun _ _ hW km hZ => ?_)
        replace hkm := hkm.tr km
        replace k_x0 := km.at k_x0 (by decide)
        refine lv_bipush (v := (49 : Int32)) C.1 C.2.1 dX15_readSquare_44 (by decide) ?_
        refine lv_isub C.1 C.2.1 dX15_readSquare_46 ?_
        obtain ⟨v_9, ev_9, hE⟩ := nm_e2 hE
        refine x_nmI ev_9 ?_
        refine lv_istore_n (lv' := [(3, .int v_9), (2, .int v_2), (0, .ref x0), (1, .int x1)]) C.1 C.2.1 dX15_readSquare_47 rfl hl (by decide) rfl (fun ls hl => ?_)
        refine lv_aload_n C.1 C.2.1 dX15_readSquare_48 rfl (lv_at hl 2 rfl) ?_
        obtain ⟨o_10, eo_10, hE⟩ := cl_e hE
        refine x_kI (o := o_10) (z_runV (As := []) (rest := []) C (ct_X15_look l X k_x0 eo_10) cw_X15_421 hW hZ k_x0 (by decide) rfl rfl rfl hl.1 (Nat.le_of_ble_eq_true rfl) rfl dX15_readSquare_49 ⟨Nat.le_of_ble_eq_true rfl, Nat.le_of_ble_eq_true rfl⟩ ⟨Nat.le_refl _, Nat.le_refl _⟩) hZ (fun _ _ hW km hZ => ?_)
        replace hkm := hkm.tr km
        replace k_x0 := km.at k_x0 (by decide)
        refine lv_iconst (v := (-1 : Int32)) C.1 C.2.1 dX15_readSquare_52 (by decide) ?_
        refine lv_icmp_eq (tgt := 68) C.1 C.2.1 dX15_readSquare_53 (by decide) (fun c_11 => ?_) (fun c_11 => ?_)
        · have hE := br_p hE c_11
          exact bX15_readSquare_68 C hkm hW hZ _ (lv_sub hl [] rfl) hE
        · have hE := br_n hE c_11
          refine lv_iload_n C.1 C.2.1 dX15_readSquare_56 rfl (lv_at hl 0 rfl) ?_
          refine lv_if_lt (tgt := 68) C.1 C.2.1 dX15_readSquare_57 (by decide) (fun c_12 => ?_) (fun c_12 => ?_)
          · have hE := br_p hE c_12
            exact bX15_readSquare_68 C hkm hW hZ _ (lv_sub hl [] rfl) hE
          · have hE := br_n hE c_12
            refine lv_iload_n C.1 C.2.1 dX15_readSquare_60 rfl (lv_at hl 0 rfl) ?_
            refine lv_aload_n C.1 C.2.1 dX15_readSquare_61 rfl (lv_at hl 2 rfl) ?_
            refine gf_X15_383 C hW k_x0 dX15_readSquare_62 ?_
            refine lv_icmp_lt (tgt := 70) C.1 C.2.1 dX15_readSquare_65 (by decide) (fun c_13 => ?_) (fun c_13 => ?_)
            · have hE := br_p hE c_13
              refine lv_aload_n C.1 C.2.1 dX15_readSquare_70 rfl (lv_at hl 2 rfl) ?_
              refine lv_iload_n C.1 C.2.1 dX15_readSquare_71 rfl (lv_at hl 0 rfl) ?_
              refine lv_aload_n C.1 C.2.1 dX15_readSquare_72 rfl (lv_at hl 2 rfl) ?_
              refine gf_X15_382 C hW k_x0 dX15_readSquare_73 ?_
              refine lv_imul C.1 C.2.1 dX15_readSquare_76 ?_
              refine lv_iload_n C.1 C.2.1 dX15_readSquare_77 rfl (lv_at hl 1 rfl) ?_
              refine lv_iadd C.1 C.2.1 dX15_readSquare_78 ?_
              obtain ⟨h_14, eh_14, hE⟩ := nm_e2 hE
              refine pf_X15_430 C hW hZ k_x0 eh_14 dX15_readSquare_79 (fun _ _ hW km hZ => ?_)
              replace hkm := hkm.tr km
              replace k_x0 := km.at k_x0 (by decide)
              refine lv_aload_n C.1 C.2.1 dX15_readSquare_82 rfl (lv_at hl 2 rfl) ?_
              refine gf_X15_430 C hW k_x0 dX15_readSquare_83 ?_
              refine lv_iload_n C.1 C.2.1 dX15_readSquare_86 rfl (lv_at hl 3 rfl) ?_
              refine lv_icmp_gt (tgt := 102) C.1 C.2.1 dX15_readSquare_87 (by decide) (fun c_15 => ?_) (fun c_15 => ?_)
              · have hE := br_p hE c_15
                refine lv_aload_n C.1 C.2.1 dX15_readSquare_102 rfl (lv_at hl 2 rfl) ?_
                refine lv_dup C.1 C.2.1 dX15_readSquare_103 rfl ?_
                refine gf_X15_412 C hW k_x0 dX15_readSquare_104 ?_
                refine lv_iconst (v := (1 : Int32)) C.1 C.2.1 dX15_readSquare_107 (by decide) ?_
                refine lv_iadd C.1 C.2.1 dX15_readSquare_108 ?_
                obtain ⟨h_16, eh_16, hE⟩ := nm_e2 hE
                refine pf_X15_412 C hW hZ k_x0 eh_16 dX15_readSquare_109 (fun _ _ hW km hZ => ?_)
                replace hkm := hkm.tr km
                replace k_x0 := km.at k_x0 (by decide)
                refine lv_iconst (v := (1 : Int32)) C.1 C.2.1 dX15_readSquare_112 (by decide) ?_
                exact x_iret C rfl (by decide) hW hZ hkm hE dX15_readSquare_113
              · have hE := br_n hE c_15
                refine lv_aload_n C.1 C.2.1 dX15_readSquare_90 rfl (lv_at hl 2 rfl) ?_
                refine lv_dup C.1 C.2.1 dX15_readSquare_91 rfl ?_
                refine gf_X15_412 C hW k_x0 dX15_readSquare_92 ?_
                refine lv_iconst (v := (1 : Int32)) C.1 C.2.1 dX15_readSquare_95 (by decide) ?_
                refine lv_isub C.1 C.2.1 dX15_readSquare_96 ?_
                obtain ⟨h_17, eh_17, hE⟩ := nm_e2 hE
                refine pf_X15_412 C hW hZ k_x0 eh_17 dX15_readSquare_97 (fun _ _ hW km hZ => ?_)
                replace hkm := hkm.tr km
                replace k_x0 := km.at k_x0 (by decide)
                refine lv_iconst (v := (0 : Int32)) C.1 C.2.1 dX15_readSquare_100 (by decide) ?_
                exact x_iret C rfl (by decide) hW hZ hkm hE dX15_readSquare_101
            · have hE := br_n hE c_13
              exact bX15_readSquare_68 C hkm hW hZ _ (lv_sub hl [] rfl) hE
      · have hE := br_n hE c_6
        exact bX15_readSquare_28 C hkm hW hZ _ (lv_sub hl [] rfl) hE
theorem ms_142 : Cond.selects RX15 yX15_readSquare yX15_readSquare ∈ W0 := w0_in (List.mem_append_left _ (List.mem_of_getElem? (i := 142) (by decide +kernel))) rfl
theorem n_1934 : Cond.fieldLinkNest RX15 436 (TX12 2).1 (TX12 2).2.1 (TX12 2).2.2.1 "GameRulesModel" ∈ tables_1 := List.mem_of_getElem? (i := 1934) (by decide +kernel)
theorem m_2397 : Cond.methodLink RX15 433 yX15_readSquare ∈ W0 := w0_in (List.mem_append_right _ (List.mem_of_getElem? (i := 2397) (by decide +kernel))) rfl
theorem m_2399 : Cond.instanceMethod yX15_readSquare ∈ W0 := w0_in (List.mem_append_right _ (List.mem_of_getElem? (i := 2399) (by decide +kernel))) rfl
theorem m_2400 : Cond.code yX15_readSquare cX15_readSquare 4 (some .boolean) ∈ W0 := w0_in (List.mem_append_right _ (List.mem_of_getElem? (i := 2400) (by decide +kernel))) rfl
section
variable {p : Program} {l : Launch} {e : Env} {R : Room} {s : State} {m : MethodId} {args : Array Value} {below : List Frame} {meth : Method} {c : Code} {H : Heap} {locs : List Loc} {cells slots : Nat} {Q : State → Prop}
variable {cc : ByteArray} {pc : Nat} {ls : Array Slot} {rest : List Value} {X : Ec} {h h1 : Hp} {nL : Nat} {rt : Option FieldType} {mn : String}
theorem gf_X15_436 {a : Nat} (C : Cx X p s m args meth c RX15 cc nL rt mn) (hW : Wx X h H) (ha : hK h a = 12) (hdg : decode cc pc = .ok (.getfield 436, 3)) (kk : W p l e R s m args below meth c H locs cells slots Q (F0 m (pc + 3) ls (.long (hJ h a 2) :: rest))) : W p l e R s m args below meth c H locs cells slots Q (F0 m pc ls (.ref a :: rest)) :=
  y_getjN C hW ha i_X12 (by decide) rfl (by decide) n_1934 rfl hdg kk
theorem pf_X15_436 {a : Nat} {v : Int64} (C : Cx X p s m args meth c RX15 cc nL rt mn) (hW : Wx X h H) (hZ : va_S (aA (eB X)) s.heap H locs) (ha : hK h a = 12) (eh : h1 = wJ h a 2 v) (hdg : decode cc pc = .ok (.putfield 436, 3)) (kk : ∀ (H1 : Heap) (locs1 : List Loc), Wx X h1 H1 → Km h h1 → va_S (aA (eB X)) s.heap H1 locs1 → W p l e R s m args below meth c H1 locs1 cells slots Q (F0 m (pc + 3) ls rest)) : W p l e R s m args below meth c H locs cells slots Q (F0 m pc ls (.long v :: .ref a :: rest)) :=
  y_putjN C hW hZ ha i_X12 tyX12 tyX12_ok nmX12 (by decide) rfl rfl (by decide) n_1934 rfl (by decide +kernel) rfl eh hdg kk
end
theorem cw_X15_433 : cwd RX15 433 yX15_readSquare cX15_readSquare 4 (some .boolean) false 1 := ⟨m_2400, m_2397, m_20, ⟨m_2399, ms_142⟩, by decide, by decide, by decide +kernel⟩
theorem dX15_readRights_0 : decode cX15_readRights 0 = .ok (.aload_n 0, 1) := by decide +kernel
theorem dX15_readRights_1 : decode cX15_readRights 1 = .ok (.bipush 45, 2) := by decide +kernel
theorem dX15_readRights_3 : decode cX15_readRights 3 = .ok (.invokevirtual 427, 3) := by decide +kernel
theorem dX15_readRights_6 : decode cX15_readRights 6 = .ok (.ifCond .eq 10, 3) := by decide +kernel
theorem dX15_readRights_9 : decode cX15_readRights 9 = .ok (.aload_n 0, 1) := by decide +kernel
theorem dX15_readRights_10 : decode cX15_readRights 10 = .ok (.bipush 32, 2) := by decide +kernel
theorem dX15_readRights_12 : decode cX15_readRights 12 = .ok (.invokevirtual 427, 3) := by decide +kernel
theorem dX15_readRights_15 : decode cX15_readRights 15 = .ok (.ireturn, 1) := by decide +kernel
theorem dX15_readRights_16 : decode cX15_readRights 16 = .ok (.iconst (-1), 1) := by decide +kernel
theorem dX15_readRights_17 : decode cX15_readRights 17 = .ok (.istore_n 2, 1) := by decide +kernel
theorem dX15_readRights_18 : decode cX15_readRights 18 = .ok (.iload_n 2, 1) := by decide +kernel
theorem dX15_readRights_19 : decode cX15_readRights 19 = .ok (.iconst (-1), 1) := by decide +kernel
theorem dX15_readRights_20 : decode cX15_readRights 20 = .ok (.if_icmp .eq 12, 3) := by decide +kernel
theorem dX15_readRights_23 : decode cX15_readRights 23 = .ok (.aload_n 0, 1) := by decide +kernel
theorem dX15_readRights_24 : decode cX15_readRights 24 = .ok (.invokevirtual 421, 3) := by decide +kernel
theorem dX15_readRights_27 : decode cX15_readRights 27 = .ok (.bipush 32, 2) := by decide +kernel
theorem dX15_readRights_29 : decode cX15_readRights 29 = .ok (.if_icmp .eq 33, 3) := by decide +kernel
theorem dX15_readRights_32 : decode cX15_readRights 32 = .ok (.aload_n 0, 1) := by decide +kernel
theorem dX15_readRights_33 : decode cX15_readRights 33 = .ok (.iload_n 2, 1) := by decide +kernel
theorem dX15_readRights_34 : decode cX15_readRights 34 = .ok (.invokevirtual 433, 3) := by decide +kernel
theorem dX15_readRights_37 : decode cX15_readRights 37 = .ok (.ifCond .ne 5, 3) := by decide +kernel
theorem dX15_readRights_40 : decode cX15_readRights 40 = .ok (.iconst 0, 1) := by decide +kernel
theorem dX15_readRights_41 : decode cX15_readRights 41 = .ok (.ireturn, 1) := by decide +kernel
theorem dX15_readRights_42 : decode cX15_readRights 42 = .ok (.aload_n 0, 1) := by decide +kernel
theorem dX15_readRights_43 : decode cX15_readRights 43 = .ok (.getfield 430, 3) := by decide +kernel
theorem dX15_readRights_46 : decode cX15_readRights 46 = .ok (.istore_n 2, 1) := by decide +kernel
theorem dX15_readRights_47 : decode cX15_readRights 47 = .ok (.aload_n 1, 1) := by decide +kernel
theorem dX15_readRights_48 : decode cX15_readRights 48 = .ok (.dup, 1) := by decide +kernel
theorem dX15_readRights_49 : decode cX15_readRights 49 = .ok (.getfield 436, 3) := by decide +kernel
theorem dX15_readRights_52 : decode cX15_readRights 52 = .ok (.lconst 1, 1) := by decide +kernel
theorem dX15_readRights_53 : decode cX15_readRights 53 = .ok (.iload_n 2, 1) := by decide +kernel
theorem dX15_readRights_54 : decode cX15_readRights 54 = .ok (.lshl, 1) := by decide +kernel
theorem dX15_readRights_55 : decode cX15_readRights 55 = .ok (.lor, 1) := by decide +kernel
theorem dX15_readRights_56 : decode cX15_readRights 56 = .ok (.putfield 436, 3) := by decide +kernel
theorem dX15_readRights_59 : decode cX15_readRights 59 = .ok (.goto (-41), 3) := by decide +kernel
theorem dX15_readRights_62 : decode cX15_readRights 62 = .ok (.aload_n 0, 1) := by decide +kernel
theorem dX15_readRights_63 : decode cX15_readRights 63 = .ok (.bipush 32, 2) := by decide +kernel
theorem dX15_readRights_65 : decode cX15_readRights 65 = .ok (.invokevirtual 427, 3) := by decide +kernel
theorem dX15_readRights_68 : decode cX15_readRights 68 = .ok (.ireturn, 1) := by decide +kernel
def sX15_readRights_32 (F : Nat) (k_18 : Hp → Nat → Nat → Int32 → Option (Int32 × Hp)) (h : Hp) (x0 : Nat) (x1 : Nat) (x2 : Int32) : Option (Int32 × Hp) := cl (sX15_readSquare h x0 x2) fun o_1 => br (o_1.1 = 0) (some ((0 : Int32), o_1.2)) (nm (hI o_1.2 x0 20) fun v_3 => nm (wJ o_1.2 x1 2 ((hJ o_1.2 x1 2) ||| ((1 : Int64) <<< (v_3.toInt64 &&& 63)))) fun h_4 => k_18 h_4 x0 x1 v_3)
def sX15_readRights_18 (F : Nat) : Nat → Hp → Nat → Nat → Int32 → Option (Int32 × Hp)
  | 0, _, _, _, _ => none
  | f + 1, h, x0, x1, x2 => br (x2 = (-1 : Int32)) (sX15_readRights_32 F (sX15_readRights_18 F f) h x0 x1 x2) (cl (sX15_look h x0) fun o_2 => br (o_2.1 = (32 : Int32)) (cl (sX15_reads o_2.2 x0 (32 : Int32)) fun o_4 => gd (o_4.1 &&& 1 = o_4.1) <| some (o_4.1, o_4.2)) (sX15_readRights_32 F (sX15_readRights_18 F f) o_2.2 x0 x1 x2))
def sX15_readRights (F : Nat) (h : Hp) (x0 : Nat) (x1 : Nat) : Option (Int32 × Hp) := cl (sX15_reads h x0 (45 : Int32)) fun o_1 => br (o_1.1 = 0) (sX15_readRights_18 F F o_1.2 x0 x1 (-1 : Int32)) (cl (sX15_reads o_1.2 x0 (32 : Int32)) fun o_3 => gd (o_3.1 &&& 1 = o_3.1) <| some (o_3.1, o_3.2))
theorem moX15_readRights_32 {o : Int32 × Hp} {k_18 : Hp → Nat → Nat → Int32 → Option (Int32 × Hp)} {F : Nat} (mk_18 : ∀ (h : Hp) (x0 : Nat) (x1 : Nat) (x2 : Int32), k_18 h x0 x1 x2 = some o → Le h o.2) {h : Hp} {x0 : Nat} {x1 : Nat} {x2 : Int32} (hE : sX15_readRights_32 F k_18 h x0 x1 x2 = some o) : Le h o.2 := by
  obtain ⟨o_1, eo_1, hE⟩ := cl_e hE
  refine (moX15_readSquare eo_1).tr ?_
  rcases br_e hE with ⟨_, hE⟩ | ⟨_, hE⟩
  · cases hE
    exact Le.rf _
  · obtain ⟨v_3, ev_3, hE⟩ := nm_e2 hE
    obtain ⟨h_4, eh_4, hE⟩ := nm_e2 hE
    refine (le_J eh_4).tr ?_
    exact mk_18 _ _ _ _ hE
theorem moX15_readRights_18 {o : Int32 × Hp} {F : Nat} : ∀ (f : Nat) {h : Hp} {x0 : Nat} {x1 : Nat} {x2 : Int32}, sX15_readRights_18 F f h x0 x1 x2 = some o → Le h o.2 := by
  intro f
  induction f with
  | zero =>
    intro h x0 x1 x2 hE
    rw [sX15_readRights_18] at hE
    cases hE
  | succ f ih =>
    intro h x0 x1 x2 hE
    rw [sX15_readRights_18] at hE
    have mk_18 : ∀ (h : Hp) (x0 : Nat) (x1 : Nat) (x2 : Int32), sX15_readRights_18 F f h x0 x1 x2 = some o → Le h o.2 := fun h x0 x1 x2 hE => ih hE
    rcases br_e hE with ⟨_, hE⟩ | ⟨_, hE⟩
    · exact moX15_readRights_32 mk_18 hE
    · obtain ⟨o_2, eo_2, hE⟩ := cl_e hE
      refine (moX15_look eo_2).tr ?_
      rcases br_e hE with ⟨_, hE⟩ | ⟨_, hE⟩
      · obtain ⟨o_4, eo_4, hE⟩ := cl_e hE
        refine (moX15_reads eo_4).tr ?_
        obtain ⟨g_5, hE⟩ := gd_e hE
        cases hE
        exact Le.rf _
      · exact moX15_readRights_32 mk_18 hE
theorem moX15_readRights {o : Int32 × Hp} {F : Nat} {h : Hp} {x0 : Nat} {x1 : Nat} (hE : sX15_readRights F h x0 x1 = some o) : Le h o.2 := by
  obtain ⟨o_1, eo_1, hE⟩ := cl_e hE
  refine (moX15_reads eo_1).tr ?_
  rcases br_e hE with ⟨_, hE⟩ | ⟨_, hE⟩
  · exact moX15_readRights_18 _ hE
  · obtain ⟨o_3, eo_3, hE⟩ := cl_e hE
    refine (moX15_reads eo_3).tr ?_
    obtain ⟨g_4, hE⟩ := gd_e hE
    cases hE
    exact Le.rf _
set_option maxRecDepth 20000 in
theorem bX15_readRights_32 {p : Program} {l : Launch} {e : Env} {s : State} {m : MethodId} {args : Array Value} {below : List Frame} {meth : Method} {c : Code} {X : Ec} {h0 : Hp} {o : Int32 × Hp} {k_18 : Hp → Nat → Nat → Int32 → Option (Int32 × Hp)} {F : Nat} (C : Cx X p s m args meth c RX15 cX15_readRights 3 (some .boolean) "readRights") (hk_18 : ∀ (h : Hp) (x0 : Nat) (x1 : Nat) (x2 : Int32) (H : Heap) (locs : List Loc), hK h x0 = 15 → hK h x1 = 12 → Km h0 h → Wx X h H → va_S (aA (eB X)) s.heap H locs → ∀ (ls : Array Slot), lv_has ls 3 [(0, .ref x0), (1, .ref x1), (2, .int x2)] → k_18 h x0 x1 x2 = some o → W p l e (rm 2 43) s m args below meth c H locs 0 0 (MQ below (QI X h0 o.1 o.2) args s 0 0 (aA (eB X))) (F0 m 18 ls [])) {h : Hp} {x0 : Nat} {x1 : Nat} {x2 : Int32} {H : Heap} {locs : List Loc} (k_x0 : hK h x0 = 15) (k_x1 : hK h x1 = 12) (hkm : Km h0 h) (hW : Wx X h H) (hZ : va_S (aA (eB X)) s.heap H locs) (ls : Array Slot) (hl : lv_has ls 3 [(0, .ref x0), (1, .ref x1), (2, .int x2)]) (hE : sX15_readRights_32 F k_18 h x0 x1 x2 = some o) : W p l e (rm 2 43) s m args below meth c H locs 0 0 (MQ below (QI X h0 o.1 o.2) args s 0 0 (aA (eB X))) (F0 m 32 ls []) := by
  refine lv_aload_n C.1 C.2.1 dX15_readRights_32 rfl (lv_at hl 0 rfl) ?_
  refine lv_iload_n C.1 C.2.1 dX15_readRights_33 rfl (lv_at hl 2 rfl) ?_
  obtain ⟨o_1, eo_1, hE⟩ := cl_e hE
  refine x_kI (o := o_1) (z_runV (As := [.int x2]) (rest := []) C (ct_X15_readSquare l X k_x0 eo_1) cw_X15_433 hW hZ k_x0 (by decide) rfl rfl rfl hl.1 (Nat.le_of_ble_eq_true rfl) rfl dX15_readRights_34 ⟨Nat.le_of_ble_eq_true rfl, Nat.le_of_ble_eq_true rfl⟩ ⟨Nat.le_refl _, Nat.le_refl _⟩) hZ (fun _ _ hW km hZ => ?_)
  replace hkm := hkm.tr km
  replace k_x0 := km.at k_x0 (by decide)
  replace k_x1 := km.at k_x1 (by decide)
  refine lv_if_ne (tgt := 42) C.1 C.2.1 dX15_readRights_37 (by decide) (fun c_2 => ?_) (fun c_2 => ?_)
  · have hE := br_n hE c_2
    refine lv_aload_n C.1 C.2.1 dX15_readRights_42 rfl (lv_at hl 0 rfl) ?_
    refine gf_X15_430 C hW k_x0 dX15_readRights_43 ?_
    obtain ⟨v_3, ev_3, hE⟩ := nm_e2 hE
    refine x_nmI ev_3 ?_
    refine lv_istore_n (lv' := [(2, .int v_3), (0, .ref x0), (1, .ref x1)]) C.1 C.2.1 dX15_readRights_46 rfl hl (by decide) rfl (fun ls hl => ?_)
    refine lv_aload_n C.1 C.2.1 dX15_readRights_47 rfl (lv_at hl 2 rfl) ?_
    refine lv_dup C.1 C.2.1 dX15_readRights_48 rfl ?_
    refine gf_X15_436 C hW k_x1 dX15_readRights_49 ?_
    refine lv_lconst (v := (1 : Int64)) C.1 C.2.1 dX15_readRights_52 (by decide) ?_
    refine lv_iload_n C.1 C.2.1 dX15_readRights_53 rfl (lv_at hl 0 rfl) ?_
    refine lv_lshl C.1 C.2.1 dX15_readRights_54 rfl ?_
    refine lv_lor C.1 C.2.1 dX15_readRights_55 ?_
    obtain ⟨h_4, eh_4, hE⟩ := nm_e2 hE
    refine pf_X15_436 C hW hZ k_x1 eh_4 dX15_readRights_56 (fun _ _ hW km hZ => ?_)
    replace hkm := hkm.tr km
    replace k_x0 := km.at k_x0 (by decide)
    replace k_x1 := km.at k_x1 (by decide)
    refine lv_goto (tgt := 18) C.1 C.2.1 dX15_readRights_59 (by decide) ?_
    exact hk_18 _ _ _ _ _ _ k_x0 k_x1 hkm hW hZ _ (lv_sub hl [1, 2, 0] rfl) hE
  · have hE := br_p hE c_2
    refine lv_iconst (v := (0 : Int32)) C.1 C.2.1 dX15_readRights_40 (by decide) ?_
    exact x_iret C rfl (by decide) hW hZ hkm hE dX15_readRights_41
set_option maxRecDepth 20000 in
theorem bX15_readRights_18 {p : Program} {l : Launch} {e : Env} {s : State} {m : MethodId} {args : Array Value} {below : List Frame} {meth : Method} {c : Code} {X : Ec} {h0 : Hp} {o : Int32 × Hp} {F : Nat} (C : Cx X p s m args meth c RX15 cX15_readRights 3 (some .boolean) "readRights") : ∀ (f : Nat) {h : Hp} {x0 : Nat} {x1 : Nat} {x2 : Int32} {H : Heap} {locs : List Loc} (k_x0 : hK h x0 = 15) (k_x1 : hK h x1 = 12), Km h0 h → Wx X h H → va_S (aA (eB X)) s.heap H locs → ∀ (ls : Array Slot), lv_has ls 3 [(0, .ref x0), (1, .ref x1), (2, .int x2)] → sX15_readRights_18 F f h x0 x1 x2 = some o → W p l e (rm 2 43) s m args below meth c H locs 0 0 (MQ below (QI X h0 o.1 o.2) args s 0 0 (aA (eB X))) (F0 m 18 ls []) := by
  intro f
  induction f with
  | zero =>
    intro h x0 x1 x2 H locs k_x0 k_x1 hkm hW hZ ls hl hE
    rw [sX15_readRights_18] at hE
    cases hE
  | succ f ih =>
    intro h x0 x1 x2 H locs k_x0 k_x1 hkm hW hZ ls hl hE
    rw [sX15_readRights_18] at hE
    have hk_18 : ∀ (h : Hp) (x0 : Nat) (x1 : Nat) (x2 : Int32) (H : Heap) (locs : List Loc), hK h x0 = 15 → hK h x1 = 12 → Km h0 h → Wx X h H → va_S (aA (eB X)) s.heap H locs → ∀ (ls : Array Slot), lv_has ls 3 [(0, .ref x0), (1, .ref x1), (2, .int x2)] → sX15_readRights_18 F f h x0 x1 x2 = some o → W p l e (rm 2 43) s m args below meth c H locs 0 0 (MQ below (QI X h0 o.1 o.2) args s 0 0 (aA (eB X))) (F0 m 18 ls []) := fun h x0 x1 x2 H locs k_x0 k_x1 a b c ls hl hE => ih k_x0 k_x1 a b c ls hl hE
    refine lv_iload_n C.1 C.2.1 dX15_readRights_18 rfl (lv_at hl 2 rfl) ?_
    refine lv_iconst (v := (-1 : Int32)) C.1 C.2.1 dX15_readRights_19 (by decide) ?_
    refine lv_icmp_eq (tgt := 32) C.1 C.2.1 dX15_readRights_20 (by decide) (fun c_1 => ?_) (fun c_1 => ?_)
    · have hE := br_p hE c_1
      exact bX15_readRights_32 C hk_18 k_x0 k_x1 hkm hW hZ _ (lv_sub hl [0, 1, 2] rfl) hE
    · have hE := br_n hE c_1
      refine lv_aload_n C.1 C.2.1 dX15_readRights_23 rfl (lv_at hl 0 rfl) ?_
      obtain ⟨o_2, eo_2, hE⟩ := cl_e hE
      refine x_kI (o := o_2) (z_runV (As := []) (rest := []) C (ct_X15_look l X k_x0 eo_2) cw_X15_421 hW hZ k_x0 (by decide) rfl rfl rfl hl.1 (Nat.le_of_ble_eq_true rfl) rfl dX15_readRights_24 ⟨Nat.le_of_ble_eq_true rfl, Nat.le_of_ble_eq_true rfl⟩ ⟨Nat.le_refl _, Nat.le_refl _⟩) hZ (fun _ _ hW km hZ => ?_)
      replace hkm := hkm.tr km
      replace k_x0 := km.at k_x0 (by decide)
      replace k_x1 := km.at k_x1 (by decide)
      refine lv_bipush (v := (32 : Int32)) C.1 C.2.1 dX15_readRights_27 (by decide) ?_
      refine lv_icmp_eq (tgt := 62) C.1 C.2.1 dX15_readRights_29 (by decide) (fun c_3 => ?_) (fun c_3 => ?_)
      · have hE := br_p hE c_3
        refine lv_aload_n C.1 C.2.1 dX15_readRights_62 rfl (lv_at hl 0 rfl) ?_
        refine lv_bipush (v := (32 : Int32)) C.1 C.2.1 dX15_readRights_63 (by decide) ?_
        obtain ⟨o_4, eo_4, hE⟩ := cl_e hE
        refine x_kI (o := o_4) (z_runV (As := [.int (32 : Int32)]) (rest := []) C (ct_X15_reads l X k_x0 eo_4) cw_X15_427 hW hZ k_x0 (by decide) rfl rfl rfl hl.1 (Nat.le_of_ble_eq_true rfl) rfl dX15_readRights_65 ⟨Nat.le_of_ble_eq_true rfl, Nat.le_of_ble_eq_true rfl⟩ ⟨Nat.le_refl _, Nat.le_refl _⟩) hZ (fun _ _ hW km hZ => ?_)
        replace hkm := hkm.tr km
        replace k_x0 := km.at k_x0 (by decide)
        replace k_x1 := km.at k_x1 (by decide)
        obtain ⟨g_5, hE⟩ := gd_e hE
        exact x_iret C rfl (narB g_5) hW hZ hkm hE dX15_readRights_68
      · have hE := br_n hE c_3
        exact bX15_readRights_32 C hk_18 k_x0 k_x1 hkm hW hZ _ (lv_sub hl [0, 1, 2] rfl) hE
set_option maxRecDepth 20000 in
theorem ct_X15_readRights (l : Launch) (X : Ec) (F : Nat) {h : Hp} {x0 : Nat} {x1 : Nat} {o : Int32 × Hp} (k_x0 : hK h x0 = 15) (k_x1 : hK h x1 = 12) (hE : sX15_readRights F h x0 x1 = some o) : MetI l yX15_readRights cX15_readRights 3 (some .boolean) 2 43 X [.ref x0, .ref x1] h o := by
  refine x_met (by decide) (Nat.le_of_ble_eq_true rfl) ?_
  intro p e s m below meth c ls C hl hW hZ
  have hl : lv_has ls 3 [(0, .ref x0), (1, .ref x1)] := hl
  have hkm : Km h h := Km.rf h
  refine lv_aload_n C.1 C.2.1 dX15_readRights_0 rfl (lv_at hl 0 rfl) ?_
  refine lv_bipush (v := (45 : Int32)) C.1 C.2.1 dX15_readRights_1 (by decide) ?_
  obtain ⟨o_1, eo_1, hE⟩ := cl_e hE
  refine x_kI (o := o_1) (z_runV (As := [.int (45 : Int32)]) (rest := []) C (ct_X15_reads l X k_x0 eo_1) cw_X15_427 hW hZ k_x0 (by decide) rfl rfl rfl hl.1 (Nat.le_of_ble_eq_true rfl) rfl dX15_readRights_3 ⟨Nat.le_of_ble_eq_true rfl, Nat.le_of_ble_eq_true rfl⟩ ⟨Nat.le_refl _, Nat.le_refl _⟩) hZ (fun _ _ hW km hZ => ?_)
  replace hkm := hkm.tr km
  replace k_x0 := km.at k_x0 (by decide)
  replace k_x1 := km.at k_x1 (by decide)
  refine lv_if_eq (tgt := 16) C.1 C.2.1 dX15_readRights_6 (by decide) (fun c_2 => ?_) (fun c_2 => ?_)
  · have hE := br_p hE c_2
    refine lv_iconst (v := (-1 : Int32)) C.1 C.2.1 dX15_readRights_16 (by decide) ?_
    refine lv_istore_n (lv' := [(2, .int (-1 : Int32)), (0, .ref x0), (1, .ref x1)]) C.1 C.2.1 dX15_readRights_17 rfl hl (by decide) rfl (fun ls hl => ?_)
    exact bX15_readRights_18 C F k_x0 k_x1 hkm hW hZ _ (lv_sub hl [1, 2, 0] rfl) hE
  · have hE := br_n hE c_2
    refine lv_aload_n C.1 C.2.1 dX15_readRights_9 rfl (lv_at hl 0 rfl) ?_
    refine lv_bipush (v := (32 : Int32)) C.1 C.2.1 dX15_readRights_10 (by decide) ?_
    obtain ⟨o_3, eo_3, hE⟩ := cl_e hE
    refine x_kI (o := o_3) (z_runV (As := [.int (32 : Int32)]) (rest := []) C (ct_X15_reads l X k_x0 eo_3) cw_X15_427 hW hZ k_x0 (by decide) rfl rfl rfl hl.1 (Nat.le_of_ble_eq_true rfl) rfl dX15_readRights_12 ⟨Nat.le_of_ble_eq_true rfl, Nat.le_of_ble_eq_true rfl⟩ ⟨Nat.le_refl _, Nat.le_refl _⟩) hZ (fun _ _ hW km hZ => ?_)
    replace hkm := hkm.tr km
    replace k_x0 := km.at k_x0 (by decide)
    replace k_x1 := km.at k_x1 (by decide)
    obtain ⟨g_4, hE⟩ := gd_e hE
    exact x_iret C rfl (narB g_4) hW hZ hkm hE dX15_readRights_15
theorem n_1936 : Cond.fieldLinkNest RX15 441 (TX12 3).1 (TX12 3).2.1 (TX12 3).2.2.1 "GameRulesModel" ∈ tables_1 := List.mem_of_getElem? (i := 1936) (by decide +kernel)
theorem n_1938 : Cond.fieldLinkNest RX15 439 (TX12 4).1 (TX12 4).2.1 (TX12 4).2.2.1 "GameRulesModel" ∈ tables_1 := List.mem_of_getElem? (i := 1938) (by decide +kernel)
section
variable {p : Program} {l : Launch} {e : Env} {R : Room} {s : State} {m : MethodId} {args : Array Value} {below : List Frame} {meth : Method} {c : Code} {H : Heap} {locs : List Loc} {cells slots : Nat} {Q : State → Prop}
variable {cc : ByteArray} {pc : Nat} {ls : Array Slot} {rest : List Value} {X : Ec} {h h1 : Hp} {nL : Nat} {rt : Option FieldType} {mn : String}
theorem gf_X15_439 {a r : Nat} (C : Cx X p s m args meth c RX15 cc nL rt mn) (hW : Wx X h H) (ha : hK h a = 12) (hr : hR h a 4 = some r) (hdg : decode cc pc = .ok (.getfield 439, 3)) (kk : hK h r = 17 → W p l e R s m args below meth c H locs cells slots Q (F0 m (pc + 3) ls (.ref r :: rest))) : W p l e R s m args below meth c H locs cells slots Q (F0 m pc ls (.ref a :: rest)) :=
  y_getrN C hW ha i_X12 (by decide) rfl (by decide) n_1938 rfl rfl hr hdg kk
theorem pf_X15_441 {a : Nat} {v : Int32} (C : Cx X p s m args meth c RX15 cc nL rt mn) (hW : Wx X h H) (hZ : va_S (aA (eB X)) s.heap H locs) (ha : hK h a = 12) (eh : h1 = wI h a 3 v) (hdg : decode cc pc = .ok (.putfield 441, 3)) (kk : ∀ (H1 : Heap) (locs1 : List Loc), Wx X h1 H1 → Km h h1 → va_S (aA (eB X)) s.heap H1 locs1 → W p l e R s m args below meth c H1 locs1 cells slots Q (F0 m (pc + 3) ls rest)) : W p l e R s m args below meth c H locs cells slots Q (F0 m pc ls (.int v :: .ref a :: rest)) :=
  y_putiN (ty := .int) C hW hZ ha i_X12 tyX12 tyX12_ok nmX12 (by decide) rfl rfl (by decide) n_1936 rfl (by decide +kernel) rfl rfl rfl eh hdg kk
end
theorem dX15_readPass_0 : decode cX15_readPass 0 = .ok (.aload_n 0, 1) := by decide +kernel
theorem dX15_readPass_1 : decode cX15_readPass 1 = .ok (.bipush 45, 2) := by decide +kernel
theorem dX15_readPass_3 : decode cX15_readPass 3 = .ok (.invokevirtual 427, 3) := by decide +kernel
theorem dX15_readPass_6 : decode cX15_readPass 6 = .ok (.ifCond .eq 10, 3) := by decide +kernel
theorem dX15_readPass_9 : decode cX15_readPass 9 = .ok (.aload_n 0, 1) := by decide +kernel
theorem dX15_readPass_10 : decode cX15_readPass 10 = .ok (.bipush 32, 2) := by decide +kernel
theorem dX15_readPass_12 : decode cX15_readPass 12 = .ok (.invokevirtual 427, 3) := by decide +kernel
theorem dX15_readPass_15 : decode cX15_readPass 15 = .ok (.ireturn, 1) := by decide +kernel
theorem dX15_readPass_16 : decode cX15_readPass 16 = .ok (.iconst 0, 1) := by decide +kernel
theorem dX15_readPass_17 : decode cX15_readPass 17 = .ok (.istore_n 2, 1) := by decide +kernel
theorem dX15_readPass_18 : decode cX15_readPass 18 = .ok (.iload_n 2, 1) := by decide +kernel
theorem dX15_readPass_19 : decode cX15_readPass 19 = .ok (.iconst 2, 1) := by decide +kernel
theorem dX15_readPass_20 : decode cX15_readPass 20 = .ok (.if_icmp .lt 12, 3) := by decide +kernel
theorem dX15_readPass_23 : decode cX15_readPass 23 = .ok (.aload_n 0, 1) := by decide +kernel
theorem dX15_readPass_24 : decode cX15_readPass 24 = .ok (.invokevirtual 421, 3) := by decide +kernel
theorem dX15_readPass_27 : decode cX15_readPass 27 = .ok (.bipush 32, 2) := by decide +kernel
theorem dX15_readPass_29 : decode cX15_readPass 29 = .ok (.if_icmp .eq 35, 3) := by decide +kernel
theorem dX15_readPass_32 : decode cX15_readPass 32 = .ok (.aload_n 0, 1) := by decide +kernel
theorem dX15_readPass_33 : decode cX15_readPass 33 = .ok (.iconst (-1), 1) := by decide +kernel
theorem dX15_readPass_34 : decode cX15_readPass 34 = .ok (.invokevirtual 433, 3) := by decide +kernel
theorem dX15_readPass_37 : decode cX15_readPass 37 = .ok (.ifCond .ne 5, 3) := by decide +kernel
theorem dX15_readPass_40 : decode cX15_readPass 40 = .ok (.iconst 0, 1) := by decide +kernel
theorem dX15_readPass_41 : decode cX15_readPass 41 = .ok (.ireturn, 1) := by decide +kernel
theorem dX15_readPass_42 : decode cX15_readPass 42 = .ok (.iload_n 2, 1) := by decide +kernel
theorem dX15_readPass_43 : decode cX15_readPass 43 = .ok (.bipush 64, 2) := by decide +kernel
theorem dX15_readPass_45 : decode cX15_readPass 45 = .ok (.if_icmp .ge 13, 3) := by decide +kernel
theorem dX15_readPass_48 : decode cX15_readPass 48 = .ok (.aload_n 1, 1) := by decide +kernel
theorem dX15_readPass_49 : decode cX15_readPass 49 = .ok (.getfield 439, 3) := by decide +kernel
theorem dX15_readPass_52 : decode cX15_readPass 52 = .ok (.iload_n 2, 1) := by decide +kernel
theorem dX15_readPass_53 : decode cX15_readPass 53 = .ok (.aload_n 0, 1) := by decide +kernel
theorem dX15_readPass_54 : decode cX15_readPass 54 = .ok (.getfield 430, 3) := by decide +kernel
theorem dX15_readPass_57 : decode cX15_readPass 57 = .ok (.iastore, 1) := by decide +kernel
theorem dX15_readPass_58 : decode cX15_readPass 58 = .ok (.iinc 2 1, 3) := by decide +kernel
theorem dX15_readPass_61 : decode cX15_readPass 61 = .ok (.goto (-43), 3) := by decide +kernel
theorem dX15_readPass_64 : decode cX15_readPass 64 = .ok (.aload_n 1, 1) := by decide +kernel
theorem dX15_readPass_65 : decode cX15_readPass 65 = .ok (.iload_n 2, 1) := by decide +kernel
theorem dX15_readPass_66 : decode cX15_readPass 66 = .ok (.bipush 64, 2) := by decide +kernel
theorem dX15_readPass_68 : decode cX15_readPass 68 = .ok (.if_icmp .ge 7, 3) := by decide +kernel
theorem dX15_readPass_71 : decode cX15_readPass 71 = .ok (.iload_n 2, 1) := by decide +kernel
theorem dX15_readPass_72 : decode cX15_readPass 72 = .ok (.goto 5, 3) := by decide +kernel
theorem dX15_readPass_75 : decode cX15_readPass 75 = .ok (.bipush 64, 2) := by decide +kernel
theorem dX15_readPass_77 : decode cX15_readPass 77 = .ok (.putfield 441, 3) := by decide +kernel
theorem dX15_readPass_80 : decode cX15_readPass 80 = .ok (.aload_n 0, 1) := by decide +kernel
theorem dX15_readPass_81 : decode cX15_readPass 81 = .ok (.bipush 32, 2) := by decide +kernel
theorem dX15_readPass_83 : decode cX15_readPass 83 = .ok (.invokevirtual 427, 3) := by decide +kernel
theorem dX15_readPass_86 : decode cX15_readPass 86 = .ok (.ireturn, 1) := by decide +kernel
def sX15_readPass_58 (F : Nat) (k_18 : Hp → Nat → Nat → Int32 → Option (Int32 × Hp)) (h : Hp) (x0 : Nat) (x1 : Nat) (x2 : Int32) : Option (Int32 × Hp) := nm (x2 + (1 : Int32)) fun v_1 => k_18 h x0 x1 v_1
def sX15_readPass_32 (F : Nat) (k_18 : Hp → Nat → Nat → Int32 → Option (Int32 × Hp)) (h : Hp) (x0 : Nat) (x1 : Nat) (x2 : Int32) : Option (Int32 × Hp) := cl (sX15_readSquare h x0 (-1 : Int32)) fun o_1 => br (o_1.1 = 0) (some ((0 : Int32), o_1.2)) (br ((64 : Int32) ≤ x2) (sX15_readPass_58 F k_18 o_1.2 x0 x1 x2) (cl (hR o_1.2 x1 4) fun r_4 => gd (inB x2 (hN o_1.2 r_4)) <| nm (wI o_1.2 r_4 x2.toNatClampNeg (hI o_1.2 x0 20)) fun h_6 => sX15_readPass_58 F k_18 h_6 x0 x1 x2))
def sX15_readPass_77 (F : Nat) (h : Hp) (x0 : Nat) (t0 : Int32) (t1 : Nat) : Option (Int32 × Hp) := nm (wI h t1 3 t0) fun h_1 => cl (sX15_reads h_1 x0 (32 : Int32)) fun o_2 => gd (o_2.1 &&& 1 = o_2.1) <| some (o_2.1, o_2.2)
def sX15_readPass_18 (F : Nat) : Nat → Hp → Nat → Nat → Int32 → Option (Int32 × Hp)
  | 0, _, _, _, _ => none
  | f + 1, h, x0, x1, x2 => br (x2 < (2 : Int32)) (sX15_readPass_32 F (sX15_readPass_18 F f) h x0 x1 x2) (cl (sX15_look h x0) fun o_2 => br (o_2.1 = (32 : Int32)) (br ((64 : Int32) ≤ x2) (sX15_readPass_77 F o_2.2 x0 (64 : Int32) x1) (sX15_readPass_77 F o_2.2 x0 x2 x1)) (sX15_readPass_32 F (sX15_readPass_18 F f) o_2.2 x0 x1 x2))
def sX15_readPass (F : Nat) (h : Hp) (x0 : Nat) (x1 : Nat) : Option (Int32 × Hp) := cl (sX15_reads h x0 (45 : Int32)) fun o_1 => br (o_1.1 = 0) (sX15_readPass_18 F F o_1.2 x0 x1 (0 : Int32)) (cl (sX15_reads o_1.2 x0 (32 : Int32)) fun o_3 => gd (o_3.1 &&& 1 = o_3.1) <| some (o_3.1, o_3.2))
theorem moX15_readPass_58 {o : Int32 × Hp} {k_18 : Hp → Nat → Nat → Int32 → Option (Int32 × Hp)} {F : Nat} (mk_18 : ∀ (h : Hp) (x0 : Nat) (x1 : Nat) (x2 : Int32), k_18 h x0 x1 x2 = some o → Le h o.2) {h : Hp} {x0 : Nat} {x1 : Nat} {x2 : Int32} (hE : sX15_readPass_58 F k_18 h x0 x1 x2 = some o) : Le h o.2 := by
  obtain ⟨v_1, ev_1, hE⟩ := nm_e2 hE
  exact mk_18 _ _ _ _ hE
theorem moX15_readPass_32 {o : Int32 × Hp} {k_18 : Hp → Nat → Nat → Int32 → Option (Int32 × Hp)} {F : Nat} (mk_18 : ∀ (h : Hp) (x0 : Nat) (x1 : Nat) (x2 : Int32), k_18 h x0 x1 x2 = some o → Le h o.2) {h : Hp} {x0 : Nat} {x1 : Nat} {x2 : Int32} (hE : sX15_readPass_32 F k_18 h x0 x1 x2 = some o) : Le h o.2 := by
  obtain ⟨o_1, eo_1, hE⟩ := cl_e hE
  refine (moX15_readSquare eo_1).tr ?_
  rcases br_e hE with ⟨_, hE⟩ | ⟨_, hE⟩
  · cases hE
    exact Le.rf _
  · rcases br_e hE with ⟨_, hE⟩ | ⟨_, hE⟩
    · exact moX15_readPass_58 mk_18 hE
    · obtain ⟨r_4, er_4, hE⟩ := cl_e hE
      obtain ⟨g_5, hE⟩ := gd_e hE
      obtain ⟨h_6, eh_6, hE⟩ := nm_e2 hE
      refine (le_I eh_6).tr ?_
      exact moX15_readPass_58 mk_18 hE
theorem moX15_readPass_77 {o : Int32 × Hp} {F : Nat} {h : Hp} {x0 : Nat} {t0 : Int32} {t1 : Nat} (hE : sX15_readPass_77 F h x0 t0 t1 = some o) : Le h o.2 := by
  obtain ⟨h_1, eh_1, hE⟩ := nm_e2 hE
  refine (le_I eh_1).tr ?_
  obtain ⟨o_2, eo_2, hE⟩ := cl_e hE
  refine (moX15_reads eo_2).tr ?_
  obtain ⟨g_3, hE⟩ := gd_e hE
  cases hE
  exact Le.rf _
theorem moX15_readPass_18 {o : Int32 × Hp} {F : Nat} : ∀ (f : Nat) {h : Hp} {x0 : Nat} {x1 : Nat} {x2 : Int32}, sX15_readPass_18 F f h x0 x1 x2 = some o → Le h o.2 := by
  intro f
  induction f with
  | zero =>
    intro h x0 x1 x2 hE
    rw [sX15_readPass_18] at hE
    cases hE
  | succ f ih =>
    intro h x0 x1 x2 hE
    rw [sX15_readPass_18] at hE
    have mk_18 : ∀ (h : Hp) (x0 : Nat) (x1 : Nat) (x2 : Int32), sX15_readPass_18 F f h x0 x1 x2 = some o → Le h o.2 := fun h x0 x1 x2 hE => ih hE
    rcases br_e hE with ⟨_, hE⟩ | ⟨_, hE⟩
    · exact moX15_readPass_32 mk_18 hE
    · obtain ⟨o_2, eo_2, hE⟩ := cl_e hE
      refine (moX15_look eo_2).tr ?_
      rcases br_e hE with ⟨_, hE⟩ | ⟨_, hE⟩
      · rcases br_e hE with ⟨_, hE⟩ | ⟨_, hE⟩
        · exact moX15_readPass_77 hE
        · exact moX15_readPass_77 hE
      · exact moX15_readPass_32 mk_18 hE
theorem moX15_readPass {o : Int32 × Hp} {F : Nat} {h : Hp} {x0 : Nat} {x1 : Nat} (hE : sX15_readPass F h x0 x1 = some o) : Le h o.2 := by
  obtain ⟨o_1, eo_1, hE⟩ := cl_e hE
  refine (moX15_reads eo_1).tr ?_
  rcases br_e hE with ⟨_, hE⟩ | ⟨_, hE⟩
  · exact moX15_readPass_18 _ hE
  · obtain ⟨o_3, eo_3, hE⟩ := cl_e hE
    refine (moX15_reads eo_3).tr ?_
    obtain ⟨g_4, hE⟩ := gd_e hE
    cases hE
    exact Le.rf _
set_option maxRecDepth 20000 in
theorem bX15_readPass_58 {p : Program} {l : Launch} {e : Env} {s : State} {m : MethodId} {args : Array Value} {below : List Frame} {meth : Method} {c : Code} {X : Ec} {h0 : Hp} {o : Int32 × Hp} {k_18 : Hp → Nat → Nat → Int32 → Option (Int32 × Hp)} {F : Nat} (C : Cx X p s m args meth c RX15 cX15_readPass 3 (some .boolean) "readPass") (hk_18 : ∀ (h : Hp) (x0 : Nat) (x1 : Nat) (x2 : Int32) (H : Heap) (locs : List Loc), hK h x0 = 15 → hK h x1 = 12 → Km h0 h → Wx X h H → va_S (aA (eB X)) s.heap H locs → ∀ (ls : Array Slot), lv_has ls 3 [(0, .ref x0), (1, .ref x1), (2, .int x2)] → k_18 h x0 x1 x2 = some o → W p l e (rm 2 43) s m args below meth c H locs 0 0 (MQ below (QI X h0 o.1 o.2) args s 0 0 (aA (eB X))) (F0 m 18 ls [])) {h : Hp} {x0 : Nat} {x1 : Nat} {x2 : Int32} {H : Heap} {locs : List Loc} (k_x0 : hK h x0 = 15) (k_x1 : hK h x1 = 12) (hkm : Km h0 h) (hW : Wx X h H) (hZ : va_S (aA (eB X)) s.heap H locs) (ls : Array Slot) (hl : lv_has ls 3 [(0, .ref x0), (1, .ref x1), (2, .int x2)]) (hE : sX15_readPass_58 F k_18 h x0 x1 x2 = some o) : W p l e (rm 2 43) s m args below meth c H locs 0 0 (MQ below (QI X h0 o.1 o.2) args s 0 0 (aA (eB X))) (F0 m 58 ls []) := by
  obtain ⟨v_1, ev_1, hE⟩ := nm_e2 hE
  refine lv_iinc (v := v_1) (lv' := [(2, .int v_1), (0, .ref x0), (1, .ref x1)]) C.1 C.2.1 dX15_readPass_58 hl (k := 2) rfl (by rw [ev_1]; rfl) (by decide) rfl (fun ls hl => ?_)
  refine lv_goto (tgt := 18) C.1 C.2.1 dX15_readPass_61 (by decide) ?_
  exact hk_18 _ _ _ _ _ _ k_x0 k_x1 hkm hW hZ _ (lv_sub hl [1, 2, 0] rfl) hE
set_option maxRecDepth 20000 in
theorem bX15_readPass_32 {p : Program} {l : Launch} {e : Env} {s : State} {m : MethodId} {args : Array Value} {below : List Frame} {meth : Method} {c : Code} {X : Ec} {h0 : Hp} {o : Int32 × Hp} {k_18 : Hp → Nat → Nat → Int32 → Option (Int32 × Hp)} {F : Nat} (C : Cx X p s m args meth c RX15 cX15_readPass 3 (some .boolean) "readPass") (hk_18 : ∀ (h : Hp) (x0 : Nat) (x1 : Nat) (x2 : Int32) (H : Heap) (locs : List Loc), hK h x0 = 15 → hK h x1 = 12 → Km h0 h → Wx X h H → va_S (aA (eB X)) s.heap H locs → ∀ (ls : Array Slot), lv_has ls 3 [(0, .ref x0), (1, .ref x1), (2, .int x2)] → k_18 h x0 x1 x2 = some o → W p l e (rm 2 43) s m args below meth c H locs 0 0 (MQ below (QI X h0 o.1 o.2) args s 0 0 (aA (eB X))) (F0 m 18 ls [])) {h : Hp} {x0 : Nat} {x1 : Nat} {x2 : Int32} {H : Heap} {locs : List Loc} (k_x0 : hK h x0 = 15) (k_x1 : hK h x1 = 12) (hkm : Km h0 h) (hW : Wx X h H) (hZ : va_S (aA (eB X)) s.heap H locs) (ls : Array Slot) (hl : lv_has ls 3 [(0, .ref x0), (1, .ref x1), (2, .int x2)]) (hE : sX15_readPass_32 F k_18 h x0 x1 x2 = some o) : W p l e (rm 2 43) s m args below meth c H locs 0 0 (MQ below (QI X h0 o.1 o.2) args s 0 0 (aA (eB X))) (F0 m 32 ls []) := by
  refine lv_aload_n C.1 C.2.1 dX15_readPass_32 rfl (lv_at hl 0 rfl) ?_
  refine lv_iconst (v := (-1 : Int32)) C.1 C.2.1 dX15_readPass_33 (by decide) ?_
  obtain ⟨o_1, eo_1, hE⟩ := cl_e hE
  refine x_kI (o := o_1) (z_runV (As := [.int (-1 : Int32)]) (rest := []) C (ct_X15_readSquare l X k_x0 eo_1) cw_X15_433 hW hZ k_x0 (by decide) rfl rfl rfl hl.1 (Nat.le_of_ble_eq_true rfl) rfl dX15_readPass_34 ⟨Nat.le_of_ble_eq_true rfl, Nat.le_of_ble_eq_true rfl⟩ ⟨Nat.le_refl _, Nat.le_refl _⟩) hZ (fun _ _ hW km hZ => ?_)
  replace hkm := hkm.tr km
  replace k_x0 := km.at k_x0 (by decide)
  replace k_x1 := km.at k_x1 (by decide)
  refine lv_if_ne (tgt := 42) C.1 C.2.1 dX15_readPass_37 (by decide) (fun c_2 => ?_) (fun c_2 => ?_)
  · have hE := br_n hE c_2
    refine lv_iload_n C.1 C.2.1 dX15_readPass_42 rfl (lv_at hl 2 rfl) ?_
    refine lv_bipush (v := (64 : Int32)) C.1 C.2.1 dX15_readPass_43 (by decide) ?_
    refine lv_icmp_ge (tgt := 58) C.1 C.2.1 dX15_readPass_45 (by decide) (fun c_3 => ?_) (fun c_3 => ?_)
    · have hE := br_p hE c_3
      exact bX15_readPass_58 C hk_18 k_x0 k_x1 hkm hW hZ _ (lv_sub hl [0, 1, 2] rfl) hE
    · have hE := br_n hE c_3
      refine lv_aload_n C.1 C.2.1 dX15_readPass_48 rfl (lv_at hl 1 rfl) ?_
      obtain ⟨r_4, er_4, hE⟩ := cl_e hE
      refine gf_X15_439 C hW k_x1 er_4 dX15_readPass_49 (fun k_r_4 => ?_)
      refine lv_iload_n C.1 C.2.1 dX15_readPass_52 rfl (lv_at hl 2 rfl) ?_
      refine lv_aload_n C.1 C.2.1 dX15_readPass_53 rfl (lv_at hl 0 rfl) ?_
      refine gf_X15_430 C hW k_x0 dX15_readPass_54 ?_
      obtain ⟨g_5, hE⟩ := gd_e hE
      obtain ⟨h_6, eh_6, hE⟩ := nm_e2 hE
      refine y_iast C hW hZ k_r_4 g_5 eh_6 dX15_readPass_57 (fun _ _ hW km hZ => ?_)
      replace hkm := hkm.tr km
      replace k_x0 := km.at k_x0 (by decide)
      replace k_x1 := km.at k_x1 (by decide)
      exact bX15_readPass_58 C hk_18 k_x0 k_x1 hkm hW hZ _ (lv_sub hl [0, 1, 2] rfl) hE
  · have hE := br_p hE c_2
    refine lv_iconst (v := (0 : Int32)) C.1 C.2.1 dX15_readPass_40 (by decide) ?_
    exact x_iret C rfl (by decide) hW hZ hkm hE dX15_readPass_41
set_option maxRecDepth 20000 in
theorem bX15_readPass_77 {p : Program} {l : Launch} {e : Env} {s : State} {m : MethodId} {args : Array Value} {below : List Frame} {meth : Method} {c : Code} {X : Ec} {h0 : Hp} {o : Int32 × Hp} {F : Nat} (C : Cx X p s m args meth c RX15 cX15_readPass 3 (some .boolean) "readPass") {h : Hp} {x0 : Nat} {t0 : Int32} {t1 : Nat} {H : Heap} {locs : List Loc} (k_x0 : hK h x0 = 15) (k_t1 : hK h t1 = 12) (hkm : Km h0 h) (hW : Wx X h H) (hZ : va_S (aA (eB X)) s.heap H locs) (ls : Array Slot) (hl : lv_has ls 3 [(0, .ref x0)]) (hE : sX15_readPass_77 F h x0 t0 t1 = some o) : W p l e (rm 2 43) s m args below meth c H locs 0 0 (MQ below (QI X h0 o.1 o.2) args s 0 0 (aA (eB X))) (F0 m 77 ls [.int t0, .ref t1]) := by
  obtain ⟨h_1, eh_1, hE⟩ := nm_e2 hE
  refine pf_X15_441 C hW hZ k_t1 eh_1 dX15_readPass_77 (fun _ _ hW km hZ => ?_)
  replace hkm := hkm.tr km
  replace k_x0 := km.at k_x0 (by decide)
  refine lv_aload_n C.1 C.2.1 dX15_readPass_80 rfl (lv_at hl 0 rfl) ?_
  refine lv_bipush (v := (32 : Int32)) C.1 C.2.1 dX15_readPass_81 (by decide) ?_
  obtain ⟨o_2, eo_2, hE⟩ := cl_e hE
  refine x_kI (o := o_2) (z_runV (As := [.int (32 : Int32)]) (rest := []) C (ct_X15_reads l X k_x0 eo_2) cw_X15_427 hW hZ k_x0 (by decide) rfl rfl rfl hl.1 (Nat.le_of_ble_eq_true rfl) rfl dX15_readPass_83 ⟨Nat.le_of_ble_eq_true rfl, Nat.le_of_ble_eq_true rfl⟩ ⟨Nat.le_refl _, Nat.le_refl _⟩) hZ (fun _ _ hW km hZ => ?_)
  replace hkm := hkm.tr km
  replace k_x0 := km.at k_x0 (by decide)
  obtain ⟨g_3, hE⟩ := gd_e hE
  exact x_iret C rfl (narB g_3) hW hZ hkm hE dX15_readPass_86
set_option maxRecDepth 20000 in
theorem bX15_readPass_18 {p : Program} {l : Launch} {e : Env} {s : State} {m : MethodId} {args : Array Value} {below : List Frame} {meth : Method} {c : Code} {X : Ec} {h0 : Hp} {o : Int32 × Hp} {F : Nat} (C : Cx X p s m args meth c RX15 cX15_readPass 3 (some .boolean) "readPass") : ∀ (f : Nat) {h : Hp} {x0 : Nat} {x1 : Nat} {x2 : Int32} {H : Heap} {locs : List Loc} (k_x0 : hK h x0 = 15) (k_x1 : hK h x1 = 12), Km h0 h → Wx X h H → va_S (aA (eB X)) s.heap H locs → ∀ (ls : Array Slot), lv_has ls 3 [(0, .ref x0), (1, .ref x1), (2, .int x2)] → sX15_readPass_18 F f h x0 x1 x2 = some o → W p l e (rm 2 43) s m args below meth c H locs 0 0 (MQ below (QI X h0 o.1 o.2) args s 0 0 (aA (eB X))) (F0 m 18 ls []) := by
  intro f
  induction f with
  | zero =>
    intro h x0 x1 x2 H locs k_x0 k_x1 hkm hW hZ ls hl hE
    rw [sX15_readPass_18] at hE
    cases hE
  | succ f ih =>
    intro h x0 x1 x2 H locs k_x0 k_x1 hkm hW hZ ls hl hE
    rw [sX15_readPass_18] at hE
    have hk_18 : ∀ (h : Hp) (x0 : Nat) (x1 : Nat) (x2 : Int32) (H : Heap) (locs : List Loc), hK h x0 = 15 → hK h x1 = 12 → Km h0 h → Wx X h H → va_S (aA (eB X)) s.heap H locs → ∀ (ls : Array Slot), lv_has ls 3 [(0, .ref x0), (1, .ref x1), (2, .int x2)] → sX15_readPass_18 F f h x0 x1 x2 = some o → W p l e (rm 2 43) s m args below meth c H locs 0 0 (MQ below (QI X h0 o.1 o.2) args s 0 0 (aA (eB X))) (F0 m 18 ls []) := fun h x0 x1 x2 H locs k_x0 k_x1 a b c ls hl hE => ih k_x0 k_x1 a b c ls hl hE
    refine lv_iload_n C.1 C.2.1 dX15_readPass_18 rfl (lv_at hl 2 rfl) ?_
    refine lv_iconst (v := (2 : Int32)) C.1 C.2.1 dX15_readPass_19 (by decide) ?_
    refine lv_icmp_lt (tgt := 32) C.1 C.2.1 dX15_readPass_20 (by decide) (fun c_1 => ?_) (fun c_1 => ?_)
    · have hE := br_p hE c_1
      exact bX15_readPass_32 C hk_18 k_x0 k_x1 hkm hW hZ _ (lv_sub hl [0, 1, 2] rfl) hE
    · have hE := br_n hE c_1
      refine lv_aload_n C.1 C.2.1 dX15_readPass_23 rfl (lv_at hl 0 rfl) ?_
      obtain ⟨o_2, eo_2, hE⟩ := cl_e hE
      refine x_kI (o := o_2) (z_runV (As := []) (rest := []) C (ct_X15_look l X k_x0 eo_2) cw_X15_421 hW hZ k_x0 (by decide) rfl rfl rfl hl.1 (Nat.le_of_ble_eq_true rfl) rfl dX15_readPass_24 ⟨Nat.le_of_ble_eq_true rfl, Nat.le_of_ble_eq_true rfl⟩ ⟨Nat.le_refl _, Nat.le_refl _⟩) hZ (fun _ _ hW km hZ => ?_)
      replace hkm := hkm.tr km
      replace k_x0 := km.at k_x0 (by decide)
      replace k_x1 := km.at k_x1 (by decide)
      refine lv_bipush (v := (32 : Int32)) C.1 C.2.1 dX15_readPass_27 (by decide) ?_
      refine lv_icmp_eq (tgt := 64) C.1 C.2.1 dX15_readPass_29 (by decide) (fun c_3 => ?_) (fun c_3 => ?_)
      · have hE := br_p hE c_3
        refine lv_aload_n C.1 C.2.1 dX15_readPass_64 rfl (lv_at hl 1 rfl) ?_
        refine lv_iload_n C.1 C.2.1 dX15_readPass_65 rfl (lv_at hl 2 rfl) ?_
        refine lv_bipush (v := (64 : Int32)) C.1 C.2.1 dX15_readPass_66 (by decide) ?_
        refine lv_icmp_ge (tgt := 75) C.1 C.2.1 dX15_readPass_68 (by decide) (fun c_4 => ?_) (fun c_4 => ?_)
        · have hE := br_p hE c_4
          refine lv_bipush (v := (64 : Int32)) C.1 C.2.1 dX15_readPass_75 (by decide) ?_
          exact bX15_readPass_77 C k_x0 k_x1 hkm hW hZ _ (lv_sub hl [0] rfl) hE
        · have hE := br_n hE c_4
          refine lv_iload_n C.1 C.2.1 dX15_readPass_71 rfl (lv_at hl 2 rfl) ?_
          refine lv_goto (tgt := 77) C.1 C.2.1 dX15_readPass_72 (by decide) ?_
          exact bX15_readPass_77 C k_x0 k_x1 hkm hW hZ _ (lv_sub hl [0] rfl) hE
      · have hE := br_n hE c_3
        exact bX15_readPass_32 C hk_18 k_x0 k_x1 hkm hW hZ _ (lv_sub hl [0, 1, 2] rfl) hE
set_option maxRecDepth 20000 in
theorem ct_X15_readPass (l : Launch) (X : Ec) (F : Nat) {h : Hp} {x0 : Nat} {x1 : Nat} {o : Int32 × Hp} (k_x0 : hK h x0 = 15) (k_x1 : hK h x1 = 12) (hE : sX15_readPass F h x0 x1 = some o) : MetI l yX15_readPass cX15_readPass 3 (some .boolean) 2 43 X [.ref x0, .ref x1] h o := by
  refine x_met (by decide) (Nat.le_of_ble_eq_true rfl) ?_
  intro p e s m below meth c ls C hl hW hZ
  have hl : lv_has ls 3 [(0, .ref x0), (1, .ref x1)] := hl
  have hkm : Km h h := Km.rf h
  refine lv_aload_n C.1 C.2.1 dX15_readPass_0 rfl (lv_at hl 0 rfl) ?_
  refine lv_bipush (v := (45 : Int32)) C.1 C.2.1 dX15_readPass_1 (by decide) ?_
  obtain ⟨o_1, eo_1, hE⟩ := cl_e hE
  refine x_kI (o := o_1) (z_runV (As := [.int (45 : Int32)]) (rest := []) C (ct_X15_reads l X k_x0 eo_1) cw_X15_427 hW hZ k_x0 (by decide) rfl rfl rfl hl.1 (Nat.le_of_ble_eq_true rfl) rfl dX15_readPass_3 ⟨Nat.le_of_ble_eq_true rfl, Nat.le_of_ble_eq_true rfl⟩ ⟨Nat.le_refl _, Nat.le_refl _⟩) hZ (fun _ _ hW km hZ => ?_)
  replace hkm := hkm.tr km
  replace k_x0 := km.at k_x0 (by decide)
  replace k_x1 := km.at k_x1 (by decide)
  refine lv_if_eq (tgt := 16) C.1 C.2.1 dX15_readPass_6 (by decide) (fun c_2 => ?_) (fun c_2 => ?_)
  · have hE := br_p hE c_2
    refine lv_iconst (v := (0 : Int32)) C.1 C.2.1 dX15_readPass_16 (by decide) ?_
    refine lv_istore_n (lv' := [(2, .int (0 : Int32)), (0, .ref x0), (1, .ref x1)]) C.1 C.2.1 dX15_readPass_17 rfl hl (by decide) rfl (fun ls hl => ?_)
    exact bX15_readPass_18 C F k_x0 k_x1 hkm hW hZ _ (lv_sub hl [1, 2, 0] rfl) hE
  · have hE := br_n hE c_2
    refine lv_aload_n C.1 C.2.1 dX15_readPass_9 rfl (lv_at hl 0 rfl) ?_
    refine lv_bipush (v := (32 : Int32)) C.1 C.2.1 dX15_readPass_10 (by decide) ?_
    obtain ⟨o_3, eo_3, hE⟩ := cl_e hE
    refine x_kI (o := o_3) (z_runV (As := [.int (32 : Int32)]) (rest := []) C (ct_X15_reads l X k_x0 eo_3) cw_X15_427 hW hZ k_x0 (by decide) rfl rfl rfl hl.1 (Nat.le_of_ble_eq_true rfl) rfl dX15_readPass_12 ⟨Nat.le_of_ble_eq_true rfl, Nat.le_of_ble_eq_true rfl⟩ ⟨Nat.le_refl _, Nat.le_refl _⟩) hZ (fun _ _ hW km hZ => ?_)
    replace hkm := hkm.tr km
    replace k_x0 := km.at k_x0 (by decide)
    replace k_x1 := km.at k_x1 (by decide)
    obtain ⟨g_4, hE⟩ := gd_e hE
    exact x_iret C rfl (narB g_4) hW hZ hkm hE dX15_readPass_15
theorem n_1940 : Cond.fieldLinkNest RX15 444 (TX12 5).1 (TX12 5).2.1 (TX12 5).2.2.1 "GameRulesModel" ∈ tables_1 := List.mem_of_getElem? (i := 1940) (by decide +kernel)
section
variable {p : Program} {l : Launch} {e : Env} {R : Room} {s : State} {m : MethodId} {args : Array Value} {below : List Frame} {meth : Method} {c : Code} {H : Heap} {locs : List Loc} {cells slots : Nat} {Q : State → Prop}
variable {cc : ByteArray} {pc : Nat} {ls : Array Slot} {rest : List Value} {X : Ec} {h h1 : Hp} {nL : Nat} {rt : Option FieldType} {mn : String}
theorem gf_X15_444 {a r : Nat} (C : Cx X p s m args meth c RX15 cc nL rt mn) (hW : Wx X h H) (ha : hK h a = 12) (hr : hR h a 5 = some r) (hdg : decode cc pc = .ok (.getfield 444, 3)) (kk : hK h r = 17 → W p l e R s m args below meth c H locs cells slots Q (F0 m (pc + 3) ls (.ref r :: rest))) : W p l e R s m args below meth c H locs cells slots Q (F0 m pc ls (.ref a :: rest)) :=
  y_getrN C hW ha i_X12 (by decide) rfl (by decide) n_1940 rfl rfl hr hdg kk
end
theorem dX15_readHands_0 : decode cX15_readHands 0 = .ok (.aload_n 0, 1) := by decide +kernel
theorem dX15_readHands_1 : decode cX15_readHands 1 = .ok (.bipush 45, 2) := by decide +kernel
theorem dX15_readHands_3 : decode cX15_readHands 3 = .ok (.invokevirtual 427, 3) := by decide +kernel
theorem dX15_readHands_6 : decode cX15_readHands 6 = .ok (.ifCond .eq 10, 3) := by decide +kernel
theorem dX15_readHands_9 : decode cX15_readHands 9 = .ok (.aload_n 0, 1) := by decide +kernel
theorem dX15_readHands_10 : decode cX15_readHands 10 = .ok (.bipush 32, 2) := by decide +kernel
theorem dX15_readHands_12 : decode cX15_readHands 12 = .ok (.invokevirtual 427, 3) := by decide +kernel
theorem dX15_readHands_15 : decode cX15_readHands 15 = .ok (.ireturn, 1) := by decide +kernel
theorem dX15_readHands_16 : decode cX15_readHands 16 = .ok (.iconst 0, 1) := by decide +kernel
theorem dX15_readHands_17 : decode cX15_readHands 17 = .ok (.istore_n 2, 1) := by decide +kernel
theorem dX15_readHands_18 : decode cX15_readHands 18 = .ok (.iload_n 2, 1) := by decide +kernel
theorem dX15_readHands_19 : decode cX15_readHands 19 = .ok (.ifCond .eq 12, 3) := by decide +kernel
theorem dX15_readHands_22 : decode cX15_readHands 22 = .ok (.aload_n 0, 1) := by decide +kernel
theorem dX15_readHands_23 : decode cX15_readHands 23 = .ok (.invokevirtual 421, 3) := by decide +kernel
theorem dX15_readHands_26 : decode cX15_readHands 26 = .ok (.bipush 32, 2) := by decide +kernel
theorem dX15_readHands_28 : decode cX15_readHands 28 = .ok (.if_icmp .eq 65, 3) := by decide +kernel
theorem dX15_readHands_31 : decode cX15_readHands 31 = .ok (.aload_n 0, 1) := by decide +kernel
theorem dX15_readHands_32 : decode cX15_readHands 32 = .ok (.aload_n 0, 1) := by decide +kernel
theorem dX15_readHands_33 : decode cX15_readHands 33 = .ok (.invokevirtual 421, 3) := by decide +kernel
theorem dX15_readHands_36 : decode cX15_readHands 36 = .ok (.invokevirtual 424, 3) := by decide +kernel
theorem dX15_readHands_39 : decode cX15_readHands 39 = .ok (.istore_n 3, 1) := by decide +kernel
theorem dX15_readHands_40 : decode cX15_readHands 40 = .ok (.iload_n 3, 1) := by decide +kernel
theorem dX15_readHands_41 : decode cX15_readHands 41 = .ok (.ifCond .eq 22, 3) := by decide +kernel
theorem dX15_readHands_44 : decode cX15_readHands 44 = .ok (.iload_n 2, 1) := by decide +kernel
theorem dX15_readHands_45 : decode cX15_readHands 45 = .ok (.bipush 32, 2) := by decide +kernel
theorem dX15_readHands_47 : decode cX15_readHands 47 = .ok (.if_icmp .eq 16, 3) := by decide +kernel
theorem dX15_readHands_50 : decode cX15_readHands 50 = .ok (.aload_n 1, 1) := by decide +kernel
theorem dX15_readHands_51 : decode cX15_readHands 51 = .ok (.getfield 444, 3) := by decide +kernel
theorem dX15_readHands_54 : decode cX15_readHands 54 = .ok (.iload_n 3, 1) := by decide +kernel
theorem dX15_readHands_55 : decode cX15_readHands 55 = .ok (.iconst 1, 1) := by decide +kernel
theorem dX15_readHands_56 : decode cX15_readHands 56 = .ok (.isub, 1) := by decide +kernel
theorem dX15_readHands_57 : decode cX15_readHands 57 = .ok (.iaload, 1) := by decide +kernel
theorem dX15_readHands_58 : decode cX15_readHands 58 = .ok (.bipush 16, 2) := by decide +kernel
theorem dX15_readHands_60 : decode cX15_readHands 60 = .ok (.if_icmp .ne 5, 3) := by decide +kernel
theorem dX15_readHands_63 : decode cX15_readHands 63 = .ok (.iconst 0, 1) := by decide +kernel
theorem dX15_readHands_64 : decode cX15_readHands 64 = .ok (.ireturn, 1) := by decide +kernel
theorem dX15_readHands_65 : decode cX15_readHands 65 = .ok (.aload_n 1, 1) := by decide +kernel
theorem dX15_readHands_66 : decode cX15_readHands 66 = .ok (.getfield 444, 3) := by decide +kernel
theorem dX15_readHands_69 : decode cX15_readHands 69 = .ok (.iload_n 3, 1) := by decide +kernel
theorem dX15_readHands_70 : decode cX15_readHands 70 = .ok (.iconst 1, 1) := by decide +kernel
theorem dX15_readHands_71 : decode cX15_readHands 71 = .ok (.isub, 1) := by decide +kernel
theorem dX15_readHands_72 : decode cX15_readHands 72 = .ok (.dup2, 1) := by decide +kernel
theorem dX15_readHands_73 : decode cX15_readHands 73 = .ok (.iaload, 1) := by decide +kernel
theorem dX15_readHands_74 : decode cX15_readHands 74 = .ok (.iconst 1, 1) := by decide +kernel
theorem dX15_readHands_75 : decode cX15_readHands 75 = .ok (.iadd, 1) := by decide +kernel
theorem dX15_readHands_76 : decode cX15_readHands 76 = .ok (.iastore, 1) := by decide +kernel
theorem dX15_readHands_77 : decode cX15_readHands 77 = .ok (.iinc 2 1, 3) := by decide +kernel
theorem dX15_readHands_80 : decode cX15_readHands 80 = .ok (.aload_n 0, 1) := by decide +kernel
theorem dX15_readHands_81 : decode cX15_readHands 81 = .ok (.dup, 1) := by decide +kernel
theorem dX15_readHands_82 : decode cX15_readHands 82 = .ok (.getfield 412, 3) := by decide +kernel
theorem dX15_readHands_85 : decode cX15_readHands 85 = .ok (.iconst 1, 1) := by decide +kernel
theorem dX15_readHands_86 : decode cX15_readHands 86 = .ok (.iadd, 1) := by decide +kernel
theorem dX15_readHands_87 : decode cX15_readHands 87 = .ok (.putfield 412, 3) := by decide +kernel
theorem dX15_readHands_90 : decode cX15_readHands 90 = .ok (.goto (-72), 3) := by decide +kernel
theorem dX15_readHands_93 : decode cX15_readHands 93 = .ok (.aload_n 0, 1) := by decide +kernel
theorem dX15_readHands_94 : decode cX15_readHands 94 = .ok (.bipush 32, 2) := by decide +kernel
theorem dX15_readHands_96 : decode cX15_readHands 96 = .ok (.invokevirtual 427, 3) := by decide +kernel
theorem dX15_readHands_99 : decode cX15_readHands 99 = .ok (.ireturn, 1) := by decide +kernel
def sX15_readHands_63 (F : Nat) (h : Hp) : Option (Int32 × Hp) := some ((0 : Int32), h)
def sX15_readHands_31 (F : Nat) (k_18 : Hp → Nat → Nat → Int32 → Option (Int32 × Hp)) (h : Hp) (x0 : Nat) (x1 : Nat) (x2 : Int32) : Option (Int32 × Hp) := cl (sX15_look h x0) fun o_1 => cl (sX15_manLetter F o_1.2 x0 o_1.1) fun o_2 => br (o_2.1 = 0) (sX15_readHands_63 F o_2.2 ) (br (x2 = (32 : Int32)) (sX15_readHands_63 F o_2.2 ) (cl (hR o_2.2 x1 5) fun r_5 => gd (inB (o_2.1 - (1 : Int32)) (hN o_2.2 r_5)) <| br ((hI o_2.2 r_5 (o_2.1 - (1 : Int32)).toNatClampNeg) = (16 : Int32)) (sX15_readHands_63 F o_2.2 ) (cl (hR o_2.2 x1 5) fun r_8 => gd (inB (o_2.1 - (1 : Int32)) (hN o_2.2 r_8)) <| gd (inB (o_2.1 - (1 : Int32)) (hN o_2.2 r_8)) <| nm (wI o_2.2 r_8 (o_2.1 - (1 : Int32)).toNatClampNeg ((hI o_2.2 r_8 (o_2.1 - (1 : Int32)).toNatClampNeg) + (1 : Int32))) fun h_11 => nm (x2 + (1 : Int32)) fun v_12 => nm (wI h_11 x0 19 ((hI h_11 x0 19) + (1 : Int32))) fun h_13 => k_18 h_13 x0 x1 v_12)))
def sX15_readHands_18 (F : Nat) : Nat → Hp → Nat → Nat → Int32 → Option (Int32 × Hp)
  | 0, _, _, _, _ => none
  | f + 1, h, x0, x1, x2 => br (x2 = 0) (sX15_readHands_31 F (sX15_readHands_18 F f) h x0 x1 x2) (cl (sX15_look h x0) fun o_2 => br (o_2.1 = (32 : Int32)) (cl (sX15_reads o_2.2 x0 (32 : Int32)) fun o_4 => gd (o_4.1 &&& 1 = o_4.1) <| some (o_4.1, o_4.2)) (sX15_readHands_31 F (sX15_readHands_18 F f) o_2.2 x0 x1 x2))
def sX15_readHands (F : Nat) (h : Hp) (x0 : Nat) (x1 : Nat) : Option (Int32 × Hp) := cl (sX15_reads h x0 (45 : Int32)) fun o_1 => br (o_1.1 = 0) (sX15_readHands_18 F F o_1.2 x0 x1 (0 : Int32)) (cl (sX15_reads o_1.2 x0 (32 : Int32)) fun o_3 => gd (o_3.1 &&& 1 = o_3.1) <| some (o_3.1, o_3.2))
theorem moX15_readHands_63 {o : Int32 × Hp} {F : Nat} {h : Hp} (hE : sX15_readHands_63 F h  = some o) : Le h o.2 := by
  cases hE
  exact Le.rf _
theorem moX15_readHands_31 {o : Int32 × Hp} {k_18 : Hp → Nat → Nat → Int32 → Option (Int32 × Hp)} {F : Nat} (mk_18 : ∀ (h : Hp) (x0 : Nat) (x1 : Nat) (x2 : Int32), k_18 h x0 x1 x2 = some o → Le h o.2) {h : Hp} {x0 : Nat} {x1 : Nat} {x2 : Int32} (hE : sX15_readHands_31 F k_18 h x0 x1 x2 = some o) : Le h o.2 := by
  obtain ⟨o_1, eo_1, hE⟩ := cl_e hE
  refine (moX15_look eo_1).tr ?_
  obtain ⟨o_2, eo_2, hE⟩ := cl_e hE
  refine (moX15_manLetter eo_2).tr ?_
  rcases br_e hE with ⟨_, hE⟩ | ⟨_, hE⟩
  · exact moX15_readHands_63 hE
  · rcases br_e hE with ⟨_, hE⟩ | ⟨_, hE⟩
    · exact moX15_readHands_63 hE
    · obtain ⟨r_5, er_5, hE⟩ := cl_e hE
      obtain ⟨g_6, hE⟩ := gd_e hE
      rcases br_e hE with ⟨_, hE⟩ | ⟨_, hE⟩
      · exact moX15_readHands_63 hE
      · obtain ⟨r_8, er_8, hE⟩ := cl_e hE
        obtain ⟨g_9, hE⟩ := gd_e hE
        obtain ⟨g_10, hE⟩ := gd_e hE
        obtain ⟨h_11, eh_11, hE⟩ := nm_e2 hE
        refine (le_I eh_11).tr ?_
        obtain ⟨v_12, ev_12, hE⟩ := nm_e2 hE
        obtain ⟨h_13, eh_13, hE⟩ := nm_e2 hE
        refine (le_I eh_13).tr ?_
        exact mk_18 _ _ _ _ hE
theorem moX15_readHands_18 {o : Int32 × Hp} {F : Nat} : ∀ (f : Nat) {h : Hp} {x0 : Nat} {x1 : Nat} {x2 : Int32}, sX15_readHands_18 F f h x0 x1 x2 = some o → Le h o.2 := by
  intro f
  induction f with
  | zero =>
    intro h x0 x1 x2 hE
    rw [sX15_readHands_18] at hE
    cases hE
  | succ f ih =>
    intro h x0 x1 x2 hE
    rw [sX15_readHands_18] at hE
    have mk_18 : ∀ (h : Hp) (x0 : Nat) (x1 : Nat) (x2 : Int32), sX15_readHands_18 F f h x0 x1 x2 = some o → Le h o.2 := fun h x0 x1 x2 hE => ih hE
    rcases br_e hE with ⟨_, hE⟩ | ⟨_, hE⟩
    · exact moX15_readHands_31 mk_18 hE
    · obtain ⟨o_2, eo_2, hE⟩ := cl_e hE
      refine (moX15_look eo_2).tr ?_
      rcases br_e hE with ⟨_, hE⟩ | ⟨_, hE⟩
      · obtain ⟨o_4, eo_4, hE⟩ := cl_e hE
        refine (moX15_reads eo_4).tr ?_
        obtain ⟨g_5, hE⟩ := gd_e hE
        cases hE
        exact Le.rf _
      · exact moX15_readHands_31 mk_18 hE
theorem moX15_readHands {o : Int32 × Hp} {F : Nat} {h : Hp} {x0 : Nat} {x1 : Nat} (hE : sX15_readHands F h x0 x1 = some o) : Le h o.2 := by
  obtain ⟨o_1, eo_1, hE⟩ := cl_e hE
  refine (moX15_reads eo_1).tr ?_
  rcases br_e hE with ⟨_, hE⟩ | ⟨_, hE⟩
  · exact moX15_readHands_18 _ hE
  · obtain ⟨o_3, eo_3, hE⟩ := cl_e hE
    refine (moX15_reads eo_3).tr ?_
    obtain ⟨g_4, hE⟩ := gd_e hE
    cases hE
    exact Le.rf _
set_option maxRecDepth 20000 in
theorem bX15_readHands_63 {p : Program} {l : Launch} {e : Env} {s : State} {m : MethodId} {args : Array Value} {below : List Frame} {meth : Method} {c : Code} {X : Ec} {h0 : Hp} {o : Int32 × Hp} {F : Nat} (C : Cx X p s m args meth c RX15 cX15_readHands 4 (some .boolean) "readHands") {h : Hp} {H : Heap} {locs : List Loc} (hkm : Km h0 h) (hW : Wx X h H) (hZ : va_S (aA (eB X)) s.heap H locs) (ls : Array Slot) (hl : lv_has ls 4 []) (hE : sX15_readHands_63 F h  = some o) : W p l e (rm 2 43) s m args below meth c H locs 0 0 (MQ below (QI X h0 o.1 o.2) args s 0 0 (aA (eB X))) (F0 m 63 ls []) := by
  refine lv_iconst (v := (0 : Int32)) C.1 C.2.1 dX15_readHands_63 (by decide) ?_
  exact x_iret C rfl (by decide) hW hZ hkm hE dX15_readHands_64
set_option maxRecDepth 20000 in
theorem bX15_readHands_31 {p : Program} {l : Launch} {e : Env} {s : State} {m : MethodId} {args : Array Value} {below : List Frame} {meth : Method} {c : Code} {X : Ec} {h0 : Hp} {o : Int32 × Hp} {k_18 : Hp → Nat → Nat → Int32 → Option (Int32 × Hp)} {F : Nat} (C : Cx X p s m args meth c RX15 cX15_readHands 4 (some .boolean) "readHands") (hk_18 : ∀ (h : Hp) (x0 : Nat) (x1 : Nat) (x2 : Int32) (H : Heap) (locs : List Loc), hK h x0 = 15 → hK h x1 = 12 → Km h0 h → Wx X h H → va_S (aA (eB X)) s.heap H locs → ∀ (ls : Array Slot), lv_has ls 4 [(0, .ref x0), (1, .ref x1), (2, .int x2)] → k_18 h x0 x1 x2 = some o → W p l e (rm 2 43) s m args below meth c H locs 0 0 (MQ below (QI X h0 o.1 o.2) args s 0 0 (aA (eB X))) (F0 m 18 ls [])) {h : Hp} {x0 : Nat} {x1 : Nat} {x2 : Int32} {H : Heap} {locs : List Loc} (k_x0 : hK h x0 = 15) (k_x1 : hK h x1 = 12) (hkm : Km h0 h) (hW : Wx X h H) (hZ : va_S (aA (eB X)) s.heap H locs) (ls : Array Slot) (hl : lv_has ls 4 [(0, .ref x0), (1, .ref x1), (2, .int x2)]) (hE : sX15_readHands_31 F k_18 h x0 x1 x2 = some o) : W p l e (rm 2 43) s m args below meth c H locs 0 0 (MQ below (QI X h0 o.1 o.2) args s 0 0 (aA (eB X))) (F0 m 31 ls []) := by
  refine lv_aload_n C.1 C.2.1 dX15_readHands_31 rfl (lv_at hl 0 rfl) ?_
  refine lv_aload_n C.1 C.2.1 dX15_readHands_32 rfl (lv_at hl 0 rfl) ?_
  obtain ⟨o_1, eo_1, hE⟩ := cl_e hE
  refine x_kI (o := o_1) (z_runV (As := []) (rest := [.ref x0]) C (ct_X15_look l X k_x0 eo_1) cw_X15_421 hW hZ k_x0 (by decide) rfl rfl rfl hl.1 (Nat.le_of_ble_eq_true rfl) rfl dX15_readHands_33 ⟨Nat.le_of_ble_eq_true rfl, Nat.le_of_ble_eq_true rfl⟩ ⟨Nat.le_refl _, Nat.le_refl _⟩) hZ (fun _ _ hW km hZ => ?_)
  replace hkm := hkm.tr km
  replace k_x0 := km.at k_x0 (by decide)
  replace k_x1 := km.at k_x1 (by decide)
  obtain ⟨o_2, eo_2, hE⟩ := cl_e hE
  refine x_kI (o := o_2) (z_runV (As := [.int o_1.1]) (rest := []) C (ct_X15_manLetter l X F k_x0 eo_2) cw_X15_424 hW hZ k_x0 (by decide) rfl rfl rfl hl.1 (Nat.le_of_ble_eq_true rfl) rfl dX15_readHands_36 ⟨Nat.le_of_ble_eq_true rfl, Nat.le_of_ble_eq_true rfl⟩ ⟨Nat.le_refl _, Nat.le_refl _⟩) hZ (fun _ _ hW km hZ => ?_)
  replace hkm := hkm.tr km
  replace k_x0 := km.at k_x0 (by decide)
  replace k_x1 := km.at k_x1 (by decide)
  refine lv_istore_n (lv' := [(3, .int o_2.1), (0, .ref x0), (1, .ref x1), (2, .int x2)]) C.1 C.2.1 dX15_readHands_39 rfl hl (by decide) rfl (fun ls hl => ?_)
  refine lv_iload_n C.1 C.2.1 dX15_readHands_40 rfl (lv_at hl 0 rfl) ?_
  refine lv_if_eq (tgt := 63) C.1 C.2.1 dX15_readHands_41 (by decide) (fun c_3 => ?_) (fun c_3 => ?_)
  · have hE := br_p hE c_3
    exact bX15_readHands_63 C hkm hW hZ _ (lv_sub hl [] rfl) hE
  · have hE := br_n hE c_3
    refine lv_iload_n C.1 C.2.1 dX15_readHands_44 rfl (lv_at hl 3 rfl) ?_
    refine lv_bipush (v := (32 : Int32)) C.1 C.2.1 dX15_readHands_45 (by decide) ?_
    refine lv_icmp_eq (tgt := 63) C.1 C.2.1 dX15_readHands_47 (by decide) (fun c_4 => ?_) (fun c_4 => ?_)
    · have hE := br_p hE c_4
      exact bX15_readHands_63 C hkm hW hZ _ (lv_sub hl [] rfl) hE
    · have hE := br_n hE c_4
      refine lv_aload_n C.1 C.2.1 dX15_readHands_50 rfl (lv_at hl 2 rfl) ?_
      obtain ⟨r_5, er_5, hE⟩ := cl_e hE
      refine gf_X15_444 C hW k_x1 er_5 dX15_readHands_51 (fun k_r_5 => ?_)
      refine lv_iload_n C.1 C.2.1 dX15_readHands_54 rfl (lv_at hl 0 rfl) ?_
      refine lv_iconst (v := (1 : Int32)) C.1 C.2.1 dX15_readHands_55 (by decide) ?_
      refine lv_isub C.1 C.2.1 dX15_readHands_56 ?_
      obtain ⟨g_6, hE⟩ := gd_e hE
      refine y_iald C hW k_r_5 g_6 dX15_readHands_57 ?_
      refine lv_bipush (v := (16 : Int32)) C.1 C.2.1 dX15_readHands_58 (by decide) ?_
      refine lv_icmp_ne (tgt := 65) C.1 C.2.1 dX15_readHands_60 (by decide) (fun c_7 => ?_) (fun c_7 => ?_)
      · have hE := br_n hE c_7
        refine lv_aload_n C.1 C.2.1 dX15_readHands_65 rfl (lv_at hl 2 rfl) ?_
        obtain ⟨r_8, er_8, hE⟩ := cl_e hE
        refine gf_X15_444 C hW k_x1 er_8 dX15_readHands_66 (fun k_r_8 => ?_)
        refine lv_iload_n C.1 C.2.1 dX15_readHands_69 rfl (lv_at hl 0 rfl) ?_
        refine lv_iconst (v := (1 : Int32)) C.1 C.2.1 dX15_readHands_70 (by decide) ?_
        refine lv_isub C.1 C.2.1 dX15_readHands_71 ?_
        refine lv_dup2_11 C.1 C.2.1 dX15_readHands_72 rfl rfl ?_
        obtain ⟨g_9, hE⟩ := gd_e hE
        refine y_iald C hW k_r_8 g_9 dX15_readHands_73 ?_
        refine lv_iconst (v := (1 : Int32)) C.1 C.2.1 dX15_readHands_74 (by decide) ?_
        refine lv_iadd C.1 C.2.1 dX15_readHands_75 ?_
        obtain ⟨g_10, hE⟩ := gd_e hE
        obtain ⟨h_11, eh_11, hE⟩ := nm_e2 hE
        refine y_iast C hW hZ k_r_8 g_10 eh_11 dX15_readHands_76 (fun _ _ hW km hZ => ?_)
        replace hkm := hkm.tr km
        replace k_x0 := km.at k_x0 (by decide)
        replace k_x1 := km.at k_x1 (by decide)
        obtain ⟨v_12, ev_12, hE⟩ := nm_e2 hE
        refine lv_iinc (v := v_12) (lv' := [(2, .int v_12), (3, .int o_2.1), (0, .ref x0), (1, .ref x1)]) C.1 C.2.1 dX15_readHands_77 hl (k := 3) rfl (by rw [ev_12]; rfl) (by decide) rfl (fun ls hl => ?_)
        refine lv_aload_n C.1 C.2.1 dX15_readHands_80 rfl (lv_at hl 2 rfl) ?_
        refine lv_dup C.1 C.2.1 dX15_readHands_81 rfl ?_
        refine gf_X15_412 C hW k_x0 dX15_readHands_82 ?_
        refine lv_iconst (v := (1 : Int32)) C.1 C.2.1 dX15_readHands_85 (by decide) ?_
        refine lv_iadd C.1 C.2.1 dX15_readHands_86 ?_
        obtain ⟨h_13, eh_13, hE⟩ := nm_e2 hE
        refine pf_X15_412 C hW hZ k_x0 eh_13 dX15_readHands_87 (fun _ _ hW km hZ => ?_)
        replace hkm := hkm.tr km
        replace k_x0 := km.at k_x0 (by decide)
        replace k_x1 := km.at k_x1 (by decide)
        refine lv_goto (tgt := 18) C.1 C.2.1 dX15_readHands_90 (by decide) ?_
        exact hk_18 _ _ _ _ _ _ k_x0 k_x1 hkm hW hZ _ (lv_sub hl [2, 3, 0] rfl) hE
      · have hE := br_p hE c_7
        exact bX15_readHands_63 C hkm hW hZ _ (lv_sub hl [] rfl) hE
set_option maxRecDepth 20000 in
theorem bX15_readHands_18 {p : Program} {l : Launch} {e : Env} {s : State} {m : MethodId} {args : Array Value} {below : List Frame} {meth : Method} {c : Code} {X : Ec} {h0 : Hp} {o : Int32 × Hp} {F : Nat} (C : Cx X p s m args meth c RX15 cX15_readHands 4 (some .boolean) "readHands") : ∀ (f : Nat) {h : Hp} {x0 : Nat} {x1 : Nat} {x2 : Int32} {H : Heap} {locs : List Loc} (k_x0 : hK h x0 = 15) (k_x1 : hK h x1 = 12), Km h0 h → Wx X h H → va_S (aA (eB X)) s.heap H locs → ∀ (ls : Array Slot), lv_has ls 4 [(0, .ref x0), (1, .ref x1), (2, .int x2)] → sX15_readHands_18 F f h x0 x1 x2 = some o → W p l e (rm 2 43) s m args below meth c H locs 0 0 (MQ below (QI X h0 o.1 o.2) args s 0 0 (aA (eB X))) (F0 m 18 ls []) := by
  intro f
  induction f with
  | zero =>
    intro h x0 x1 x2 H locs k_x0 k_x1 hkm hW hZ ls hl hE
    rw [sX15_readHands_18] at hE
    cases hE
  | succ f ih =>
    intro h x0 x1 x2 H locs k_x0 k_x1 hkm hW hZ ls hl hE
    rw [sX15_readHands_18] at hE
    have hk_18 : ∀ (h : Hp) (x0 : Nat) (x1 : Nat) (x2 : Int32) (H : Heap) (locs : List Loc), hK h x0 = 15 → hK h x1 = 12 → Km h0 h → Wx X h H → va_S (aA (eB X)) s.heap H locs → ∀ (ls : Array Slot), lv_has ls 4 [(0, .ref x0), (1, .ref x1), (2, .int x2)] → sX15_readHands_18 F f h x0 x1 x2 = some o → W p l e (rm 2 43) s m args below meth c H locs 0 0 (MQ below (QI X h0 o.1 o.2) args s 0 0 (aA (eB X))) (F0 m 18 ls []) := fun h x0 x1 x2 H locs k_x0 k_x1 a b c ls hl hE => ih k_x0 k_x1 a b c ls hl hE
    refine lv_iload_n C.1 C.2.1 dX15_readHands_18 rfl (lv_at hl 2 rfl) ?_
    refine lv_if_eq (tgt := 31) C.1 C.2.1 dX15_readHands_19 (by decide) (fun c_1 => ?_) (fun c_1 => ?_)
    · have hE := br_p hE c_1
      exact bX15_readHands_31 C hk_18 k_x0 k_x1 hkm hW hZ _ (lv_sub hl [0, 1, 2] rfl) hE
    · have hE := br_n hE c_1
      refine lv_aload_n C.1 C.2.1 dX15_readHands_22 rfl (lv_at hl 0 rfl) ?_
      obtain ⟨o_2, eo_2, hE⟩ := cl_e hE
      refine x_kI (o := o_2) (z_runV (As := []) (rest := []) C (ct_X15_look l X k_x0 eo_2) cw_X15_421 hW hZ k_x0 (by decide) rfl rfl rfl hl.1 (Nat.le_of_ble_eq_true rfl) rfl dX15_readHands_23 ⟨Nat.le_of_ble_eq_true rfl, Nat.le_of_ble_eq_true rfl⟩ ⟨Nat.le_refl _, Nat.le_refl _⟩) hZ (fun _ _ hW km hZ => ?_)
      replace hkm := hkm.tr km
      replace k_x0 := km.at k_x0 (by decide)
      replace k_x1 := km.at k_x1 (by decide)
      refine lv_bipush (v := (32 : Int32)) C.1 C.2.1 dX15_readHands_26 (by decide) ?_
      refine lv_icmp_eq (tgt := 93) C.1 C.2.1 dX15_readHands_28 (by decide) (fun c_3 => ?_) (fun c_3 => ?_)
      · have hE := br_p hE c_3
        refine lv_aload_n C.1 C.2.1 dX15_readHands_93 rfl (lv_at hl 0 rfl) ?_
        refine lv_bipush (v := (32 : Int32)) C.1 C.2.1 dX15_readHands_94 (by decide) ?_
        obtain ⟨o_4, eo_4, hE⟩ := cl_e hE
        refine x_kI (o := o_4) (z_runV (As := [.int (32 : Int32)]) (rest := []) C (ct_X15_reads l X k_x0 eo_4) cw_X15_427 hW hZ k_x0 (by decide) rfl rfl rfl hl.1 (Nat.le_of_ble_eq_true rfl) rfl dX15_readHands_96 ⟨Nat.le_of_ble_eq_true rfl, Nat.le_of_ble_eq_true rfl⟩ ⟨Nat.le_refl _, Nat.le_refl _⟩) hZ (fun _ _ hW km hZ => ?_)
        replace hkm := hkm.tr km
        replace k_x0 := km.at k_x0 (by decide)
        replace k_x1 := km.at k_x1 (by decide)
        obtain ⟨g_5, hE⟩ := gd_e hE
        exact x_iret C rfl (narB g_5) hW hZ hkm hE dX15_readHands_99
      · have hE := br_n hE c_3
        exact bX15_readHands_31 C hk_18 k_x0 k_x1 hkm hW hZ _ (lv_sub hl [0, 1, 2] rfl) hE
set_option maxRecDepth 20000 in
theorem ct_X15_readHands (l : Launch) (X : Ec) (F : Nat) {h : Hp} {x0 : Nat} {x1 : Nat} {o : Int32 × Hp} (k_x0 : hK h x0 = 15) (k_x1 : hK h x1 = 12) (hE : sX15_readHands F h x0 x1 = some o) : MetI l yX15_readHands cX15_readHands 4 (some .boolean) 2 43 X [.ref x0, .ref x1] h o := by
  refine x_met (by decide) (Nat.le_of_ble_eq_true rfl) ?_
  intro p e s m below meth c ls C hl hW hZ
  have hl : lv_has ls 4 [(0, .ref x0), (1, .ref x1)] := hl
  have hkm : Km h h := Km.rf h
  refine lv_aload_n C.1 C.2.1 dX15_readHands_0 rfl (lv_at hl 0 rfl) ?_
  refine lv_bipush (v := (45 : Int32)) C.1 C.2.1 dX15_readHands_1 (by decide) ?_
  obtain ⟨o_1, eo_1, hE⟩ := cl_e hE
  refine x_kI (o := o_1) (z_runV (As := [.int (45 : Int32)]) (rest := []) C (ct_X15_reads l X k_x0 eo_1) cw_X15_427 hW hZ k_x0 (by decide) rfl rfl rfl hl.1 (Nat.le_of_ble_eq_true rfl) rfl dX15_readHands_3 ⟨Nat.le_of_ble_eq_true rfl, Nat.le_of_ble_eq_true rfl⟩ ⟨Nat.le_refl _, Nat.le_refl _⟩) hZ (fun _ _ hW km hZ => ?_)
  replace hkm := hkm.tr km
  replace k_x0 := km.at k_x0 (by decide)
  replace k_x1 := km.at k_x1 (by decide)
  refine lv_if_eq (tgt := 16) C.1 C.2.1 dX15_readHands_6 (by decide) (fun c_2 => ?_) (fun c_2 => ?_)
  · have hE := br_p hE c_2
    refine lv_iconst (v := (0 : Int32)) C.1 C.2.1 dX15_readHands_16 (by decide) ?_
    refine lv_istore_n (lv' := [(2, .int (0 : Int32)), (0, .ref x0), (1, .ref x1)]) C.1 C.2.1 dX15_readHands_17 rfl hl (by decide) rfl (fun ls hl => ?_)
    exact bX15_readHands_18 C F k_x0 k_x1 hkm hW hZ _ (lv_sub hl [1, 2, 0] rfl) hE
  · have hE := br_n hE c_2
    refine lv_aload_n C.1 C.2.1 dX15_readHands_9 rfl (lv_at hl 0 rfl) ?_
    refine lv_bipush (v := (32 : Int32)) C.1 C.2.1 dX15_readHands_10 (by decide) ?_
    obtain ⟨o_3, eo_3, hE⟩ := cl_e hE
    refine x_kI (o := o_3) (z_runV (As := [.int (32 : Int32)]) (rest := []) C (ct_X15_reads l X k_x0 eo_3) cw_X15_427 hW hZ k_x0 (by decide) rfl rfl rfl hl.1 (Nat.le_of_ble_eq_true rfl) rfl dX15_readHands_12 ⟨Nat.le_of_ble_eq_true rfl, Nat.le_of_ble_eq_true rfl⟩ ⟨Nat.le_refl _, Nat.le_refl _⟩) hZ (fun _ _ hW km hZ => ?_)
    replace hkm := hkm.tr km
    replace k_x0 := km.at k_x0 (by decide)
    replace k_x1 := km.at k_x1 (by decide)
    obtain ⟨g_4, hE⟩ := gd_e hE
    exact x_iret C rfl (narB g_4) hW hZ hkm hE dX15_readHands_15
theorem n_1942 : Cond.fieldLinkNest RX15 447 (TX12 6).1 (TX12 6).2.1 (TX12 6).2.2.1 "GameRulesModel" ∈ tables_1 := List.mem_of_getElem? (i := 1942) (by decide +kernel)
theorem n_1944 : Cond.fieldLinkNest RX15 449 (TX12 7).1 (TX12 7).2.1 (TX12 7).2.2.1 "GameRulesModel" ∈ tables_1 := List.mem_of_getElem? (i := 1944) (by decide +kernel)
section
variable {p : Program} {l : Launch} {e : Env} {R : Room} {s : State} {m : MethodId} {args : Array Value} {below : List Frame} {meth : Method} {c : Code} {H : Heap} {locs : List Loc} {cells slots : Nat} {Q : State → Prop}
variable {cc : ByteArray} {pc : Nat} {ls : Array Slot} {rest : List Value} {X : Ec} {h h1 : Hp} {nL : Nat} {rt : Option FieldType} {mn : String}
theorem pf_X15_449 {a : Nat} {v : Int32} (C : Cx X p s m args meth c RX15 cc nL rt mn) (hW : Wx X h H) (hZ : va_S (aA (eB X)) s.heap H locs) (ha : hK h a = 12) (eh : h1 = wI h a 7 v) (hdg : decode cc pc = .ok (.putfield 449, 3)) (kk : ∀ (H1 : Heap) (locs1 : List Loc), Wx X h1 H1 → Km h h1 → va_S (aA (eB X)) s.heap H1 locs1 → W p l e R s m args below meth c H1 locs1 cells slots Q (F0 m (pc + 3) ls rest)) : W p l e R s m args below meth c H locs cells slots Q (F0 m pc ls (.int v :: .ref a :: rest)) :=
  y_putiN (ty := .int) C hW hZ ha i_X12 tyX12 tyX12_ok nmX12 (by decide) rfl rfl (by decide) n_1944 rfl (by decide +kernel) rfl rfl rfl eh hdg kk
theorem gf_X15_447 {a r : Nat} (C : Cx X p s m args meth c RX15 cc nL rt mn) (hW : Wx X h H) (ha : hK h a = 12) (hr : hR h a 6 = some r) (hdg : decode cc pc = .ok (.getfield 447, 3)) (kk : hK h r = 17 → W p l e R s m args below meth c H locs cells slots Q (F0 m (pc + 3) ls (.ref r :: rest))) : W p l e R s m args below meth c H locs cells slots Q (F0 m pc ls (.ref a :: rest)) :=
  y_getrN C hW ha i_X12 (by decide) rfl (by decide) n_1942 rfl rfl hr hdg kk
end
theorem dX15_readRest_0 : decode cX15_readRest 0 = .ok (.iconst 0, 1) := by decide +kernel
theorem dX15_readRest_1 : decode cX15_readRest 1 = .ok (.istore_n 2, 1) := by decide +kernel
theorem dX15_readRest_2 : decode cX15_readRest 2 = .ok (.iload_n 2, 1) := by decide +kernel
theorem dX15_readRest_3 : decode cX15_readRest 3 = .ok (.iconst 2, 1) := by decide +kernel
theorem dX15_readRest_4 : decode cX15_readRest 4 = .ok (.if_icmp .ge 44, 3) := by decide +kernel
theorem dX15_readRest_7 : decode cX15_readRest 7 = .ok (.aload_n 0, 1) := by decide +kernel
theorem dX15_readRest_8 : decode cX15_readRest 8 = .ok (.invokevirtual 421, 3) := by decide +kernel
theorem dX15_readRest_11 : decode cX15_readRest 11 = .ok (.invokestatic 41, 3) := by decide +kernel
theorem dX15_readRest_14 : decode cX15_readRest 14 = .ok (.ifCond .ne 5, 3) := by decide +kernel
theorem dX15_readRest_17 : decode cX15_readRest 17 = .ok (.iconst 0, 1) := by decide +kernel
theorem dX15_readRest_18 : decode cX15_readRest 18 = .ok (.ireturn, 1) := by decide +kernel
theorem dX15_readRest_19 : decode cX15_readRest 19 = .ok (.aload_n 1, 1) := by decide +kernel
theorem dX15_readRest_20 : decode cX15_readRest 20 = .ok (.getfield 447, 3) := by decide +kernel
theorem dX15_readRest_23 : decode cX15_readRest 23 = .ok (.iload_n 2, 1) := by decide +kernel
theorem dX15_readRest_24 : decode cX15_readRest 24 = .ok (.aload_n 0, 1) := by decide +kernel
theorem dX15_readRest_25 : decode cX15_readRest 25 = .ok (.invokevirtual 421, 3) := by decide +kernel
theorem dX15_readRest_28 : decode cX15_readRest 28 = .ok (.bipush 48, 2) := by decide +kernel
theorem dX15_readRest_30 : decode cX15_readRest 30 = .ok (.isub, 1) := by decide +kernel
theorem dX15_readRest_31 : decode cX15_readRest 31 = .ok (.iastore, 1) := by decide +kernel
theorem dX15_readRest_32 : decode cX15_readRest 32 = .ok (.aload_n 0, 1) := by decide +kernel
theorem dX15_readRest_33 : decode cX15_readRest 33 = .ok (.dup, 1) := by decide +kernel
theorem dX15_readRest_34 : decode cX15_readRest 34 = .ok (.getfield 412, 3) := by decide +kernel
theorem dX15_readRest_37 : decode cX15_readRest 37 = .ok (.iconst 1, 1) := by decide +kernel
theorem dX15_readRest_38 : decode cX15_readRest 38 = .ok (.iadd, 1) := by decide +kernel
theorem dX15_readRest_39 : decode cX15_readRest 39 = .ok (.putfield 412, 3) := by decide +kernel
theorem dX15_readRest_42 : decode cX15_readRest 42 = .ok (.iinc 2 1, 3) := by decide +kernel
theorem dX15_readRest_45 : decode cX15_readRest 45 = .ok (.goto (-43), 3) := by decide +kernel
theorem dX15_readRest_48 : decode cX15_readRest 48 = .ok (.aload_n 0, 1) := by decide +kernel
theorem dX15_readRest_49 : decode cX15_readRest 49 = .ok (.bipush 32, 2) := by decide +kernel
theorem dX15_readRest_51 : decode cX15_readRest 51 = .ok (.invokevirtual 427, 3) := by decide +kernel
theorem dX15_readRest_54 : decode cX15_readRest 54 = .ok (.ifCond .eq 13, 3) := by decide +kernel
theorem dX15_readRest_57 : decode cX15_readRest 57 = .ok (.aload_n 0, 1) := by decide +kernel
theorem dX15_readRest_58 : decode cX15_readRest 58 = .ok (.invokevirtual 421, 3) := by decide +kernel
theorem dX15_readRest_61 : decode cX15_readRest 61 = .ok (.invokestatic 41, 3) := by decide +kernel
theorem dX15_readRest_64 : decode cX15_readRest 64 = .ok (.ifCond .ne 5, 3) := by decide +kernel
theorem dX15_readRest_67 : decode cX15_readRest 67 = .ok (.iconst 0, 1) := by decide +kernel
theorem dX15_readRest_68 : decode cX15_readRest 68 = .ok (.ireturn, 1) := by decide +kernel
theorem dX15_readRest_69 : decode cX15_readRest 69 = .ok (.aload_n 0, 1) := by decide +kernel
theorem dX15_readRest_70 : decode cX15_readRest 70 = .ok (.getfield 412, 3) := by decide +kernel
theorem dX15_readRest_73 : decode cX15_readRest 73 = .ok (.istore_n 2, 1) := by decide +kernel
theorem dX15_readRest_74 : decode cX15_readRest 74 = .ok (.iconst 0, 1) := by decide +kernel
theorem dX15_readRest_75 : decode cX15_readRest 75 = .ok (.istore_n 3, 1) := by decide +kernel
theorem dX15_readRest_76 : decode cX15_readRest 76 = .ok (.iconst 0, 1) := by decide +kernel
theorem dX15_readRest_77 : decode cX15_readRest 77 = .ok (.istore 4, 2) := by decide +kernel
theorem dX15_readRest_79 : decode cX15_readRest 79 = .ok (.iload 4, 2) := by decide +kernel
theorem dX15_readRest_81 : decode cX15_readRest 81 = .ok (.iconst 3, 1) := by decide +kernel
theorem dX15_readRest_82 : decode cX15_readRest 82 = .ok (.if_icmp .ge 42, 3) := by decide +kernel
theorem dX15_readRest_85 : decode cX15_readRest 85 = .ok (.aload_n 0, 1) := by decide +kernel
theorem dX15_readRest_86 : decode cX15_readRest 86 = .ok (.invokevirtual 421, 3) := by decide +kernel
theorem dX15_readRest_89 : decode cX15_readRest 89 = .ok (.invokestatic 41, 3) := by decide +kernel
theorem dX15_readRest_92 : decode cX15_readRest 92 = .ok (.ifCond .eq 32, 3) := by decide +kernel
theorem dX15_readRest_95 : decode cX15_readRest 95 = .ok (.bipush 10, 2) := by decide +kernel
theorem dX15_readRest_97 : decode cX15_readRest 97 = .ok (.iload_n 3, 1) := by decide +kernel
theorem dX15_readRest_98 : decode cX15_readRest 98 = .ok (.imul, 1) := by decide +kernel
theorem dX15_readRest_99 : decode cX15_readRest 99 = .ok (.aload_n 0, 1) := by decide +kernel
theorem dX15_readRest_100 : decode cX15_readRest 100 = .ok (.invokevirtual 421, 3) := by decide +kernel
theorem dX15_readRest_103 : decode cX15_readRest 103 = .ok (.iadd, 1) := by decide +kernel
theorem dX15_readRest_104 : decode cX15_readRest 104 = .ok (.bipush 48, 2) := by decide +kernel
theorem dX15_readRest_106 : decode cX15_readRest 106 = .ok (.isub, 1) := by decide +kernel
theorem dX15_readRest_107 : decode cX15_readRest 107 = .ok (.istore_n 3, 1) := by decide +kernel
theorem dX15_readRest_108 : decode cX15_readRest 108 = .ok (.aload_n 0, 1) := by decide +kernel
theorem dX15_readRest_109 : decode cX15_readRest 109 = .ok (.dup, 1) := by decide +kernel
theorem dX15_readRest_110 : decode cX15_readRest 110 = .ok (.getfield 412, 3) := by decide +kernel
theorem dX15_readRest_113 : decode cX15_readRest 113 = .ok (.iconst 1, 1) := by decide +kernel
theorem dX15_readRest_114 : decode cX15_readRest 114 = .ok (.iadd, 1) := by decide +kernel
theorem dX15_readRest_115 : decode cX15_readRest 115 = .ok (.putfield 412, 3) := by decide +kernel
theorem dX15_readRest_118 : decode cX15_readRest 118 = .ok (.iinc 4 1, 3) := by decide +kernel
theorem dX15_readRest_121 : decode cX15_readRest 121 = .ok (.goto (-42), 3) := by decide +kernel
theorem dX15_readRest_124 : decode cX15_readRest 124 = .ok (.aload_n 1, 1) := by decide +kernel
theorem dX15_readRest_125 : decode cX15_readRest 125 = .ok (.iload_n 3, 1) := by decide +kernel
theorem dX15_readRest_126 : decode cX15_readRest 126 = .ok (.putfield 449, 3) := by decide +kernel
theorem dX15_readRest_129 : decode cX15_readRest 129 = .ok (.iload_n 3, 1) := by decide +kernel
theorem dX15_readRest_130 : decode cX15_readRest 130 = .ok (.sipush 200, 3) := by decide +kernel
theorem dX15_readRest_133 : decode cX15_readRest 133 = .ok (.if_icmp .le 10, 3) := by decide +kernel
theorem dX15_readRest_136 : decode cX15_readRest 136 = .ok (.aload_n 0, 1) := by decide +kernel
theorem dX15_readRest_137 : decode cX15_readRest 137 = .ok (.iload_n 2, 1) := by decide +kernel
theorem dX15_readRest_138 : decode cX15_readRest 138 = .ok (.putfield 412, 3) := by decide +kernel
theorem dX15_readRest_141 : decode cX15_readRest 141 = .ok (.iconst 0, 1) := by decide +kernel
theorem dX15_readRest_142 : decode cX15_readRest 142 = .ok (.ireturn, 1) := by decide +kernel
theorem dX15_readRest_143 : decode cX15_readRest 143 = .ok (.aload_n 0, 1) := by decide +kernel
theorem dX15_readRest_144 : decode cX15_readRest 144 = .ok (.getfield 412, 3) := by decide +kernel
theorem dX15_readRest_147 : decode cX15_readRest 147 = .ok (.aload_n 0, 1) := by decide +kernel
theorem dX15_readRest_148 : decode cX15_readRest 148 = .ok (.getfield 415, 3) := by decide +kernel
theorem dX15_readRest_151 : decode cX15_readRest 151 = .ok (.if_icmp .ne 7, 3) := by decide +kernel
theorem dX15_readRest_154 : decode cX15_readRest 154 = .ok (.iconst 1, 1) := by decide +kernel
theorem dX15_readRest_155 : decode cX15_readRest 155 = .ok (.goto 4, 3) := by decide +kernel
theorem dX15_readRest_158 : decode cX15_readRest 158 = .ok (.iconst 0, 1) := by decide +kernel
theorem dX15_readRest_159 : decode cX15_readRest 159 = .ok (.ireturn, 1) := by decide +kernel
def sX15_readRest_67 (F : Nat) (h : Hp) : Option (Int32 × Hp) := some ((0 : Int32), h)
def sX15_readRest_159 (F : Nat) (h : Hp) (t0 : Int32) : Option (Int32 × Hp) := gd (t0 &&& 1 = t0) <| some (t0, h)
def sX15_readRest_124 (F : Nat) (h : Hp) (x0 : Nat) (x1 : Nat) (x2 : Int32) (x3 : Int32) : Option (Int32 × Hp) := nm (wI h x1 7 x3) fun h_1 => br (x3 ≤ (200 : Int32)) (br ((hI h_1 x0 19) = (hI h_1 x0 18)) (sX15_readRest_159 F h_1 (1 : Int32)) (sX15_readRest_159 F h_1 (0 : Int32))) (nm (wI h_1 x0 19 x2) fun h_4 => some ((0 : Int32), h_4))
def sX15_readRest_79 (F : Nat) : Nat → Hp → Nat → Nat → Int32 → Int32 → Int32 → Option (Int32 × Hp)
  | 0, _, _, _, _, _, _ => none
  | f + 1, h, x0, x1, x2, x3, x4 => br ((3 : Int32) ≤ x4) (sX15_readRest_124 F h x0 x1 x2 x3) (cl (sX15_look h x0) fun o_2 => cl (sX15_isDigit o_2.2 o_2.1) fun o_3 => br (o_3.1 = 0) (sX15_readRest_124 F o_3.2 x0 x1 x2 x3) (cl (sX15_look o_3.2 x0) fun o_5 => nm ((((10 : Int32) * x3) + o_5.1) - (48 : Int32)) fun v_6 => nm (wI o_5.2 x0 19 ((hI o_5.2 x0 19) + (1 : Int32))) fun h_7 => nm (x4 + (1 : Int32)) fun v_8 => sX15_readRest_79 F f h_7 x0 x1 x2 v_6 v_8))
def sX15_readRest_2 (F : Nat) : Nat → Hp → Nat → Nat → Int32 → Option (Int32 × Hp)
  | 0, _, _, _, _ => none
  | f + 1, h, x0, x1, x2 => br ((2 : Int32) ≤ x2) (cl (sX15_reads h x0 (32 : Int32)) fun o_2 => br (o_2.1 = 0) (sX15_readRest_67 F o_2.2 ) (cl (sX15_look o_2.2 x0) fun o_4 => cl (sX15_isDigit o_4.2 o_4.1) fun o_5 => br (o_5.1 = 0) (sX15_readRest_67 F o_5.2 ) (nm (hI o_5.2 x0 19) fun v_7 => sX15_readRest_79 F F o_5.2 x0 x1 v_7 (0 : Int32) (0 : Int32)))) (cl (sX15_look h x0) fun o_8 => cl (sX15_isDigit o_8.2 o_8.1) fun o_9 => br (o_9.1 = 0) (some ((0 : Int32), o_9.2)) (cl (hR o_9.2 x1 6) fun r_11 => cl (sX15_look o_9.2 x0) fun o_12 => gd (inB x2 (hN o_12.2 r_11)) <| nm (wI o_12.2 r_11 x2.toNatClampNeg (o_12.1 - (48 : Int32))) fun h_14 => nm (wI h_14 x0 19 ((hI h_14 x0 19) + (1 : Int32))) fun h_15 => nm (x2 + (1 : Int32)) fun v_16 => sX15_readRest_2 F f h_15 x0 x1 v_16))
def sX15_readRest (F : Nat) (h : Hp) (x0 : Nat) (x1 : Nat) : Option (Int32 × Hp) := sX15_readRest_2 F F h x0 x1 (0 : Int32)
theorem moX15_readRest_67 {o : Int32 × Hp} {F : Nat} {h : Hp} (hE : sX15_readRest_67 F h  = some o) : Le h o.2 := by
  cases hE
  exact Le.rf _
theorem moX15_readRest_159 {o : Int32 × Hp} {F : Nat} {h : Hp} {t0 : Int32} (hE : sX15_readRest_159 F h  t0 = some o) : Le h o.2 := by
  obtain ⟨g_1, hE⟩ := gd_e hE
  cases hE
  exact Le.rf _
theorem moX15_readRest_124 {o : Int32 × Hp} {F : Nat} {h : Hp} {x0 : Nat} {x1 : Nat} {x2 : Int32} {x3 : Int32} (hE : sX15_readRest_124 F h x0 x1 x2 x3 = some o) : Le h o.2 := by
  obtain ⟨h_1, eh_1, hE⟩ := nm_e2 hE
  refine (le_I eh_1).tr ?_
  rcases br_e hE with ⟨_, hE⟩ | ⟨_, hE⟩
  · rcases br_e hE with ⟨_, hE⟩ | ⟨_, hE⟩
    · exact moX15_readRest_159 hE
    · exact moX15_readRest_159 hE
  · obtain ⟨h_4, eh_4, hE⟩ := nm_e2 hE
    refine (le_I eh_4).tr ?_
    cases hE
    exact Le.rf _
theorem moX15_readRest_79 {o : Int32 × Hp} {F : Nat} : ∀ (f : Nat) {h : Hp} {x0 : Nat} {x1 : Nat} {x2 : Int32} {x3 : Int32} {x4 : Int32}, sX15_readRest_79 F f h x0 x1 x2 x3 x4 = some o → Le h o.2 := by
  intro f
  induction f with
  | zero =>
    intro h x0 x1 x2 x3 x4 hE
    rw [sX15_readRest_79] at hE
    cases hE
  | succ f ih =>
    intro h x0 x1 x2 x3 x4 hE
    rw [sX15_readRest_79] at hE
    have mk_79 : ∀ (h : Hp) (x0 : Nat) (x1 : Nat) (x2 : Int32) (x3 : Int32) (x4 : Int32), sX15_readRest_79 F f h x0 x1 x2 x3 x4 = some o → Le h o.2 := fun h x0 x1 x2 x3 x4 hE => ih hE
    rcases br_e hE with ⟨_, hE⟩ | ⟨_, hE⟩
    · exact moX15_readRest_124 hE
    · obtain ⟨o_2, eo_2, hE⟩ := cl_e hE
      refine (moX15_look eo_2).tr ?_
      obtain ⟨o_3, eo_3, hE⟩ := cl_e hE
      refine (moX15_isDigit eo_3).tr ?_
      rcases br_e hE with ⟨_, hE⟩ | ⟨_, hE⟩
      · exact moX15_readRest_124 hE
      · obtain ⟨o_5, eo_5, hE⟩ := cl_e hE
        refine (moX15_look eo_5).tr ?_
        obtain ⟨v_6, ev_6, hE⟩ := nm_e2 hE
        obtain ⟨h_7, eh_7, hE⟩ := nm_e2 hE
        refine (le_I eh_7).tr ?_
        obtain ⟨v_8, ev_8, hE⟩ := nm_e2 hE
        exact mk_79 _ _ _ _ _ _ hE
theorem moX15_readRest_2 {o : Int32 × Hp} {F : Nat} : ∀ (f : Nat) {h : Hp} {x0 : Nat} {x1 : Nat} {x2 : Int32}, sX15_readRest_2 F f h x0 x1 x2 = some o → Le h o.2 := by
  intro f
  induction f with
  | zero =>
    intro h x0 x1 x2 hE
    rw [sX15_readRest_2] at hE
    cases hE
  | succ f ih =>
    intro h x0 x1 x2 hE
    rw [sX15_readRest_2] at hE
    have mk_2 : ∀ (h : Hp) (x0 : Nat) (x1 : Nat) (x2 : Int32), sX15_readRest_2 F f h x0 x1 x2 = some o → Le h o.2 := fun h x0 x1 x2 hE => ih hE
    rcases br_e hE with ⟨_, hE⟩ | ⟨_, hE⟩
    · obtain ⟨o_2, eo_2, hE⟩ := cl_e hE
      refine (moX15_reads eo_2).tr ?_
      rcases br_e hE with ⟨_, hE⟩ | ⟨_, hE⟩
      · exact moX15_readRest_67 hE
      · obtain ⟨o_4, eo_4, hE⟩ := cl_e hE
        refine (moX15_look eo_4).tr ?_
        obtain ⟨o_5, eo_5, hE⟩ := cl_e hE
        refine (moX15_isDigit eo_5).tr ?_
        rcases br_e hE with ⟨_, hE⟩ | ⟨_, hE⟩
        · exact moX15_readRest_67 hE
        · obtain ⟨v_7, ev_7, hE⟩ := nm_e2 hE
          exact moX15_readRest_79 _ hE
    · obtain ⟨o_8, eo_8, hE⟩ := cl_e hE
      refine (moX15_look eo_8).tr ?_
      obtain ⟨o_9, eo_9, hE⟩ := cl_e hE
      refine (moX15_isDigit eo_9).tr ?_
      rcases br_e hE with ⟨_, hE⟩ | ⟨_, hE⟩
      · cases hE
        exact Le.rf _
      · obtain ⟨r_11, er_11, hE⟩ := cl_e hE
        obtain ⟨o_12, eo_12, hE⟩ := cl_e hE
        refine (moX15_look eo_12).tr ?_
        obtain ⟨g_13, hE⟩ := gd_e hE
        obtain ⟨h_14, eh_14, hE⟩ := nm_e2 hE
        refine (le_I eh_14).tr ?_
        obtain ⟨h_15, eh_15, hE⟩ := nm_e2 hE
        refine (le_I eh_15).tr ?_
        obtain ⟨v_16, ev_16, hE⟩ := nm_e2 hE
        exact mk_2 _ _ _ _ hE
theorem moX15_readRest {o : Int32 × Hp} {F : Nat} {h : Hp} {x0 : Nat} {x1 : Nat} (hE : sX15_readRest F h x0 x1 = some o) : Le h o.2 := by
  exact moX15_readRest_2 _ hE
set_option maxRecDepth 20000 in
theorem bX15_readRest_67 {p : Program} {l : Launch} {e : Env} {s : State} {m : MethodId} {args : Array Value} {below : List Frame} {meth : Method} {c : Code} {X : Ec} {h0 : Hp} {o : Int32 × Hp} {F : Nat} (C : Cx X p s m args meth c RX15 cX15_readRest 5 (some .boolean) "readRest") {h : Hp} {H : Heap} {locs : List Loc} (hkm : Km h0 h) (hW : Wx X h H) (hZ : va_S (aA (eB X)) s.heap H locs) (ls : Array Slot) (hl : lv_has ls 5 []) (hE : sX15_readRest_67 F h  = some o) : W p l e (rm 2 41) s m args below meth c H locs 0 0 (MQ below (QI X h0 o.1 o.2) args s 0 0 (aA (eB X))) (F0 m 67 ls []) := by
  refine lv_iconst (v := (0 : Int32)) C.1 C.2.1 dX15_readRest_67 (by decide) ?_
  exact x_iret C rfl (by decide) hW hZ hkm hE dX15_readRest_68
set_option maxRecDepth 20000 in
theorem bX15_readRest_159 {p : Program} {l : Launch} {e : Env} {s : State} {m : MethodId} {args : Array Value} {below : List Frame} {meth : Method} {c : Code} {X : Ec} {h0 : Hp} {o : Int32 × Hp} {F : Nat} (C : Cx X p s m args meth c RX15 cX15_readRest 5 (some .boolean) "readRest") {h : Hp} {t0 : Int32} {H : Heap} {locs : List Loc} (hkm : Km h0 h) (hW : Wx X h H) (hZ : va_S (aA (eB X)) s.heap H locs) (ls : Array Slot) (hl : lv_has ls 5 []) (hE : sX15_readRest_159 F h  t0 = some o) : W p l e (rm 2 41) s m args below meth c H locs 0 0 (MQ below (QI X h0 o.1 o.2) args s 0 0 (aA (eB X))) (F0 m 159 ls [.int t0]) := by
  obtain ⟨g_1, hE⟩ := gd_e hE
  exact x_iret C rfl (narB g_1) hW hZ hkm hE dX15_readRest_159
set_option maxRecDepth 20000 in
theorem bX15_readRest_124 {p : Program} {l : Launch} {e : Env} {s : State} {m : MethodId} {args : Array Value} {below : List Frame} {meth : Method} {c : Code} {X : Ec} {h0 : Hp} {o : Int32 × Hp} {F : Nat} (C : Cx X p s m args meth c RX15 cX15_readRest 5 (some .boolean) "readRest") {h : Hp} {x0 : Nat} {x1 : Nat} {x2 : Int32} {x3 : Int32} {H : Heap} {locs : List Loc} (k_x0 : hK h x0 = 15) (k_x1 : hK h x1 = 12) (hkm : Km h0 h) (hW : Wx X h H) (hZ : va_S (aA (eB X)) s.heap H locs) (ls : Array Slot) (hl : lv_has ls 5 [(0, .ref x0), (1, .ref x1), (2, .int x2), (3, .int x3)]) (hE : sX15_readRest_124 F h x0 x1 x2 x3 = some o) : W p l e (rm 2 41) s m args below meth c H locs 0 0 (MQ below (QI X h0 o.1 o.2) args s 0 0 (aA (eB X))) (F0 m 124 ls []) := by
  refine lv_aload_n C.1 C.2.1 dX15_readRest_124 rfl (lv_at hl 1 rfl) ?_
  refine lv_iload_n C.1 C.2.1 dX15_readRest_125 rfl (lv_at hl 3 rfl) ?_
  obtain ⟨h_1, eh_1, hE⟩ := nm_e2 hE
  refine pf_X15_449 C hW hZ k_x1 eh_1 dX15_readRest_126 (fun _ _ hW km hZ => ?_)
  replace hkm := hkm.tr km
  replace k_x0 := km.at k_x0 (by decide)
  replace k_x1 := km.at k_x1 (by decide)
  refine lv_iload_n C.1 C.2.1 dX15_readRest_129 rfl (lv_at hl 3 rfl) ?_
  refine lv_sipush (v := (200 : Int32)) C.1 C.2.1 dX15_readRest_130 (by decide) ?_
  refine lv_icmp_le (tgt := 143) C.1 C.2.1 dX15_readRest_133 (by decide) (fun c_2 => ?_) (fun c_2 => ?_)
  · have hE := br_p hE c_2
    refine lv_aload_n C.1 C.2.1 dX15_readRest_143 rfl (lv_at hl 0 rfl) ?_
    refine gf_X15_412 C hW k_x0 dX15_readRest_144 ?_
    refine lv_aload_n C.1 C.2.1 dX15_readRest_147 rfl (lv_at hl 0 rfl) ?_
    refine gf_X15_415 C hW k_x0 dX15_readRest_148 ?_
    refine lv_icmp_ne (tgt := 158) C.1 C.2.1 dX15_readRest_151 (by decide) (fun c_3 => ?_) (fun c_3 => ?_)
    · have hE := br_n hE c_3
      refine lv_iconst (v := (0 : Int32)) C.1 C.2.1 dX15_readRest_158 (by decide) ?_
      exact bX15_readRest_159 C hkm hW hZ _ (lv_sub hl [] rfl) hE
    · have hE := br_p hE c_3
      refine lv_iconst (v := (1 : Int32)) C.1 C.2.1 dX15_readRest_154 (by decide) ?_
      refine lv_goto (tgt := 159) C.1 C.2.1 dX15_readRest_155 (by decide) ?_
      exact bX15_readRest_159 C hkm hW hZ _ (lv_sub hl [] rfl) hE
  · have hE := br_n hE c_2
    refine lv_aload_n C.1 C.2.1 dX15_readRest_136 rfl (lv_at hl 0 rfl) ?_
    refine lv_iload_n C.1 C.2.1 dX15_readRest_137 rfl (lv_at hl 2 rfl) ?_
    obtain ⟨h_4, eh_4, hE⟩ := nm_e2 hE
    refine pf_X15_412 C hW hZ k_x0 eh_4 dX15_readRest_138 (fun _ _ hW km hZ => ?_)
    replace hkm := hkm.tr km
    replace k_x0 := km.at k_x0 (by decide)
    replace k_x1 := km.at k_x1 (by decide)
    refine lv_iconst (v := (0 : Int32)) C.1 C.2.1 dX15_readRest_141 (by decide) ?_
    exact x_iret C rfl (by decide) hW hZ hkm hE dX15_readRest_142
set_option maxRecDepth 20000 in
theorem bX15_readRest_79 {p : Program} {l : Launch} {e : Env} {s : State} {m : MethodId} {args : Array Value} {below : List Frame} {meth : Method} {c : Code} {X : Ec} {h0 : Hp} {o : Int32 × Hp} {F : Nat} (C : Cx X p s m args meth c RX15 cX15_readRest 5 (some .boolean) "readRest") : ∀ (f : Nat) {h : Hp} {x0 : Nat} {x1 : Nat} {x2 : Int32} {x3 : Int32} {x4 : Int32} {H : Heap} {locs : List Loc} (k_x0 : hK h x0 = 15) (k_x1 : hK h x1 = 12), Km h0 h → Wx X h H → va_S (aA (eB X)) s.heap H locs → ∀ (ls : Array Slot), lv_has ls 5 [(0, .ref x0), (1, .ref x1), (2, .int x2), (3, .int x3), (4, .int x4)] → sX15_readRest_79 F f h x0 x1 x2 x3 x4 = some o → W p l e (rm 2 41) s m args below meth c H locs 0 0 (MQ below (QI X h0 o.1 o.2) args s 0 0 (aA (eB X))) (F0 m 79 ls []) := by
  intro f
  induction f with
  | zero =>
    intro h x0 x1 x2 x3 x4 H locs k_x0 k_x1 hkm hW hZ ls hl hE
    rw [sX15_readRest_79] at hE
    cases hE
  | succ f ih =>
    intro h x0 x1 x2 x3 x4 H locs k_x0 k_x1 hkm hW hZ ls hl hE
    rw [sX15_readRest_79] at hE
    have hk_79 : ∀ (h : Hp) (x0 : Nat) (x1 : Nat) (x2 : Int32) (x3 : Int32) (x4 : Int32) (H : Heap) (locs : List Loc), hK h x0 = 15 → hK h x1 = 12 → Km h0 h → Wx X h H → va_S (aA (eB X)) s.heap H locs → ∀ (ls : Array Slot), lv_has ls 5 [(0, .ref x0), (1, .ref x1), (2, .int x2), (3, .int x3), (4, .int x4)] → sX15_readRest_79 F f h x0 x1 x2 x3 x4 = some o → W p l e (rm 2 41) s m args below meth c H locs 0 0 (MQ below (QI X h0 o.1 o.2) args s 0 0 (aA (eB X))) (F0 m 79 ls []) := fun h x0 x1 x2 x3 x4 H locs k_x0 k_x1 a b c ls hl hE => ih k_x0 k_x1 a b c ls hl hE
    refine lv_iload C.1 C.2.1 dX15_readRest_79 (lv_at hl 4 rfl) ?_
    refine lv_iconst (v := (3 : Int32)) C.1 C.2.1 dX15_readRest_81 (by decide) ?_
    refine lv_icmp_ge (tgt := 124) C.1 C.2.1 dX15_readRest_82 (by decide) (fun c_1 => ?_) (fun c_1 => ?_)
    · have hE := br_p hE c_1
      exact bX15_readRest_124 C k_x0 k_x1 hkm hW hZ _ (lv_sub hl [0, 1, 2, 3] rfl) hE
    · have hE := br_n hE c_1
      refine lv_aload_n C.1 C.2.1 dX15_readRest_85 rfl (lv_at hl 0 rfl) ?_
      obtain ⟨o_2, eo_2, hE⟩ := cl_e hE
      refine x_kI (o := o_2) (z_runV (As := []) (rest := []) C (ct_X15_look l X k_x0 eo_2) cw_X15_421 hW hZ k_x0 (by decide) rfl rfl rfl hl.1 (Nat.le_of_ble_eq_true rfl) rfl dX15_readRest_86 ⟨Nat.le_of_ble_eq_true rfl, Nat.le_of_ble_eq_true rfl⟩ ⟨Nat.le_refl _, Nat.le_refl _⟩) hZ (fun _ _ hW km hZ => ?_)
      replace hkm := hkm.tr km
      replace k_x0 := km.at k_x0 (by decide)
      replace k_x1 := km.at k_x1 (by decide)
      obtain ⟨o_3, eo_3, hE⟩ := cl_e hE
      refine x_kI (o := o_3) (z_runS (As := [.int o_2.1]) (rest := []) C (ct_X15_isDigit l X eo_3) cw_X15_41 hW hZ rfl hl.1 (Nat.le_of_ble_eq_true rfl) rfl dX15_readRest_89 ⟨Nat.le_of_ble_eq_true rfl, Nat.le_of_ble_eq_true rfl⟩ ⟨Nat.le_refl _, Nat.le_refl _⟩) hZ (fun _ _ hW km hZ => ?_)
      replace hkm := hkm.tr km
      replace k_x0 := km.at k_x0 (by decide)
      replace k_x1 := km.at k_x1 (by decide)
      refine lv_if_eq (tgt := 124) C.1 C.2.1 dX15_readRest_92 (by decide) (fun c_4 => ?_) (fun c_4 => ?_)
      · have hE := br_p hE c_4
        exact bX15_readRest_124 C k_x0 k_x1 hkm hW hZ _ (lv_sub hl [0, 1, 2, 3] rfl) hE
      · have hE := br_n hE c_4
        refine lv_bipush (v := (10 : Int32)) C.1 C.2.1 dX15_readRest_95 (by decide) ?_
        refine lv_iload_n C.1 C.2.1 dX15_readRest_97 rfl (lv_at hl 3 rfl) ?_
        refine lv_imul C.1 C.2.1 dX15_readRest_98 ?_
        refine lv_aload_n C.1 C.2.1 dX15_readRest_99 rfl (lv_at hl 0 rfl) ?_
        obtain ⟨o_5, eo_5, hE⟩ := cl_e hE
        refine x_kI (o := o_5) (z_runV (As := []) (rest := [.int ((10 : Int32) * x3)]) C (ct_X15_look l X k_x0 eo_5) cw_X15_421 hW hZ k_x0 (by decide) rfl rfl rfl hl.1 (Nat.le_of_ble_eq_true rfl) rfl dX15_readRest_100 ⟨Nat.le_of_ble_eq_true rfl, Nat.le_of_ble_eq_true rfl⟩ ⟨Nat.le_refl _, Nat.le_refl _⟩) hZ (fun _ _ hW km hZ => ?_)
        replace hkm := hkm.tr km
        replace k_x0 := km.at k_x0 (by decide)
        replace k_x1 := km.at k_x1 (by decide)
        refine lv_iadd C.1 C.2.1 dX15_readRest_103 ?_
        refine lv_bipush (v := (48 : Int32)) C.1 C.2.1 dX15_readRest_104 (by decide) ?_
        refine lv_isub C.1 C.2.1 dX15_readRest_106 ?_
        obtain ⟨v_6, ev_6, hE⟩ := nm_e2 hE
        refine x_nmI ev_6 ?_
        refine lv_istore_n (lv' := [(3, .int v_6), (0, .ref x0), (1, .ref x1), (2, .int x2), (4, .int x4)]) C.1 C.2.1 dX15_readRest_107 rfl hl (by decide) rfl (fun ls hl => ?_)
        refine lv_aload_n C.1 C.2.1 dX15_readRest_108 rfl (lv_at hl 1 rfl) ?_
        refine lv_dup C.1 C.2.1 dX15_readRest_109 rfl ?_
        refine gf_X15_412 C hW k_x0 dX15_readRest_110 ?_
        refine lv_iconst (v := (1 : Int32)) C.1 C.2.1 dX15_readRest_113 (by decide) ?_
        refine lv_iadd C.1 C.2.1 dX15_readRest_114 ?_
        obtain ⟨h_7, eh_7, hE⟩ := nm_e2 hE
        refine pf_X15_412 C hW hZ k_x0 eh_7 dX15_readRest_115 (fun _ _ hW km hZ => ?_)
        replace hkm := hkm.tr km
        replace k_x0 := km.at k_x0 (by decide)
        replace k_x1 := km.at k_x1 (by decide)
        obtain ⟨v_8, ev_8, hE⟩ := nm_e2 hE
        refine lv_iinc (v := v_8) (lv' := [(4, .int v_8), (3, .int v_6), (0, .ref x0), (1, .ref x1), (2, .int x2)]) C.1 C.2.1 dX15_readRest_118 hl (k := 4) rfl (by rw [ev_8]; rfl) (by decide) rfl (fun ls hl => ?_)
        refine lv_goto (tgt := 79) C.1 C.2.1 dX15_readRest_121 (by decide) ?_
        exact hk_79 _ _ _ _ _ _ _ _ k_x0 k_x1 hkm hW hZ _ (lv_sub hl [2, 3, 4, 1, 0] rfl) hE
set_option maxRecDepth 20000 in
theorem bX15_readRest_2 {p : Program} {l : Launch} {e : Env} {s : State} {m : MethodId} {args : Array Value} {below : List Frame} {meth : Method} {c : Code} {X : Ec} {h0 : Hp} {o : Int32 × Hp} {F : Nat} (C : Cx X p s m args meth c RX15 cX15_readRest 5 (some .boolean) "readRest") : ∀ (f : Nat) {h : Hp} {x0 : Nat} {x1 : Nat} {x2 : Int32} {H : Heap} {locs : List Loc} (k_x0 : hK h x0 = 15) (k_x1 : hK h x1 = 12), Km h0 h → Wx X h H → va_S (aA (eB X)) s.heap H locs → ∀ (ls : Array Slot), lv_has ls 5 [(0, .ref x0), (1, .ref x1), (2, .int x2)] → sX15_readRest_2 F f h x0 x1 x2 = some o → W p l e (rm 2 41) s m args below meth c H locs 0 0 (MQ below (QI X h0 o.1 o.2) args s 0 0 (aA (eB X))) (F0 m 2 ls []) := by
  intro f
  induction f with
  | zero =>
    intro h x0 x1 x2 H locs k_x0 k_x1 hkm hW hZ ls hl hE
    rw [sX15_readRest_2] at hE
    cases hE
  | succ f ih =>
    intro h x0 x1 x2 H locs k_x0 k_x1 hkm hW hZ ls hl hE
    rw [sX15_readRest_2] at hE
    have hk_2 : ∀ (h : Hp) (x0 : Nat) (x1 : Nat) (x2 : Int32) (H : Heap) (locs : List Loc), hK h x0 = 15 → hK h x1 = 12 → Km h0 h → Wx X h H → va_S (aA (eB X)) s.heap H locs → ∀ (ls : Array Slot), lv_has ls 5 [(0, .ref x0), (1, .ref x1), (2, .int x2)] → sX15_readRest_2 F f h x0 x1 x2 = some o → W p l e (rm 2 41) s m args below meth c H locs 0 0 (MQ below (QI X h0 o.1 o.2) args s 0 0 (aA (eB X))) (F0 m 2 ls []) := fun h x0 x1 x2 H locs k_x0 k_x1 a b c ls hl hE => ih k_x0 k_x1 a b c ls hl hE
    refine lv_iload_n C.1 C.2.1 dX15_readRest_2 rfl (lv_at hl 2 rfl) ?_
    refine lv_iconst (v := (2 : Int32)) C.1 C.2.1 dX15_readRest_3 (by decide) ?_
    refine lv_icmp_ge (tgt := 48) C.1 C.2.1 dX15_readRest_4 (by decide) (fun c_1 => ?_) (fun c_1 => ?_)
    · have hE := br_p hE c_1
      refine lv_aload_n C.1 C.2.1 dX15_readRest_48 rfl (lv_at hl 0 rfl) ?_
      refine lv_bipush (v := (32 : Int32)) C.1 C.2.1 dX15_readRest_49 (by decide) ?_
      obtain ⟨o_2, eo_2, hE⟩ := cl_e hE
      refine x_kI (o := o_2) (z_runV (As := [.int (32 : Int32)]) (rest := []) C (ct_X15_reads l X k_x0 eo_2) cw_X15_427 hW hZ k_x0 (by decide) rfl rfl rfl hl.1 (Nat.le_of_ble_eq_true rfl) rfl dX15_readRest_51 ⟨Nat.le_of_ble_eq_true rfl, Nat.le_of_ble_eq_true rfl⟩ ⟨Nat.le_refl _, Nat.le_refl _⟩) hZ (fun _ _ hW km hZ => ?_)
      replace hkm := hkm.tr km
      replace k_x0 := km.at k_x0 (by decide)
      replace k_x1 := km.at k_x1 (by decide)
      refine lv_if_eq (tgt := 67) C.1 C.2.1 dX15_readRest_54 (by decide) (fun c_3 => ?_) (fun c_3 => ?_)
      · have hE := br_p hE c_3
        exact bX15_readRest_67 C hkm hW hZ _ (lv_sub hl [] rfl) hE
      · have hE := br_n hE c_3
        refine lv_aload_n C.1 C.2.1 dX15_readRest_57 rfl (lv_at hl 0 rfl) ?_
        obtain ⟨o_4, eo_4, hE⟩ := cl_e hE
        refine x_kI (o := o_4) (z_runV (As := []) (rest := []) C (ct_X15_look l X k_x0 eo_4) cw_X15_421 hW hZ k_x0 (by decide) rfl rfl rfl hl.1 (Nat.le_of_ble_eq_true rfl) rfl dX15_readRest_58 ⟨Nat.le_of_ble_eq_true rfl, Nat.le_of_ble_eq_true rfl⟩ ⟨Nat.le_refl _, Nat.le_refl _⟩) hZ (fun _ _ hW km hZ => ?_)
        replace hkm := hkm.tr km
        replace k_x0 := km.at k_x0 (by decide)
        replace k_x1 := km.at k_x1 (by decide)
        obtain ⟨o_5, eo_5, hE⟩ := cl_e hE
        refine x_kI (o := o_5) (z_runS (As := [.int o_4.1]) (rest := []) C (ct_X15_isDigit l X eo_5) cw_X15_41 hW hZ rfl hl.1 (Nat.le_of_ble_eq_true rfl) rfl dX15_readRest_61 ⟨Nat.le_of_ble_eq_true rfl, Nat.le_of_ble_eq_true rfl⟩ ⟨Nat.le_refl _, Nat.le_refl _⟩) hZ (fun _ _ hW km hZ => ?_)
        replace hkm := hkm.tr km
        replace k_x0 := km.at k_x0 (by decide)
        replace k_x1 := km.at k_x1 (by decide)
        refine lv_if_ne (tgt := 69) C.1 C.2.1 dX15_readRest_64 (by decide) (fun c_6 => ?_) (fun c_6 => ?_)
        · have hE := br_n hE c_6
          refine lv_aload_n C.1 C.2.1 dX15_readRest_69 rfl (lv_at hl 0 rfl) ?_
          refine gf_X15_412 C hW k_x0 dX15_readRest_70 ?_
          obtain ⟨v_7, ev_7, hE⟩ := nm_e2 hE
          refine x_nmI ev_7 ?_
          refine lv_istore_n (lv' := [(2, .int v_7), (0, .ref x0), (1, .ref x1)]) C.1 C.2.1 dX15_readRest_73 rfl hl (by decide) rfl (fun ls hl => ?_)
          refine lv_iconst (v := (0 : Int32)) C.1 C.2.1 dX15_readRest_74 (by decide) ?_
          refine lv_istore_n (lv' := [(3, .int (0 : Int32)), (2, .int v_7), (0, .ref x0), (1, .ref x1)]) C.1 C.2.1 dX15_readRest_75 rfl hl (by decide) rfl (fun ls hl => ?_)
          refine lv_iconst (v := (0 : Int32)) C.1 C.2.1 dX15_readRest_76 (by decide) ?_
          refine lv_istore (lv' := [(4, .int (0 : Int32)), (3, .int (0 : Int32)), (2, .int v_7), (0, .ref x0), (1, .ref x1)]) C.1 C.2.1 dX15_readRest_77 hl (by decide) rfl (fun ls hl => ?_)
          exact bX15_readRest_79 C F k_x0 k_x1 hkm hW hZ _ (lv_sub hl [3, 4, 2, 1, 0] rfl) hE
        · have hE := br_p hE c_6
          exact bX15_readRest_67 C hkm hW hZ _ (lv_sub hl [] rfl) hE
    · have hE := br_n hE c_1
      refine lv_aload_n C.1 C.2.1 dX15_readRest_7 rfl (lv_at hl 0 rfl) ?_
      obtain ⟨o_8, eo_8, hE⟩ := cl_e hE
      refine x_kI (o := o_8) (z_runV (As := []) (rest := []) C (ct_X15_look l X k_x0 eo_8) cw_X15_421 hW hZ k_x0 (by decide) rfl rfl rfl hl.1 (Nat.le_of_ble_eq_true rfl) rfl dX15_readRest_8 ⟨Nat.le_of_ble_eq_true rfl, Nat.le_of_ble_eq_true rfl⟩ ⟨Nat.le_refl _, Nat.le_refl _⟩) hZ (fun _ _ hW km hZ => ?_)
      replace hkm := hkm.tr km
      replace k_x0 := km.at k_x0 (by decide)
      replace k_x1 := km.at k_x1 (by decide)
      obtain ⟨o_9, eo_9, hE⟩ := cl_e hE
      refine x_kI (o := o_9) (z_runS (As := [.int o_8.1]) (rest := []) C (ct_X15_isDigit l X eo_9) cw_X15_41 hW hZ rfl hl.1 (Nat.le_of_ble_eq_true rfl) rfl dX15_readRest_11 ⟨Nat.le_of_ble_eq_true rfl, Nat.le_of_ble_eq_true rfl⟩ ⟨Nat.le_refl _, Nat.le_refl _⟩) hZ (fun _ _ hW km hZ => ?_)
      replace hkm := hkm.tr km
      replace k_x0 := km.at k_x0 (by decide)
      replace k_x1 := km.at k_x1 (by decide)
      refine lv_if_ne (tgt := 19) C.1 C.2.1 dX15_readRest_14 (by decide) (fun c_10 => ?_) (fun c_10 => ?_)
      · have hE := br_n hE c_10
        refine lv_aload_n C.1 C.2.1 dX15_readRest_19 rfl (lv_at hl 1 rfl) ?_
        obtain ⟨r_11, er_11, hE⟩ := cl_e hE
        refine gf_X15_447 C hW k_x1 er_11 dX15_readRest_20 (fun k_r_11 => ?_)
        refine lv_iload_n C.1 C.2.1 dX15_readRest_23 rfl (lv_at hl 2 rfl) ?_
        refine lv_aload_n C.1 C.2.1 dX15_readRest_24 rfl (lv_at hl 0 rfl) ?_
        obtain ⟨o_12, eo_12, hE⟩ := cl_e hE
        refine x_kI (o := o_12) (z_runV (As := []) (rest := [.int x2, .ref r_11]) C (ct_X15_look l X k_x0 eo_12) cw_X15_421 hW hZ k_x0 (by decide) rfl rfl rfl hl.1 (Nat.le_of_ble_eq_true rfl) rfl dX15_readRest_25 ⟨Nat.le_of_ble_eq_true rfl, Nat.le_of_ble_eq_true rfl⟩ ⟨Nat.le_refl _, Nat.le_refl _⟩) hZ (fun _ _ hW km hZ => ?_)
        replace hkm := hkm.tr km
        replace k_x0 := km.at k_x0 (by decide)
        replace k_x1 := km.at k_x1 (by decide)
        replace k_r_11 := km.at k_r_11 (by decide)
        refine lv_bipush (v := (48 : Int32)) C.1 C.2.1 dX15_readRest_28 (by decide) ?_
        refine lv_isub C.1 C.2.1 dX15_readRest_30 ?_
        obtain ⟨g_13, hE⟩ := gd_e hE
        obtain ⟨h_14, eh_14, hE⟩ := nm_e2 hE
        refine y_iast C hW hZ k_r_11 g_13 eh_14 dX15_readRest_31 (fun _ _ hW km hZ => ?_)
        replace hkm := hkm.tr km
        replace k_x0 := km.at k_x0 (by decide)
        replace k_x1 := km.at k_x1 (by decide)
        refine lv_aload_n C.1 C.2.1 dX15_readRest_32 rfl (lv_at hl 0 rfl) ?_
        refine lv_dup C.1 C.2.1 dX15_readRest_33 rfl ?_
        refine gf_X15_412 C hW k_x0 dX15_readRest_34 ?_
        refine lv_iconst (v := (1 : Int32)) C.1 C.2.1 dX15_readRest_37 (by decide) ?_
        refine lv_iadd C.1 C.2.1 dX15_readRest_38 ?_
        obtain ⟨h_15, eh_15, hE⟩ := nm_e2 hE
        refine pf_X15_412 C hW hZ k_x0 eh_15 dX15_readRest_39 (fun _ _ hW km hZ => ?_)
        replace hkm := hkm.tr km
        replace k_x0 := km.at k_x0 (by decide)
        replace k_x1 := km.at k_x1 (by decide)
        obtain ⟨v_16, ev_16, hE⟩ := nm_e2 hE
        refine lv_iinc (v := v_16) (lv' := [(2, .int v_16), (0, .ref x0), (1, .ref x1)]) C.1 C.2.1 dX15_readRest_42 hl (k := 2) rfl (by rw [ev_16]; rfl) (by decide) rfl (fun ls hl => ?_)
        refine lv_goto (tgt := 2) C.1 C.2.1 dX15_readRest_45 (by decide) ?_
        exact hk_2 _ _ _ _ _ _ k_x0 k_x1 hkm hW hZ _ (lv_sub hl [1, 2, 0] rfl) hE
      · have hE := br_p hE c_10
        refine lv_iconst (v := (0 : Int32)) C.1 C.2.1 dX15_readRest_17 (by decide) ?_
        exact x_iret C rfl (by decide) hW hZ hkm hE dX15_readRest_18
set_option maxRecDepth 20000 in
theorem ct_X15_readRest (l : Launch) (X : Ec) (F : Nat) {h : Hp} {x0 : Nat} {x1 : Nat} {o : Int32 × Hp} (k_x0 : hK h x0 = 15) (k_x1 : hK h x1 = 12) (hE : sX15_readRest F h x0 x1 = some o) : MetI l yX15_readRest cX15_readRest 5 (some .boolean) 2 41 X [.ref x0, .ref x1] h o := by
  refine x_met (by decide) (Nat.le_of_ble_eq_true rfl) ?_
  intro p e s m below meth c ls C hl hW hZ
  have hl : lv_has ls 5 [(0, .ref x0), (1, .ref x1)] := hl
  have hkm : Km h h := Km.rf h
  refine lv_iconst (v := (0 : Int32)) C.1 C.2.1 dX15_readRest_0 (by decide) ?_
  refine lv_istore_n (lv' := [(2, .int (0 : Int32)), (0, .ref x0), (1, .ref x1)]) C.1 C.2.1 dX15_readRest_1 rfl hl (by decide) rfl (fun ls hl => ?_)
  exact bX15_readRest_2 C F k_x0 k_x1 hkm hW hZ _ (lv_sub hl [1, 2, 0] rfl) hE
theorem ms_145 : Cond.selects RX15 yX15_readRest yX15_readRest ∈ W0 := w0_in (List.mem_append_left _ (List.mem_of_getElem? (i := 145) (by decide +kernel))) rfl
theorem ms_144 : Cond.selects RX15 yX15_readHands yX15_readHands ∈ W0 := w0_in (List.mem_append_left _ (List.mem_of_getElem? (i := 144) (by decide +kernel))) rfl
theorem ms_143 : Cond.selects RX15 yX15_readPass yX15_readPass ∈ W0 := w0_in (List.mem_append_left _ (List.mem_of_getElem? (i := 143) (by decide +kernel))) rfl
theorem ms_141 : Cond.selects RX15 yX15_readRights yX15_readRights ∈ W0 := w0_in (List.mem_append_left _ (List.mem_of_getElem? (i := 141) (by decide +kernel))) rfl
theorem ms_140 : Cond.selects RX15 yX15_readSide yX15_readSide ∈ W0 := w0_in (List.mem_append_left _ (List.mem_of_getElem? (i := 140) (by decide +kernel))) rfl
theorem ms_136 : Cond.selects RX15 yX15_readMen yX15_readMen ∈ W0 := w0_in (List.mem_append_left _ (List.mem_of_getElem? (i := 136) (by decide +kernel))) rfl
theorem m_2366 : Cond.methodLink RX15 455 yX12_clear ∈ W0 := w0_in (List.mem_append_right _ (List.mem_of_getElem? (i := 2366) (by decide +kernel))) rfl
theorem m_2367 : Cond.instanceMethod yX12_clear ∈ W0 := w0_in (List.mem_append_right _ (List.mem_of_getElem? (i := 2367) (by decide +kernel))) rfl
theorem m_2368 : Cond.selects RX12 yX12_clear yX12_clear ∈ W0 := w0_in (List.mem_append_right _ (List.mem_of_getElem? (i := 2368) (by decide +kernel))) rfl
theorem m_2369 : Cond.code yX12_clear cX12_clear 2 none ∈ W0 := w0_in (List.mem_append_right _ (List.mem_of_getElem? (i := 2369) (by decide +kernel))) rfl
theorem m_2370 : Cond.methodLink RX15 456 yX15_readMen ∈ W0 := w0_in (List.mem_append_right _ (List.mem_of_getElem? (i := 2370) (by decide +kernel))) rfl
theorem m_2372 : Cond.instanceMethod yX15_readMen ∈ W0 := w0_in (List.mem_append_right _ (List.mem_of_getElem? (i := 2372) (by decide +kernel))) rfl
theorem m_2373 : Cond.code yX15_readMen cX15_readMen 6 (some .boolean) ∈ W0 := w0_in (List.mem_append_right _ (List.mem_of_getElem? (i := 2373) (by decide +kernel))) rfl
theorem m_2389 : Cond.methodLink RX15 460 yX15_readSide ∈ W0 := w0_in (List.mem_append_right _ (List.mem_of_getElem? (i := 2389) (by decide +kernel))) rfl
theorem m_2391 : Cond.instanceMethod yX15_readSide ∈ W0 := w0_in (List.mem_append_right _ (List.mem_of_getElem? (i := 2391) (by decide +kernel))) rfl
theorem m_2392 : Cond.code yX15_readSide cX15_readSide 2 (some .boolean) ∈ W0 := w0_in (List.mem_append_right _ (List.mem_of_getElem? (i := 2392) (by decide +kernel))) rfl
theorem m_2393 : Cond.methodLink RX15 463 yX15_readRights ∈ W0 := w0_in (List.mem_append_right _ (List.mem_of_getElem? (i := 2393) (by decide +kernel))) rfl
theorem m_2395 : Cond.instanceMethod yX15_readRights ∈ W0 := w0_in (List.mem_append_right _ (List.mem_of_getElem? (i := 2395) (by decide +kernel))) rfl
theorem m_2396 : Cond.code yX15_readRights cX15_readRights 3 (some .boolean) ∈ W0 := w0_in (List.mem_append_right _ (List.mem_of_getElem? (i := 2396) (by decide +kernel))) rfl
theorem m_2401 : Cond.methodLink RX15 466 yX15_readPass ∈ W0 := w0_in (List.mem_append_right _ (List.mem_of_getElem? (i := 2401) (by decide +kernel))) rfl
theorem m_2403 : Cond.instanceMethod yX15_readPass ∈ W0 := w0_in (List.mem_append_right _ (List.mem_of_getElem? (i := 2403) (by decide +kernel))) rfl
theorem m_2404 : Cond.code yX15_readPass cX15_readPass 3 (some .boolean) ∈ W0 := w0_in (List.mem_append_right _ (List.mem_of_getElem? (i := 2404) (by decide +kernel))) rfl
theorem m_2405 : Cond.methodLink RX15 469 yX15_readHands ∈ W0 := w0_in (List.mem_append_right _ (List.mem_of_getElem? (i := 2405) (by decide +kernel))) rfl
theorem m_2407 : Cond.instanceMethod yX15_readHands ∈ W0 := w0_in (List.mem_append_right _ (List.mem_of_getElem? (i := 2407) (by decide +kernel))) rfl
theorem m_2408 : Cond.code yX15_readHands cX15_readHands 4 (some .boolean) ∈ W0 := w0_in (List.mem_append_right _ (List.mem_of_getElem? (i := 2408) (by decide +kernel))) rfl
theorem m_2409 : Cond.methodLink RX15 472 yX15_readRest ∈ W0 := w0_in (List.mem_append_right _ (List.mem_of_getElem? (i := 2409) (by decide +kernel))) rfl
theorem m_2411 : Cond.instanceMethod yX15_readRest ∈ W0 := w0_in (List.mem_append_right _ (List.mem_of_getElem? (i := 2411) (by decide +kernel))) rfl
theorem m_2412 : Cond.code yX15_readRest cX15_readRest 5 (some .boolean) ∈ W0 := w0_in (List.mem_append_right _ (List.mem_of_getElem? (i := 2412) (by decide +kernel))) rfl
section
variable {p : Program} {l : Launch} {e : Env} {R : Room} {s : State} {m : MethodId} {args : Array Value} {below : List Frame} {meth : Method} {c : Code} {H : Heap} {locs : List Loc} {cells slots : Nat} {Q : State → Prop}
variable {cc : ByteArray} {pc : Nat} {ls : Array Slot} {rest : List Value} {X : Ec} {h h1 : Hp} {nL : Nat} {rt : Option FieldType} {mn : String}
theorem pf_X15_418 {a r : Nat} (C : Cx X p s m args meth c RX15 cc nL rt mn) (hW : Wx X h H) (hZ : va_S (aA (eB X)) s.heap H locs) (ha : hK h a = 15) (hr : hK h r = 16) (eh : h1 = wR h a 17 (some r)) (hdg : decode cc pc = .ok (.putfield 418, 3)) (kk : ∀ (H1 : Heap) (locs1 : List Loc), Wx X h1 H1 → Km h h1 → va_S (aA (eB X)) s.heap H1 locs1 → W p l e R s m args below meth c H1 locs1 cells slots Q (F0 m (pc + 3) ls rest)) : W p l e R s m args below meth c H locs cells slots Q (F0 m pc ls (.ref r :: .ref a :: rest)) :=
  y_putr (ty := .array .byte) C hW hZ ha i_X15 tyX15 tyX15_ok nmX15 (by decide) rfl rfl (by decide) m_2149 rfl (by decide +kernel) rfl rfl rfl hr rfl (by decide) eh hdg kk
theorem pf_X15_415 {a : Nat} {v : Int32} (C : Cx X p s m args meth c RX15 cc nL rt mn) (hW : Wx X h H) (hZ : va_S (aA (eB X)) s.heap H locs) (ha : hK h a = 15) (eh : h1 = wI h a 18 v) (hdg : decode cc pc = .ok (.putfield 415, 3)) (kk : ∀ (H1 : Heap) (locs1 : List Loc), Wx X h1 H1 → Km h h1 → va_S (aA (eB X)) s.heap H1 locs1 → W p l e R s m args below meth c H1 locs1 cells slots Q (F0 m (pc + 3) ls rest)) : W p l e R s m args below meth c H locs cells slots Q (F0 m pc ls (.int v :: .ref a :: rest)) :=
  y_puti (ty := .int) C hW hZ ha i_X15 tyX15 tyX15_ok nmX15 (by decide) rfl rfl (by decide) m_2150 rfl (by decide +kernel) rfl rfl rfl eh hdg kk
end
theorem cw_X15_455 : cwd RX15 455 yX12_clear cX12_clear 2 none false 0 := ⟨m_2369, m_2366, m_22, ⟨m_2367, m_2368⟩, by decide, by decide, by decide +kernel⟩
theorem cw_X15_456 : cwd RX15 456 yX15_readMen cX15_readMen 6 (some .boolean) false 1 := ⟨m_2373, m_2370, m_20, ⟨m_2372, ms_136⟩, by decide, by decide, by decide +kernel⟩
theorem cw_X15_460 : cwd RX15 460 yX15_readSide cX15_readSide 2 (some .boolean) false 1 := ⟨m_2392, m_2389, m_20, ⟨m_2391, ms_140⟩, by decide, by decide, by decide +kernel⟩
theorem cw_X15_463 : cwd RX15 463 yX15_readRights cX15_readRights 3 (some .boolean) false 1 := ⟨m_2396, m_2393, m_20, ⟨m_2395, ms_141⟩, by decide, by decide, by decide +kernel⟩
theorem cw_X15_466 : cwd RX15 466 yX15_readPass cX15_readPass 3 (some .boolean) false 1 := ⟨m_2404, m_2401, m_20, ⟨m_2403, ms_143⟩, by decide, by decide, by decide +kernel⟩
theorem cw_X15_469 : cwd RX15 469 yX15_readHands cX15_readHands 4 (some .boolean) false 1 := ⟨m_2408, m_2405, m_20, ⟨m_2407, ms_144⟩, by decide, by decide, by decide +kernel⟩
theorem cw_X15_472 : cwd RX15 472 yX15_readRest cX15_readRest 5 (some .boolean) false 1 := ⟨m_2412, m_2409, m_20, ⟨m_2411, ms_145⟩, by decide, by decide, by decide +kernel⟩
theorem dX15_isPosition_0 : decode cX15_isPosition 0 = .ok (.aload_n 0, 1) := by decide +kernel
theorem dX15_isPosition_1 : decode cX15_isPosition 1 = .ok (.aload_n 1, 1) := by decide +kernel
theorem dX15_isPosition_2 : decode cX15_isPosition 2 = .ok (.putfield 418, 3) := by decide +kernel
theorem dX15_isPosition_5 : decode cX15_isPosition 5 = .ok (.aload_n 0, 1) := by decide +kernel
theorem dX15_isPosition_6 : decode cX15_isPosition 6 = .ok (.iload_n 2, 1) := by decide +kernel
theorem dX15_isPosition_7 : decode cX15_isPosition 7 = .ok (.putfield 415, 3) := by decide +kernel
theorem dX15_isPosition_10 : decode cX15_isPosition 10 = .ok (.aload_n 0, 1) := by decide +kernel
theorem dX15_isPosition_11 : decode cX15_isPosition 11 = .ok (.iconst 0, 1) := by decide +kernel
theorem dX15_isPosition_12 : decode cX15_isPosition 12 = .ok (.putfield 412, 3) := by decide +kernel
theorem dX15_isPosition_15 : decode cX15_isPosition 15 = .ok (.aload_n 3, 1) := by decide +kernel
theorem dX15_isPosition_16 : decode cX15_isPosition 16 = .ok (.invokevirtual 455, 3) := by decide +kernel
theorem dX15_isPosition_19 : decode cX15_isPosition 19 = .ok (.aload_n 0, 1) := by decide +kernel
theorem dX15_isPosition_20 : decode cX15_isPosition 20 = .ok (.aload_n 3, 1) := by decide +kernel
theorem dX15_isPosition_21 : decode cX15_isPosition 21 = .ok (.invokevirtual 456, 3) := by decide +kernel
theorem dX15_isPosition_24 : decode cX15_isPosition 24 = .ok (.ifCond .eq 47, 3) := by decide +kernel
theorem dX15_isPosition_27 : decode cX15_isPosition 27 = .ok (.aload_n 0, 1) := by decide +kernel
theorem dX15_isPosition_28 : decode cX15_isPosition 28 = .ok (.aload_n 3, 1) := by decide +kernel
theorem dX15_isPosition_29 : decode cX15_isPosition 29 = .ok (.invokevirtual 460, 3) := by decide +kernel
theorem dX15_isPosition_32 : decode cX15_isPosition 32 = .ok (.ifCond .eq 39, 3) := by decide +kernel
theorem dX15_isPosition_35 : decode cX15_isPosition 35 = .ok (.aload_n 0, 1) := by decide +kernel
theorem dX15_isPosition_36 : decode cX15_isPosition 36 = .ok (.aload_n 3, 1) := by decide +kernel
theorem dX15_isPosition_37 : decode cX15_isPosition 37 = .ok (.invokevirtual 463, 3) := by decide +kernel
theorem dX15_isPosition_40 : decode cX15_isPosition 40 = .ok (.ifCond .eq 31, 3) := by decide +kernel
theorem dX15_isPosition_43 : decode cX15_isPosition 43 = .ok (.aload_n 0, 1) := by decide +kernel
theorem dX15_isPosition_44 : decode cX15_isPosition 44 = .ok (.aload_n 3, 1) := by decide +kernel
theorem dX15_isPosition_45 : decode cX15_isPosition 45 = .ok (.invokevirtual 466, 3) := by decide +kernel
theorem dX15_isPosition_48 : decode cX15_isPosition 48 = .ok (.ifCond .eq 23, 3) := by decide +kernel
theorem dX15_isPosition_51 : decode cX15_isPosition 51 = .ok (.aload_n 0, 1) := by decide +kernel
theorem dX15_isPosition_52 : decode cX15_isPosition 52 = .ok (.aload_n 3, 1) := by decide +kernel
theorem dX15_isPosition_53 : decode cX15_isPosition 53 = .ok (.invokevirtual 469, 3) := by decide +kernel
theorem dX15_isPosition_56 : decode cX15_isPosition 56 = .ok (.ifCond .eq 15, 3) := by decide +kernel
theorem dX15_isPosition_59 : decode cX15_isPosition 59 = .ok (.aload_n 0, 1) := by decide +kernel
theorem dX15_isPosition_60 : decode cX15_isPosition 60 = .ok (.aload_n 3, 1) := by decide +kernel
theorem dX15_isPosition_61 : decode cX15_isPosition 61 = .ok (.invokevirtual 472, 3) := by decide +kernel
theorem dX15_isPosition_64 : decode cX15_isPosition 64 = .ok (.ifCond .eq 7, 3) := by decide +kernel
theorem dX15_isPosition_67 : decode cX15_isPosition 67 = .ok (.iconst 1, 1) := by decide +kernel
theorem dX15_isPosition_68 : decode cX15_isPosition 68 = .ok (.goto 4, 3) := by decide +kernel
theorem dX15_isPosition_71 : decode cX15_isPosition 71 = .ok (.iconst 0, 1) := by decide +kernel
theorem dX15_isPosition_72 : decode cX15_isPosition 72 = .ok (.ireturn, 1) := by decide +kernel
def sX15_isPosition_72 (F : Nat) (h : Hp) (t0 : Int32) : Option (Int32 × Hp) := gd (t0 &&& 1 = t0) <| some (t0, h)
def sX15_isPosition_71 (F : Nat) (h : Hp) : Option (Int32 × Hp) := sX15_isPosition_72 F h (0 : Int32)
def sX15_isPosition (F : Nat) (h : Hp) (x0 : Nat) (x1 : Nat) (x2 : Int32) (x3 : Nat) : Option (Int32 × Hp) := nm (wR h x0 17 (some x1)) fun h_1 => nm (wI h_1 x0 18 x2) fun h_2 => nm (wI h_2 x0 19 (0 : Int32)) fun h_3 => cl (sX12_clear F h_3 x3) fun o_4 => cl (sX15_readMen F o_4 x0 x3) fun o_5 => br (o_5.1 = 0) (sX15_isPosition_71 F o_5.2 ) (cl (sX15_readSide o_5.2 x0 x3) fun o_7 => br (o_7.1 = 0) (sX15_isPosition_71 F o_7.2 ) (cl (sX15_readRights F o_7.2 x0 x3) fun o_9 => br (o_9.1 = 0) (sX15_isPosition_71 F o_9.2 ) (cl (sX15_readPass F o_9.2 x0 x3) fun o_11 => br (o_11.1 = 0) (sX15_isPosition_71 F o_11.2 ) (cl (sX15_readHands F o_11.2 x0 x3) fun o_13 => br (o_13.1 = 0) (sX15_isPosition_71 F o_13.2 ) (cl (sX15_readRest F o_13.2 x0 x3) fun o_15 => br (o_15.1 = 0) (sX15_isPosition_71 F o_15.2 ) (sX15_isPosition_72 F o_15.2 (1 : Int32)))))))
theorem moX15_isPosition_72 {o : Int32 × Hp} {F : Nat} {h : Hp} {t0 : Int32} (hE : sX15_isPosition_72 F h  t0 = some o) : Le h o.2 := by
  obtain ⟨g_1, hE⟩ := gd_e hE
  cases hE
  exact Le.rf _
theorem moX15_isPosition_71 {o : Int32 × Hp} {F : Nat} {h : Hp} (hE : sX15_isPosition_71 F h  = some o) : Le h o.2 := by
  exact moX15_isPosition_72 hE
theorem moX15_isPosition {o : Int32 × Hp} {F : Nat} {h : Hp} {x0 : Nat} {x1 : Nat} {x2 : Int32} {x3 : Nat} (hE : sX15_isPosition F h x0 x1 x2 x3 = some o) : Le h o.2 := by
  obtain ⟨h_1, eh_1, hE⟩ := nm_e2 hE
  refine (le_R eh_1).tr ?_
  obtain ⟨h_2, eh_2, hE⟩ := nm_e2 hE
  refine (le_I eh_2).tr ?_
  obtain ⟨h_3, eh_3, hE⟩ := nm_e2 hE
  refine (le_I eh_3).tr ?_
  obtain ⟨o_4, eo_4, hE⟩ := cl_e hE
  refine (moX12_clear eo_4).tr ?_
  obtain ⟨o_5, eo_5, hE⟩ := cl_e hE
  refine (moX15_readMen eo_5).tr ?_
  rcases br_e hE with ⟨_, hE⟩ | ⟨_, hE⟩
  · exact moX15_isPosition_71 hE
  · obtain ⟨o_7, eo_7, hE⟩ := cl_e hE
    refine (moX15_readSide eo_7).tr ?_
    rcases br_e hE with ⟨_, hE⟩ | ⟨_, hE⟩
    · exact moX15_isPosition_71 hE
    · obtain ⟨o_9, eo_9, hE⟩ := cl_e hE
      refine (moX15_readRights eo_9).tr ?_
      rcases br_e hE with ⟨_, hE⟩ | ⟨_, hE⟩
      · exact moX15_isPosition_71 hE
      · obtain ⟨o_11, eo_11, hE⟩ := cl_e hE
        refine (moX15_readPass eo_11).tr ?_
        rcases br_e hE with ⟨_, hE⟩ | ⟨_, hE⟩
        · exact moX15_isPosition_71 hE
        · obtain ⟨o_13, eo_13, hE⟩ := cl_e hE
          refine (moX15_readHands eo_13).tr ?_
          rcases br_e hE with ⟨_, hE⟩ | ⟨_, hE⟩
          · exact moX15_isPosition_71 hE
          · obtain ⟨o_15, eo_15, hE⟩ := cl_e hE
            refine (moX15_readRest eo_15).tr ?_
            rcases br_e hE with ⟨_, hE⟩ | ⟨_, hE⟩
            · exact moX15_isPosition_71 hE
            · exact moX15_isPosition_72 hE
set_option maxRecDepth 20000 in
theorem bX15_isPosition_72 {p : Program} {l : Launch} {e : Env} {s : State} {m : MethodId} {args : Array Value} {below : List Frame} {meth : Method} {c : Code} {X : Ec} {h0 : Hp} {o : Int32 × Hp} {F : Nat} (C : Cx X p s m args meth c RX15 cX15_isPosition 4 (some .boolean) "isPosition") {h : Hp} {t0 : Int32} {H : Heap} {locs : List Loc} (hkm : Km h0 h) (hW : Wx X h H) (hZ : va_S (aA (eB X)) s.heap H locs) (ls : Array Slot) (hl : lv_has ls 4 []) (hE : sX15_isPosition_72 F h  t0 = some o) : W p l e (rm 3 68) s m args below meth c H locs 0 0 (MQ below (QI X h0 o.1 o.2) args s 0 0 (aA (eB X))) (F0 m 72 ls [.int t0]) := by
  obtain ⟨g_1, hE⟩ := gd_e hE
  exact x_iret C rfl (narB g_1) hW hZ hkm hE dX15_isPosition_72
set_option maxRecDepth 20000 in
theorem bX15_isPosition_71 {p : Program} {l : Launch} {e : Env} {s : State} {m : MethodId} {args : Array Value} {below : List Frame} {meth : Method} {c : Code} {X : Ec} {h0 : Hp} {o : Int32 × Hp} {F : Nat} (C : Cx X p s m args meth c RX15 cX15_isPosition 4 (some .boolean) "isPosition") {h : Hp} {H : Heap} {locs : List Loc} (hkm : Km h0 h) (hW : Wx X h H) (hZ : va_S (aA (eB X)) s.heap H locs) (ls : Array Slot) (hl : lv_has ls 4 []) (hE : sX15_isPosition_71 F h  = some o) : W p l e (rm 3 68) s m args below meth c H locs 0 0 (MQ below (QI X h0 o.1 o.2) args s 0 0 (aA (eB X))) (F0 m 71 ls []) := by
  refine lv_iconst (v := (0 : Int32)) C.1 C.2.1 dX15_isPosition_71 (by decide) ?_
  exact bX15_isPosition_72 C hkm hW hZ _ (lv_sub hl [] rfl) hE
set_option maxRecDepth 20000 in
theorem ct_X15_isPosition (l : Launch) (X : Ec) (F : Nat) {h : Hp} {x0 : Nat} {x1 : Nat} {x2 : Int32} {x3 : Nat} {o : Int32 × Hp} (k_x0 : hK h x0 = 15) (k_x1 : hK h x1 = 16) (k_x3 : hK h x3 = 12) (hE : sX15_isPosition F h x0 x1 x2 x3 = some o) : MetI l yX15_isPosition cX15_isPosition 4 (some .boolean) 3 68 X [.ref x0, .ref x1, .int x2, .ref x3] h o := by
  refine x_met (by decide) (Nat.le_of_ble_eq_true rfl) ?_
  intro p e s m below meth c ls C hl hW hZ
  have hl : lv_has ls 4 [(0, .ref x0), (1, .ref x1), (2, .int x2), (3, .ref x3)] := hl
  have hkm : Km h h := Km.rf h
  refine lv_aload_n C.1 C.2.1 dX15_isPosition_0 rfl (lv_at hl 0 rfl) ?_
  refine lv_aload_n C.1 C.2.1 dX15_isPosition_1 rfl (lv_at hl 1 rfl) ?_
  obtain ⟨h_1, eh_1, hE⟩ := nm_e2 hE
  refine pf_X15_418 C hW hZ k_x0 k_x1 eh_1 dX15_isPosition_2 (fun _ _ hW km hZ => ?_)
  replace hkm := hkm.tr km
  replace k_x0 := km.at k_x0 (by decide)
  replace k_x1 := km.at k_x1 (by decide)
  replace k_x3 := km.at k_x3 (by decide)
  refine lv_aload_n C.1 C.2.1 dX15_isPosition_5 rfl (lv_at hl 0 rfl) ?_
  refine lv_iload_n C.1 C.2.1 dX15_isPosition_6 rfl (lv_at hl 2 rfl) ?_
  obtain ⟨h_2, eh_2, hE⟩ := nm_e2 hE
  refine pf_X15_415 C hW hZ k_x0 eh_2 dX15_isPosition_7 (fun _ _ hW km hZ => ?_)
  replace hkm := hkm.tr km
  replace k_x0 := km.at k_x0 (by decide)
  replace k_x1 := km.at k_x1 (by decide)
  replace k_x3 := km.at k_x3 (by decide)
  refine lv_aload_n C.1 C.2.1 dX15_isPosition_10 rfl (lv_at hl 0 rfl) ?_
  refine lv_iconst (v := (0 : Int32)) C.1 C.2.1 dX15_isPosition_11 (by decide) ?_
  obtain ⟨h_3, eh_3, hE⟩ := nm_e2 hE
  refine pf_X15_412 C hW hZ k_x0 eh_3 dX15_isPosition_12 (fun _ _ hW km hZ => ?_)
  replace hkm := hkm.tr km
  replace k_x0 := km.at k_x0 (by decide)
  replace k_x1 := km.at k_x1 (by decide)
  replace k_x3 := km.at k_x3 (by decide)
  refine lv_aload_n C.1 C.2.1 dX15_isPosition_15 rfl (lv_at hl 3 rfl) ?_
  obtain ⟨o_4, eo_4, hE⟩ := cl_e hE
  refine x_kV (o := o_4) (z_runV (As := []) (rest := []) C (ct_X12_clear l X F k_x3 eo_4) cw_X15_455 hW hZ k_x3 (by decide) rfl rfl rfl hl.1 (Nat.le_of_ble_eq_true rfl) rfl dX15_isPosition_16 ⟨Nat.le_of_ble_eq_true rfl, Nat.le_of_ble_eq_true rfl⟩ ⟨Nat.le_refl _, Nat.le_refl _⟩) hZ (fun _ _ hW km hZ => ?_)
  replace hkm := hkm.tr km
  replace k_x0 := km.at k_x0 (by decide)
  replace k_x1 := km.at k_x1 (by decide)
  replace k_x3 := km.at k_x3 (by decide)
  refine lv_aload_n C.1 C.2.1 dX15_isPosition_19 rfl (lv_at hl 0 rfl) ?_
  refine lv_aload_n C.1 C.2.1 dX15_isPosition_20 rfl (lv_at hl 3 rfl) ?_
  obtain ⟨o_5, eo_5, hE⟩ := cl_e hE
  refine x_kI (o := o_5) (z_runV (As := [.ref x3]) (rest := []) C (ct_X15_readMen l X F k_x0 k_x3 eo_5) cw_X15_456 hW hZ k_x0 (by decide) rfl rfl rfl hl.1 (Nat.le_of_ble_eq_true rfl) rfl dX15_isPosition_21 ⟨Nat.le_of_ble_eq_true rfl, Nat.le_of_ble_eq_true rfl⟩ ⟨Nat.le_refl _, Nat.le_refl _⟩) hZ (fun _ _ hW km hZ => ?_)
  replace hkm := hkm.tr km
  replace k_x0 := km.at k_x0 (by decide)
  replace k_x1 := km.at k_x1 (by decide)
  replace k_x3 := km.at k_x3 (by decide)
  refine lv_if_eq (tgt := 71) C.1 C.2.1 dX15_isPosition_24 (by decide) (fun c_6 => ?_) (fun c_6 => ?_)
  · have hE := br_p hE c_6
    exact bX15_isPosition_71 C hkm hW hZ _ (lv_sub hl [] rfl) hE
  · have hE := br_n hE c_6
    refine lv_aload_n C.1 C.2.1 dX15_isPosition_27 rfl (lv_at hl 0 rfl) ?_
    refine lv_aload_n C.1 C.2.1 dX15_isPosition_28 rfl (lv_at hl 3 rfl) ?_
    obtain ⟨o_7, eo_7, hE⟩ := cl_e hE
    refine x_kI (o := o_7) (z_runV (As := [.ref x3]) (rest := []) C (ct_X15_readSide l X k_x0 k_x3 eo_7) cw_X15_460 hW hZ k_x0 (by decide) rfl rfl rfl hl.1 (Nat.le_of_ble_eq_true rfl) rfl dX15_isPosition_29 ⟨Nat.le_of_ble_eq_true rfl, Nat.le_of_ble_eq_true rfl⟩ ⟨Nat.le_refl _, Nat.le_refl _⟩) hZ (fun _ _ hW km hZ => ?_)
    replace hkm := hkm.tr km
    replace k_x0 := km.at k_x0 (by decide)
    replace k_x1 := km.at k_x1 (by decide)
    replace k_x3 := km.at k_x3 (by decide)
    refine lv_if_eq (tgt := 71) C.1 C.2.1 dX15_isPosition_32 (by decide) (fun c_8 => ?_) (fun c_8 => ?_)
    · have hE := br_p hE c_8
      exact bX15_isPosition_71 C hkm hW hZ _ (lv_sub hl [] rfl) hE
    · have hE := br_n hE c_8
      refine lv_aload_n C.1 C.2.1 dX15_isPosition_35 rfl (lv_at hl 0 rfl) ?_
      refine lv_aload_n C.1 C.2.1 dX15_isPosition_36 rfl (lv_at hl 3 rfl) ?_
      obtain ⟨o_9, eo_9, hE⟩ := cl_e hE
      refine x_kI (o := o_9) (z_runV (As := [.ref x3]) (rest := []) C (ct_X15_readRights l X F k_x0 k_x3 eo_9) cw_X15_463 hW hZ k_x0 (by decide) rfl rfl rfl hl.1 (Nat.le_of_ble_eq_true rfl) rfl dX15_isPosition_37 ⟨Nat.le_of_ble_eq_true rfl, Nat.le_of_ble_eq_true rfl⟩ ⟨Nat.le_refl _, Nat.le_refl _⟩) hZ (fun _ _ hW km hZ => ?_)
      replace hkm := hkm.tr km
      replace k_x0 := km.at k_x0 (by decide)
      replace k_x1 := km.at k_x1 (by decide)
      replace k_x3 := km.at k_x3 (by decide)
      refine lv_if_eq (tgt := 71) C.1 C.2.1 dX15_isPosition_40 (by decide) (fun c_10 => ?_) (fun c_10 => ?_)
      · have hE := br_p hE c_10
        exact bX15_isPosition_71 C hkm hW hZ _ (lv_sub hl [] rfl) hE
      · have hE := br_n hE c_10
        refine lv_aload_n C.1 C.2.1 dX15_isPosition_43 rfl (lv_at hl 0 rfl) ?_
        refine lv_aload_n C.1 C.2.1 dX15_isPosition_44 rfl (lv_at hl 3 rfl) ?_
        obtain ⟨o_11, eo_11, hE⟩ := cl_e hE
        refine x_kI (o := o_11) (z_runV (As := [.ref x3]) (rest := []) C (ct_X15_readPass l X F k_x0 k_x3 eo_11) cw_X15_466 hW hZ k_x0 (by decide) rfl rfl rfl hl.1 (Nat.le_of_ble_eq_true rfl) rfl dX15_isPosition_45 ⟨Nat.le_of_ble_eq_true rfl, Nat.le_of_ble_eq_true rfl⟩ ⟨Nat.le_refl _, Nat.le_refl _⟩) hZ (fun _ _ hW km hZ => ?_)
        replace hkm := hkm.tr km
        replace k_x0 := km.at k_x0 (by decide)
        replace k_x1 := km.at k_x1 (by decide)
        replace k_x3 := km.at k_x3 (by decide)
        refine lv_if_eq (tgt := 71) C.1 C.2.1 dX15_isPosition_48 (by decide) (fun c_12 => ?_) (fun c_12 => ?_)
        · have hE := br_p hE c_12
          exact bX15_isPosition_71 C hkm hW hZ _ (lv_sub hl [] rfl) hE
        · have hE := br_n hE c_12
          refine lv_aload_n C.1 C.2.1 dX15_isPosition_51 rfl (lv_at hl 0 rfl) ?_
          refine lv_aload_n C.1 C.2.1 dX15_isPosition_52 rfl (lv_at hl 3 rfl) ?_
          obtain ⟨o_13, eo_13, hE⟩ := cl_e hE
          refine x_kI (o := o_13) (z_runV (As := [.ref x3]) (rest := []) C (ct_X15_readHands l X F k_x0 k_x3 eo_13) cw_X15_469 hW hZ k_x0 (by decide) rfl rfl rfl hl.1 (Nat.le_of_ble_eq_true rfl) rfl dX15_isPosition_53 ⟨Nat.le_of_ble_eq_true rfl, Nat.le_of_ble_eq_true rfl⟩ ⟨Nat.le_refl _, Nat.le_refl _⟩) hZ (fun _ _ hW km hZ => ?_)
          replace hkm := hkm.tr km
          replace k_x0 := km.at k_x0 (by decide)
          replace k_x1 := km.at k_x1 (by decide)
          replace k_x3 := km.at k_x3 (by decide)
          refine lv_if_eq (tgt := 71) C.1 C.2.1 dX15_isPosition_56 (by decide) (fun c_14 => ?_) (fun c_14 => ?_)
          · have hE := br_p hE c_14
            exact bX15_isPosition_71 C hkm hW hZ _ (lv_sub hl [] rfl) hE
          · have hE := br_n hE c_14
            refine lv_aload_n C.1 C.2.1 dX15_isPosition_59 rfl (lv_at hl 0 rfl) ?_
            refine lv_aload_n C.1 C.2.1 dX15_isPosition_60 rfl (lv_at hl 3 rfl) ?_
            obtain ⟨o_15, eo_15, hE⟩ := cl_e hE
            refine x_kI (o := o_15) (z_runV (As := [.ref x3]) (rest := []) C (ct_X15_readRest l X F k_x0 k_x3 eo_15) cw_X15_472 hW hZ k_x0 (by decide) rfl rfl rfl hl.1 (Nat.le_of_ble_eq_true rfl) rfl dX15_isPosition_61 ⟨Nat.le_of_ble_eq_true rfl, Nat.le_of_ble_eq_true rfl⟩ ⟨Nat.le_refl _, Nat.le_refl _⟩) hZ (fun _ _ hW km hZ => ?_)
            replace hkm := hkm.tr km
            replace k_x0 := km.at k_x0 (by decide)
            replace k_x1 := km.at k_x1 (by decide)
            replace k_x3 := km.at k_x3 (by decide)
            refine lv_if_eq (tgt := 71) C.1 C.2.1 dX15_isPosition_64 (by decide) (fun c_16 => ?_) (fun c_16 => ?_)
            · have hE := br_p hE c_16
              exact bX15_isPosition_71 C hkm hW hZ _ (lv_sub hl [] rfl) hE
            · have hE := br_n hE c_16
              refine lv_iconst (v := (1 : Int32)) C.1 C.2.1 dX15_isPosition_67 (by decide) ?_
              refine lv_goto (tgt := 72) C.1 C.2.1 dX15_isPosition_68 (by decide) ?_
              exact bX15_isPosition_72 C hkm hW hZ _ (lv_sub hl [] rfl) hE
theorem dX15_sideOf_0 : decode cX15_sideOf 0 = .ok (.iload_n 0, 1) := by decide +kernel
theorem dX15_sideOf_1 : decode cX15_sideOf 1 = .ok (.iconst 1, 1) := by decide +kernel
theorem dX15_sideOf_2 : decode cX15_sideOf 2 = .ok (.isub, 1) := by decide +kernel
theorem dX15_sideOf_3 : decode cX15_sideOf 3 = .ok (.iconst 1, 1) := by decide +kernel
theorem dX15_sideOf_4 : decode cX15_sideOf 4 = .ok (.iand, 1) := by decide +kernel
theorem dX15_sideOf_5 : decode cX15_sideOf 5 = .ok (.ireturn, 1) := by decide +kernel
def sX15_sideOf (h : Hp) (x0 : Int32) : Option (Int32 × Hp) := some ((x0 - (1 : Int32)) &&& (1 : Int32), h)
theorem moX15_sideOf {o : Int32 × Hp} {h : Hp} {x0 : Int32} (hE : sX15_sideOf h x0 = some o) : Le h o.2 := by
  cases hE
  exact Le.rf _
set_option maxRecDepth 20000 in
theorem ct_X15_sideOf (l : Launch) (X : Ec) {h : Hp} {x0 : Int32} {o : Int32 × Hp} (hE : sX15_sideOf h x0 = some o) : MetI l yX15_sideOf cX15_sideOf 1 (some .int) 0 0 X [.int x0] h o := by
  refine x_met (by decide) (Nat.le_of_ble_eq_true rfl) ?_
  intro p e s m below meth c ls C hl hW hZ
  have hl : lv_has ls 1 [(0, .int x0)] := hl
  have hkm : Km h h := Km.rf h
  refine lv_iload_n C.1 C.2.1 dX15_sideOf_0 rfl (lv_at hl 0 rfl) ?_
  refine lv_iconst (v := (1 : Int32)) C.1 C.2.1 dX15_sideOf_1 (by decide) ?_
  refine lv_isub C.1 C.2.1 dX15_sideOf_2 ?_
  refine lv_iconst (v := (1 : Int32)) C.1 C.2.1 dX15_sideOf_3 (by decide) ?_
  refine lv_iand C.1 C.2.1 dX15_sideOf_4 ?_
  exact x_iret C rfl rfl hW hZ hkm hE dX15_sideOf_5
theorem dX15_manOf_0 : decode cX15_manOf 0 = .ok (.iload_n 0, 1) := by decide +kernel
theorem dX15_manOf_1 : decode cX15_manOf 1 = .ok (.iconst 1, 1) := by decide +kernel
theorem dX15_manOf_2 : decode cX15_manOf 2 = .ok (.isub, 1) := by decide +kernel
theorem dX15_manOf_3 : decode cX15_manOf 3 = .ok (.iconst 1, 1) := by decide +kernel
theorem dX15_manOf_4 : decode cX15_manOf 4 = .ok (.ishr, 1) := by decide +kernel
theorem dX15_manOf_5 : decode cX15_manOf 5 = .ok (.ireturn, 1) := by decide +kernel
def sX15_manOf (h : Hp) (x0 : Int32) : Option (Int32 × Hp) := some ((x0 - (1 : Int32)) >>> ((1 : Int32) &&& 31), h)
theorem moX15_manOf {o : Int32 × Hp} {h : Hp} {x0 : Int32} (hE : sX15_manOf h x0 = some o) : Le h o.2 := by
  cases hE
  exact Le.rf _
set_option maxRecDepth 20000 in
theorem ct_X15_manOf (l : Launch) (X : Ec) {h : Hp} {x0 : Int32} {o : Int32 × Hp} (hE : sX15_manOf h x0 = some o) : MetI l yX15_manOf cX15_manOf 1 (some .int) 0 0 X [.int x0] h o := by
  refine x_met (by decide) (Nat.le_of_ble_eq_true rfl) ?_
  intro p e s m below meth c ls C hl hW hZ
  have hl : lv_has ls 1 [(0, .int x0)] := hl
  have hkm : Km h h := Km.rf h
  refine lv_iload_n C.1 C.2.1 dX15_manOf_0 rfl (lv_at hl 0 rfl) ?_
  refine lv_iconst (v := (1 : Int32)) C.1 C.2.1 dX15_manOf_1 (by decide) ?_
  refine lv_isub C.1 C.2.1 dX15_manOf_2 ?_
  refine lv_iconst (v := (1 : Int32)) C.1 C.2.1 dX15_manOf_3 (by decide) ?_
  refine lv_ishr C.1 C.2.1 dX15_manOf_4 ?_
  exact x_iret C rfl rfl hW hZ hkm hE dX15_manOf_5
theorem dX15_becomesOthers_0 : decode cX15_becomesOthers 0 = .ok (.aload_n 0, 1) := by decide +kernel
theorem dX15_becomesOthers_1 : decode cX15_becomesOthers 1 = .ok (.getfield 252, 3) := by decide +kernel
theorem dX15_becomesOthers_4 : decode cX15_becomesOthers 4 = .ok (.getfield 215, 3) := by decide +kernel
theorem dX15_becomesOthers_7 : decode cX15_becomesOthers 7 = .ok (.iload_n 1, 1) := by decide +kernel
theorem dX15_becomesOthers_8 : decode cX15_becomesOthers 8 = .ok (.iaload, 1) := by decide +kernel
theorem dX15_becomesOthers_9 : decode cX15_becomesOthers 9 = .ok (.ifCond .le 7, 3) := by decide +kernel
theorem dX15_becomesOthers_12 : decode cX15_becomesOthers 12 = .ok (.iconst 1, 1) := by decide +kernel
theorem dX15_becomesOthers_13 : decode cX15_becomesOthers 13 = .ok (.goto 4, 3) := by decide +kernel
theorem dX15_becomesOthers_16 : decode cX15_becomesOthers 16 = .ok (.iconst 0, 1) := by decide +kernel
theorem dX15_becomesOthers_17 : decode cX15_becomesOthers 17 = .ok (.ireturn, 1) := by decide +kernel
def sX15_becomesOthers_17 (h : Hp) (t0 : Int32) : Option (Int32 × Hp) := gd (t0 &&& 1 = t0) <| some (t0, h)
def sX15_becomesOthers (h : Hp) (x0 : Nat) (x1 : Int32) : Option (Int32 × Hp) := cl (hR h x0 4) fun r_1 => cl (hR h r_1 14) fun r_2 => gd (inB x1 (hN h r_2)) <| br ((hI h r_2 x1.toNatClampNeg) ≤ 0) (sX15_becomesOthers_17  h (0 : Int32)) (sX15_becomesOthers_17  h (1 : Int32))
theorem moX15_becomesOthers_17 {o : Int32 × Hp} {h : Hp} {t0 : Int32} (hE : sX15_becomesOthers_17 h  t0 = some o) : Le h o.2 := by
  obtain ⟨g_1, hE⟩ := gd_e hE
  cases hE
  exact Le.rf _
theorem moX15_becomesOthers {o : Int32 × Hp} {h : Hp} {x0 : Nat} {x1 : Int32} (hE : sX15_becomesOthers h x0 x1 = some o) : Le h o.2 := by
  obtain ⟨r_1, er_1, hE⟩ := cl_e hE
  obtain ⟨r_2, er_2, hE⟩ := cl_e hE
  obtain ⟨g_3, hE⟩ := gd_e hE
  rcases br_e hE with ⟨_, hE⟩ | ⟨_, hE⟩
  · exact moX15_becomesOthers_17 hE
  · exact moX15_becomesOthers_17 hE
set_option maxRecDepth 20000 in
theorem bX15_becomesOthers_17 {p : Program} {l : Launch} {e : Env} {s : State} {m : MethodId} {args : Array Value} {below : List Frame} {meth : Method} {c : Code} {X : Ec} {h0 : Hp} {o : Int32 × Hp} (C : Cx X p s m args meth c RX15 cX15_becomesOthers 2 (some .boolean) "becomesOthers") {h : Hp} {t0 : Int32} {H : Heap} {locs : List Loc} (hkm : Km h0 h) (hW : Wx X h H) (hZ : va_S (aA (eB X)) s.heap H locs) (ls : Array Slot) (hl : lv_has ls 2 []) (hE : sX15_becomesOthers_17 h  t0 = some o) : W p l e (rm 0 0) s m args below meth c H locs 0 0 (MQ below (QI X h0 o.1 o.2) args s 0 0 (aA (eB X))) (F0 m 17 ls [.int t0]) := by
  obtain ⟨g_1, hE⟩ := gd_e hE
  exact x_iret C rfl (narB g_1) hW hZ hkm hE dX15_becomesOthers_17
set_option maxRecDepth 20000 in
theorem ct_X15_becomesOthers (l : Launch) (X : Ec) {h : Hp} {x0 : Nat} {x1 : Int32} {o : Int32 × Hp} (k_x0 : hK h x0 = 15) (hE : sX15_becomesOthers h x0 x1 = some o) : MetI l yX15_becomesOthers cX15_becomesOthers 2 (some .boolean) 0 0 X [.ref x0, .int x1] h o := by
  refine x_met (by decide) (Nat.le_of_ble_eq_true rfl) ?_
  intro p e s m below meth c ls C hl hW hZ
  have hl : lv_has ls 2 [(0, .ref x0), (1, .int x1)] := hl
  have hkm : Km h h := Km.rf h
  refine lv_aload_n C.1 C.2.1 dX15_becomesOthers_0 rfl (lv_at hl 0 rfl) ?_
  obtain ⟨r_1, er_1, hE⟩ := cl_e hE
  refine gf_X15_252 C hW k_x0 er_1 dX15_becomesOthers_1 (fun k_r_1 => ?_)
  obtain ⟨r_2, er_2, hE⟩ := cl_e hE
  refine gf_X15_215 C hW k_r_1 er_2 dX15_becomesOthers_4 (fun k_r_2 => ?_)
  refine lv_iload_n C.1 C.2.1 dX15_becomesOthers_7 rfl (lv_at hl 1 rfl) ?_
  obtain ⟨g_3, hE⟩ := gd_e hE
  refine y_iald C hW k_r_2 g_3 dX15_becomesOthers_8 ?_
  refine lv_if_le (tgt := 16) C.1 C.2.1 dX15_becomesOthers_9 (by decide) (fun c_4 => ?_) (fun c_4 => ?_)
  · have hE := br_p hE c_4
    refine lv_iconst (v := (0 : Int32)) C.1 C.2.1 dX15_becomesOthers_16 (by decide) ?_
    exact bX15_becomesOthers_17 C hkm hW hZ _ (lv_sub hl [] rfl) hE
  · have hE := br_n hE c_4
    refine lv_iconst (v := (1 : Int32)) C.1 C.2.1 dX15_becomesOthers_12 (by decide) ?_
    refine lv_goto (tgt := 17) C.1 C.2.1 dX15_becomesOthers_13 (by decide) ?_
    exact bX15_becomesOthers_17 C hkm hW hZ _ (lv_sub hl [] rfl) hE
theorem dX15_rankFor_0 : decode cX15_rankFor 0 = .ok (.iload_n 2, 1) := by decide +kernel
theorem dX15_rankFor_1 : decode cX15_rankFor 1 = .ok (.ifCond .ne 14, 3) := by decide +kernel
theorem dX15_rankFor_4 : decode cX15_rankFor 4 = .ok (.iload_n 1, 1) := by decide +kernel
theorem dX15_rankFor_5 : decode cX15_rankFor 5 = .ok (.aload_n 0, 1) := by decide +kernel
theorem dX15_rankFor_6 : decode cX15_rankFor 6 = .ok (.getfield 382, 3) := by decide +kernel
theorem dX15_rankFor_9 : decode cX15_rankFor 9 = .ok (.idiv, 1) := by decide +kernel
theorem dX15_rankFor_10 : decode cX15_rankFor 10 = .ok (.iconst 1, 1) := by decide +kernel
theorem dX15_rankFor_11 : decode cX15_rankFor 11 = .ok (.iadd, 1) := by decide +kernel
theorem dX15_rankFor_12 : decode cX15_rankFor 12 = .ok (.goto 14, 3) := by decide +kernel
theorem dX15_rankFor_15 : decode cX15_rankFor 15 = .ok (.aload_n 0, 1) := by decide +kernel
theorem dX15_rankFor_16 : decode cX15_rankFor 16 = .ok (.getfield 383, 3) := by decide +kernel
theorem dX15_rankFor_19 : decode cX15_rankFor 19 = .ok (.iload_n 1, 1) := by decide +kernel
theorem dX15_rankFor_20 : decode cX15_rankFor 20 = .ok (.aload_n 0, 1) := by decide +kernel
theorem dX15_rankFor_21 : decode cX15_rankFor 21 = .ok (.getfield 382, 3) := by decide +kernel
theorem dX15_rankFor_24 : decode cX15_rankFor 24 = .ok (.idiv, 1) := by decide +kernel
theorem dX15_rankFor_25 : decode cX15_rankFor 25 = .ok (.isub, 1) := by decide +kernel
theorem dX15_rankFor_26 : decode cX15_rankFor 26 = .ok (.ireturn, 1) := by decide +kernel
def sX15_rankFor_26 (h : Hp) (t0 : Int32) : Option (Int32 × Hp) := some (t0, h)
def sX15_rankFor (h : Hp) (x0 : Nat) (x1 : Int32) (x2 : Int32) : Option (Int32 × Hp) := br (x2 = 0) (gd (¬ (hI h x0 11) = 0) <| sX15_rankFor_26  h ((x1 / (hI h x0 11)) + (1 : Int32))) (gd (¬ (hI h x0 11) = 0) <| sX15_rankFor_26  h ((hI h x0 12) - (x1 / (hI h x0 11))))
theorem moX15_rankFor_26 {o : Int32 × Hp} {h : Hp} {t0 : Int32} (hE : sX15_rankFor_26 h  t0 = some o) : Le h o.2 := by
  cases hE
  exact Le.rf _
theorem moX15_rankFor {o : Int32 × Hp} {h : Hp} {x0 : Nat} {x1 : Int32} {x2 : Int32} (hE : sX15_rankFor h x0 x1 x2 = some o) : Le h o.2 := by
  rcases br_e hE with ⟨_, hE⟩ | ⟨_, hE⟩
  · obtain ⟨g_3, hE⟩ := gd_e hE
    exact moX15_rankFor_26 hE
  · obtain ⟨g_2, hE⟩ := gd_e hE
    exact moX15_rankFor_26 hE
set_option maxRecDepth 20000 in
theorem bX15_rankFor_26 {p : Program} {l : Launch} {e : Env} {s : State} {m : MethodId} {args : Array Value} {below : List Frame} {meth : Method} {c : Code} {X : Ec} {h0 : Hp} {o : Int32 × Hp} (C : Cx X p s m args meth c RX15 cX15_rankFor 3 (some .int) "rankFor") {h : Hp} {t0 : Int32} {H : Heap} {locs : List Loc} (hkm : Km h0 h) (hW : Wx X h H) (hZ : va_S (aA (eB X)) s.heap H locs) (ls : Array Slot) (hl : lv_has ls 3 []) (hE : sX15_rankFor_26 h  t0 = some o) : W p l e (rm 0 0) s m args below meth c H locs 0 0 (MQ below (QI X h0 o.1 o.2) args s 0 0 (aA (eB X))) (F0 m 26 ls [.int t0]) := by
  exact x_iret C rfl rfl hW hZ hkm hE dX15_rankFor_26
set_option maxRecDepth 20000 in
theorem ct_X15_rankFor (l : Launch) (X : Ec) {h : Hp} {x0 : Nat} {x1 : Int32} {x2 : Int32} {o : Int32 × Hp} (k_x0 : hK h x0 = 15) (hE : sX15_rankFor h x0 x1 x2 = some o) : MetI l yX15_rankFor cX15_rankFor 3 (some .int) 0 0 X [.ref x0, .int x1, .int x2] h o := by
  refine x_met (by decide) (Nat.le_of_ble_eq_true rfl) ?_
  intro p e s m below meth c ls C hl hW hZ
  have hl : lv_has ls 3 [(0, .ref x0), (1, .int x1), (2, .int x2)] := hl
  have hkm : Km h h := Km.rf h
  refine lv_iload_n C.1 C.2.1 dX15_rankFor_0 rfl (lv_at hl 2 rfl) ?_
  refine lv_if_ne (tgt := 15) C.1 C.2.1 dX15_rankFor_1 (by decide) (fun c_1 => ?_) (fun c_1 => ?_)
  · have hE := br_n hE c_1
    refine lv_aload_n C.1 C.2.1 dX15_rankFor_15 rfl (lv_at hl 0 rfl) ?_
    refine gf_X15_383 C hW k_x0 dX15_rankFor_16 ?_
    refine lv_iload_n C.1 C.2.1 dX15_rankFor_19 rfl (lv_at hl 1 rfl) ?_
    refine lv_aload_n C.1 C.2.1 dX15_rankFor_20 rfl (lv_at hl 0 rfl) ?_
    refine gf_X15_382 C hW k_x0 dX15_rankFor_21 ?_
    obtain ⟨g_2, hE⟩ := gd_e hE
    refine lv_idiv C.1 C.2.1 dX15_rankFor_24 g_2 ?_
    refine lv_isub C.1 C.2.1 dX15_rankFor_25 ?_
    exact bX15_rankFor_26 C hkm hW hZ _ (lv_sub hl [] rfl) hE
  · have hE := br_p hE c_1
    refine lv_iload_n C.1 C.2.1 dX15_rankFor_4 rfl (lv_at hl 1 rfl) ?_
    refine lv_aload_n C.1 C.2.1 dX15_rankFor_5 rfl (lv_at hl 0 rfl) ?_
    refine gf_X15_382 C hW k_x0 dX15_rankFor_6 ?_
    obtain ⟨g_3, hE⟩ := gd_e hE
    refine lv_idiv C.1 C.2.1 dX15_rankFor_9 g_3 ?_
    refine lv_iconst (v := (1 : Int32)) C.1 C.2.1 dX15_rankFor_10 (by decide) ?_
    refine lv_iadd C.1 C.2.1 dX15_rankFor_11 ?_
    refine lv_goto (tgt := 26) C.1 C.2.1 dX15_rankFor_12 (by decide) ?_
    exact bX15_rankFor_26 C hkm hW hZ _ (lv_sub hl [] rfl) hE
section
variable {p : Program} {l : Launch} {e : Env} {R : Room} {s : State} {m : MethodId} {args : Array Value} {below : List Frame} {meth : Method} {c : Code} {H : Heap} {locs : List Loc} {cells slots : Nat} {Q : State → Prop}
variable {cc : ByteArray} {pc : Nat} {ls : Array Slot} {rest : List Value} {X : Ec} {h h1 : Hp} {nL : Nat} {rt : Option FieldType} {mn : String}
theorem gf_X15_384 {a : Nat} (C : Cx X p s m args meth c RX15 cc nL rt mn) (hW : Wx X h H) (ha : hK h a = 15) (hdg : decode cc pc = .ok (.getfield 384, 3)) (kk : W p l e R s m args below meth c H locs cells slots Q (F0 m (pc + 3) ls (.int (hI h a 13) :: rest))) : W p l e R s m args below meth c H locs cells slots Q (F0 m pc ls (.ref a :: rest)) :=
  y_geti C hW ha i_X15 (by decide) rfl (by decide) m_2145 rfl hdg kk
end
theorem dX15_royalOf_0 : decode cX15_royalOf 0 = .ok (.iconst 0, 1) := by decide +kernel
theorem dX15_royalOf_1 : decode cX15_royalOf 1 = .ok (.istore_n 3, 1) := by decide +kernel
theorem dX15_royalOf_2 : decode cX15_royalOf 2 = .ok (.iload_n 3, 1) := by decide +kernel
theorem dX15_royalOf_3 : decode cX15_royalOf 3 = .ok (.aload_n 0, 1) := by decide +kernel
theorem dX15_royalOf_4 : decode cX15_royalOf 4 = .ok (.getfield 384, 3) := by decide +kernel
theorem dX15_royalOf_7 : decode cX15_royalOf 7 = .ok (.if_icmp .ge 42, 3) := by decide +kernel
theorem dX15_royalOf_10 : decode cX15_royalOf 10 = .ok (.aload_n 0, 1) := by decide +kernel
theorem dX15_royalOf_11 : decode cX15_royalOf 11 = .ok (.getfield 252, 3) := by decide +kernel
theorem dX15_royalOf_14 : decode cX15_royalOf 14 = .ok (.getfield 221, 3) := by decide +kernel
theorem dX15_royalOf_17 : decode cX15_royalOf 17 = .ok (.iconst (-1), 1) := by decide +kernel
theorem dX15_royalOf_18 : decode cX15_royalOf 18 = .ok (.if_icmp .eq 31, 3) := by decide +kernel
theorem dX15_royalOf_21 : decode cX15_royalOf 21 = .ok (.aload_n 1, 1) := by decide +kernel
theorem dX15_royalOf_22 : decode cX15_royalOf 22 = .ok (.getfield 396, 3) := by decide +kernel
theorem dX15_royalOf_25 : decode cX15_royalOf 25 = .ok (.iload_n 3, 1) := by decide +kernel
theorem dX15_royalOf_26 : decode cX15_royalOf 26 = .ok (.iaload, 1) := by decide +kernel
theorem dX15_royalOf_27 : decode cX15_royalOf 27 = .ok (.aload_n 0, 1) := by decide +kernel
theorem dX15_royalOf_28 : decode cX15_royalOf 28 = .ok (.getfield 252, 3) := by decide +kernel
theorem dX15_royalOf_31 : decode cX15_royalOf 31 = .ok (.getfield 221, 3) := by decide +kernel
theorem dX15_royalOf_34 : decode cX15_royalOf 34 = .ok (.iload_n 2, 1) := by decide +kernel
theorem dX15_royalOf_35 : decode cX15_royalOf 35 = .ok (.invokestatic 398, 3) := by decide +kernel
theorem dX15_royalOf_38 : decode cX15_royalOf 38 = .ok (.if_icmp .ne 5, 3) := by decide +kernel
theorem dX15_royalOf_41 : decode cX15_royalOf 41 = .ok (.iload_n 3, 1) := by decide +kernel
theorem dX15_royalOf_42 : decode cX15_royalOf 42 = .ok (.ireturn, 1) := by decide +kernel
theorem dX15_royalOf_43 : decode cX15_royalOf 43 = .ok (.iinc 3 1, 3) := by decide +kernel
theorem dX15_royalOf_46 : decode cX15_royalOf 46 = .ok (.goto (-44), 3) := by decide +kernel
theorem dX15_royalOf_49 : decode cX15_royalOf 49 = .ok (.iconst (-1), 1) := by decide +kernel
theorem dX15_royalOf_50 : decode cX15_royalOf 50 = .ok (.ireturn, 1) := by decide +kernel
def sX15_royalOf_49 (F : Nat) (h : Hp) : Option (Int32 × Hp) := some ((-1 : Int32), h)
def sX15_royalOf_2 (F : Nat) : Nat → Hp → Nat → Nat → Int32 → Int32 → Option (Int32 × Hp)
  | 0, _, _, _, _, _ => none
  | f + 1, h, x0, x1, x2, x3 => br ((hI h x0 13) ≤ x3) (sX15_royalOf_49 F h ) (cl (hR h x0 4) fun r_2 => br ((hI h r_2 10) = (-1 : Int32)) (sX15_royalOf_49 F h ) (cl (hR h x1 0) fun r_4 => gd (inB x3 (hN h r_4)) <| cl (hR h x0 4) fun r_6 => cl (sX15_valueOf h (hI h r_6 10) x2) fun o_7 => br ((hI h r_4 x3.toNatClampNeg) = o_7.1) (some (x3, o_7.2)) (nm (x3 + (1 : Int32)) fun v_9 => sX15_royalOf_2 F f o_7.2 x0 x1 x2 v_9)))
def sX15_royalOf (F : Nat) (h : Hp) (x0 : Nat) (x1 : Nat) (x2 : Int32) : Option (Int32 × Hp) := sX15_royalOf_2 F F h x0 x1 x2 (0 : Int32)
theorem moX15_royalOf_49 {o : Int32 × Hp} {F : Nat} {h : Hp} (hE : sX15_royalOf_49 F h  = some o) : Le h o.2 := by
  cases hE
  exact Le.rf _
theorem moX15_royalOf_2 {o : Int32 × Hp} {F : Nat} : ∀ (f : Nat) {h : Hp} {x0 : Nat} {x1 : Nat} {x2 : Int32} {x3 : Int32}, sX15_royalOf_2 F f h x0 x1 x2 x3 = some o → Le h o.2 := by
  intro f
  induction f with
  | zero =>
    intro h x0 x1 x2 x3 hE
    rw [sX15_royalOf_2] at hE
    cases hE
  | succ f ih =>
    intro h x0 x1 x2 x3 hE
    rw [sX15_royalOf_2] at hE
    have mk_2 : ∀ (h : Hp) (x0 : Nat) (x1 : Nat) (x2 : Int32) (x3 : Int32), sX15_royalOf_2 F f h x0 x1 x2 x3 = some o → Le h o.2 := fun h x0 x1 x2 x3 hE => ih hE
    rcases br_e hE with ⟨_, hE⟩ | ⟨_, hE⟩
    · exact moX15_royalOf_49 hE
    · obtain ⟨r_2, er_2, hE⟩ := cl_e hE
      rcases br_e hE with ⟨_, hE⟩ | ⟨_, hE⟩
      · exact moX15_royalOf_49 hE
      · obtain ⟨r_4, er_4, hE⟩ := cl_e hE
        obtain ⟨g_5, hE⟩ := gd_e hE
        obtain ⟨r_6, er_6, hE⟩ := cl_e hE
        obtain ⟨o_7, eo_7, hE⟩ := cl_e hE
        refine (moX15_valueOf eo_7).tr ?_
        rcases br_e hE with ⟨_, hE⟩ | ⟨_, hE⟩
        · cases hE
          exact Le.rf _
        · obtain ⟨v_9, ev_9, hE⟩ := nm_e2 hE
          exact mk_2 _ _ _ _ _ hE
theorem moX15_royalOf {o : Int32 × Hp} {F : Nat} {h : Hp} {x0 : Nat} {x1 : Nat} {x2 : Int32} (hE : sX15_royalOf F h x0 x1 x2 = some o) : Le h o.2 := by
  exact moX15_royalOf_2 _ hE
set_option maxRecDepth 20000 in
theorem bX15_royalOf_49 {p : Program} {l : Launch} {e : Env} {s : State} {m : MethodId} {args : Array Value} {below : List Frame} {meth : Method} {c : Code} {X : Ec} {h0 : Hp} {o : Int32 × Hp} {F : Nat} (C : Cx X p s m args meth c RX15 cX15_royalOf 4 (some .int) "royalOf") {h : Hp} {H : Heap} {locs : List Loc} (hkm : Km h0 h) (hW : Wx X h H) (hZ : va_S (aA (eB X)) s.heap H locs) (ls : Array Slot) (hl : lv_has ls 4 []) (hE : sX15_royalOf_49 F h  = some o) : W p l e (rm 1 21) s m args below meth c H locs 0 0 (MQ below (QI X h0 o.1 o.2) args s 0 0 (aA (eB X))) (F0 m 49 ls []) := by
  refine lv_iconst (v := (-1 : Int32)) C.1 C.2.1 dX15_royalOf_49 (by decide) ?_
  exact x_iret C rfl rfl hW hZ hkm hE dX15_royalOf_50
set_option maxRecDepth 20000 in
theorem bX15_royalOf_2 {p : Program} {l : Launch} {e : Env} {s : State} {m : MethodId} {args : Array Value} {below : List Frame} {meth : Method} {c : Code} {X : Ec} {h0 : Hp} {o : Int32 × Hp} {F : Nat} (C : Cx X p s m args meth c RX15 cX15_royalOf 4 (some .int) "royalOf") : ∀ (f : Nat) {h : Hp} {x0 : Nat} {x1 : Nat} {x2 : Int32} {x3 : Int32} {H : Heap} {locs : List Loc} (k_x0 : hK h x0 = 15) (k_x1 : hK h x1 = 12), Km h0 h → Wx X h H → va_S (aA (eB X)) s.heap H locs → ∀ (ls : Array Slot), lv_has ls 4 [(0, .ref x0), (1, .ref x1), (2, .int x2), (3, .int x3)] → sX15_royalOf_2 F f h x0 x1 x2 x3 = some o → W p l e (rm 1 21) s m args below meth c H locs 0 0 (MQ below (QI X h0 o.1 o.2) args s 0 0 (aA (eB X))) (F0 m 2 ls []) := by
  intro f
  induction f with
  | zero =>
    intro h x0 x1 x2 x3 H locs k_x0 k_x1 hkm hW hZ ls hl hE
    rw [sX15_royalOf_2] at hE
    cases hE
  | succ f ih =>
    intro h x0 x1 x2 x3 H locs k_x0 k_x1 hkm hW hZ ls hl hE
    rw [sX15_royalOf_2] at hE
    have hk_2 : ∀ (h : Hp) (x0 : Nat) (x1 : Nat) (x2 : Int32) (x3 : Int32) (H : Heap) (locs : List Loc), hK h x0 = 15 → hK h x1 = 12 → Km h0 h → Wx X h H → va_S (aA (eB X)) s.heap H locs → ∀ (ls : Array Slot), lv_has ls 4 [(0, .ref x0), (1, .ref x1), (2, .int x2), (3, .int x3)] → sX15_royalOf_2 F f h x0 x1 x2 x3 = some o → W p l e (rm 1 21) s m args below meth c H locs 0 0 (MQ below (QI X h0 o.1 o.2) args s 0 0 (aA (eB X))) (F0 m 2 ls []) := fun h x0 x1 x2 x3 H locs k_x0 k_x1 a b c ls hl hE => ih k_x0 k_x1 a b c ls hl hE
    refine lv_iload_n C.1 C.2.1 dX15_royalOf_2 rfl (lv_at hl 3 rfl) ?_
    refine lv_aload_n C.1 C.2.1 dX15_royalOf_3 rfl (lv_at hl 0 rfl) ?_
    refine gf_X15_384 C hW k_x0 dX15_royalOf_4 ?_
    refine lv_icmp_ge (tgt := 49) C.1 C.2.1 dX15_royalOf_7 (by decide) (fun c_1 => ?_) (fun c_1 => ?_)
    · have hE := br_p hE c_1
      exact bX15_royalOf_49 C hkm hW hZ _ (lv_sub hl [] rfl) hE
    · have hE := br_n hE c_1
      refine lv_aload_n C.1 C.2.1 dX15_royalOf_10 rfl (lv_at hl 0 rfl) ?_
      obtain ⟨r_2, er_2, hE⟩ := cl_e hE
      refine gf_X15_252 C hW k_x0 er_2 dX15_royalOf_11 (fun k_r_2 => ?_)
      refine gf_X15_221 C hW k_r_2 dX15_royalOf_14 ?_
      refine lv_iconst (v := (-1 : Int32)) C.1 C.2.1 dX15_royalOf_17 (by decide) ?_
      refine lv_icmp_eq (tgt := 49) C.1 C.2.1 dX15_royalOf_18 (by decide) (fun c_3 => ?_) (fun c_3 => ?_)
      · have hE := br_p hE c_3
        exact bX15_royalOf_49 C hkm hW hZ _ (lv_sub hl [] rfl) hE
      · have hE := br_n hE c_3
        refine lv_aload_n C.1 C.2.1 dX15_royalOf_21 rfl (lv_at hl 1 rfl) ?_
        obtain ⟨r_4, er_4, hE⟩ := cl_e hE
        refine gf_X15_396 C hW k_x1 er_4 dX15_royalOf_22 (fun k_r_4 => ?_)
        refine lv_iload_n C.1 C.2.1 dX15_royalOf_25 rfl (lv_at hl 3 rfl) ?_
        obtain ⟨g_5, hE⟩ := gd_e hE
        refine y_iald C hW k_r_4 g_5 dX15_royalOf_26 ?_
        refine lv_aload_n C.1 C.2.1 dX15_royalOf_27 rfl (lv_at hl 0 rfl) ?_
        obtain ⟨r_6, er_6, hE⟩ := cl_e hE
        refine gf_X15_252 C hW k_x0 er_6 dX15_royalOf_28 (fun k_r_6 => ?_)
        refine gf_X15_221 C hW k_r_6 dX15_royalOf_31 ?_
        refine lv_iload_n C.1 C.2.1 dX15_royalOf_34 rfl (lv_at hl 2 rfl) ?_
        obtain ⟨o_7, eo_7, hE⟩ := cl_e hE
        refine x_kI (o := o_7) (z_runS (As := [.int (hI h r_6 10), .int x2]) (rest := [.int (hI h r_4 x3.toNatClampNeg)]) C (ct_X15_valueOf l X eo_7) cw_X15_398 hW hZ rfl hl.1 (Nat.le_of_ble_eq_true rfl) rfl dX15_royalOf_35 ⟨Nat.le_of_ble_eq_true rfl, Nat.le_of_ble_eq_true rfl⟩ ⟨Nat.le_refl _, Nat.le_refl _⟩) hZ (fun _ _ hW km hZ => ?_)
        replace hkm := hkm.tr km
        replace k_x0 := km.at k_x0 (by decide)
        replace k_x1 := km.at k_x1 (by decide)
        refine lv_icmp_ne (tgt := 43) C.1 C.2.1 dX15_royalOf_38 (by decide) (fun c_8 => ?_) (fun c_8 => ?_)
        · have hE := br_n hE c_8
          obtain ⟨v_9, ev_9, hE⟩ := nm_e2 hE
          refine lv_iinc (v := v_9) (lv' := [(3, .int v_9), (0, .ref x0), (1, .ref x1), (2, .int x2)]) C.1 C.2.1 dX15_royalOf_43 hl (k := 3) rfl (by rw [ev_9]; rfl) (by decide) rfl (fun ls hl => ?_)
          refine lv_goto (tgt := 2) C.1 C.2.1 dX15_royalOf_46 (by decide) ?_
          exact hk_2 _ _ _ _ _ _ _ k_x0 k_x1 hkm hW hZ _ (lv_sub hl [1, 2, 3, 0] rfl) hE
        · have hE := br_p hE c_8
          refine lv_iload_n C.1 C.2.1 dX15_royalOf_41 rfl (lv_at hl 3 rfl) ?_
          exact x_iret C rfl rfl hW hZ hkm hE dX15_royalOf_42
set_option maxRecDepth 20000 in
theorem ct_X15_royalOf (l : Launch) (X : Ec) (F : Nat) {h : Hp} {x0 : Nat} {x1 : Nat} {x2 : Int32} {o : Int32 × Hp} (k_x0 : hK h x0 = 15) (k_x1 : hK h x1 = 12) (hE : sX15_royalOf F h x0 x1 x2 = some o) : MetI l yX15_royalOf cX15_royalOf 4 (some .int) 1 21 X [.ref x0, .ref x1, .int x2] h o := by
  refine x_met (by decide) (Nat.le_of_ble_eq_true rfl) ?_
  intro p e s m below meth c ls C hl hW hZ
  have hl : lv_has ls 4 [(0, .ref x0), (1, .ref x1), (2, .int x2)] := hl
  have hkm : Km h h := Km.rf h
  refine lv_iconst (v := (0 : Int32)) C.1 C.2.1 dX15_royalOf_0 (by decide) ?_
  refine lv_istore_n (lv' := [(3, .int (0 : Int32)), (0, .ref x0), (1, .ref x1), (2, .int x2)]) C.1 C.2.1 dX15_royalOf_1 rfl hl (by decide) rfl (fun ls hl => ?_)
  exact bX15_royalOf_2 C F k_x0 k_x1 hkm hW hZ _ (lv_sub hl [1, 2, 3, 0] rfl) hE
theorem ms_150 : Cond.selects RX15 yX15_royalOf yX15_royalOf ∈ W0 := w0_in (List.mem_append_left _ (List.mem_of_getElem? (i := 150) (by decide +kernel))) rfl
theorem ms_148 : Cond.selects RX15 yX15_rankFor yX15_rankFor ∈ W0 := w0_in (List.mem_append_left _ (List.mem_of_getElem? (i := 148) (by decide +kernel))) rfl
theorem m_2417 : Cond.methodLink RX15 489 yX15_sideOf ∈ W0 := w0_in (List.mem_append_right _ (List.mem_of_getElem? (i := 2417) (by decide +kernel))) rfl
theorem m_2418 : Cond.static yX15_sideOf ∈ W0 := w0_in (List.mem_append_right _ (List.mem_of_getElem? (i := 2418) (by decide +kernel))) rfl
theorem m_2419 : Cond.code yX15_sideOf cX15_sideOf 1 (some .int) ∈ W0 := w0_in (List.mem_append_right _ (List.mem_of_getElem? (i := 2419) (by decide +kernel))) rfl
theorem m_2420 : Cond.methodLink RX15 492 yX15_manOf ∈ W0 := w0_in (List.mem_append_right _ (List.mem_of_getElem? (i := 2420) (by decide +kernel))) rfl
theorem m_2421 : Cond.static yX15_manOf ∈ W0 := w0_in (List.mem_append_right _ (List.mem_of_getElem? (i := 2421) (by decide +kernel))) rfl
theorem m_2422 : Cond.code yX15_manOf cX15_manOf 1 (some .int) ∈ W0 := w0_in (List.mem_append_right _ (List.mem_of_getElem? (i := 2422) (by decide +kernel))) rfl
theorem m_2427 : Cond.methodLink RX15 498 yX15_rankFor ∈ W0 := w0_in (List.mem_append_right _ (List.mem_of_getElem? (i := 2427) (by decide +kernel))) rfl
theorem m_2429 : Cond.instanceMethod yX15_rankFor ∈ W0 := w0_in (List.mem_append_right _ (List.mem_of_getElem? (i := 2429) (by decide +kernel))) rfl
theorem m_2430 : Cond.code yX15_rankFor cX15_rankFor 3 (some .int) ∈ W0 := w0_in (List.mem_append_right _ (List.mem_of_getElem? (i := 2430) (by decide +kernel))) rfl
theorem m_2435 : Cond.methodLink RX15 508 yX15_royalOf ∈ W0 := w0_in (List.mem_append_right _ (List.mem_of_getElem? (i := 2435) (by decide +kernel))) rfl
theorem m_2437 : Cond.instanceMethod yX15_royalOf ∈ W0 := w0_in (List.mem_append_right _ (List.mem_of_getElem? (i := 2437) (by decide +kernel))) rfl
theorem m_2438 : Cond.code yX15_royalOf cX15_royalOf 4 (some .int) ∈ W0 := w0_in (List.mem_append_right _ (List.mem_of_getElem? (i := 2438) (by decide +kernel))) rfl
section
variable {p : Program} {l : Launch} {e : Env} {R : Room} {s : State} {m : MethodId} {args : Array Value} {below : List Frame} {meth : Method} {c : Code} {H : Heap} {locs : List Loc} {cells slots : Nat} {Q : State → Prop}
variable {cc : ByteArray} {pc : Nat} {ls : Array Slot} {rest : List Value} {X : Ec} {h h1 : Hp} {nL : Nat} {rt : Option FieldType} {mn : String}
theorem gf_X15_228 {a : Nat} (C : Cx X p s m args meth c RX15 cc nL rt mn) (hW : Wx X h H) (ha : hK h a = 14) (hdg : decode cc pc = .ok (.getfield 228, 3)) (kk : W p l e R s m args below meth c H locs cells slots Q (F0 m (pc + 3) ls (.int (hI h a 12) :: rest))) : W p l e R s m args below meth c H locs cells slots Q (F0 m pc ls (.ref a :: rest)) :=
  y_getiN C hW ha i_X14 (by decide) rfl (by decide) n_1850 rfl hdg kk
end
theorem cw_X15_492 : cwd RX15 492 yX15_manOf cX15_manOf 1 (some .int) true 1 := ⟨m_2422, m_2420, m_20, m_2421, by decide, by decide, by decide +kernel⟩
theorem cw_X15_489 : cwd RX15 489 yX15_sideOf cX15_sideOf 1 (some .int) true 1 := ⟨m_2419, m_2417, m_20, m_2418, by decide, by decide, by decide +kernel⟩
theorem cw_X15_498 : cwd RX15 498 yX15_rankFor cX15_rankFor 3 (some .int) false 2 := ⟨m_2430, m_2427, m_20, ⟨m_2429, ms_148⟩, by decide, by decide, by decide +kernel⟩
theorem cw_X15_508 : cwd RX15 508 yX15_royalOf cX15_royalOf 4 (some .int) false 2 := ⟨m_2438, m_2435, m_20, ⟨m_2437, ms_150⟩, by decide, by decide, by decide +kernel⟩
theorem dX15_isRight_0 : decode cX15_isRight 0 = .ok (.aload_n 1, 1) := by decide +kernel
theorem dX15_isRight_1 : decode cX15_isRight 1 = .ok (.getfield 396, 3) := by decide +kernel
theorem dX15_isRight_4 : decode cX15_isRight 4 = .ok (.iload_n 2, 1) := by decide +kernel
theorem dX15_isRight_5 : decode cX15_isRight 5 = .ok (.iaload, 1) := by decide +kernel
theorem dX15_isRight_6 : decode cX15_isRight 6 = .ok (.istore_n 3, 1) := by decide +kernel
theorem dX15_isRight_7 : decode cX15_isRight 7 = .ok (.iload_n 3, 1) := by decide +kernel
theorem dX15_isRight_8 : decode cX15_isRight 8 = .ok (.ifCond .eq 41, 3) := by decide +kernel
theorem dX15_isRight_11 : decode cX15_isRight 11 = .ok (.aload_n 0, 1) := by decide +kernel
theorem dX15_isRight_12 : decode cX15_isRight 12 = .ok (.getfield 252, 3) := by decide +kernel
theorem dX15_isRight_15 : decode cX15_isRight 15 = .ok (.getfield 228, 3) := by decide +kernel
theorem dX15_isRight_18 : decode cX15_isRight 18 = .ok (.iconst (-1), 1) := by decide +kernel
theorem dX15_isRight_19 : decode cX15_isRight 19 = .ok (.if_icmp .eq 30, 3) := by decide +kernel
theorem dX15_isRight_22 : decode cX15_isRight 22 = .ok (.iload_n 3, 1) := by decide +kernel
theorem dX15_isRight_23 : decode cX15_isRight 23 = .ok (.invokestatic 492, 3) := by decide +kernel
theorem dX15_isRight_26 : decode cX15_isRight 26 = .ok (.aload_n 0, 1) := by decide +kernel
theorem dX15_isRight_27 : decode cX15_isRight 27 = .ok (.getfield 252, 3) := by decide +kernel
theorem dX15_isRight_30 : decode cX15_isRight 30 = .ok (.getfield 228, 3) := by decide +kernel
theorem dX15_isRight_33 : decode cX15_isRight 33 = .ok (.if_icmp .ne 16, 3) := by decide +kernel
theorem dX15_isRight_36 : decode cX15_isRight 36 = .ok (.aload_n 0, 1) := by decide +kernel
theorem dX15_isRight_37 : decode cX15_isRight 37 = .ok (.iload_n 2, 1) := by decide +kernel
theorem dX15_isRight_38 : decode cX15_isRight 38 = .ok (.iload_n 3, 1) := by decide +kernel
theorem dX15_isRight_39 : decode cX15_isRight 39 = .ok (.invokestatic 489, 3) := by decide +kernel
theorem dX15_isRight_42 : decode cX15_isRight 42 = .ok (.invokevirtual 498, 3) := by decide +kernel
theorem dX15_isRight_45 : decode cX15_isRight 45 = .ok (.iconst 1, 1) := by decide +kernel
theorem dX15_isRight_46 : decode cX15_isRight 46 = .ok (.if_icmp .eq 5, 3) := by decide +kernel
theorem dX15_isRight_49 : decode cX15_isRight 49 = .ok (.iconst 0, 1) := by decide +kernel
theorem dX15_isRight_50 : decode cX15_isRight 50 = .ok (.ireturn, 1) := by decide +kernel
theorem dX15_isRight_51 : decode cX15_isRight 51 = .ok (.aload_n 0, 1) := by decide +kernel
theorem dX15_isRight_52 : decode cX15_isRight 52 = .ok (.aload_n 1, 1) := by decide +kernel
theorem dX15_isRight_53 : decode cX15_isRight 53 = .ok (.iload_n 3, 1) := by decide +kernel
theorem dX15_isRight_54 : decode cX15_isRight 54 = .ok (.invokestatic 489, 3) := by decide +kernel
theorem dX15_isRight_57 : decode cX15_isRight 57 = .ok (.invokevirtual 508, 3) := by decide +kernel
theorem dX15_isRight_60 : decode cX15_isRight 60 = .ok (.istore 4, 2) := by decide +kernel
theorem dX15_isRight_62 : decode cX15_isRight 62 = .ok (.iload 4, 2) := by decide +kernel
theorem dX15_isRight_64 : decode cX15_isRight 64 = .ok (.iconst (-1), 1) := by decide +kernel
theorem dX15_isRight_65 : decode cX15_isRight 65 = .ok (.if_icmp .eq 21, 3) := by decide +kernel
theorem dX15_isRight_68 : decode cX15_isRight 68 = .ok (.aload_n 0, 1) := by decide +kernel
theorem dX15_isRight_69 : decode cX15_isRight 69 = .ok (.iload 4, 2) := by decide +kernel
theorem dX15_isRight_71 : decode cX15_isRight 71 = .ok (.iload_n 3, 1) := by decide +kernel
theorem dX15_isRight_72 : decode cX15_isRight 72 = .ok (.invokestatic 489, 3) := by decide +kernel
theorem dX15_isRight_75 : decode cX15_isRight 75 = .ok (.invokevirtual 498, 3) := by decide +kernel
theorem dX15_isRight_78 : decode cX15_isRight 78 = .ok (.iconst 1, 1) := by decide +kernel
theorem dX15_isRight_79 : decode cX15_isRight 79 = .ok (.if_icmp .ne 7, 3) := by decide +kernel
theorem dX15_isRight_82 : decode cX15_isRight 82 = .ok (.iconst 1, 1) := by decide +kernel
theorem dX15_isRight_83 : decode cX15_isRight 83 = .ok (.goto 4, 3) := by decide +kernel
theorem dX15_isRight_86 : decode cX15_isRight 86 = .ok (.iconst 0, 1) := by decide +kernel
theorem dX15_isRight_87 : decode cX15_isRight 87 = .ok (.ireturn, 1) := by decide +kernel
def sX15_isRight_49 (F : Nat) (h : Hp) : Option (Int32 × Hp) := some ((0 : Int32), h)
def sX15_isRight_87 (F : Nat) (h : Hp) (t0 : Int32) : Option (Int32 × Hp) := gd (t0 &&& 1 = t0) <| some (t0, h)
def sX15_isRight_86 (F : Nat) (h : Hp) : Option (Int32 × Hp) := sX15_isRight_87 F h (0 : Int32)
def sX15_isRight (F : Nat) (h : Hp) (x0 : Nat) (x1 : Nat) (x2 : Int32) : Option (Int32 × Hp) := cl (hR h x1 0) fun r_1 => gd (inB x2 (hN h r_1)) <| nm (hI h r_1 x2.toNatClampNeg) fun v_3 => br (v_3 = 0) (sX15_isRight_49 F h ) (cl (hR h x0 4) fun r_5 => br ((hI h r_5 12) = (-1 : Int32)) (sX15_isRight_49 F h ) (cl (sX15_manOf h v_3) fun o_7 => cl (hR o_7.2 x0 4) fun r_8 => br (o_7.1 = (hI o_7.2 r_8 12)) (cl (sX15_sideOf o_7.2 v_3) fun o_10 => cl (sX15_rankFor o_10.2 x0 x2 o_10.1) fun o_11 => br (o_11.1 = (1 : Int32)) (cl (sX15_sideOf o_11.2 v_3) fun o_13 => cl (sX15_royalOf F o_13.2 x0 x1 o_13.1) fun o_14 => br (o_14.1 = (-1 : Int32)) (sX15_isRight_86 F o_14.2 ) (cl (sX15_sideOf o_14.2 v_3) fun o_16 => cl (sX15_rankFor o_16.2 x0 o_14.1 o_16.1) fun o_17 => br (o_17.1 = (1 : Int32)) (sX15_isRight_87 F o_17.2 (1 : Int32)) (sX15_isRight_86 F o_17.2 ))) (sX15_isRight_49 F o_11.2 )) (sX15_isRight_49 F o_7.2 )))
theorem moX15_isRight_49 {o : Int32 × Hp} {F : Nat} {h : Hp} (hE : sX15_isRight_49 F h  = some o) : Le h o.2 := by
  cases hE
  exact Le.rf _
theorem moX15_isRight_87 {o : Int32 × Hp} {F : Nat} {h : Hp} {t0 : Int32} (hE : sX15_isRight_87 F h  t0 = some o) : Le h o.2 := by
  obtain ⟨g_1, hE⟩ := gd_e hE
  cases hE
  exact Le.rf _
theorem moX15_isRight_86 {o : Int32 × Hp} {F : Nat} {h : Hp} (hE : sX15_isRight_86 F h  = some o) : Le h o.2 := by
  exact moX15_isRight_87 hE
theorem moX15_isRight {o : Int32 × Hp} {F : Nat} {h : Hp} {x0 : Nat} {x1 : Nat} {x2 : Int32} (hE : sX15_isRight F h x0 x1 x2 = some o) : Le h o.2 := by
  obtain ⟨r_1, er_1, hE⟩ := cl_e hE
  obtain ⟨g_2, hE⟩ := gd_e hE
  obtain ⟨v_3, ev_3, hE⟩ := nm_e2 hE
  rcases br_e hE with ⟨_, hE⟩ | ⟨_, hE⟩
  · exact moX15_isRight_49 hE
  · obtain ⟨r_5, er_5, hE⟩ := cl_e hE
    rcases br_e hE with ⟨_, hE⟩ | ⟨_, hE⟩
    · exact moX15_isRight_49 hE
    · obtain ⟨o_7, eo_7, hE⟩ := cl_e hE
      refine (moX15_manOf eo_7).tr ?_
      obtain ⟨r_8, er_8, hE⟩ := cl_e hE
      rcases br_e hE with ⟨_, hE⟩ | ⟨_, hE⟩
      · obtain ⟨o_10, eo_10, hE⟩ := cl_e hE
        refine (moX15_sideOf eo_10).tr ?_
        obtain ⟨o_11, eo_11, hE⟩ := cl_e hE
        refine (moX15_rankFor eo_11).tr ?_
        rcases br_e hE with ⟨_, hE⟩ | ⟨_, hE⟩
        · obtain ⟨o_13, eo_13, hE⟩ := cl_e hE
          refine (moX15_sideOf eo_13).tr ?_
          obtain ⟨o_14, eo_14, hE⟩ := cl_e hE
          refine (moX15_royalOf eo_14).tr ?_
          rcases br_e hE with ⟨_, hE⟩ | ⟨_, hE⟩
          · exact moX15_isRight_86 hE
          · obtain ⟨o_16, eo_16, hE⟩ := cl_e hE
            refine (moX15_sideOf eo_16).tr ?_
            obtain ⟨o_17, eo_17, hE⟩ := cl_e hE
            refine (moX15_rankFor eo_17).tr ?_
            rcases br_e hE with ⟨_, hE⟩ | ⟨_, hE⟩
            · exact moX15_isRight_87 hE
            · exact moX15_isRight_86 hE
        · exact moX15_isRight_49 hE
      · exact moX15_isRight_49 hE
set_option maxRecDepth 20000 in
theorem bX15_isRight_49 {p : Program} {l : Launch} {e : Env} {s : State} {m : MethodId} {args : Array Value} {below : List Frame} {meth : Method} {c : Code} {X : Ec} {h0 : Hp} {o : Int32 × Hp} {F : Nat} (C : Cx X p s m args meth c RX15 cX15_isRight 5 (some .boolean) "isRight") {h : Hp} {H : Heap} {locs : List Loc} (hkm : Km h0 h) (hW : Wx X h H) (hZ : va_S (aA (eB X)) s.heap H locs) (ls : Array Slot) (hl : lv_has ls 5 []) (hE : sX15_isRight_49 F h  = some o) : W p l e (rm 2 44) s m args below meth c H locs 0 0 (MQ below (QI X h0 o.1 o.2) args s 0 0 (aA (eB X))) (F0 m 49 ls []) := by
  refine lv_iconst (v := (0 : Int32)) C.1 C.2.1 dX15_isRight_49 (by decide) ?_
  exact x_iret C rfl (by decide) hW hZ hkm hE dX15_isRight_50
set_option maxRecDepth 20000 in
theorem bX15_isRight_87 {p : Program} {l : Launch} {e : Env} {s : State} {m : MethodId} {args : Array Value} {below : List Frame} {meth : Method} {c : Code} {X : Ec} {h0 : Hp} {o : Int32 × Hp} {F : Nat} (C : Cx X p s m args meth c RX15 cX15_isRight 5 (some .boolean) "isRight") {h : Hp} {t0 : Int32} {H : Heap} {locs : List Loc} (hkm : Km h0 h) (hW : Wx X h H) (hZ : va_S (aA (eB X)) s.heap H locs) (ls : Array Slot) (hl : lv_has ls 5 []) (hE : sX15_isRight_87 F h  t0 = some o) : W p l e (rm 2 44) s m args below meth c H locs 0 0 (MQ below (QI X h0 o.1 o.2) args s 0 0 (aA (eB X))) (F0 m 87 ls [.int t0]) := by
  obtain ⟨g_1, hE⟩ := gd_e hE
  exact x_iret C rfl (narB g_1) hW hZ hkm hE dX15_isRight_87
set_option maxRecDepth 20000 in
theorem bX15_isRight_86 {p : Program} {l : Launch} {e : Env} {s : State} {m : MethodId} {args : Array Value} {below : List Frame} {meth : Method} {c : Code} {X : Ec} {h0 : Hp} {o : Int32 × Hp} {F : Nat} (C : Cx X p s m args meth c RX15 cX15_isRight 5 (some .boolean) "isRight") {h : Hp} {H : Heap} {locs : List Loc} (hkm : Km h0 h) (hW : Wx X h H) (hZ : va_S (aA (eB X)) s.heap H locs) (ls : Array Slot) (hl : lv_has ls 5 []) (hE : sX15_isRight_86 F h  = some o) : W p l e (rm 2 44) s m args below meth c H locs 0 0 (MQ below (QI X h0 o.1 o.2) args s 0 0 (aA (eB X))) (F0 m 86 ls []) := by
  refine lv_iconst (v := (0 : Int32)) C.1 C.2.1 dX15_isRight_86 (by decide) ?_
  exact bX15_isRight_87 C hkm hW hZ _ (lv_sub hl [] rfl) hE
set_option maxRecDepth 20000 in
theorem ct_X15_isRight (l : Launch) (X : Ec) (F : Nat) {h : Hp} {x0 : Nat} {x1 : Nat} {x2 : Int32} {o : Int32 × Hp} (k_x0 : hK h x0 = 15) (k_x1 : hK h x1 = 12) (hE : sX15_isRight F h x0 x1 x2 = some o) : MetI l yX15_isRight cX15_isRight 5 (some .boolean) 2 44 X [.ref x0, .ref x1, .int x2] h o := by
  refine x_met (by decide) (Nat.le_of_ble_eq_true rfl) ?_
  intro p e s m below meth c ls C hl hW hZ
  have hl : lv_has ls 5 [(0, .ref x0), (1, .ref x1), (2, .int x2)] := hl
  have hkm : Km h h := Km.rf h
  refine lv_aload_n C.1 C.2.1 dX15_isRight_0 rfl (lv_at hl 1 rfl) ?_
  obtain ⟨r_1, er_1, hE⟩ := cl_e hE
  refine gf_X15_396 C hW k_x1 er_1 dX15_isRight_1 (fun k_r_1 => ?_)
  refine lv_iload_n C.1 C.2.1 dX15_isRight_4 rfl (lv_at hl 2 rfl) ?_
  obtain ⟨g_2, hE⟩ := gd_e hE
  refine y_iald C hW k_r_1 g_2 dX15_isRight_5 ?_
  obtain ⟨v_3, ev_3, hE⟩ := nm_e2 hE
  refine x_nmI ev_3 ?_
  refine lv_istore_n (lv' := [(3, .int v_3), (0, .ref x0), (1, .ref x1), (2, .int x2)]) C.1 C.2.1 dX15_isRight_6 rfl hl (by decide) rfl (fun ls hl => ?_)
  refine lv_iload_n C.1 C.2.1 dX15_isRight_7 rfl (lv_at hl 0 rfl) ?_
  refine lv_if_eq (tgt := 49) C.1 C.2.1 dX15_isRight_8 (by decide) (fun c_4 => ?_) (fun c_4 => ?_)
  · have hE := br_p hE c_4
    exact bX15_isRight_49 C hkm hW hZ _ (lv_sub hl [] rfl) hE
  · have hE := br_n hE c_4
    refine lv_aload_n C.1 C.2.1 dX15_isRight_11 rfl (lv_at hl 1 rfl) ?_
    obtain ⟨r_5, er_5, hE⟩ := cl_e hE
    refine gf_X15_252 C hW k_x0 er_5 dX15_isRight_12 (fun k_r_5 => ?_)
    refine gf_X15_228 C hW k_r_5 dX15_isRight_15 ?_
    refine lv_iconst (v := (-1 : Int32)) C.1 C.2.1 dX15_isRight_18 (by decide) ?_
    refine lv_icmp_eq (tgt := 49) C.1 C.2.1 dX15_isRight_19 (by decide) (fun c_6 => ?_) (fun c_6 => ?_)
    · have hE := br_p hE c_6
      exact bX15_isRight_49 C hkm hW hZ _ (lv_sub hl [] rfl) hE
    · have hE := br_n hE c_6
      refine lv_iload_n C.1 C.2.1 dX15_isRight_22 rfl (lv_at hl 0 rfl) ?_
      obtain ⟨o_7, eo_7, hE⟩ := cl_e hE
      refine x_kI (o := o_7) (z_runS (As := [.int v_3]) (rest := []) C (ct_X15_manOf l X eo_7) cw_X15_492 hW hZ rfl hl.1 (Nat.le_of_ble_eq_true rfl) rfl dX15_isRight_23 ⟨Nat.le_of_ble_eq_true rfl, Nat.le_of_ble_eq_true rfl⟩ ⟨Nat.le_refl _, Nat.le_refl _⟩) hZ (fun _ _ hW km hZ => ?_)
      replace hkm := hkm.tr km
      replace k_x0 := km.at k_x0 (by decide)
      replace k_x1 := km.at k_x1 (by decide)
      refine lv_aload_n C.1 C.2.1 dX15_isRight_26 rfl (lv_at hl 1 rfl) ?_
      obtain ⟨r_8, er_8, hE⟩ := cl_e hE
      refine gf_X15_252 C hW k_x0 er_8 dX15_isRight_27 (fun k_r_8 => ?_)
      refine gf_X15_228 C hW k_r_8 dX15_isRight_30 ?_
      refine lv_icmp_ne (tgt := 49) C.1 C.2.1 dX15_isRight_33 (by decide) (fun c_9 => ?_) (fun c_9 => ?_)
      · have hE := br_n hE c_9
        exact bX15_isRight_49 C hkm hW hZ _ (lv_sub hl [] rfl) hE
      · have hE := br_p hE c_9
        refine lv_aload_n C.1 C.2.1 dX15_isRight_36 rfl (lv_at hl 1 rfl) ?_
        refine lv_iload_n C.1 C.2.1 dX15_isRight_37 rfl (lv_at hl 3 rfl) ?_
        refine lv_iload_n C.1 C.2.1 dX15_isRight_38 rfl (lv_at hl 0 rfl) ?_
        obtain ⟨o_10, eo_10, hE⟩ := cl_e hE
        refine x_kI (o := o_10) (z_runS (As := [.int v_3]) (rest := [.int x2, .ref x0]) C (ct_X15_sideOf l X eo_10) cw_X15_489 hW hZ rfl hl.1 (Nat.le_of_ble_eq_true rfl) rfl dX15_isRight_39 ⟨Nat.le_of_ble_eq_true rfl, Nat.le_of_ble_eq_true rfl⟩ ⟨Nat.le_refl _, Nat.le_refl _⟩) hZ (fun _ _ hW km hZ => ?_)
        replace hkm := hkm.tr km
        replace k_x0 := km.at k_x0 (by decide)
        replace k_x1 := km.at k_x1 (by decide)
        obtain ⟨o_11, eo_11, hE⟩ := cl_e hE
        refine x_kI (o := o_11) (z_runV (As := [.int x2, .int o_10.1]) (rest := []) C (ct_X15_rankFor l X k_x0 eo_11) cw_X15_498 hW hZ k_x0 (by decide) rfl rfl rfl hl.1 (Nat.le_of_ble_eq_true rfl) rfl dX15_isRight_42 ⟨Nat.le_of_ble_eq_true rfl, Nat.le_of_ble_eq_true rfl⟩ ⟨Nat.le_refl _, Nat.le_refl _⟩) hZ (fun _ _ hW km hZ => ?_)
        replace hkm := hkm.tr km
        replace k_x0 := km.at k_x0 (by decide)
        replace k_x1 := km.at k_x1 (by decide)
        refine lv_iconst (v := (1 : Int32)) C.1 C.2.1 dX15_isRight_45 (by decide) ?_
        refine lv_icmp_eq (tgt := 51) C.1 C.2.1 dX15_isRight_46 (by decide) (fun c_12 => ?_) (fun c_12 => ?_)
        · have hE := br_p hE c_12
          refine lv_aload_n C.1 C.2.1 dX15_isRight_51 rfl (lv_at hl 1 rfl) ?_
          refine lv_aload_n C.1 C.2.1 dX15_isRight_52 rfl (lv_at hl 2 rfl) ?_
          refine lv_iload_n C.1 C.2.1 dX15_isRight_53 rfl (lv_at hl 0 rfl) ?_
          obtain ⟨o_13, eo_13, hE⟩ := cl_e hE
          refine x_kI (o := o_13) (z_runS (As := [.int v_3]) (rest := [.ref x1, .ref x0]) C (ct_X15_sideOf l X eo_13) cw_X15_489 hW hZ rfl hl.1 (Nat.le_of_ble_eq_true rfl) rfl dX15_isRight_54 ⟨Nat.le_of_ble_eq_true rfl, Nat.le_of_ble_eq_true rfl⟩ ⟨Nat.le_refl _, Nat.le_refl _⟩) hZ (fun _ _ hW km hZ => ?_)
          replace hkm := hkm.tr km
          replace k_x0 := km.at k_x0 (by decide)
          replace k_x1 := km.at k_x1 (by decide)
          obtain ⟨o_14, eo_14, hE⟩ := cl_e hE
          refine x_kI (o := o_14) (z_runV (As := [.ref x1, .int o_13.1]) (rest := []) C (ct_X15_royalOf l X F k_x0 k_x1 eo_14) cw_X15_508 hW hZ k_x0 (by decide) rfl rfl rfl hl.1 (Nat.le_of_ble_eq_true rfl) rfl dX15_isRight_57 ⟨Nat.le_of_ble_eq_true rfl, Nat.le_of_ble_eq_true rfl⟩ ⟨Nat.le_refl _, Nat.le_refl _⟩) hZ (fun _ _ hW km hZ => ?_)
          replace hkm := hkm.tr km
          replace k_x0 := km.at k_x0 (by decide)
          replace k_x1 := km.at k_x1 (by decide)
          refine lv_istore (lv' := [(4, .int o_14.1), (3, .int v_3), (0, .ref x0), (1, .ref x1), (2, .int x2)]) C.1 C.2.1 dX15_isRight_60 hl (by decide) rfl (fun ls hl => ?_)
          refine lv_iload C.1 C.2.1 dX15_isRight_62 (lv_at hl 0 rfl) ?_
          refine lv_iconst (v := (-1 : Int32)) C.1 C.2.1 dX15_isRight_64 (by decide) ?_
          refine lv_icmp_eq (tgt := 86) C.1 C.2.1 dX15_isRight_65 (by decide) (fun c_15 => ?_) (fun c_15 => ?_)
          · have hE := br_p hE c_15
            exact bX15_isRight_86 C hkm hW hZ _ (lv_sub hl [] rfl) hE
          · have hE := br_n hE c_15
            refine lv_aload_n C.1 C.2.1 dX15_isRight_68 rfl (lv_at hl 2 rfl) ?_
            refine lv_iload C.1 C.2.1 dX15_isRight_69 (lv_at hl 0 rfl) ?_
            refine lv_iload_n C.1 C.2.1 dX15_isRight_71 rfl (lv_at hl 1 rfl) ?_
            obtain ⟨o_16, eo_16, hE⟩ := cl_e hE
            refine x_kI (o := o_16) (z_runS (As := [.int v_3]) (rest := [.int o_14.1, .ref x0]) C (ct_X15_sideOf l X eo_16) cw_X15_489 hW hZ rfl hl.1 (Nat.le_of_ble_eq_true rfl) rfl dX15_isRight_72 ⟨Nat.le_of_ble_eq_true rfl, Nat.le_of_ble_eq_true rfl⟩ ⟨Nat.le_refl _, Nat.le_refl _⟩) hZ (fun _ _ hW km hZ => ?_)
            replace hkm := hkm.tr km
            replace k_x0 := km.at k_x0 (by decide)
            replace k_x1 := km.at k_x1 (by decide)
            obtain ⟨o_17, eo_17, hE⟩ := cl_e hE
            refine x_kI (o := o_17) (z_runV (As := [.int o_14.1, .int o_16.1]) (rest := []) C (ct_X15_rankFor l X k_x0 eo_17) cw_X15_498 hW hZ k_x0 (by decide) rfl rfl rfl hl.1 (Nat.le_of_ble_eq_true rfl) rfl dX15_isRight_75 ⟨Nat.le_of_ble_eq_true rfl, Nat.le_of_ble_eq_true rfl⟩ ⟨Nat.le_refl _, Nat.le_refl _⟩) hZ (fun _ _ hW km hZ => ?_)
            replace hkm := hkm.tr km
            replace k_x0 := km.at k_x0 (by decide)
            replace k_x1 := km.at k_x1 (by decide)
            refine lv_iconst (v := (1 : Int32)) C.1 C.2.1 dX15_isRight_78 (by decide) ?_
            refine lv_icmp_ne (tgt := 86) C.1 C.2.1 dX15_isRight_79 (by decide) (fun c_18 => ?_) (fun c_18 => ?_)
            · have hE := br_n hE c_18
              exact bX15_isRight_86 C hkm hW hZ _ (lv_sub hl [] rfl) hE
            · have hE := br_p hE c_18
              refine lv_iconst (v := (1 : Int32)) C.1 C.2.1 dX15_isRight_82 (by decide) ?_
              refine lv_goto (tgt := 87) C.1 C.2.1 dX15_isRight_83 (by decide) ?_
              exact bX15_isRight_87 C hkm hW hZ _ (lv_sub hl [] rfl) hE
        · have hE := br_n hE c_12
          exact bX15_isRight_49 C hkm hW hZ _ (lv_sub hl [] rfl) hE
