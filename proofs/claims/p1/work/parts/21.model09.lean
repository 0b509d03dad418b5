set_option maxRecDepth 100000 in
theorem m_2177 : Cond.fieldLink RX15 850 (TX15 66).1 (TX15 66).2.1 (TX15 66).2.2.1 ∈ W0 := w0_in (List.mem_append_right _ (List.mem_of_getElem? (i := 2177) rfl)) rfl
section
variable {p : Program} {l : Launch} {e : Env} {R : Room} {s : State} {m : MethodId} {args : Array Value} {below : List Frame} {meth : Method} {c : Code} {H : Heap} {locs : List Loc} {cells slots : Nat} {Q : State → Prop}
variable {cc : ByteArray} {pc : Nat} {ls : Array Slot} {rest : List Value} {X : Ec} {h h1 : Hp} {nL : Nat} {rt : Option FieldType} {mn : String}
theorem gf_X15_850 {a : Nat} (C : Cx X p s m args meth c RX15 cc nL rt mn) (hW : Wx X h H) (ha : hK h a = 15) (hdg : decode cc pc = .ok (.getfield 850, 3)) (kk : W p l e R s m args below meth c H locs cells slots Q (F0 m (pc + 3) ls (.int (hI h a 66) :: rest))) : W p l e R s m args below meth c H locs cells slots Q (F0 m pc ls (.ref a :: rest)) :=
  y_geti C hW ha i_X15 (by decide) rfl (by decide) m_2177 rfl hdg kk
end
theorem dX15_refutes_0 : decode cX15_refutes 0 = .ok (.aload_n 0, 1) := by decide +kernel
theorem dX15_refutes_1 : decode cX15_refutes 1 = .ok (.invokevirtual 862, 3) := by decide +kernel
theorem dX15_refutes_4 : decode cX15_refutes 4 = .ok (.ifCond .eq 11, 3) := by decide +kernel
theorem dX15_refutes_7 : decode cX15_refutes 7 = .ok (.aload_n 0, 1) := by decide +kernel
theorem dX15_refutes_8 : decode cX15_refutes 8 = .ok (.getfield 850, 3) := by decide +kernel
theorem dX15_refutes_11 : decode cX15_refutes 11 = .ok (.iconst 1, 1) := by decide +kernel
theorem dX15_refutes_12 : decode cX15_refutes 12 = .ok (.if_icmp .le 5, 3) := by decide +kernel
theorem dX15_refutes_15 : decode cX15_refutes 15 = .ok (.iconst (-1), 1) := by decide +kernel
theorem dX15_refutes_16 : decode cX15_refutes 16 = .ok (.ireturn, 1) := by decide +kernel
theorem dX15_refutes_17 : decode cX15_refutes 17 = .ok (.aload_n 0, 1) := by decide +kernel
theorem dX15_refutes_18 : decode cX15_refutes 18 = .ok (.iconst 0, 1) := by decide +kernel
theorem dX15_refutes_19 : decode cX15_refutes 19 = .ok (.invokevirtual 671, 3) := by decide +kernel
set_option maxRecDepth 20000 in
theorem moX15_refutes_15 {o : Int32 × Hp} {F : Nat} {h : Hp} (hE : sX15_refutes_15 F h  = some o) : Le h o.2 := by
  exact le_some2 hE
set_option maxRecDepth 20000 in
theorem moX15_refutes_4 {o : Int32 × Hp} {F : Nat} {h : Hp} {x0 : Nat} {x1 : Int32} {t0 : Int32} (hE : sX15_refutes_4 F h x0 x1 t0 = some o) : Le h o.2 := by
  rcases br_e hE with ⟨_, hE⟩ | ⟨_, hE⟩
  · exact moX15_refutes_15 hE
  · rcases br_e hE with ⟨_, hE⟩ | ⟨_, hE⟩
    · cases hE
    · exact moX15_refutes_15 hE
set_option maxRecDepth 20000 in
theorem moX15_refutes {o : Int32 × Hp} {F : Nat} {h : Hp} {x0 : Nat} {x1 : Int32} (hE : sX15_refutes F h x0 x1 = some o) : Le h o.2 := by
  obtain ⟨o_1, eo_1, hE⟩ := cl_e hE
  refine (moX15_isProblem eo_1).tr ?_
  exact moX15_refutes_4 hE
set_option maxRecDepth 20000 in
theorem bX15_refutes_15 {p : Program} {l : Launch} {e : Env} {s : State} {m : MethodId} {args : Array Value} {below : List Frame} {meth : Method} {c : Code} {X : Ec} {h0 : Hp} {o : Int32 × Hp} {F : Nat} (C : Cx X p s m args meth c RX15 cX15_refutes 4 (some .int) "refutes") {h : Hp} {H : Heap} {locs : List Loc} (hkl : Kl h0 h) (hW : Wx X h H) (hZ : va_S (aA (eB X)) s.heap H locs) (ls : Array Slot) (hl : lv_has ls 4 []) (hE : sX15_refutes_15 F h  = some o) : W p l e (rmA 1 20 h0 o.2) s m args below meth c H locs (hS h - hS h0) (hL h - hL h0) (MQ below (QIA X h0 o.1 o.2) args s (hS o.2 - hS h0) (hL o.2 - hL h0) (aA (eB X))) (F0 m 15 ls []) := by
  refine lv_iconst (v := (-1 : Int32)) C.1 C.2.1 dX15_refutes_15 (by decide) ?_
  exact x_iretA C rfl rfl hW hZ hkl hE dX15_refutes_16
set_option maxRecDepth 20000 in
theorem bX15_refutes_4 {p : Program} {l : Launch} {e : Env} {s : State} {m : MethodId} {args : Array Value} {below : List Frame} {meth : Method} {c : Code} {X : Ec} {h0 : Hp} {o : Int32 × Hp} {F : Nat} (C : Cx X p s m args meth c RX15 cX15_refutes 4 (some .int) "refutes") {h : Hp} {x0 : Nat} {x1 : Int32} {t0 : Int32} {H : Heap} {locs : List Loc} (k_x0 : hK h x0 = 15) (hkl : Kl h0 h) (hW : Wx X h H) (hZ : va_S (aA (eB X)) s.heap H locs) (ls : Array Slot) (hl : lv_has ls 4 [(0, .ref x0), (1, .int x1)]) (hE : sX15_refutes_4 F h x0 x1 t0 = some o) : W p l e (rmA 1 20 h0 o.2) s m args below meth c H locs (hS h - hS h0) (hL h - hL h0) (MQ below (QIA X h0 o.1 o.2) args s (hS o.2 - hS h0) (hL o.2 - hL h0) (aA (eB X))) (F0 m 4 ls [.int t0]) := by
  refine lv_if_eq (tgt := 15) C.1 C.2.1 dX15_refutes_4 (by decide) (fun c_1 => ?_) (fun c_1 => ?_)
  · have hE := br_p hE c_1
    exact bX15_refutes_15 C hkl hW hZ _ (lv_sub hl [] rfl) hE
  · have hE := br_n hE c_1
    refine lv_aload_n C.1 C.2.1 dX15_refutes_7 rfl (lv_at hl 0 rfl) ?_
    refine gf_X15_850 C hW k_x0 dX15_refutes_8 ?_
    refine lv_iconst (v := (1 : Int32)) C.1 C.2.1 dX15_refutes_11 (by decide) ?_
    refine lv_icmp_le (tgt := 17) C.1 C.2.1 dX15_refutes_12 (by decide) (fun c_2 => ?_) (fun c_2 => ?_)
    · have hE := br_p hE c_2
      refine lv_aload_n C.1 C.2.1 dX15_refutes_17 rfl (lv_at hl 0 rfl) ?_
      refine lv_iconst (v := (0 : Int32)) C.1 C.2.1 dX15_refutes_18 (by decide) ?_
      cases hE
    · have hE := br_n hE c_2
      exact bX15_refutes_15 C hkl hW hZ _ (lv_sub hl [] rfl) hE
set_option maxRecDepth 20000 in
theorem ct_X15_refutes (l : Launch) (X : Ec) (F : Nat) {h : Hp} {x0 : Nat} {x1 : Int32} {o : Int32 × Hp} (k_x0 : hK h x0 = 15) (hE : sX15_refutes F h x0 x1 = some o) : MetIA l yX15_refutes cX15_refutes 4 (some .int) 1 20 X [.ref x0, .int x1] h o := by
  refine x_metA (oh := o.2) (by decide) (Nat.le_of_ble_eq_true rfl) ?_
  intro p e s m below meth c ls C hl hW hZ
  have hl : lv_has ls 4 [(0, .ref x0), (1, .int x1)] := hl
  have hkl : Kl h h := Kl.rf h
  refine lv_aload_n C.1 C.2.1 dX15_refutes_0 rfl (lv_at hl 0 rfl) ?_
  obtain ⟨o_1, eo_1, hE⟩ := cl_e hE
  have m1 := moX15_isProblem eo_1
  have m2 := moX15_refutes_4 hE
  refine x_kI (o := o_1) (z_runV (As := []) (rest := []) C (ct_X15_isProblem l X k_x0 eo_1) cw_X15_862 hW hZ k_x0 (by decide) rfl rfl rfl hl.1 (Nat.le_of_ble_eq_true rfl) rfl dX15_refutes_1 ⟨Nat.le_of_ble_eq_true rfl, Nat.le_of_ble_eq_true rfl⟩ (rm_ok0 hkl m1 m2)) hZ (fun _ _ hW km hZ => ?_)
  replace hkl := hkl.tr km.l
  refine x_wc km ?_
  replace k_x0 := km.at k_x0 (by decide)
  exact bX15_refutes_4 C k_x0 hkl hW hZ _ (lv_sub hl [0, 1] rfl) hE
