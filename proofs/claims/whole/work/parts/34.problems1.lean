theorem dX4_reply_0 : decode cX4_reply 0 = .ok (.iload_n 1, 1) := by decide +kernel
theorem dX4_reply_1 : decode cX4_reply 1 = .ok (.iconst 1, 1) := by decide +kernel
theorem dX4_reply_2 : decode cX4_reply 2 = .ok (.iadd, 1) := by decide +kernel
theorem dX4_reply_3 : decode cX4_reply 3 = .ok (.aload_n 0, 1) := by decide +kernel
theorem dX4_reply_4 : decode cX4_reply 4 = .ok (.getfield 56, 3) := by decide +kernel
theorem dX4_reply_7 : decode cX4_reply 7 = .ok (.if_icmp .ge 17, 3) := by decide +kernel
theorem dX4_reply_10 : decode cX4_reply 10 = .ok (.aload_n 0, 1) := by decide +kernel
theorem dX4_reply_11 : decode cX4_reply 11 = .ok (.iload_n 1, 1) := by decide +kernel
theorem dX4_reply_12 : decode cX4_reply 12 = .ok (.iconst 1, 1) := by decide +kernel
theorem dX4_reply_13 : decode cX4_reply 13 = .ok (.iadd, 1) := by decide +kernel
theorem dX4_reply_14 : decode cX4_reply 14 = .ok (.invokevirtual 106, 3) := by decide +kernel
theorem dX4_reply_24 : decode cX4_reply 24 = .ok (.iconst 0, 1) := by decide +kernel
theorem dX4_reply_25 : decode cX4_reply 25 = .ok (.istore_n 2, 1) := by decide +kernel
theorem dX4_reply_26 : decode cX4_reply 26 = .ok (.iload_n 2, 1) := by decide +kernel
theorem dX4_reply_27 : decode cX4_reply 27 = .ok (.ifCond .ne 21, 3) := by decide +kernel
theorem dX4_reply_30 : decode cX4_reply 30 = .ok (.aload_n 0, 1) := by decide +kernel
theorem dX4_reply_31 : decode cX4_reply 31 = .ok (.getfield 50, 3) := by decide +kernel
theorem dX4_reply_34 : decode cX4_reply 34 = .ok (.iconst 1, 1) := by decide +kernel
theorem dX4_reply_35 : decode cX4_reply 35 = .ok (.if_icmp .ne 17, 3) := by decide +kernel
theorem dX4_reply_38 : decode cX4_reply 38 = .ok (.aload_n 0, 1) := by decide +kernel
theorem dX4_reply_39 : decode cX4_reply 39 = .ok (.iload_n 1, 1) := by decide +kernel
theorem dX4_reply_40 : decode cX4_reply 40 = .ok (.iconst 1, 1) := by decide +kernel
theorem dX4_reply_41 : decode cX4_reply 41 = .ok (.iadd, 1) := by decide +kernel
theorem dX4_reply_42 : decode cX4_reply 42 = .ok (.invokevirtual 109, 3) := by decide +kernel
theorem dX4_reply_45 : decode cX4_reply 45 = .ok (.ifCond .eq 7, 3) := by decide +kernel
theorem dX4_reply_48 : decode cX4_reply 48 = .ok (.iconst 0, 1) := by decide +kernel
theorem dX4_reply_49 : decode cX4_reply 49 = .ok (.goto 4, 3) := by decide +kernel
theorem dX4_reply_52 : decode cX4_reply 52 = .ok (.iconst 1, 1) := by decide +kernel
theorem dX4_reply_53 : decode cX4_reply 53 = .ok (.ireturn, 1) := by decide +kernel
def sX4_reply_53 (h : Hp) (t0 : Int32) : Option (Int32 × Hp) := some (t0, h)
def sX4_reply_48 (h : Hp) : Option (Int32 × Hp) := sX4_reply_53  h (0 : Int32)
def sX4_reply_52 (h : Hp) : Option (Int32 × Hp) := sX4_reply_53  h (1 : Int32)
def sX4_reply_25 (h : Hp) (x0 : Nat) (x1 : Int32) (t0 : Int32) : Option (Int32 × Hp) := br (t0 = 0) (br ((hI h x0 5) = (1 : Int32)) (cl (sX4_isGoal h x0 (x1 + (1 : Int32))) fun o_3 => br (o_3.1 = 0) (sX4_reply_52  o_3.2 ) (sX4_reply_48  o_3.2 )) (sX4_reply_52  h )) (sX4_reply_48  h )
def sX4_reply_24 (h : Hp) (x0 : Nat) (x1 : Int32) : Option (Int32 × Hp) := sX4_reply_25  h x0 x1 (0 : Int32)
def sX4_reply (h : Hp) (x0 : Nat) (x1 : Int32) : Option (Int32 × Hp) := br ((hI h x0 7) ≤ (x1 + (1 : Int32))) (sX4_reply_24  h x0 x1) (none)
set_option maxRecDepth 20000 in
theorem bX4_reply_53 {p : Program} {l : Launch} {e : Env} {s : State} {m : MethodId} {args : Array Value} {below : List Frame} {meth : Method} {c : Code} {X : Ec} {h0 : Hp} {o : Int32 × Hp} (C : Cx X p s m args meth c RX4 cX4_reply 3 (some .int) "reply") {h : Hp} {t0 : Int32} {H : Heap} {locs : List Loc} (hkm : Km h0 h) (hW : Wx X h H) (hZ : va_S (aA (eB X)) s.heap H locs) (ls : Array Slot) (hl : lv_has ls 3 []) (hE : sX4_reply_53 h  t0 = some o) : W p l e (rm 3 68) s m args below meth c H locs 0 0 (MQ below (QI X h0 o.1 o.2) args s 0 0 (aA (eB X))) (F0 m 53 ls [.int t0]) := by
  exact x_iret C rfl rfl hW hZ hkm hE dX4_reply_53
set_option maxRecDepth 20000 in
theorem bX4_reply_48 {p : Program} {l : Launch} {e : Env} {s : State} {m : MethodId} {args : Array Value} {below : List Frame} {meth : Method} {c : Code} {X : Ec} {h0 : Hp} {o : Int32 × Hp} (C : Cx X p s m args meth c RX4 cX4_reply 3 (some .int) "reply") {h : Hp} {H : Heap} {locs : List Loc} (hkm : Km h0 h) (hW : Wx X h H) (hZ : va_S (aA (eB X)) s.heap H locs) (ls : Array Slot) (hl : lv_has ls 3 []) (hE : sX4_reply_48 h  = some o) : W p l e (rm 3 68) s m args below meth c H locs 0 0 (MQ below (QI X h0 o.1 o.2) args s 0 0 (aA (eB X))) (F0 m 48 ls []) := by
  refine lv_iconst (v := (0 : Int32)) C.1 C.2.1 dX4_reply_48 (by decide) ?_
  refine lv_goto (tgt := 53) C.1 C.2.1 dX4_reply_49 (by decide) ?_
  exact bX4_reply_53 C hkm hW hZ _ (lv_sub hl [] rfl) hE
set_option maxRecDepth 20000 in
theorem bX4_reply_52 {p : Program} {l : Launch} {e : Env} {s : State} {m : MethodId} {args : Array Value} {below : List Frame} {meth : Method} {c : Code} {X : Ec} {h0 : Hp} {o : Int32 × Hp} (C : Cx X p s m args meth c RX4 cX4_reply 3 (some .int) "reply") {h : Hp} {H : Heap} {locs : List Loc} (hkm : Km h0 h) (hW : Wx X h H) (hZ : va_S (aA (eB X)) s.heap H locs) (ls : Array Slot) (hl : lv_has ls 3 []) (hE : sX4_reply_52 h  = some o) : W p l e (rm 3 68) s m args below meth c H locs 0 0 (MQ below (QI X h0 o.1 o.2) args s 0 0 (aA (eB X))) (F0 m 52 ls []) := by
  refine lv_iconst (v := (1 : Int32)) C.1 C.2.1 dX4_reply_52 (by decide) ?_
  exact bX4_reply_53 C hkm hW hZ _ (lv_sub hl [] rfl) hE
set_option maxRecDepth 20000 in
theorem bX4_reply_25 {p : Program} {l : Launch} {e : Env} {s : State} {m : MethodId} {args : Array Value} {below : List Frame} {meth : Method} {c : Code} {X : Ec} {h0 : Hp} {o : Int32 × Hp} (C : Cx X p s m args meth c RX4 cX4_reply 3 (some .int) "reply") {h : Hp} {x0 : Nat} {x1 : Int32} {t0 : Int32} {H : Heap} {locs : List Loc} (k_x0 : hK h x0 = 4) (hkm : Km h0 h) (hW : Wx X h H) (hZ : va_S (aA (eB X)) s.heap H locs) (ls : Array Slot) (hl : lv_has ls 3 [(0, .ref x0), (1, .int x1)]) (hE : sX4_reply_25 h x0 x1 t0 = some o) : W p l e (rm 3 68) s m args below meth c H locs 0 0 (MQ below (QI X h0 o.1 o.2) args s 0 0 (aA (eB X))) (F0 m 25 ls [.int t0]) := by
  refine lv_istore_n (lv' := [(2, .int t0), (0, .ref x0), (1, .int x1)]) C.1 C.2.1 dX4_reply_25 rfl hl (by decide) rfl (fun ls hl => ?_)
  refine lv_iload_n C.1 C.2.1 dX4_reply_26 rfl (lv_at hl 0 rfl) ?_
  refine lv_if_ne (tgt := 48) C.1 C.2.1 dX4_reply_27 (by decide) (fun c_1 => ?_) (fun c_1 => ?_)
  · have hE := br_n hE c_1
    exact bX4_reply_48 C hkm hW hZ _ (lv_sub hl [] rfl) hE
  · have hE := br_p hE c_1
    refine lv_aload_n C.1 C.2.1 dX4_reply_30 rfl (lv_at hl 1 rfl) ?_
    refine gf_X4_50 C hW k_x0 dX4_reply_31 ?_
    refine lv_iconst (v := (1 : Int32)) C.1 C.2.1 dX4_reply_34 (by decide) ?_
    refine lv_icmp_ne (tgt := 52) C.1 C.2.1 dX4_reply_35 (by decide) (fun c_2 => ?_) (fun c_2 => ?_)
    · have hE := br_n hE c_2
      exact bX4_reply_52 C hkm hW hZ _ (lv_sub hl [] rfl) hE
    · have hE := br_p hE c_2
      refine lv_aload_n C.1 C.2.1 dX4_reply_38 rfl (lv_at hl 1 rfl) ?_
      refine lv_iload_n C.1 C.2.1 dX4_reply_39 rfl (lv_at hl 2 rfl) ?_
      refine lv_iconst (v := (1 : Int32)) C.1 C.2.1 dX4_reply_40 (by decide) ?_
      refine lv_iadd C.1 C.2.1 dX4_reply_41 ?_
      obtain ⟨o_3, eo_3, hE⟩ := cl_e hE
      refine x_kI (o := o_3) (z_runV (As := [.int (x1 + (1 : Int32))]) (rest := []) C (ct_X4_isGoal l X k_x0 eo_3) cw_X4_109 hW hZ k_x0 (by decide) rfl rfl rfl hl.1 (Nat.le_of_ble_eq_true rfl) rfl dX4_reply_42 ⟨Nat.le_of_ble_eq_true rfl, Nat.le_of_ble_eq_true rfl⟩ ⟨Nat.le_refl _, Nat.le_refl _⟩) hZ (fun _ _ hW km hZ => ?_)
      replace hkm := hkm.tr km
      replace k_x0 := km.at k_x0 (by decide)
      refine lv_if_eq (tgt := 52) C.1 C.2.1 dX4_reply_45 (by decide) (fun c_4 => ?_) (fun c_4 => ?_)
      · have hE := br_p hE c_4
        exact bX4_reply_52 C hkm hW hZ _ (lv_sub hl [] rfl) hE
      · have hE := br_n hE c_4
        exact bX4_reply_48 C hkm hW hZ _ (lv_sub hl [] rfl) hE
set_option maxRecDepth 20000 in
theorem bX4_reply_24 {p : Program} {l : Launch} {e : Env} {s : State} {m : MethodId} {args : Array Value} {below : List Frame} {meth : Method} {c : Code} {X : Ec} {h0 : Hp} {o : Int32 × Hp} (C : Cx X p s m args meth c RX4 cX4_reply 3 (some .int) "reply") {h : Hp} {x0 : Nat} {x1 : Int32} {H : Heap} {locs : List Loc} (k_x0 : hK h x0 = 4) (hkm : Km h0 h) (hW : Wx X h H) (hZ : va_S (aA (eB X)) s.heap H locs) (ls : Array Slot) (hl : lv_has ls 3 [(0, .ref x0), (1, .int x1)]) (hE : sX4_reply_24 h x0 x1 = some o) : W p l e (rm 3 68) s m args below meth c H locs 0 0 (MQ below (QI X h0 o.1 o.2) args s 0 0 (aA (eB X))) (F0 m 24 ls []) := by
  refine lv_iconst (v := (0 : Int32)) C.1 C.2.1 dX4_reply_24 (by decide) ?_
  exact bX4_reply_25 C k_x0 hkm hW hZ _ (lv_sub hl [0, 1] rfl) hE
set_option maxRecDepth 20000 in
theorem ct_X4_reply (l : Launch) (X : Ec) {h : Hp} {x0 : Nat} {x1 : Int32} {o : Int32 × Hp} (k_x0 : hK h x0 = 4) (hE : sX4_reply h x0 x1 = some o) : MetI l yX4_reply cX4_reply 3 (some .int) 3 68 X [.ref x0, .int x1] h o := by
  refine x_met (by decide) (Nat.le_of_ble_eq_true rfl) ?_
  intro p e s m below meth c ls C hl hW hZ
  have hl : lv_has ls 3 [(0, .ref x0), (1, .int x1)] := hl
  have hkm : Km h h := Km.rf h
  refine lv_iload_n C.1 C.2.1 dX4_reply_0 rfl (lv_at hl 1 rfl) ?_
  refine lv_iconst (v := (1 : Int32)) C.1 C.2.1 dX4_reply_1 (by decide) ?_
  refine lv_iadd C.1 C.2.1 dX4_reply_2 ?_
  refine lv_aload_n C.1 C.2.1 dX4_reply_3 rfl (lv_at hl 0 rfl) ?_
  refine gf_X4_56 C hW k_x0 dX4_reply_4 ?_
  refine lv_icmp_ge (tgt := 24) C.1 C.2.1 dX4_reply_7 (by decide) (fun c_1 => ?_) (fun c_1 => ?_)
  · have hE := br_p hE c_1
    exact bX4_reply_24 C k_x0 hkm hW hZ _ (lv_sub hl [0, 1] rfl) hE
  · have hE := br_n hE c_1
    refine lv_aload_n C.1 C.2.1 dX4_reply_10 rfl (lv_at hl 0 rfl) ?_
    refine lv_iload_n C.1 C.2.1 dX4_reply_11 rfl (lv_at hl 1 rfl) ?_
    refine lv_iconst (v := (1 : Int32)) C.1 C.2.1 dX4_reply_12 (by decide) ?_
    refine lv_iadd C.1 C.2.1 dX4_reply_13 ?_
    cases hE
theorem m_1411 : Cond.methodLink RX4 119 yX5_isRoyalHit ∈ W0 := w0_in (List.mem_append_right _ (List.mem_of_getElem? (i := 1411) (by decide +kernel))) rfl
theorem m_1412 : Cond.methodLink RX4 123 yX3_clearPass ∈ W0 := w0_in (List.mem_append_right _ (List.mem_of_getElem? (i := 1412) (by decide +kernel))) rfl
section
variable {p : Program} {l : Launch} {e : Env} {R : Room} {s : State} {m : MethodId} {args : Array Value} {below : List Frame} {meth : Method} {c : Code} {H : Heap} {locs : List Loc} {cells slots : Nat} {Q : State → Prop}
variable {cc : ByteArray} {pc : Nat} {ls : Array Slot} {rest : List Value} {X : Ec} {h h1 : Hp} {nL : Nat} {rt : Option FieldType} {mn : String}
theorem pf_X4_116 {a : Nat} {v : Int32} (C : Cx X p s m args meth c RX4 cc nL rt mn) (hW : Wx X h H) (hZ : va_S (aA (eB X)) s.heap H locs) (ha : hK h a = 3) (eh : h1 = wI h a 5 v) (hdg : decode cc pc = .ok (.putfield 116, 3)) (kk : ∀ (H1 : Heap) (locs1 : List Loc), Wx X h1 H1 → Km h h1 → va_S (aA (eB X)) s.heap H1 locs1 → W p l e R s m args below meth c H1 locs1 cells slots Q (F0 m (pc + 3) ls rest)) : W p l e R s m args below meth c H locs cells slots Q (F0 m pc ls (.int v :: .ref a :: rest)) :=
  y_puti (ty := .int) C hW hZ ha i_X3 tyX3 tyX3_ok nmX3 (by decide) rfl rfl (by decide) m_299 rfl (by decide +kernel) rfl rfl rfl eh hdg kk
end
theorem cw_X4_119 : cwd RX4 119 yX5_isRoyalHit cX5_isRoyalHit 3 (some .boolean) false 2 := ⟨m_1092, m_1411, m_7, ⟨m_1090, m_1091⟩, by decide, by decide, by decide +kernel⟩
theorem cw_X4_123 : cwd RX4 123 yX3_clearPass cX3_clearPass 1 none false 0 := ⟨m_1355, m_1412, m_8, ⟨m_1353, m_1354⟩, by decide, by decide, by decide +kernel⟩
theorem dX4_goOn_0 : decode cX4_goOn 0 = .ok (.aload_n 0, 1) := by decide +kernel
theorem dX4_goOn_1 : decode cX4_goOn 1 = .ok (.getfield 13, 3) := by decide +kernel
theorem dX4_goOn_4 : decode cX4_goOn 4 = .ok (.iload_n 1, 1) := by decide +kernel
theorem dX4_goOn_5 : decode cX4_goOn 5 = .ok (.iconst 1, 1) := by decide +kernel
theorem dX4_goOn_6 : decode cX4_goOn 6 = .ok (.iadd, 1) := by decide +kernel
theorem dX4_goOn_7 : decode cX4_goOn 7 = .ok (.aaload, 1) := by decide +kernel
theorem dX4_goOn_8 : decode cX4_goOn 8 = .ok (.astore_n 2, 1) := by decide +kernel
theorem dX4_goOn_9 : decode cX4_goOn 9 = .ok (.aload_n 0, 1) := by decide +kernel
theorem dX4_goOn_10 : decode cX4_goOn 10 = .ok (.getfield 22, 3) := by decide +kernel
theorem dX4_goOn_13 : decode cX4_goOn 13 = .ok (.iload_n 1, 1) := by decide +kernel
theorem dX4_goOn_14 : decode cX4_goOn 14 = .ok (.iconst 1, 1) := by decide +kernel
theorem dX4_goOn_15 : decode cX4_goOn 15 = .ok (.iadd, 1) := by decide +kernel
theorem dX4_goOn_16 : decode cX4_goOn 16 = .ok (.iaload, 1) := by decide +kernel
theorem dX4_goOn_17 : decode cX4_goOn 17 = .ok (.ifCond .ne 18, 3) := by decide +kernel
theorem dX4_goOn_20 : decode cX4_goOn 20 = .ok (.aload_n 0, 1) := by decide +kernel
theorem dX4_goOn_21 : decode cX4_goOn 21 = .ok (.getfield 45, 3) := by decide +kernel
theorem dX4_goOn_24 : decode cX4_goOn 24 = .ok (.aload_n 2, 1) := by decide +kernel
theorem dX4_goOn_25 : decode cX4_goOn 25 = .ok (.aload_n 2, 1) := by decide +kernel
theorem dX4_goOn_26 : decode cX4_goOn 26 = .ok (.getfield 116, 3) := by decide +kernel
theorem dX4_goOn_29 : decode cX4_goOn 29 = .ok (.invokevirtual 119, 3) := by decide +kernel
theorem dX4_goOn_32 : decode cX4_goOn 32 = .ok (.ifCond .eq 5, 3) := by decide +kernel
theorem dX4_goOn_35 : decode cX4_goOn 35 = .ok (.iconst 0, 1) := by decide +kernel
theorem dX4_goOn_36 : decode cX4_goOn 36 = .ok (.ireturn, 1) := by decide +kernel
theorem dX4_goOn_37 : decode cX4_goOn 37 = .ok (.aload_n 2, 1) := by decide +kernel
theorem dX4_goOn_38 : decode cX4_goOn 38 = .ok (.iconst 1, 1) := by decide +kernel
theorem dX4_goOn_39 : decode cX4_goOn 39 = .ok (.aload_n 2, 1) := by decide +kernel
theorem dX4_goOn_40 : decode cX4_goOn 40 = .ok (.getfield 116, 3) := by decide +kernel
theorem dX4_goOn_43 : decode cX4_goOn 43 = .ok (.isub, 1) := by decide +kernel
theorem dX4_goOn_44 : decode cX4_goOn 44 = .ok (.putfield 116, 3) := by decide +kernel
theorem dX4_goOn_47 : decode cX4_goOn 47 = .ok (.aload_n 2, 1) := by decide +kernel
theorem dX4_goOn_48 : decode cX4_goOn 48 = .ok (.invokevirtual 123, 3) := by decide +kernel
theorem dX4_goOn_51 : decode cX4_goOn 51 = .ok (.aload_n 0, 1) := by decide +kernel
theorem dX4_goOn_52 : decode cX4_goOn 52 = .ok (.iload_n 1, 1) := by decide +kernel
theorem dX4_goOn_53 : decode cX4_goOn 53 = .ok (.iconst 1, 1) := by decide +kernel
theorem dX4_goOn_54 : decode cX4_goOn 54 = .ok (.iadd, 1) := by decide +kernel
theorem dX4_goOn_55 : decode cX4_goOn 55 = .ok (.invokevirtual 106, 3) := by decide +kernel
def sX4_goOn_35 (F : Nat) (h : Hp) : Option (Int32 × Hp) := some ((0 : Int32), h)
def sX4_goOn (F : Nat) (h : Hp) (x0 : Nat) (x1 : Int32) : Option (Int32 × Hp) := cl (hR h x0 1) fun r_1 => gd (inB (x1 + (1 : Int32)) (hN h r_1)) <| cl (hR h r_1 (x1 + (1 : Int32)).toNatClampNeg) fun r_3 => cl (hR h x0 3) fun r_4 => gd (inB (x1 + (1 : Int32)) (hN h r_4)) <| br ((hI h r_4 (x1 + (1 : Int32)).toNatClampNeg) = 0) (cl (hR h x0 0) fun r_7 => cl (sX5_isRoyalHit F h r_7 r_3 (hI h r_3 5)) fun o_8 => br (o_8.1 = 0) (nm (wI o_8.2 r_3 5 ((1 : Int32) - (hI o_8.2 r_3 5))) fun h_10 => cl (sX3_clearPass h_10 r_3) fun o_11 => none) (sX4_goOn_35 F o_8.2 )) (sX4_goOn_35 F h )
set_option maxRecDepth 20000 in
theorem bX4_goOn_35 {p : Program} {l : Launch} {e : Env} {s : State} {m : MethodId} {args : Array Value} {below : List Frame} {meth : Method} {c : Code} {X : Ec} {h0 : Hp} {o : Int32 × Hp} {F : Nat} (C : Cx X p s m args meth c RX4 cX4_goOn 3 (some .int) "goOn") {h : Hp} {H : Heap} {locs : List Loc} (hkm : Km h0 h) (hW : Wx X h H) (hZ : va_S (aA (eB X)) s.heap H locs) (ls : Array Slot) (hl : lv_has ls 3 []) (hE : sX4_goOn_35 F h  = some o) : W p l e (rm 2 60) s m args below meth c H locs 0 0 (MQ below (QI X h0 o.1 o.2) args s 0 0 (aA (eB X))) (F0 m 35 ls []) := by
  refine lv_iconst (v := (0 : Int32)) C.1 C.2.1 dX4_goOn_35 (by decide) ?_
  exact x_iret C rfl rfl hW hZ hkm hE dX4_goOn_36
set_option maxRecDepth 20000 in
theorem ct_X4_goOn (l : Launch) (X : Ec) (F : Nat) {h : Hp} {x0 : Nat} {x1 : Int32} {o : Int32 × Hp} (k_x0 : hK h x0 = 4) (hE : sX4_goOn F h x0 x1 = some o) : MetI l yX4_goOn cX4_goOn 3 (some .int) 2 60 X [.ref x0, .int x1] h o := by
  refine x_met (by decide) (Nat.le_of_ble_eq_true rfl) ?_
  intro p e s m below meth c ls C hl hW hZ
  have hl : lv_has ls 3 [(0, .ref x0), (1, .int x1)] := hl
  have hkm : Km h h := Km.rf h
  refine lv_aload_n C.1 C.2.1 dX4_goOn_0 rfl (lv_at hl 0 rfl) ?_
  obtain ⟨r_1, er_1, hE⟩ := cl_e hE
  refine gf_X4_13 C hW k_x0 er_1 dX4_goOn_1 (fun k_r_1 => ?_)
  refine lv_iload_n C.1 C.2.1 dX4_goOn_4 rfl (lv_at hl 1 rfl) ?_
  refine lv_iconst (v := (1 : Int32)) C.1 C.2.1 dX4_goOn_5 (by decide) ?_
  refine lv_iadd C.1 C.2.1 dX4_goOn_6 ?_
  obtain ⟨g_2, hE⟩ := gd_e hE
  obtain ⟨r_3, er_3, hE⟩ := cl_e hE
  refine y_aald (t0 := 4) C hW k_r_1 (by decide) (by decide) rfl rfl rfl (fun _ => rfl) g_2 er_3 dX4_goOn_7 (fun k_r_3 => ?_)
  refine lv_astore_n (lv' := [(2, .ref r_3), (0, .ref x0), (1, .int x1)]) C.1 C.2.1 dX4_goOn_8 rfl hl (by decide) rfl (fun ls hl => ?_)
  refine lv_aload_n C.1 C.2.1 dX4_goOn_9 rfl (lv_at hl 1 rfl) ?_
  obtain ⟨r_4, er_4, hE⟩ := cl_e hE
  refine gf_X4_22 C hW k_x0 er_4 dX4_goOn_10 (fun k_r_4 => ?_)
  refine lv_iload_n C.1 C.2.1 dX4_goOn_13 rfl (lv_at hl 2 rfl) ?_
  refine lv_iconst (v := (1 : Int32)) C.1 C.2.1 dX4_goOn_14 (by decide) ?_
  refine lv_iadd C.1 C.2.1 dX4_goOn_15 ?_
  obtain ⟨g_5, hE⟩ := gd_e hE
  refine y_iald C hW k_r_4 g_5 dX4_goOn_16 ?_
  refine lv_if_ne (tgt := 35) C.1 C.2.1 dX4_goOn_17 (by decide) (fun c_6 => ?_) (fun c_6 => ?_)
  · have hE := br_n hE c_6
    exact bX4_goOn_35 C hkm hW hZ _ (lv_sub hl [] rfl) hE
  · have hE := br_p hE c_6
    refine lv_aload_n C.1 C.2.1 dX4_goOn_20 rfl (lv_at hl 1 rfl) ?_
    obtain ⟨r_7, er_7, hE⟩ := cl_e hE
    refine gf_X4_45 C hW k_x0 er_7 dX4_goOn_21 (fun k_r_7 => ?_)
    refine lv_aload_n C.1 C.2.1 dX4_goOn_24 rfl (lv_at hl 0 rfl) ?_
    refine lv_aload_n C.1 C.2.1 dX4_goOn_25 rfl (lv_at hl 0 rfl) ?_
    refine gf_X4_116 C hW k_r_3 dX4_goOn_26 ?_
    obtain ⟨o_8, eo_8, hE⟩ := cl_e hE
    refine x_kI (o := o_8) (z_runV (As := [.ref r_3, .int (hI h r_3 5)]) (rest := []) C (ct_X5_isRoyalHit l X F k_r_7 k_r_3 eo_8) cw_X4_119 hW hZ k_r_7 (by decide) rfl rfl rfl hl.1 (Nat.le_of_ble_eq_true rfl) rfl dX4_goOn_29 ⟨Nat.le_of_ble_eq_true rfl, Nat.le_of_ble_eq_true rfl⟩ ⟨Nat.le_refl _, Nat.le_refl _⟩) hZ (fun _ _ hW km hZ => ?_)
    replace hkm := hkm.tr km
    replace k_r_3 := km.at k_r_3 (by decide)
    replace k_x0 := km.at k_x0 (by decide)
    refine lv_if_eq (tgt := 37) C.1 C.2.1 dX4_goOn_32 (by decide) (fun c_9 => ?_) (fun c_9 => ?_)
    · have hE := br_p hE c_9
      refine lv_aload_n C.1 C.2.1 dX4_goOn_37 rfl (lv_at hl 0 rfl) ?_
      refine lv_iconst (v := (1 : Int32)) C.1 C.2.1 dX4_goOn_38 (by decide) ?_
      refine lv_aload_n C.1 C.2.1 dX4_goOn_39 rfl (lv_at hl 0 rfl) ?_
      refine gf_X4_116 C hW k_r_3 dX4_goOn_40 ?_
      refine lv_isub C.1 C.2.1 dX4_goOn_43 ?_
      obtain ⟨h_10, eh_10, hE⟩ := nm_e2 hE
      refine pf_X4_116 C hW hZ k_r_3 eh_10 dX4_goOn_44 (fun _ _ hW km hZ => ?_)
      replace hkm := hkm.tr km
      replace k_r_3 := km.at k_r_3 (by decide)
      replace k_x0 := km.at k_x0 (by decide)
      refine lv_aload_n C.1 C.2.1 dX4_goOn_47 rfl (lv_at hl 0 rfl) ?_
      obtain ⟨o_11, eo_11, hE⟩ := cl_e hE
      refine x_kV (o := o_11) (z_runV (As := []) (rest := []) C (ct_X3_clearPass l X k_r_3 eo_11) cw_X4_123 hW hZ k_r_3 (by decide) rfl rfl rfl hl.1 (Nat.le_of_ble_eq_true rfl) rfl dX4_goOn_48 ⟨Nat.le_of_ble_eq_true rfl, Nat.le_of_ble_eq_true rfl⟩ ⟨Nat.le_refl _, Nat.le_refl _⟩) hZ (fun _ _ hW km hZ => ?_)
      replace hkm := hkm.tr km
      replace k_r_3 := km.at k_r_3 (by decide)
      replace k_x0 := km.at k_x0 (by decide)
      refine lv_aload_n C.1 C.2.1 dX4_goOn_51 rfl (lv_at hl 1 rfl) ?_
      refine lv_iload_n C.1 C.2.1 dX4_goOn_52 rfl (lv_at hl 2 rfl) ?_
      refine lv_iconst (v := (1 : Int32)) C.1 C.2.1 dX4_goOn_53 (by decide) ?_
      refine lv_iadd C.1 C.2.1 dX4_goOn_54 ?_
      cases hE
    · have hE := br_n hE c_9
      exact bX4_goOn_35 C hkm hW hZ _ (lv_sub hl [] rfl) hE
theorem ms_76 : Cond.selects RX4 yX4_goOn yX4_goOn ∈ W0 := w0_in (List.mem_append_left _ (List.mem_of_getElem? (i := 76) (by decide +kernel))) rfl
theorem ms_75 : Cond.selects RX4 yX4_reply yX4_reply ∈ W0 := w0_in (List.mem_append_left _ (List.mem_of_getElem? (i := 75) (by decide +kernel))) rfl
theorem ms_73 : Cond.selects RX4 yX4_attempt yX4_attempt ∈ W0 := w0_in (List.mem_append_left _ (List.mem_of_getElem? (i := 73) (by decide +kernel))) rfl
theorem m_1390 : Cond.methodLink RX4 99 yX4_attempt ∈ W0 := w0_in (List.mem_append_right _ (List.mem_of_getElem? (i := 1390) (by decide +kernel))) rfl
theorem m_1392 : Cond.instanceMethod yX4_attempt ∈ W0 := w0_in (List.mem_append_right _ (List.mem_of_getElem? (i := 1392) (by decide +kernel))) rfl
theorem m_1393 : Cond.code yX4_attempt cX4_attempt 6 (some .int) ∈ W0 := w0_in (List.mem_append_right _ (List.mem_of_getElem? (i := 1393) (by decide +kernel))) rfl
theorem m_1403 : Cond.methodLink RX4 102 yX4_reply ∈ W0 := w0_in (List.mem_append_right _ (List.mem_of_getElem? (i := 1403) (by decide +kernel))) rfl
theorem m_1405 : Cond.instanceMethod yX4_reply ∈ W0 := w0_in (List.mem_append_right _ (List.mem_of_getElem? (i := 1405) (by decide +kernel))) rfl
theorem m_1406 : Cond.code yX4_reply cX4_reply 3 (some .int) ∈ W0 := w0_in (List.mem_append_right _ (List.mem_of_getElem? (i := 1406) (by decide +kernel))) rfl
theorem m_1407 : Cond.methodLink RX4 113 yX4_goOn ∈ W0 := w0_in (List.mem_append_right _ (List.mem_of_getElem? (i := 1407) (by decide +kernel))) rfl
theorem m_1409 : Cond.instanceMethod yX4_goOn ∈ W0 := w0_in (List.mem_append_right _ (List.mem_of_getElem? (i := 1409) (by decide +kernel))) rfl
theorem m_1410 : Cond.code yX4_goOn cX4_goOn 3 (some .int) ∈ W0 := w0_in (List.mem_append_right _ (List.mem_of_getElem? (i := 1410) (by decide +kernel))) rfl
theorem cw_X4_102 : cwd RX4 102 yX4_reply cX4_reply 3 (some .int) false 1 := ⟨m_1406, m_1403, m_14, ⟨m_1405, ms_75⟩, by decide, by decide, by decide +kernel⟩
theorem cw_X4_99 : cwd RX4 99 yX4_attempt cX4_attempt 6 (some .int) false 2 := ⟨m_1393, m_1390, m_14, ⟨m_1392, ms_73⟩, by decide, by decide, by decide +kernel⟩
theorem cw_X4_113 : cwd RX4 113 yX4_goOn cX4_goOn 3 (some .int) false 1 := ⟨m_1410, m_1407, m_14, ⟨m_1409, ms_76⟩, by decide, by decide, by decide +kernel⟩
theorem dX4_branch_0 : decode cX4_branch 0 = .ok (.aload_n 0, 1) := by decide +kernel
theorem dX4_branch_1 : decode cX4_branch 1 = .ok (.getfield 50, 3) := by decide +kernel
theorem dX4_branch_4 : decode cX4_branch 4 = .ok (.tableswitch 123 0 3 #[32, 32, 53, 89], 32) := by decide +kernel
theorem dX4_branch_36 : decode cX4_branch 36 = .ok (.iload_n 1, 1) := by decide +kernel
theorem dX4_branch_37 : decode cX4_branch 37 = .ok (.iconst 1, 1) := by decide +kernel
theorem dX4_branch_38 : decode cX4_branch 38 = .ok (.iand, 1) := by decide +kernel
theorem dX4_branch_39 : decode cX4_branch 39 = .ok (.ifCond .ne 12, 3) := by decide +kernel
theorem dX4_branch_42 : decode cX4_branch 42 = .ok (.aload_n 0, 1) := by decide +kernel
theorem dX4_branch_43 : decode cX4_branch 43 = .ok (.iload_n 1, 1) := by decide +kernel
theorem dX4_branch_44 : decode cX4_branch 44 = .ok (.iload_n 2, 1) := by decide +kernel
theorem dX4_branch_45 : decode cX4_branch 45 = .ok (.invokevirtual 99, 3) := by decide +kernel
theorem dX4_branch_48 : decode cX4_branch 48 = .ok (.goto 8, 3) := by decide +kernel
theorem dX4_branch_51 : decode cX4_branch 51 = .ok (.aload_n 0, 1) := by decide +kernel
theorem dX4_branch_52 : decode cX4_branch 52 = .ok (.iload_n 1, 1) := by decide +kernel
theorem dX4_branch_53 : decode cX4_branch 53 = .ok (.invokevirtual 102, 3) := by decide +kernel
theorem dX4_branch_56 : decode cX4_branch 56 = .ok (.ireturn, 1) := by decide +kernel
theorem dX4_branch_57 : decode cX4_branch 57 = .ok (.iload_n 1, 1) := by decide +kernel
theorem dX4_branch_58 : decode cX4_branch 58 = .ok (.iconst 1, 1) := by decide +kernel
theorem dX4_branch_59 : decode cX4_branch 59 = .ok (.iadd, 1) := by decide +kernel
theorem dX4_branch_60 : decode cX4_branch 60 = .ok (.aload_n 0, 1) := by decide +kernel
theorem dX4_branch_61 : decode cX4_branch 61 = .ok (.getfield 56, 3) := by decide +kernel
theorem dX4_branch_64 : decode cX4_branch 64 = .ok (.if_icmp .ge 13, 3) := by decide +kernel
theorem dX4_branch_67 : decode cX4_branch 67 = .ok (.aload_n 0, 1) := by decide +kernel
theorem dX4_branch_68 : decode cX4_branch 68 = .ok (.iload_n 1, 1) := by decide +kernel
theorem dX4_branch_69 : decode cX4_branch 69 = .ok (.iconst 1, 1) := by decide +kernel
theorem dX4_branch_70 : decode cX4_branch 70 = .ok (.iadd, 1) := by decide +kernel
theorem dX4_branch_71 : decode cX4_branch 71 = .ok (.invokevirtual 106, 3) := by decide +kernel
theorem dX4_branch_77 : decode cX4_branch 77 = .ok (.aload_n 0, 1) := by decide +kernel
theorem dX4_branch_78 : decode cX4_branch 78 = .ok (.iload_n 1, 1) := by decide +kernel
theorem dX4_branch_79 : decode cX4_branch 79 = .ok (.iconst 1, 1) := by decide +kernel
theorem dX4_branch_80 : decode cX4_branch 80 = .ok (.iadd, 1) := by decide +kernel
theorem dX4_branch_81 : decode cX4_branch 81 = .ok (.invokevirtual 109, 3) := by decide +kernel
theorem dX4_branch_84 : decode cX4_branch 84 = .ok (.ifCond .eq 7, 3) := by decide +kernel
theorem dX4_branch_87 : decode cX4_branch 87 = .ok (.iconst 1, 1) := by decide +kernel
theorem dX4_branch_88 : decode cX4_branch 88 = .ok (.goto 4, 3) := by decide +kernel
theorem dX4_branch_91 : decode cX4_branch 91 = .ok (.iconst 0, 1) := by decide +kernel
theorem dX4_branch_92 : decode cX4_branch 92 = .ok (.ireturn, 1) := by decide +kernel
theorem dX4_branch_93 : decode cX4_branch 93 = .ok (.iload_n 1, 1) := by decide +kernel
theorem dX4_branch_94 : decode cX4_branch 94 = .ok (.iconst 1, 1) := by decide +kernel
theorem dX4_branch_95 : decode cX4_branch 95 = .ok (.iadd, 1) := by decide +kernel
theorem dX4_branch_96 : decode cX4_branch 96 = .ok (.aload_n 0, 1) := by decide +kernel
theorem dX4_branch_97 : decode cX4_branch 97 = .ok (.getfield 56, 3) := by decide +kernel
theorem dX4_branch_100 : decode cX4_branch 100 = .ok (.if_icmp .ge 11, 3) := by decide +kernel
theorem dX4_branch_103 : decode cX4_branch 103 = .ok (.aload_n 0, 1) := by decide +kernel
theorem dX4_branch_104 : decode cX4_branch 104 = .ok (.iload_n 1, 1) := by decide +kernel
theorem dX4_branch_105 : decode cX4_branch 105 = .ok (.invokevirtual 113, 3) := by decide +kernel
theorem dX4_branch_108 : decode cX4_branch 108 = .ok (.goto 18, 3) := by decide +kernel
theorem dX4_branch_111 : decode cX4_branch 111 = .ok (.aload_n 0, 1) := by decide +kernel
theorem dX4_branch_112 : decode cX4_branch 112 = .ok (.iload_n 1, 1) := by decide +kernel
theorem dX4_branch_113 : decode cX4_branch 113 = .ok (.iconst 1, 1) := by decide +kernel
theorem dX4_branch_114 : decode cX4_branch 114 = .ok (.iadd, 1) := by decide +kernel
theorem dX4_branch_115 : decode cX4_branch 115 = .ok (.invokevirtual 109, 3) := by decide +kernel
theorem dX4_branch_118 : decode cX4_branch 118 = .ok (.ifCond .eq 7, 3) := by decide +kernel
theorem dX4_branch_121 : decode cX4_branch 121 = .ok (.iconst 1, 1) := by decide +kernel
theorem dX4_branch_122 : decode cX4_branch 122 = .ok (.goto 4, 3) := by decide +kernel
theorem dX4_branch_125 : decode cX4_branch 125 = .ok (.iconst 0, 1) := by decide +kernel
theorem dX4_branch_126 : decode cX4_branch 126 = .ok (.ireturn, 1) := by decide +kernel
theorem dX4_branch_127 : decode cX4_branch 127 = .ok (.aload_n 0, 1) := by decide +kernel
theorem dX4_branch_128 : decode cX4_branch 128 = .ok (.iload_n 1, 1) := by decide +kernel
theorem dX4_branch_129 : decode cX4_branch 129 = .ok (.iconst 1, 1) := by decide +kernel
theorem dX4_branch_130 : decode cX4_branch 130 = .ok (.iadd, 1) := by decide +kernel
theorem dX4_branch_131 : decode cX4_branch 131 = .ok (.invokevirtual 106, 3) := by decide +kernel
def sX4_branch_56 (F : Nat) (h : Hp) (t0 : Int32) : Option (Int32 × Hp) := some (t0, h)
def sX4_branch_92 (F : Nat) (h : Hp) (t0 : Int32) : Option (Int32 × Hp) := some (t0, h)
def sX4_branch_126 (F : Nat) (h : Hp) (t0 : Int32) : Option (Int32 × Hp) := some (t0, h)
def sX4_branch (F : Nat) (h : Hp) (x0 : Nat) (x1 : Int32) (x2 : Int32) : Option (Int32 × Hp) := br ((hI h x0 5) = (0 : Int32)) (br ((x1 &&& (1 : Int32)) = 0) (cl (sX4_attempt F h x0 x1 x2) fun o_3 => sX4_branch_56 F o_3.2 o_3.1) (cl (sX4_reply h x0 x1) fun o_2 => sX4_branch_56 F o_2.2 o_2.1)) (br ((hI h x0 5) = (1 : Int32)) (br ((x1 &&& (1 : Int32)) = 0) (cl (sX4_attempt F h x0 x1 x2) fun o_7 => sX4_branch_56 F o_7.2 o_7.1) (cl (sX4_reply h x0 x1) fun o_6 => sX4_branch_56 F o_6.2 o_6.1)) (br ((hI h x0 5) = (2 : Int32)) (br ((hI h x0 7) ≤ (x1 + (1 : Int32))) (cl (sX4_isGoal h x0 (x1 + (1 : Int32))) fun o_10 => br (o_10.1 = 0) (sX4_branch_92 F o_10.2 (0 : Int32)) (sX4_branch_92 F o_10.2 (1 : Int32))) (none)) (br ((hI h x0 5) = (3 : Int32)) (br ((hI h x0 7) ≤ (x1 + (1 : Int32))) (cl (sX4_isGoal h x0 (x1 + (1 : Int32))) fun o_14 => br (o_14.1 = 0) (sX4_branch_126 F o_14.2 (0 : Int32)) (sX4_branch_126 F o_14.2 (1 : Int32))) (cl (sX4_goOn F h x0 x1) fun o_16 => sX4_branch_126 F o_16.2 o_16.1)) (none))))
set_option maxRecDepth 20000 in
theorem bX4_branch_56 {p : Program} {l : Launch} {e : Env} {s : State} {m : MethodId} {args : Array Value} {below : List Frame} {meth : Method} {c : Code} {X : Ec} {h0 : Hp} {o : Int32 × Hp} {F : Nat} (C : Cx X p s m args meth c RX4 cX4_branch 3 (some .int) "branch") {h : Hp} {t0 : Int32} {H : Heap} {locs : List Loc} (hkm : Km h0 h) (hW : Wx X h H) (hZ : va_S (aA (eB X)) s.heap H locs) (ls : Array Slot) (hl : lv_has ls 3 []) (hE : sX4_branch_56 F h  t0 = some o) : W p l e (rm 5 164) s m args below meth c H locs 0 0 (MQ below (QI X h0 o.1 o.2) args s 0 0 (aA (eB X))) (F0 m 56 ls [.int t0]) := by
  exact x_iret C rfl rfl hW hZ hkm hE dX4_branch_56
set_option maxRecDepth 20000 in
theorem bX4_branch_92 {p : Program} {l : Launch} {e : Env} {s : State} {m : MethodId} {args : Array Value} {below : List Frame} {meth : Method} {c : Code} {X : Ec} {h0 : Hp} {o : Int32 × Hp} {F : Nat} (C : Cx X p s m args meth c RX4 cX4_branch 3 (some .int) "branch") {h : Hp} {t0 : Int32} {H : Heap} {locs : List Loc} (hkm : Km h0 h) (hW : Wx X h H) (hZ : va_S (aA (eB X)) s.heap H locs) (ls : Array Slot) (hl : lv_has ls 3 []) (hE : sX4_branch_92 F h  t0 = some o) : W p l e (rm 5 164) s m args below meth c H locs 0 0 (MQ below (QI X h0 o.1 o.2) args s 0 0 (aA (eB X))) (F0 m 92 ls [.int t0]) := by
  exact x_iret C rfl rfl hW hZ hkm hE dX4_branch_92
set_option maxRecDepth 20000 in
theorem bX4_branch_126 {p : Program} {l : Launch} {e : Env} {s : State} {m : MethodId} {args : Array Value} {below : List Frame} {meth : Method} {c : Code} {X : Ec} {h0 : Hp} {o : Int32 × Hp} {F : Nat} (C : Cx X p s m args meth c RX4 cX4_branch 3 (some .int) "branch") {h : Hp} {t0 : Int32} {H : Heap} {locs : List Loc} (hkm : Km h0 h) (hW : Wx X h H) (hZ : va_S (aA (eB X)) s.heap H locs) (ls : Array Slot) (hl : lv_has ls 3 []) (hE : sX4_branch_126 F h  t0 = some o) : W p l e (rm 5 164) s m args below meth c H locs 0 0 (MQ below (QI X h0 o.1 o.2) args s 0 0 (aA (eB X))) (F0 m 126 ls [.int t0]) := by
  exact x_iret C rfl rfl hW hZ hkm hE dX4_branch_126
set_option maxRecDepth 20000 in
theorem ct_X4_branch (l : Launch) (X : Ec) (F : Nat) {h : Hp} {x0 : Nat} {x1 : Int32} {x2 : Int32} {o : Int32 × Hp} (k_x0 : hK h x0 = 4) (hE : sX4_branch F h x0 x1 x2 = some o) : MetI l yX4_branch cX4_branch 3 (some .int) 5 164 X [.ref x0, .int x1, .int x2] h o := by
  refine x_met (by decide) (Nat.le_of_ble_eq_true rfl) ?_
  intro p e s m below meth c ls C hl hW hZ
  have hl : lv_has ls 3 [(0, .ref x0), (1, .int x1), (2, .int x2)] := hl
  have hkm : Km h h := Km.rf h
  refine lv_aload_n C.1 C.2.1 dX4_branch_0 rfl (lv_at hl 0 rfl) ?_
  refine gf_X4_50 C hW k_x0 dX4_branch_1 ?_
  by_cases c_4 : (hI h x0 5) = (0 : Int32)
  · have hE := br_p hE c_4
    refine lv_tableIn (off := 32) (tgt := 36) C.1 C.2.1 dX4_branch_4 (by rw [c_4]; decide) (by rw [c_4]; decide) (by rw [c_4]; rfl) (by decide) ?_
    refine lv_iload_n C.1 C.2.1 dX4_branch_36 rfl (lv_at hl 1 rfl) ?_
    refine lv_iconst (v := (1 : Int32)) C.1 C.2.1 dX4_branch_37 (by decide) ?_
    refine lv_iand C.1 C.2.1 dX4_branch_38 ?_
    refine lv_if_ne (tgt := 51) C.1 C.2.1 dX4_branch_39 (by decide) (fun c_1 => ?_) (fun c_1 => ?_)
    · have hE := br_n hE c_1
      refine lv_aload_n C.1 C.2.1 dX4_branch_51 rfl (lv_at hl 0 rfl) ?_
      refine lv_iload_n C.1 C.2.1 dX4_branch_52 rfl (lv_at hl 1 rfl) ?_
      obtain ⟨o_2, eo_2, hE⟩ := cl_e hE
      refine x_kI (o := o_2) (z_runV (As := [.int x1]) (rest := []) C (ct_X4_reply l X k_x0 eo_2) cw_X4_102 hW hZ k_x0 (by decide) rfl rfl rfl hl.1 (Nat.le_of_ble_eq_true rfl) rfl dX4_branch_53 ⟨Nat.le_of_ble_eq_true rfl, Nat.le_of_ble_eq_true rfl⟩ ⟨Nat.le_refl _, Nat.le_refl _⟩) hZ (fun _ _ hW km hZ => ?_)
      replace hkm := hkm.tr km
      replace k_x0 := km.at k_x0 (by decide)
      exact bX4_branch_56 C hkm hW hZ _ (lv_sub hl [] rfl) hE
    · have hE := br_p hE c_1
      refine lv_aload_n C.1 C.2.1 dX4_branch_42 rfl (lv_at hl 0 rfl) ?_
      refine lv_iload_n C.1 C.2.1 dX4_branch_43 rfl (lv_at hl 1 rfl) ?_
      refine lv_iload_n C.1 C.2.1 dX4_branch_44 rfl (lv_at hl 2 rfl) ?_
      obtain ⟨o_3, eo_3, hE⟩ := cl_e hE
      refine x_kI (o := o_3) (z_runV (As := [.int x1, .int x2]) (rest := []) C (ct_X4_attempt l X F k_x0 eo_3) cw_X4_99 hW hZ k_x0 (by decide) rfl rfl rfl hl.1 (Nat.le_of_ble_eq_true rfl) rfl dX4_branch_45 ⟨Nat.le_of_ble_eq_true rfl, Nat.le_of_ble_eq_true rfl⟩ ⟨Nat.le_refl _, Nat.le_refl _⟩) hZ (fun _ _ hW km hZ => ?_)
      replace hkm := hkm.tr km
      replace k_x0 := km.at k_x0 (by decide)
      refine lv_goto (tgt := 56) C.1 C.2.1 dX4_branch_48 (by decide) ?_
      exact bX4_branch_56 C hkm hW hZ _ (lv_sub hl [] rfl) hE
  have hE := br_n hE c_4
  by_cases c_8 : (hI h x0 5) = (1 : Int32)
  · have hE := br_p hE c_8
    refine lv_tableIn (off := 32) (tgt := 36) C.1 C.2.1 dX4_branch_4 (by rw [c_8]; decide) (by rw [c_8]; decide) (by rw [c_8]; rfl) (by decide) ?_
    refine lv_iload_n C.1 C.2.1 dX4_branch_36 rfl (lv_at hl 1 rfl) ?_
    refine lv_iconst (v := (1 : Int32)) C.1 C.2.1 dX4_branch_37 (by decide) ?_
    refine lv_iand C.1 C.2.1 dX4_branch_38 ?_
    refine lv_if_ne (tgt := 51) C.1 C.2.1 dX4_branch_39 (by decide) (fun c_5 => ?_) (fun c_5 => ?_)
    · have hE := br_n hE c_5
      refine lv_aload_n C.1 C.2.1 dX4_branch_51 rfl (lv_at hl 0 rfl) ?_
      refine lv_iload_n C.1 C.2.1 dX4_branch_52 rfl (lv_at hl 1 rfl) ?_
      obtain ⟨o_6, eo_6, hE⟩ := cl_e hE
      refine x_kI (o := o_6) (z_runV (As := [.int x1]) (rest := []) C (ct_X4_reply l X k_x0 eo_6) cw_X4_102 hW hZ k_x0 (by decide) rfl rfl rfl hl.1 (Nat.le_of_ble_eq_true rfl) rfl dX4_branch_53 ⟨Nat.le_of_ble_eq_true rfl, Nat.le_of_ble_eq_true rfl⟩ ⟨Nat.le_refl _, Nat.le_refl _⟩) hZ (fun _ _ hW km hZ => ?_)
      replace hkm := hkm.tr km
      replace k_x0 := km.at k_x0 (by decide)
      exact bX4_branch_56 C hkm hW hZ _ (lv_sub hl [] rfl) hE
    · have hE := br_p hE c_5
      refine lv_aload_n C.1 C.2.1 dX4_branch_42 rfl (lv_at hl 0 rfl) ?_
      refine lv_iload_n C.1 C.2.1 dX4_branch_43 rfl (lv_at hl 1 rfl) ?_
      refine lv_iload_n C.1 C.2.1 dX4_branch_44 rfl (lv_at hl 2 rfl) ?_
      obtain ⟨o_7, eo_7, hE⟩ := cl_e hE
      refine x_kI (o := o_7) (z_runV (As := [.int x1, .int x2]) (rest := []) C (ct_X4_attempt l X F k_x0 eo_7) cw_X4_99 hW hZ k_x0 (by decide) rfl rfl rfl hl.1 (Nat.le_of_ble_eq_true rfl) rfl dX4_branch_45 ⟨Nat.le_of_ble_eq_true rfl, Nat.le_of_ble_eq_true rfl⟩ ⟨Nat.le_refl _, Nat.le_refl _⟩) hZ (fun _ _ hW km hZ => ?_)
      replace hkm := hkm.tr km
      replace k_x0 := km.at k_x0 (by decide)
      refine lv_goto (tgt := 56) C.1 C.2.1 dX4_branch_48 (by decide) ?_
      exact bX4_branch_56 C hkm hW hZ _ (lv_sub hl [] rfl) hE
  have hE := br_n hE c_8
  by_cases c_12 : (hI h x0 5) = (2 : Int32)
  · have hE := br_p hE c_12
    refine lv_tableIn (off := 53) (tgt := 57) C.1 C.2.1 dX4_branch_4 (by rw [c_12]; decide) (by rw [c_12]; decide) (by rw [c_12]; rfl) (by decide) ?_
    refine lv_iload_n C.1 C.2.1 dX4_branch_57 rfl (lv_at hl 1 rfl) ?_
    refine lv_iconst (v := (1 : Int32)) C.1 C.2.1 dX4_branch_58 (by decide) ?_
    refine lv_iadd C.1 C.2.1 dX4_branch_59 ?_
    refine lv_aload_n C.1 C.2.1 dX4_branch_60 rfl (lv_at hl 0 rfl) ?_
    refine gf_X4_56 C hW k_x0 dX4_branch_61 ?_
    refine lv_icmp_ge (tgt := 77) C.1 C.2.1 dX4_branch_64 (by decide) (fun c_9 => ?_) (fun c_9 => ?_)
    · have hE := br_p hE c_9
      refine lv_aload_n C.1 C.2.1 dX4_branch_77 rfl (lv_at hl 0 rfl) ?_
      refine lv_iload_n C.1 C.2.1 dX4_branch_78 rfl (lv_at hl 1 rfl) ?_
      refine lv_iconst (v := (1 : Int32)) C.1 C.2.1 dX4_branch_79 (by decide) ?_
      refine lv_iadd C.1 C.2.1 dX4_branch_80 ?_
      obtain ⟨o_10, eo_10, hE⟩ := cl_e hE
      refine x_kI (o := o_10) (z_runV (As := [.int (x1 + (1 : Int32))]) (rest := []) C (ct_X4_isGoal l X k_x0 eo_10) cw_X4_109 hW hZ k_x0 (by decide) rfl rfl rfl hl.1 (Nat.le_of_ble_eq_true rfl) rfl dX4_branch_81 ⟨Nat.le_of_ble_eq_true rfl, Nat.le_of_ble_eq_true rfl⟩ ⟨Nat.le_refl _, Nat.le_refl _⟩) hZ (fun _ _ hW km hZ => ?_)
      replace hkm := hkm.tr km
      replace k_x0 := km.at k_x0 (by decide)
      refine lv_if_eq (tgt := 91) C.1 C.2.1 dX4_branch_84 (by decide) (fun c_11 => ?_) (fun c_11 => ?_)
      · have hE := br_p hE c_11
        refine lv_iconst (v := (0 : Int32)) C.1 C.2.1 dX4_branch_91 (by decide) ?_
        exact bX4_branch_92 C hkm hW hZ _ (lv_sub hl [] rfl) hE
      · have hE := br_n hE c_11
        refine lv_iconst (v := (1 : Int32)) C.1 C.2.1 dX4_branch_87 (by decide) ?_
        refine lv_goto (tgt := 92) C.1 C.2.1 dX4_branch_88 (by decide) ?_
        exact bX4_branch_92 C hkm hW hZ _ (lv_sub hl [] rfl) hE
    · have hE := br_n hE c_9
      refine lv_aload_n C.1 C.2.1 dX4_branch_67 rfl (lv_at hl 0 rfl) ?_
      refine lv_iload_n C.1 C.2.1 dX4_branch_68 rfl (lv_at hl 1 rfl) ?_
      refine lv_iconst (v := (1 : Int32)) C.1 C.2.1 dX4_branch_69 (by decide) ?_
      refine lv_iadd C.1 C.2.1 dX4_branch_70 ?_
      cases hE
  have hE := br_n hE c_12
  by_cases c_17 : (hI h x0 5) = (3 : Int32)
  · have hE := br_p hE c_17
    refine lv_tableIn (off := 89) (tgt := 93) C.1 C.2.1 dX4_branch_4 (by rw [c_17]; decide) (by rw [c_17]; decide) (by rw [c_17]; rfl) (by decide) ?_
    refine lv_iload_n C.1 C.2.1 dX4_branch_93 rfl (lv_at hl 1 rfl) ?_
    refine lv_iconst (v := (1 : Int32)) C.1 C.2.1 dX4_branch_94 (by decide) ?_
    refine lv_iadd C.1 C.2.1 dX4_branch_95 ?_
    refine lv_aload_n C.1 C.2.1 dX4_branch_96 rfl (lv_at hl 0 rfl) ?_
    refine gf_X4_56 C hW k_x0 dX4_branch_97 ?_
    refine lv_icmp_ge (tgt := 111) C.1 C.2.1 dX4_branch_100 (by decide) (fun c_13 => ?_) (fun c_13 => ?_)
    · have hE := br_p hE c_13
      refine lv_aload_n C.1 C.2.1 dX4_branch_111 rfl (lv_at hl 0 rfl) ?_
      refine lv_iload_n C.1 C.2.1 dX4_branch_112 rfl (lv_at hl 1 rfl) ?_
      refine lv_iconst (v := (1 : Int32)) C.1 C.2.1 dX4_branch_113 (by decide) ?_
      refine lv_iadd C.1 C.2.1 dX4_branch_114 ?_
      obtain ⟨o_14, eo_14, hE⟩ := cl_e hE
      refine x_kI (o := o_14) (z_runV (As := [.int (x1 + (1 : Int32))]) (rest := []) C (ct_X4_isGoal l X k_x0 eo_14) cw_X4_109 hW hZ k_x0 (by decide) rfl rfl rfl hl.1 (Nat.le_of_ble_eq_true rfl) rfl dX4_branch_115 ⟨Nat.le_of_ble_eq_true rfl, Nat.le_of_ble_eq_true rfl⟩ ⟨Nat.le_refl _, Nat.le_refl _⟩) hZ (fun _ _ hW km hZ => ?_)
      replace hkm := hkm.tr km
      replace k_x0 := km.at k_x0 (by decide)
      refine lv_if_eq (tgt := 125) C.1 C.2.1 dX4_branch_118 (by decide) (fun c_15 => ?_) (fun c_15 => ?_)
      · have hE := br_p hE c_15
        refine lv_iconst (v := (0 : Int32)) C.1 C.2.1 dX4_branch_125 (by decide) ?_
        exact bX4_branch_126 C hkm hW hZ _ (lv_sub hl [] rfl) hE
      · have hE := br_n hE c_15
        refine lv_iconst (v := (1 : Int32)) C.1 C.2.1 dX4_branch_121 (by decide) ?_
        refine lv_goto (tgt := 126) C.1 C.2.1 dX4_branch_122 (by decide) ?_
        exact bX4_branch_126 C hkm hW hZ _ (lv_sub hl [] rfl) hE
    · have hE := br_n hE c_13
      refine lv_aload_n C.1 C.2.1 dX4_branch_103 rfl (lv_at hl 0 rfl) ?_
      refine lv_iload_n C.1 C.2.1 dX4_branch_104 rfl (lv_at hl 1 rfl) ?_
      obtain ⟨o_16, eo_16, hE⟩ := cl_e hE
      refine x_kI (o := o_16) (z_runV (As := [.int x1]) (rest := []) C (ct_X4_goOn l X F k_x0 eo_16) cw_X4_113 hW hZ k_x0 (by decide) rfl rfl rfl hl.1 (Nat.le_of_ble_eq_true rfl) rfl dX4_branch_105 ⟨Nat.le_of_ble_eq_true rfl, Nat.le_of_ble_eq_true rfl⟩ ⟨Nat.le_refl _, Nat.le_refl _⟩) hZ (fun _ _ hW km hZ => ?_)
      replace hkm := hkm.tr km
      replace k_x0 := km.at k_x0 (by decide)
      refine lv_goto (tgt := 126) C.1 C.2.1 dX4_branch_108 (by decide) ?_
      exact bX4_branch_126 C hkm hW hZ _ (lv_sub hl [] rfl) hE
  have hE := br_n hE c_17
  refine lv_tableOut (tgt := 127) C.1 C.2.1 dX4_branch_4 (by have zc_4 := lv_neT (a := 0) c_4 (by decide); have zc_8 := lv_neT (a := 1) c_8 (by decide); have zc_12 := lv_neT (a := 2) c_12 (by decide); have zc_17 := lv_neT (a := 3) c_17 (by decide); omega) (by decide) ?_
  refine lv_aload_n C.1 C.2.1 dX4_branch_127 rfl (lv_at hl 0 rfl) ?_
  refine lv_iload_n C.1 C.2.1 dX4_branch_128 rfl (lv_at hl 1 rfl) ?_
  refine lv_iconst (v := (1 : Int32)) C.1 C.2.1 dX4_branch_129 (by decide) ?_
  refine lv_iadd C.1 C.2.1 dX4_branch_130 ?_
  cases hE
theorem ms_72 : Cond.selects RX4 yX4_branch yX4_branch ∈ W0 := w0_in (List.mem_append_left _ (List.mem_of_getElem? (i := 72) (by decide +kernel))) rfl
theorem m_536 : Cond.fieldLink RX4 83 (TX4 8).1 (TX4 8).2.1 (TX4 8).2.2.1 ∈ W0 := w0_in (List.mem_append_right _ (List.mem_of_getElem? (i := 536) (by decide +kernel))) rfl
theorem m_1380 : Cond.methodLink RX4 86 yX5_endOf ∈ W0 := w0_in (List.mem_append_right _ (List.mem_of_getElem? (i := 1380) (by decide +kernel))) rfl
theorem m_1384 : Cond.constant RX4 90 (100000 : Int32) ∈ W0 := w0_in (List.mem_append_right _ (List.mem_of_getElem? (i := 1384) (by decide +kernel))) rfl
theorem m_1385 : Cond.methodLink RX4 91 yX5_make ∈ W0 := w0_in (List.mem_append_right _ (List.mem_of_getElem? (i := 1385) (by decide +kernel))) rfl
theorem m_1386 : Cond.methodLink RX4 95 yX4_branch ∈ W0 := w0_in (List.mem_append_right _ (List.mem_of_getElem? (i := 1386) (by decide +kernel))) rfl
theorem m_1388 : Cond.instanceMethod yX4_branch ∈ W0 := w0_in (List.mem_append_right _ (List.mem_of_getElem? (i := 1388) (by decide +kernel))) rfl
theorem m_1389 : Cond.code yX4_branch cX4_branch 3 (some .int) ∈ W0 := w0_in (List.mem_append_right _ (List.mem_of_getElem? (i := 1389) (by decide +kernel))) rfl
section
variable {p : Program} {l : Launch} {e : Env} {R : Room} {s : State} {m : MethodId} {args : Array Value} {below : List Frame} {meth : Method} {c : Code} {H : Heap} {locs : List Loc} {cells slots : Nat} {Q : State → Prop}
variable {cc : ByteArray} {pc : Nat} {ls : Array Slot} {rest : List Value} {X : Ec} {h h1 : Hp} {nL : Nat} {rt : Option FieldType} {mn : String}
theorem gf_X4_29 {a r : Nat} (C : Cx X p s m args meth c RX4 cc nL rt mn) (hW : Wx X h H) (ha : hK h a = 4) (hr : hR h a 10 = some r) (hdg : decode cc pc = .ok (.getfield 29, 3)) (kk : hK h r = 17 → W p l e R s m args below meth c H locs cells slots Q (F0 m (pc + 3) ls (.ref r :: rest))) : W p l e R s m args below meth c H locs cells slots Q (F0 m pc ls (.ref a :: rest)) :=
  y_getr C hW ha i_X4 (by decide) rfl (by decide) m_539 rfl rfl hr hdg kk
theorem gf_X4_59 {a : Nat} (C : Cx X p s m args meth c RX4 cc nL rt mn) (hW : Wx X h H) (ha : hK h a = 4) (hdg : decode cc pc = .ok (.getfield 59, 3)) (kk : W p l e R s m args below meth c H locs cells slots Q (F0 m (pc + 3) ls (.int (hI h a 9) :: rest))) : W p l e R s m args below meth c H locs cells slots Q (F0 m pc ls (.ref a :: rest)) :=
  y_geti C hW ha i_X4 (by decide) rfl (by decide) m_537 rfl hdg kk
theorem pf_X4_83 {a : Nat} {v : Int32} (C : Cx X p s m args meth c RX4 cc nL rt mn) (hW : Wx X h H) (hZ : va_S (aA (eB X)) s.heap H locs) (ha : hK h a = 4) (eh : h1 = wI h a 8 v) (hdg : decode cc pc = .ok (.putfield 83, 3)) (kk : ∀ (H1 : Heap) (locs1 : List Loc), Wx X h1 H1 → Km h h1 → va_S (aA (eB X)) s.heap H1 locs1 → W p l e R s m args below meth c H1 locs1 cells slots Q (F0 m (pc + 3) ls rest)) : W p l e R s m args below meth c H locs cells slots Q (F0 m pc ls (.int v :: .ref a :: rest)) :=
  y_puti (ty := .int) C hW hZ ha i_X4 tyX4 tyX4_ok nmX4 (by decide) rfl rfl (by decide) m_536 rfl (by decide +kernel) rfl rfl rfl eh hdg kk
theorem gf_X4_83 {a : Nat} (C : Cx X p s m args meth c RX4 cc nL rt mn) (hW : Wx X h H) (ha : hK h a = 4) (hdg : decode cc pc = .ok (.getfield 83, 3)) (kk : W p l e R s m args below meth c H locs cells slots Q (F0 m (pc + 3) ls (.int (hI h a 8) :: rest))) : W p l e R s m args below meth c H locs cells slots Q (F0 m pc ls (.ref a :: rest)) :=
  y_geti C hW ha i_X4 (by decide) rfl (by decide) m_536 rfl hdg kk
end
theorem cw_X4_95 : cwd RX4 95 yX4_branch cX4_branch 3 (some .int) false 2 := ⟨m_1389, m_1386, m_14, ⟨m_1388, ms_72⟩, by decide, by decide, by decide +kernel⟩
theorem cw_X4_86 : cwd RX4 86 yX5_endOf cX5_endOf 3 (some .int) false 1 := ⟨m_1383, m_1380, m_7, ⟨m_1381, m_1382⟩, by decide, by decide, by decide +kernel⟩
theorem cw_X4_91 : cwd RX4 91 yX5_make cX5_make 8 none false 2 := ⟨m_1345, m_1385, m_7, ⟨m_1343, m_1344⟩, by decide, by decide, by decide +kernel⟩
theorem dX4_tree_0 : decode cX4_tree 0 = .ok (.iload_n 1, 1) := by decide +kernel
theorem dX4_tree_1 : decode cX4_tree 1 = .ok (.ifCond .lt 17, 3) := by decide +kernel
theorem dX4_tree_4 : decode cX4_tree 4 = .ok (.iload_n 1, 1) := by decide +kernel
theorem dX4_tree_5 : decode cX4_tree 5 = .ok (.aload_n 0, 1) := by decide +kernel
theorem dX4_tree_6 : decode cX4_tree 6 = .ok (.getfield 56, 3) := by decide +kernel
theorem dX4_tree_9 : decode cX4_tree 9 = .ok (.if_icmp .ge 9, 3) := by decide +kernel
theorem dX4_tree_12 : decode cX4_tree 12 = .ok (.iload_n 1, 1) := by decide +kernel
theorem dX4_tree_13 : decode cX4_tree 13 = .ok (.bipush 8, 2) := by decide +kernel
theorem dX4_tree_15 : decode cX4_tree 15 = .ok (.if_icmp .lt 5, 3) := by decide +kernel
theorem dX4_tree_18 : decode cX4_tree 18 = .ok (.iconst 0, 1) := by decide +kernel
theorem dX4_tree_19 : decode cX4_tree 19 = .ok (.ireturn, 1) := by decide +kernel
theorem dX4_tree_20 : decode cX4_tree 20 = .ok (.aload_n 0, 1) := by decide +kernel
theorem dX4_tree_21 : decode cX4_tree 21 = .ok (.getfield 19, 3) := by decide +kernel
theorem dX4_tree_24 : decode cX4_tree 24 = .ok (.iload_n 1, 1) := by decide +kernel
theorem dX4_tree_25 : decode cX4_tree 25 = .ok (.aaload, 1) := by decide +kernel
theorem dX4_tree_26 : decode cX4_tree 26 = .ok (.astore_n 2, 1) := by decide +kernel
theorem dX4_tree_27 : decode cX4_tree 27 = .ok (.aload_n 0, 1) := by decide +kernel
theorem dX4_tree_28 : decode cX4_tree 28 = .ok (.getfield 45, 3) := by decide +kernel
theorem dX4_tree_31 : decode cX4_tree 31 = .ok (.aload_n 0, 1) := by decide +kernel
theorem dX4_tree_32 : decode cX4_tree 32 = .ok (.getfield 13, 3) := by decide +kernel
theorem dX4_tree_35 : decode cX4_tree 35 = .ok (.iload_n 1, 1) := by decide +kernel
theorem dX4_tree_36 : decode cX4_tree 36 = .ok (.aaload, 1) := by decide +kernel
theorem dX4_tree_37 : decode cX4_tree 37 = .ok (.aload_n 2, 1) := by decide +kernel
theorem dX4_tree_38 : decode cX4_tree 38 = .ok (.sipush 4096, 3) := by decide +kernel
theorem dX4_tree_41 : decode cX4_tree 41 = .ok (.invokevirtual 77, 3) := by decide +kernel
theorem dX4_tree_44 : decode cX4_tree 44 = .ok (.istore_n 3, 1) := by decide +kernel
theorem dX4_tree_45 : decode cX4_tree 45 = .ok (.aload_n 0, 1) := by decide +kernel
theorem dX4_tree_46 : decode cX4_tree 46 = .ok (.iload_n 1, 1) := by decide +kernel
theorem dX4_tree_47 : decode cX4_tree 47 = .ok (.ifCond .ne 7, 3) := by decide +kernel
theorem dX4_tree_50 : decode cX4_tree 50 = .ok (.iload_n 3, 1) := by decide +kernel
theorem dX4_tree_51 : decode cX4_tree 51 = .ok (.goto 7, 3) := by decide +kernel
theorem dX4_tree_54 : decode cX4_tree 54 = .ok (.aload_n 0, 1) := by decide +kernel
theorem dX4_tree_55 : decode cX4_tree 55 = .ok (.getfield 83, 3) := by decide +kernel
theorem dX4_tree_58 : decode cX4_tree 58 = .ok (.putfield 83, 3) := by decide +kernel
theorem dX4_tree_61 : decode cX4_tree 61 = .ok (.aload_n 0, 1) := by decide +kernel
theorem dX4_tree_62 : decode cX4_tree 62 = .ok (.getfield 22, 3) := by decide +kernel
theorem dX4_tree_65 : decode cX4_tree 65 = .ok (.iload_n 1, 1) := by decide +kernel
theorem dX4_tree_66 : decode cX4_tree 66 = .ok (.iload_n 3, 1) := by decide +kernel
theorem dX4_tree_67 : decode cX4_tree 67 = .ok (.ifCond .le 7, 3) := by decide +kernel
theorem dX4_tree_70 : decode cX4_tree 70 = .ok (.iconst 0, 1) := by decide +kernel
theorem dX4_tree_71 : decode cX4_tree 71 = .ok (.goto 16, 3) := by decide +kernel
theorem dX4_tree_74 : decode cX4_tree 74 = .ok (.aload_n 0, 1) := by decide +kernel
theorem dX4_tree_75 : decode cX4_tree 75 = .ok (.getfield 45, 3) := by decide +kernel
theorem dX4_tree_78 : decode cX4_tree 78 = .ok (.aload_n 0, 1) := by decide +kernel
theorem dX4_tree_79 : decode cX4_tree 79 = .ok (.getfield 13, 3) := by decide +kernel
theorem dX4_tree_82 : decode cX4_tree 82 = .ok (.iload_n 1, 1) := by decide +kernel
theorem dX4_tree_83 : decode cX4_tree 83 = .ok (.aaload, 1) := by decide +kernel
theorem dX4_tree_84 : decode cX4_tree 84 = .ok (.invokevirtual 86, 3) := by decide +kernel
theorem dX4_tree_87 : decode cX4_tree 87 = .ok (.iastore, 1) := by decide +kernel
theorem dX4_tree_88 : decode cX4_tree 88 = .ok (.aload_n 0, 1) := by decide +kernel
theorem dX4_tree_89 : decode cX4_tree 89 = .ok (.getfield 26, 3) := by decide +kernel
theorem dX4_tree_92 : decode cX4_tree 92 = .ok (.iload_n 1, 1) := by decide +kernel
theorem dX4_tree_93 : decode cX4_tree 93 = .ok (.dup2, 1) := by decide +kernel
theorem dX4_tree_94 : decode cX4_tree 94 = .ok (.iaload, 1) := by decide +kernel
theorem dX4_tree_95 : decode cX4_tree 95 = .ok (.iload_n 3, 1) := by decide +kernel
theorem dX4_tree_96 : decode cX4_tree 96 = .ok (.iadd, 1) := by decide +kernel
theorem dX4_tree_97 : decode cX4_tree 97 = .ok (.iastore, 1) := by decide +kernel
theorem dX4_tree_98 : decode cX4_tree 98 = .ok (.aload_n 0, 1) := by decide +kernel
theorem dX4_tree_99 : decode cX4_tree 99 = .ok (.aload_n 0, 1) := by decide +kernel
theorem dX4_tree_100 : decode cX4_tree 100 = .ok (.getfield 59, 3) := by decide +kernel
theorem dX4_tree_103 : decode cX4_tree 103 = .ok (.ifCond .ne 14, 3) := by decide +kernel
theorem dX4_tree_106 : decode cX4_tree 106 = .ok (.aload_n 0, 1) := by decide +kernel
theorem dX4_tree_107 : decode cX4_tree 107 = .ok (.getfield 26, 3) := by decide +kernel
theorem dX4_tree_110 : decode cX4_tree 110 = .ok (.iload_n 1, 1) := by decide +kernel
theorem dX4_tree_111 : decode cX4_tree 111 = .ok (.iaload, 1) := by decide +kernel
theorem dX4_tree_112 : decode cX4_tree 112 = .ok (.ldc 90, 2) := by decide +kernel
theorem dX4_tree_114 : decode cX4_tree 114 = .ok (.if_icmp .le 7, 3) := by decide +kernel
theorem dX4_tree_117 : decode cX4_tree 117 = .ok (.iconst 1, 1) := by decide +kernel
theorem dX4_tree_118 : decode cX4_tree 118 = .ok (.goto 4, 3) := by decide +kernel
theorem dX4_tree_121 : decode cX4_tree 121 = .ok (.iconst 0, 1) := by decide +kernel
theorem dX4_tree_122 : decode cX4_tree 122 = .ok (.putfield 59, 3) := by decide +kernel
theorem dX4_tree_125 : decode cX4_tree 125 = .ok (.aload_n 0, 1) := by decide +kernel
theorem dX4_tree_126 : decode cX4_tree 126 = .ok (.getfield 50, 3) := by decide +kernel
theorem dX4_tree_129 : decode cX4_tree 129 = .ok (.iconst 4, 1) := by decide +kernel
theorem dX4_tree_130 : decode cX4_tree 130 = .ok (.if_icmp .ne 15, 3) := by decide +kernel
theorem dX4_tree_133 : decode cX4_tree 133 = .ok (.iload_n 1, 1) := by decide +kernel
theorem dX4_tree_134 : decode cX4_tree 134 = .ok (.iconst 1, 1) := by decide +kernel
theorem dX4_tree_135 : decode cX4_tree 135 = .ok (.iadd, 1) := by decide +kernel
theorem dX4_tree_136 : decode cX4_tree 136 = .ok (.aload_n 0, 1) := by decide +kernel
theorem dX4_tree_137 : decode cX4_tree 137 = .ok (.getfield 56, 3) := by decide +kernel
theorem dX4_tree_140 : decode cX4_tree 140 = .ok (.if_icmp .ne 5, 3) := by decide +kernel
theorem dX4_tree_143 : decode cX4_tree 143 = .ok (.iload_n 3, 1) := by decide +kernel
theorem dX4_tree_144 : decode cX4_tree 144 = .ok (.ireturn, 1) := by decide +kernel
theorem dX4_tree_145 : decode cX4_tree 145 = .ok (.iconst 0, 1) := by decide +kernel
theorem dX4_tree_146 : decode cX4_tree 146 = .ok (.istore 4, 2) := by decide +kernel
theorem dX4_tree_148 : decode cX4_tree 148 = .ok (.iconst 0, 1) := by decide +kernel
theorem dX4_tree_149 : decode cX4_tree 149 = .ok (.istore 5, 2) := by decide +kernel
theorem dX4_tree_151 : decode cX4_tree 151 = .ok (.iload 5, 2) := by decide +kernel
theorem dX4_tree_153 : decode cX4_tree 153 = .ok (.iload_n 3, 1) := by decide +kernel
theorem dX4_tree_154 : decode cX4_tree 154 = .ok (.if_icmp .ge 114, 3) := by decide +kernel
theorem dX4_tree_157 : decode cX4_tree 157 = .ok (.aload_n 0, 1) := by decide +kernel
theorem dX4_tree_158 : decode cX4_tree 158 = .ok (.getfield 59, 3) := by decide +kernel
theorem dX4_tree_161 : decode cX4_tree 161 = .ok (.ifCond .ne 107, 3) := by decide +kernel
theorem dX4_tree_164 : decode cX4_tree 164 = .ok (.aload_n 0, 1) := by decide +kernel
theorem dX4_tree_165 : decode cX4_tree 165 = .ok (.getfield 13, 3) := by decide +kernel
theorem dX4_tree_168 : decode cX4_tree 168 = .ok (.iload_n 1, 1) := by decide +kernel
theorem dX4_tree_169 : decode cX4_tree 169 = .ok (.iconst 1, 1) := by decide +kernel
theorem dX4_tree_170 : decode cX4_tree 170 = .ok (.iadd, 1) := by decide +kernel
theorem dX4_tree_171 : decode cX4_tree 171 = .ok (.aaload, 1) := by decide +kernel
theorem dX4_tree_172 : decode cX4_tree 172 = .ok (.astore 6, 2) := by decide +kernel
theorem dX4_tree_174 : decode cX4_tree 174 = .ok (.aload 6, 2) := by decide +kernel
theorem dX4_tree_176 : decode cX4_tree 176 = .ok (.aload_n 0, 1) := by decide +kernel
theorem dX4_tree_177 : decode cX4_tree 177 = .ok (.getfield 13, 3) := by decide +kernel
theorem dX4_tree_180 : decode cX4_tree 180 = .ok (.iload_n 1, 1) := by decide +kernel
theorem dX4_tree_181 : decode cX4_tree 181 = .ok (.aaload, 1) := by decide +kernel
theorem dX4_tree_182 : decode cX4_tree 182 = .ok (.invokevirtual 69, 3) := by decide +kernel
theorem dX4_tree_185 : decode cX4_tree 185 = .ok (.aload_n 0, 1) := by decide +kernel
theorem dX4_tree_186 : decode cX4_tree 186 = .ok (.getfield 45, 3) := by decide +kernel
theorem dX4_tree_189 : decode cX4_tree 189 = .ok (.aload 6, 2) := by decide +kernel
theorem dX4_tree_191 : decode cX4_tree 191 = .ok (.aload_n 2, 1) := by decide +kernel
theorem dX4_tree_192 : decode cX4_tree 192 = .ok (.iload 5, 2) := by decide +kernel
theorem dX4_tree_194 : decode cX4_tree 194 = .ok (.iaload, 1) := by decide +kernel
theorem dX4_tree_195 : decode cX4_tree 195 = .ok (.invokevirtual 91, 3) := by decide +kernel
theorem dX4_tree_198 : decode cX4_tree 198 = .ok (.iload_n 1, 1) := by decide +kernel
theorem dX4_tree_199 : decode cX4_tree 199 = .ok (.iconst 1, 1) := by decide +kernel
theorem dX4_tree_200 : decode cX4_tree 200 = .ok (.iadd, 1) := by decide +kernel
theorem dX4_tree_201 : decode cX4_tree 201 = .ok (.aload_n 0, 1) := by decide +kernel
theorem dX4_tree_202 : decode cX4_tree 202 = .ok (.getfield 56, 3) := by decide +kernel
theorem dX4_tree_205 : decode cX4_tree 205 = .ok (.if_icmp .eq 11, 3) := by decide +kernel
theorem dX4_tree_208 : decode cX4_tree 208 = .ok (.aload_n 0, 1) := by decide +kernel
theorem dX4_tree_209 : decode cX4_tree 209 = .ok (.getfield 50, 3) := by decide +kernel
theorem dX4_tree_212 : decode cX4_tree 212 = .ok (.iconst 3, 1) := by decide +kernel
theorem dX4_tree_213 : decode cX4_tree 213 = .ok (.if_icmp .ne 20, 3) := by decide +kernel
theorem dX4_tree_216 : decode cX4_tree 216 = .ok (.aload_n 0, 1) := by decide +kernel
theorem dX4_tree_217 : decode cX4_tree 217 = .ok (.getfield 22, 3) := by decide +kernel
theorem dX4_tree_220 : decode cX4_tree 220 = .ok (.iload_n 1, 1) := by decide +kernel
theorem dX4_tree_221 : decode cX4_tree 221 = .ok (.iconst 1, 1) := by decide +kernel
theorem dX4_tree_222 : decode cX4_tree 222 = .ok (.iadd, 1) := by decide +kernel
theorem dX4_tree_223 : decode cX4_tree 223 = .ok (.aload_n 0, 1) := by decide +kernel
theorem dX4_tree_224 : decode cX4_tree 224 = .ok (.getfield 45, 3) := by decide +kernel
theorem dX4_tree_227 : decode cX4_tree 227 = .ok (.aload 6, 2) := by decide +kernel
theorem dX4_tree_229 : decode cX4_tree 229 = .ok (.invokevirtual 86, 3) := by decide +kernel
theorem dX4_tree_232 : decode cX4_tree 232 = .ok (.iastore, 1) := by decide +kernel
theorem dX4_tree_233 : decode cX4_tree 233 = .ok (.aload_n 0, 1) := by decide +kernel
theorem dX4_tree_234 : decode cX4_tree 234 = .ok (.iload_n 1, 1) := by decide +kernel
theorem dX4_tree_235 : decode cX4_tree 235 = .ok (.iload 5, 2) := by decide +kernel
theorem dX4_tree_237 : decode cX4_tree 237 = .ok (.invokevirtual 95, 3) := by decide +kernel
theorem dX4_tree_240 : decode cX4_tree 240 = .ok (.istore 7, 2) := by decide +kernel
theorem dX4_tree_242 : decode cX4_tree 242 = .ok (.iload_n 1, 1) := by decide +kernel
theorem dX4_tree_243 : decode cX4_tree 243 = .ok (.ifCond .ne 12, 3) := by decide +kernel
theorem dX4_tree_246 : decode cX4_tree 246 = .ok (.aload_n 0, 1) := by decide +kernel
theorem dX4_tree_247 : decode cX4_tree 247 = .ok (.getfield 29, 3) := by decide +kernel
theorem dX4_tree_250 : decode cX4_tree 250 = .ok (.iload 5, 2) := by decide +kernel
theorem dX4_tree_252 : decode cX4_tree 252 = .ok (.iload 7, 2) := by decide +kernel
theorem dX4_tree_254 : decode cX4_tree 254 = .ok (.iastore, 1) := by decide +kernel
theorem dX4_tree_255 : decode cX4_tree 255 = .ok (.iload 4, 2) := by decide +kernel
theorem dX4_tree_257 : decode cX4_tree 257 = .ok (.iload 7, 2) := by decide +kernel
theorem dX4_tree_259 : decode cX4_tree 259 = .ok (.iadd, 1) := by decide +kernel
theorem dX4_tree_260 : decode cX4_tree 260 = .ok (.istore 4, 2) := by decide +kernel
theorem dX4_tree_262 : decode cX4_tree 262 = .ok (.iinc 5 1, 3) := by decide +kernel
theorem dX4_tree_265 : decode cX4_tree 265 = .ok (.goto (-114), 3) := by decide +kernel
theorem dX4_tree_268 : decode cX4_tree 268 = .ok (.iload 4, 2) := by decide +kernel
theorem dX4_tree_270 : decode cX4_tree 270 = .ok (.ireturn, 1) := by decide +kernel
def sX4_tree_18 (F : Nat) (h : Hp) : Option (Int32 × Hp) := some ((0 : Int32), h)
def sX4_tree_268 (F : Nat) (h : Hp) (x4 : Int32) : Option (Int32 × Hp) := some (x4, h)
def sX4_tree_255 (F : Nat) (k_151 : Hp → Nat → Int32 → Nat → Int32 → Int32 → Int32 → Option (Int32 × Hp)) (h : Hp) (x0 : Nat) (x1 : Int32) (x2 : Nat) (x3 : Int32) (x4 : Int32) (x5 : Int32) (x7 : Int32) : Option (Int32 × Hp) := nm (x4 + x7) fun v_1 => nm (x5 + (1 : Int32)) fun v_2 => k_151 h x0 x1 x2 x3 v_1 v_2
def sX4_tree_233 (F : Nat) (k_151 : Hp → Nat → Int32 → Nat → Int32 → Int32 → Int32 → Option (Int32 × Hp)) (h : Hp) (x0 : Nat) (x1 : Int32) (x2 : Nat) (x3 : Int32) (x4 : Int32) (x5 : Int32) : Option (Int32 × Hp) := cl (sX4_branch F h x0 x1 x5) fun o_1 => br (x1 = 0) (cl (hR o_1.2 x0 10) fun r_3 => gd (inB x5 (hN o_1.2 r_3)) <| nm (wI o_1.2 r_3 x5.toNatClampNeg o_1.1) fun h_5 => sX4_tree_255 F k_151 h_5 x0 x1 x2 x3 x4 x5 o_1.1) (sX4_tree_255 F k_151 o_1.2 x0 x1 x2 x3 x4 x5 o_1.1)
def sX4_tree_216 (F : Nat) (k_151 : Hp → Nat → Int32 → Nat → Int32 → Int32 → Int32 → Option (Int32 × Hp)) (h : Hp) (x0 : Nat) (x1 : Int32) (x2 : Nat) (x3 : Int32) (x4 : Int32) (x5 : Int32) (x6 : Nat) : Option (Int32 × Hp) := cl (hR h x0 3) fun r_1 => cl (hR h x0 0) fun r_2 => cl (sX5_endOf F h r_2 x6) fun o_3 => gd (inB (x1 + (1 : Int32)) (hN o_3.2 r_1)) <| nm (wI o_3.2 r_1 (x1 + (1 : Int32)).toNatClampNeg o_3.1) fun h_5 => sX4_tree_233 F k_151 h_5 x0 x1 x2 x3 x4 x5
def sX4_tree_151 (F : Nat) : Nat → Hp → Nat → Int32 → Nat → Int32 → Int32 → Int32 → Option (Int32 × Hp)
  | 0, _, _, _, _, _, _, _ => none
  | f + 1, h, x0, x1, x2, x3, x4, x5 => br (x3 ≤ x5) (sX4_tree_268 F h x4) (br ((hI h x0 9) = 0) (cl (hR h x0 1) fun r_3 => gd (inB (x1 + (1 : Int32)) (hN h r_3)) <| cl (hR h r_3 (x1 + (1 : Int32)).toNatClampNeg) fun r_5 => cl (hR h x0 1) fun r_6 => gd (inB x1 (hN h r_6)) <| cl (hR h r_6 x1.toNatClampNeg) fun r_8 => cl (sX3_copyFrom F h r_5 r_8) fun o_9 => cl (hR o_9 x0 0) fun r_10 => gd (inB x5 (hN o_9 x2)) <| cl (sX5_make F o_9 r_10 r_5 (hI o_9 x2 x5.toNatClampNeg)) fun o_12 => br ((x1 + (1 : Int32)) = (hI o_12 x0 7)) (sX4_tree_216 F (sX4_tree_151 F f) o_12 x0 x1 x2 x3 x4 x5 r_5) (br ((hI o_12 x0 5) = (3 : Int32)) (sX4_tree_216 F (sX4_tree_151 F f) o_12 x0 x1 x2 x3 x4 x5 r_5) (sX4_tree_233 F (sX4_tree_151 F f) o_12 x0 x1 x2 x3 x4 x5))) (sX4_tree_268 F h x4))
def sX4_tree_145 (F : Nat) (h : Hp) (x0 : Nat) (x1 : Int32) (x2 : Nat) (x3 : Int32) : Option (Int32 × Hp) := sX4_tree_151 F F h x0 x1 x2 x3 (0 : Int32) (0 : Int32)
def sX4_tree_122 (F : Nat) (h : Hp) (x0 : Nat) (x1 : Int32) (x2 : Nat) (x3 : Int32) (t0 : Int32) (t1 : Nat) : Option (Int32 × Hp) := gd (t0 &&& 1 = t0) <| nm (wI h t1 9 t0) fun h_2 => br ((hI h_2 x0 5) = (4 : Int32)) (br ((x1 + (1 : Int32)) = (hI h_2 x0 7)) (some (x3, h_2)) (sX4_tree_145 F h_2 x0 x1 x2 x3)) (sX4_tree_145 F h_2 x0 x1 x2 x3)
def sX4_tree_117 (F : Nat) (h : Hp) (x0 : Nat) (x1 : Int32) (x2 : Nat) (x3 : Int32) (t0 : Nat) : Option (Int32 × Hp) := sX4_tree_122 F h x0 x1 x2 x3 (1 : Int32) t0
def sX4_tree_87 (F : Nat) (h : Hp) (x0 : Nat) (x1 : Int32) (x2 : Nat) (x3 : Int32) (t0 : Int32) (t1 : Int32) (t2 : Nat) : Option (Int32 × Hp) := gd (inB t1 (hN h t2)) <| nm (wI h t2 t1.toNatClampNeg t0) fun h_2 => cl (hR h_2 x0 4) fun r_3 => gd (inB x1 (hN h_2 r_3)) <| gd (inB x1 (hN h_2 r_3)) <| nm (wI h_2 r_3 x1.toNatClampNeg ((hI h_2 r_3 x1.toNatClampNeg) + x3)) fun h_6 => br ((hI h_6 x0 9) = 0) (cl (hR h_6 x0 4) fun r_8 => gd (inB x1 (hN h_6 r_8)) <| br ((hI h_6 r_8 x1.toNatClampNeg) ≤ (100000 : Int32)) (sX4_tree_122 F h_6 x0 x1 x2 x3 (0 : Int32) x0) (sX4_tree_117 F h_6 x0 x1 x2 x3 x0)) (sX4_tree_117 F h_6 x0 x1 x2 x3 x0)
def sX4_tree_58 (F : Nat) (h : Hp) (x0 : Nat) (x1 : Int32) (x2 : Nat) (x3 : Int32) (t0 : Int32) (t1 : Nat) : Option (Int32 × Hp) := nm (wI h t1 8 t0) fun h_1 => cl (hR h_1 x0 3) fun r_2 => br (x3 ≤ 0) (cl (hR h_1 x0 0) fun r_4 => cl (hR h_1 x0 1) fun r_5 => gd (inB x1 (hN h_1 r_5)) <| cl (hR h_1 r_5 x1.toNatClampNeg) fun r_7 => cl (sX5_endOf F h_1 r_4 r_7) fun o_8 => sX4_tree_87 F o_8.2 x0 x1 x2 x3 o_8.1 x1 r_2) (sX4_tree_87 F h_1 x0 x1 x2 x3 (0 : Int32) x1 r_2)
def sX4_tree (F : Nat) (h : Hp) (x0 : Nat) (x1 : Int32) : Option (Int32 × Hp) := br (x1 < 0) (sX4_tree_18 F h ) (br ((hI h x0 7) ≤ x1) (sX4_tree_18 F h ) (br (x1 < (8 : Int32)) (cl (hR h x0 2) fun r_4 => gd (inB x1 (hN h r_4)) <| cl (hR h r_4 x1.toNatClampNeg) fun r_6 => cl (hR h x0 0) fun r_7 => cl (hR h x0 1) fun r_8 => gd (inB x1 (hN h r_8)) <| cl (hR h r_8 x1.toNatClampNeg) fun r_10 => cl (sX5_collect F h r_7 r_10 r_6 (4096 : Int32)) fun o_11 => br (x1 = 0) (sX4_tree_58 F o_11.2 x0 x1 r_6 o_11.1 o_11.1 x0) (sX4_tree_58 F o_11.2 x0 x1 r_6 o_11.1 (hI o_11.2 x0 8) x0)) (sX4_tree_18 F h )))
set_option maxRecDepth 20000 in
theorem bX4_tree_18 {p : Program} {l : Launch} {e : Env} {s : State} {m : MethodId} {args : Array Value} {below : List Frame} {meth : Method} {c : Code} {X : Ec} {h0 : Hp} {o : Int32 × Hp} {F : Nat} (C : Cx X p s m args meth c RX4 cX4_tree 8 (some .int) "tree") {h : Hp} {H : Heap} {locs : List Loc} (hkm : Km h0 h) (hW : Wx X h H) (hZ : va_S (aA (eB X)) s.heap H locs) (ls : Array Slot) (hl : lv_has ls 8 []) (hE : sX4_tree_18 F h  = some o) : W p l e (rm 6 186) s m args below meth c H locs 0 0 (MQ below (QI X h0 o.1 o.2) args s 0 0 (aA (eB X))) (F0 m 18 ls []) := by
  refine lv_iconst (v := (0 : Int32)) C.1 C.2.1 dX4_tree_18 (by decide) ?_
  exact x_iret C rfl rfl hW hZ hkm hE dX4_tree_19
set_option maxRecDepth 20000 in
theorem bX4_tree_268 {p : Program} {l : Launch} {e : Env} {s : State} {m : MethodId} {args : Array Value} {below : List Frame} {meth : Method} {c : Code} {X : Ec} {h0 : Hp} {o : Int32 × Hp} {F : Nat} (C : Cx X p s m args meth c RX4 cX4_tree 8 (some .int) "tree") {h : Hp} {x4 : Int32} {H : Heap} {locs : List Loc} (hkm : Km h0 h) (hW : Wx X h H) (hZ : va_S (aA (eB X)) s.heap H locs) (ls : Array Slot) (hl : lv_has ls 8 [(4, .int x4)]) (hE : sX4_tree_268 F h x4 = some o) : W p l e (rm 6 186) s m args below meth c H locs 0 0 (MQ below (QI X h0 o.1 o.2) args s 0 0 (aA (eB X))) (F0 m 268 ls []) := by
  refine lv_iload C.1 C.2.1 dX4_tree_268 (lv_at hl 0 rfl) ?_
  exact x_iret C rfl rfl hW hZ hkm hE dX4_tree_270
set_option maxRecDepth 20000 in
theorem bX4_tree_255 {p : Program} {l : Launch} {e : Env} {s : State} {m : MethodId} {args : Array Value} {below : List Frame} {meth : Method} {c : Code} {X : Ec} {h0 : Hp} {o : Int32 × Hp} {k_151 : Hp → Nat → Int32 → Nat → Int32 → Int32 → Int32 → Option (Int32 × Hp)} {F : Nat} (C : Cx X p s m args meth c RX4 cX4_tree 8 (some .int) "tree") (hk_151 : ∀ (h : Hp) (x0 : Nat) (x1 : Int32) (x2 : Nat) (x3 : Int32) (x4 : Int32) (x5 : Int32) (H : Heap) (locs : List Loc), hK h x0 = 4 → hK h x2 = 17 → Km h0 h → Wx X h H → va_S (aA (eB X)) s.heap H locs → ∀ (ls : Array Slot), lv_has ls 8 [(0, .ref x0), (1, .int x1), (2, .ref x2), (3, .int x3), (4, .int x4), (5, .int x5)] → k_151 h x0 x1 x2 x3 x4 x5 = some o → W p l e (rm 6 186) s m args below meth c H locs 0 0 (MQ below (QI X h0 o.1 o.2) args s 0 0 (aA (eB X))) (F0 m 151 ls [])) {h : Hp} {x0 : Nat} {x1 : Int32} {x2 : Nat} {x3 : Int32} {x4 : Int32} {x5 : Int32} {x7 : Int32} {H : Heap} {locs : List Loc} (k_x0 : hK h x0 = 4) (k_x2 : hK h x2 = 17) (hkm : Km h0 h) (hW : Wx X h H) (hZ : va_S (aA (eB X)) s.heap H locs) (ls : Array Slot) (hl : lv_has ls 8 [(0, .ref x0), (1, .int x1), (2, .ref x2), (3, .int x3), (4, .int x4), (5, .int x5), (7, .int x7)]) (hE : sX4_tree_255 F k_151 h x0 x1 x2 x3 x4 x5 x7 = some o) : W p l e (rm 6 186) s m args below meth c H locs 0 0 (MQ below (QI X h0 o.1 o.2) args s 0 0 (aA (eB X))) (F0 m 255 ls []) := by
  refine lv_iload C.1 C.2.1 dX4_tree_255 (lv_at hl 4 rfl) ?_
  refine lv_iload C.1 C.2.1 dX4_tree_257 (lv_at hl 6 rfl) ?_
  refine lv_iadd C.1 C.2.1 dX4_tree_259 ?_
  obtain ⟨v_1, ev_1, hE⟩ := nm_e2 hE
  refine x_nmI ev_1 ?_
  refine lv_istore (lv' := [(4, .int v_1), (0, .ref x0), (1, .int x1), (2, .ref x2), (3, .int x3), (5, .int x5), (7, .int x7)]) C.1 C.2.1 dX4_tree_260 hl (by decide) rfl (fun ls hl => ?_)
  obtain ⟨v_2, ev_2, hE⟩ := nm_e2 hE
  refine lv_iinc (v := v_2) (lv' := [(5, .int v_2), (4, .int v_1), (0, .ref x0), (1, .int x1), (2, .ref x2), (3, .int x3), (7, .int x7)]) C.1 C.2.1 dX4_tree_262 hl (k := 5) rfl (by rw [ev_2]; rfl) (by decide) rfl (fun ls hl => ?_)
  refine lv_goto (tgt := 151) C.1 C.2.1 dX4_tree_265 (by decide) ?_
  exact hk_151 _ _ _ _ _ _ _ _ _ k_x0 k_x2 hkm hW hZ _ (lv_sub hl [2, 3, 4, 5, 1, 0] rfl) hE
set_option maxRecDepth 20000 in
theorem bX4_tree_233 {p : Program} {l : Launch} {e : Env} {s : State} {m : MethodId} {args : Array Value} {below : List Frame} {meth : Method} {c : Code} {X : Ec} {h0 : Hp} {o : Int32 × Hp} {k_151 : Hp → Nat → Int32 → Nat → Int32 → Int32 → Int32 → Option (Int32 × Hp)} {F : Nat} (C : Cx X p s m args meth c RX4 cX4_tree 8 (some .int) "tree") (hk_151 : ∀ (h : Hp) (x0 : Nat) (x1 : Int32) (x2 : Nat) (x3 : Int32) (x4 : Int32) (x5 : Int32) (H : Heap) (locs : List Loc), hK h x0 = 4 → hK h x2 = 17 → Km h0 h → Wx X h H → va_S (aA (eB X)) s.heap H locs → ∀ (ls : Array Slot), lv_has ls 8 [(0, .ref x0), (1, .int x1), (2, .ref x2), (3, .int x3), (4, .int x4), (5, .int x5)] → k_151 h x0 x1 x2 x3 x4 x5 = some o → W p l e (rm 6 186) s m args below meth c H locs 0 0 (MQ below (QI X h0 o.1 o.2) args s 0 0 (aA (eB X))) (F0 m 151 ls [])) {h : Hp} {x0 : Nat} {x1 : Int32} {x2 : Nat} {x3 : Int32} {x4 : Int32} {x5 : Int32} {H : Heap} {locs : List Loc} (k_x0 : hK h x0 = 4) (k_x2 : hK h x2 = 17) (hkm : Km h0 h) (hW : Wx X h H) (hZ : va_S (aA (eB X)) s.heap H locs) (ls : Array Slot) (hl : lv_has ls 8 [(0, .ref x0), (1, .int x1), (2, .ref x2), (3, .int x3), (4, .int x4), (5, .int x5)]) (hE : sX4_tree_233 F k_151 h x0 x1 x2 x3 x4 x5 = some o) : W p l e (rm 6 186) s m args below meth c H locs 0 0 (MQ below (QI X h0 o.1 o.2) args s 0 0 (aA (eB X))) (F0 m 233 ls []) := by
  refine lv_aload_n C.1 C.2.1 dX4_tree_233 rfl (lv_at hl 0 rfl) ?_
  refine lv_iload_n C.1 C.2.1 dX4_tree_234 rfl (lv_at hl 1 rfl) ?_
  refine lv_iload C.1 C.2.1 dX4_tree_235 (lv_at hl 5 rfl) ?_
  obtain ⟨o_1, eo_1, hE⟩ := cl_e hE
  refine x_kI (o := o_1) (z_runV (As := [.int x1, .int x5]) (rest := []) C (ct_X4_branch l X F k_x0 eo_1) cw_X4_95 hW hZ k_x0 (by decide) rfl rfl rfl hl.1 (Nat.le_of_ble_eq_true rfl) rfl dX4_tree_237 ⟨Nat.le_of_ble_eq_true rfl, Nat.le_of_ble_eq_true rfl⟩ ⟨Nat.le_refl _, Nat.le_refl _⟩) hZ (fun _ _ hW km hZ => ?_)
  replace hkm := hkm.tr km
  replace k_x0 := km.at k_x0 (by decide)
  replace k_x2 := km.at k_x2 (by decide)
  refine lv_istore (lv' := [(7, .int o_1.1), (0, .ref x0), (1, .int x1), (2, .ref x2), (3, .int x3), (4, .int x4), (5, .int x5)]) C.1 C.2.1 dX4_tree_240 hl (by decide) rfl (fun ls hl => ?_)
  refine lv_iload_n C.1 C.2.1 dX4_tree_242 rfl (lv_at hl 2 rfl) ?_
  refine lv_if_ne (tgt := 255) C.1 C.2.1 dX4_tree_243 (by decide) (fun c_2 => ?_) (fun c_2 => ?_)
  · have hE := br_n hE c_2
    exact bX4_tree_255 C hk_151 k_x0 k_x2 hkm hW hZ _ (lv_sub hl [1, 2, 3, 4, 5, 6, 0] rfl) hE
  · have hE := br_p hE c_2
    refine lv_aload_n C.1 C.2.1 dX4_tree_246 rfl (lv_at hl 1 rfl) ?_
    obtain ⟨r_3, er_3, hE⟩ := cl_e hE
    refine gf_X4_29 C hW k_x0 er_3 dX4_tree_247 (fun k_r_3 => ?_)
    refine lv_iload C.1 C.2.1 dX4_tree_250 (lv_at hl 6 rfl) ?_
    refine lv_iload C.1 C.2.1 dX4_tree_252 (lv_at hl 0 rfl) ?_
    obtain ⟨g_4, hE⟩ := gd_e hE
    obtain ⟨h_5, eh_5, hE⟩ := nm_e2 hE
    refine y_iast C hW hZ k_r_3 g_4 eh_5 dX4_tree_254 (fun _ _ hW km hZ => ?_)
    replace hkm := hkm.tr km
    replace k_x0 := km.at k_x0 (by decide)
    replace k_x2 := km.at k_x2 (by decide)
    exact bX4_tree_255 C hk_151 k_x0 k_x2 hkm hW hZ _ (lv_sub hl [1, 2, 3, 4, 5, 6, 0] rfl) hE
set_option maxRecDepth 20000 in
theorem bX4_tree_216 {p : Program} {l : Launch} {e : Env} {s : State} {m : MethodId} {args : Array Value} {below : List Frame} {meth : Method} {c : Code} {X : Ec} {h0 : Hp} {o : Int32 × Hp} {k_151 : Hp → Nat → Int32 → Nat → Int32 → Int32 → Int32 → Option (Int32 × Hp)} {F : Nat} (C : Cx X p s m args meth c RX4 cX4_tree 8 (some .int) "tree") (hk_151 : ∀ (h : Hp) (x0 : Nat) (x1 : Int32) (x2 : Nat) (x3 : Int32) (x4 : Int32) (x5 : Int32) (H : Heap) (locs : List Loc), hK h x0 = 4 → hK h x2 = 17 → Km h0 h → Wx X h H → va_S (aA (eB X)) s.heap H locs → ∀ (ls : Array Slot), lv_has ls 8 [(0, .ref x0), (1, .int x1), (2, .ref x2), (3, .int x3), (4, .int x4), (5, .int x5)] → k_151 h x0 x1 x2 x3 x4 x5 = some o → W p l e (rm 6 186) s m args below meth c H locs 0 0 (MQ below (QI X h0 o.1 o.2) args s 0 0 (aA (eB X))) (F0 m 151 ls [])) {h : Hp} {x0 : Nat} {x1 : Int32} {x2 : Nat} {x3 : Int32} {x4 : Int32} {x5 : Int32} {x6 : Nat} {H : Heap} {locs : List Loc} (k_x0 : hK h x0 = 4) (k_x2 : hK h x2 = 17) (k_x6 : hK h x6 = 3) (hkm : Km h0 h) (hW : Wx X h H) (hZ : va_S (aA (eB X)) s.heap H locs) (ls : Array Slot) (hl : lv_has ls 8 [(0, .ref x0), (1, .int x1), (2, .ref x2), (3, .int x3), (4, .int x4), (5, .int x5), (6, .ref x6)]) (hE : sX4_tree_216 F k_151 h x0 x1 x2 x3 x4 x5 x6 = some o) : W p l e (rm 6 186) s m args below meth c H locs 0 0 (MQ below (QI X h0 o.1 o.2) args s 0 0 (aA (eB X))) (F0 m 216 ls []) := by
  refine lv_aload_n C.1 C.2.1 dX4_tree_216 rfl (lv_at hl 0 rfl) ?_
  obtain ⟨r_1, er_1, hE⟩ := cl_e hE
  refine gf_X4_22 C hW k_x0 er_1 dX4_tree_217 (fun k_r_1 => ?_)
  refine lv_iload_n C.1 C.2.1 dX4_tree_220 rfl (lv_at hl 1 rfl) ?_
  refine lv_iconst (v := (1 : Int32)) C.1 C.2.1 dX4_tree_221 (by decide) ?_
  refine lv_iadd C.1 C.2.1 dX4_tree_222 ?_
  refine lv_aload_n C.1 C.2.1 dX4_tree_223 rfl (lv_at hl 0 rfl) ?_
  obtain ⟨r_2, er_2, hE⟩ := cl_e hE
  refine gf_X4_45 C hW k_x0 er_2 dX4_tree_224 (fun k_r_2 => ?_)
  refine lv_aload C.1 C.2.1 dX4_tree_227 (lv_at hl 6 rfl) ?_
  obtain ⟨o_3, eo_3, hE⟩ := cl_e hE
  refine x_kI (o := o_3) (z_runV (As := [.ref x6]) (rest := [.int (x1 + (1 : Int32)), .ref r_1]) C (ct_X5_endOf l X F k_r_2 k_x6 eo_3) cw_X4_86 hW hZ k_r_2 (by decide) rfl rfl rfl hl.1 (Nat.le_of_ble_eq_true rfl) rfl dX4_tree_229 ⟨Nat.le_of_ble_eq_true rfl, Nat.le_of_ble_eq_true rfl⟩ ⟨Nat.le_refl _, Nat.le_refl _⟩) hZ (fun _ _ hW km hZ => ?_)
  replace hkm := hkm.tr km
  replace k_x0 := km.at k_x0 (by decide)
  replace k_x2 := km.at k_x2 (by decide)
  replace k_x6 := km.at k_x6 (by decide)
  replace k_r_1 := km.at k_r_1 (by decide)
  obtain ⟨g_4, hE⟩ := gd_e hE
  obtain ⟨h_5, eh_5, hE⟩ := nm_e2 hE
  refine y_iast C hW hZ k_r_1 g_4 eh_5 dX4_tree_232 (fun _ _ hW km hZ => ?_)
  replace hkm := hkm.tr km
  replace k_x0 := km.at k_x0 (by decide)
  replace k_x2 := km.at k_x2 (by decide)
  replace k_x6 := km.at k_x6 (by decide)
  exact bX4_tree_233 C hk_151 k_x0 k_x2 hkm hW hZ _ (lv_sub hl [0, 1, 2, 3, 4, 5] rfl) hE
set_option maxRecDepth 20000 in
theorem bX4_tree_151 {p : Program} {l : Launch} {e : Env} {s : State} {m : MethodId} {args : Array Value} {below : List Frame} {meth : Method} {c : Code} {X : Ec} {h0 : Hp} {o : Int32 × Hp} {F : Nat} (C : Cx X p s m args meth c RX4 cX4_tree 8 (some .int) "tree") : ∀ (f : Nat) {h : Hp} {x0 : Nat} {x1 : Int32} {x2 : Nat} {x3 : Int32} {x4 : Int32} {x5 : Int32} {H : Heap} {locs : List Loc} (k_x0 : hK h x0 = 4) (k_x2 : hK h x2 = 17), Km h0 h → Wx X h H → va_S (aA (eB X)) s.heap H locs → ∀ (ls : Array Slot), lv_has ls 8 [(0, .ref x0), (1, .int x1), (2, .ref x2), (3, .int x3), (4, .int x4), (5, .int x5)] → sX4_tree_151 F f h x0 x1 x2 x3 x4 x5 = some o → W p l e (rm 6 186) s m args below meth c H locs 0 0 (MQ below (QI X h0 o.1 o.2) args s 0 0 (aA (eB X))) (F0 m 151 ls []) := by
  intro f
  induction f with
  | zero =>
    intro h x0 x1 x2 x3 x4 x5 H locs k_x0 k_x2 hkm hW hZ ls hl hE
    rw [sX4_tree_151] at hE
    cases hE
  | succ f ih =>
    intro h x0 x1 x2 x3 x4 x5 H locs k_x0 k_x2 hkm hW hZ ls hl hE
    rw [sX4_tree_151] at hE
    have hk_151 : ∀ (h : Hp) (x0 : Nat) (x1 : Int32) (x2 : Nat) (x3 : Int32) (x4 : Int32) (x5 : Int32) (H : Heap) (locs : List Loc), hK h x0 = 4 → hK h x2 = 17 → Km h0 h → Wx X h H → va_S (aA (eB X)) s.heap H locs → ∀ (ls : Array Slot), lv_has ls 8 [(0, .ref x0), (1, .int x1), (2, .ref x2), (3, .int x3), (4, .int x4), (5, .int x5)] → sX4_tree_151 F f h x0 x1 x2 x3 x4 x5 = some o → W p l e (rm 6 186) s m args below meth c H locs 0 0 (MQ below (QI X h0 o.1 o.2) args s 0 0 (aA (eB X))) (F0 m 151 ls []) := fun h x0 x1 x2 x3 x4 x5 H locs k_x0 k_x2 a b c ls hl hE => ih k_x0 k_x2 a b c ls hl hE
    refine lv_iload C.1 C.2.1 dX4_tree_151 (lv_at hl 5 rfl) ?_
    refine lv_iload_n C.1 C.2.1 dX4_tree_153 rfl (lv_at hl 3 rfl) ?_
    refine lv_icmp_ge (tgt := 268) C.1 C.2.1 dX4_tree_154 (by decide) (fun c_1 => ?_) (fun c_1 => ?_)
    · have hE := br_p hE c_1
      exact bX4_tree_268 C hkm hW hZ _ (lv_sub hl [4] rfl) hE
    · have hE := br_n hE c_1
      refine lv_aload_n C.1 C.2.1 dX4_tree_157 rfl (lv_at hl 0 rfl) ?_
      refine gf_X4_59 C hW k_x0 dX4_tree_158 ?_
      refine lv_if_ne (tgt := 268) C.1 C.2.1 dX4_tree_161 (by decide) (fun c_2 => ?_) (fun c_2 => ?_)
      · have hE := br_n hE c_2
        exact bX4_tree_268 C hkm hW hZ _ (lv_sub hl [4] rfl) hE
      · have hE := br_p hE c_2
        refine lv_aload_n C.1 C.2.1 dX4_tree_164 rfl (lv_at hl 0 rfl) ?_
        obtain ⟨r_3, er_3, hE⟩ := cl_e hE
        refine gf_X4_13 C hW k_x0 er_3 dX4_tree_165 (fun k_r_3 => ?_)
        refine lv_iload_n C.1 C.2.1 dX4_tree_168 rfl (lv_at hl 1 rfl) ?_
        refine lv_iconst (v := (1 : Int32)) C.1 C.2.1 dX4_tree_169 (by decide) ?_
        refine lv_iadd C.1 C.2.1 dX4_tree_170 ?_
        obtain ⟨g_4, hE⟩ := gd_e hE
        obtain ⟨r_5, er_5, hE⟩ := cl_e hE
        refine y_aald (t0 := 4) C hW k_r_3 (by decide) (by decide) rfl rfl rfl (fun _ => rfl) g_4 er_5 dX4_tree_171 (fun k_r_5 => ?_)
        refine lv_astore (lv' := [(6, .ref r_5), (0, .ref x0), (1, .int x1), (2, .ref x2), (3, .int x3), (4, .int x4), (5, .int x5)]) C.1 C.2.1 dX4_tree_172 hl (by decide) rfl (fun ls hl => ?_)
        refine lv_aload C.1 C.2.1 dX4_tree_174 (lv_at hl 0 rfl) ?_
        refine lv_aload_n C.1 C.2.1 dX4_tree_176 rfl (lv_at hl 1 rfl) ?_
        obtain ⟨r_6, er_6, hE⟩ := cl_e hE
        refine gf_X4_13 C hW k_x0 er_6 dX4_tree_177 (fun k_r_6 => ?_)
        refine lv_iload_n C.1 C.2.1 dX4_tree_180 rfl (lv_at hl 2 rfl) ?_
        obtain ⟨g_7, hE⟩ := gd_e hE
        obtain ⟨r_8, er_8, hE⟩ := cl_e hE
        refine y_aald (t0 := 4) C hW k_r_6 (by decide) (by decide) rfl rfl rfl (fun _ => rfl) g_7 er_8 dX4_tree_181 (fun k_r_8 => ?_)
        obtain ⟨o_9, eo_9, hE⟩ := cl_e hE
        refine x_kV (o := o_9) (z_runV (As := [.ref r_8]) (rest := []) C (ct_X3_copyFrom l X F k_r_5 k_r_8 eo_9) cw_X4_69 hW hZ k_r_5 (by decide) rfl rfl rfl hl.1 (Nat.le_of_ble_eq_true rfl) rfl dX4_tree_182 ⟨Nat.le_of_ble_eq_true rfl, Nat.le_of_ble_eq_true rfl⟩ ⟨Nat.le_refl _, Nat.le_refl _⟩) hZ (fun _ _ hW km hZ => ?_)
        replace hkm := hkm.tr km
        replace k_r_5 := km.at k_r_5 (by decide)
        replace k_x0 := km.at k_x0 (by decide)
        replace k_x2 := km.at k_x2 (by decide)
        refine lv_aload_n C.1 C.2.1 dX4_tree_185 rfl (lv_at hl 1 rfl) ?_
        obtain ⟨r_10, er_10, hE⟩ := cl_e hE
        refine gf_X4_45 C hW k_x0 er_10 dX4_tree_186 (fun k_r_10 => ?_)
        refine lv_aload C.1 C.2.1 dX4_tree_189 (lv_at hl 0 rfl) ?_
        refine lv_aload_n C.1 C.2.1 dX4_tree_191 rfl (lv_at hl 3 rfl) ?_
        refine lv_iload C.1 C.2.1 dX4_tree_192 (lv_at hl 6 rfl) ?_
        obtain ⟨g_11, hE⟩ := gd_e hE
        refine y_iald C hW k_x2 g_11 dX4_tree_194 ?_
        obtain ⟨o_12, eo_12, hE⟩ := cl_e hE
        refine x_kV (o := o_12) (z_runV (As := [.ref r_5, .int (hI o_9 x2 x5.toNatClampNeg)]) (rest := []) C (ct_X5_make l X F k_r_10 k_r_5 eo_12) cw_X4_91 hW hZ k_r_10 (by decide) rfl rfl rfl hl.1 (Nat.le_of_ble_eq_true rfl) rfl dX4_tree_195 ⟨Nat.le_of_ble_eq_true rfl, Nat.le_of_ble_eq_true rfl⟩ ⟨Nat.le_refl _, Nat.le_refl _⟩) hZ (fun _ _ hW km hZ => ?_)
        replace hkm := hkm.tr km
        replace k_r_5 := km.at k_r_5 (by decide)
        replace k_x0 := km.at k_x0 (by decide)
        replace k_x2 := km.at k_x2 (by decide)
        refine lv_iload_n C.1 C.2.1 dX4_tree_198 rfl (lv_at hl 2 rfl) ?_
        refine lv_iconst (v := (1 : Int32)) C.1 C.2.1 dX4_tree_199 (by decide) ?_
        refine lv_iadd C.1 C.2.1 dX4_tree_200 ?_
        refine lv_aload_n C.1 C.2.1 dX4_tree_201 rfl (lv_at hl 1 rfl) ?_
        refine gf_X4_56 C hW k_x0 dX4_tree_202 ?_
        refine lv_icmp_eq (tgt := 216) C.1 C.2.1 dX4_tree_205 (by decide) (fun c_13 => ?_) (fun c_13 => ?_)
        · have hE := br_p hE c_13
          exact bX4_tree_216 C hk_151 k_x0 k_x2 k_r_5 hkm hW hZ _ (lv_sub hl [1, 2, 3, 4, 5, 6, 0] rfl) hE
        · have hE := br_n hE c_13
          refine lv_aload_n C.1 C.2.1 dX4_tree_208 rfl (lv_at hl 1 rfl) ?_
          refine gf_X4_50 C hW k_x0 dX4_tree_209 ?_
          refine lv_iconst (v := (3 : Int32)) C.1 C.2.1 dX4_tree_212 (by decide) ?_
          refine lv_icmp_ne (tgt := 233) C.1 C.2.1 dX4_tree_213 (by decide) (fun c_14 => ?_) (fun c_14 => ?_)
          · have hE := br_n hE c_14
            exact bX4_tree_233 C hk_151 k_x0 k_x2 hkm hW hZ _ (lv_sub hl [1, 2, 3, 4, 5, 6] rfl) hE
          · have hE := br_p hE c_14
            exact bX4_tree_216 C hk_151 k_x0 k_x2 k_r_5 hkm hW hZ _ (lv_sub hl [1, 2, 3, 4, 5, 6, 0] rfl) hE
set_option maxRecDepth 20000 in
theorem bX4_tree_145 {p : Program} {l : Launch} {e : Env} {s : State} {m : MethodId} {args : Array Value} {below : List Frame} {meth : Method} {c : Code} {X : Ec} {h0 : Hp} {o : Int32 × Hp} {F : Nat} (C : Cx X p s m args meth c RX4 cX4_tree 8 (some .int) "tree") {h : Hp} {x0 : Nat} {x1 : Int32} {x2 : Nat} {x3 : Int32} {H : Heap} {locs : List Loc} (k_x0 : hK h x0 = 4) (k_x2 : hK h x2 = 17) (hkm : Km h0 h) (hW : Wx X h H) (hZ : va_S (aA (eB X)) s.heap H locs) (ls : Array Slot) (hl : lv_has ls 8 [(0, .ref x0), (1, .int x1), (2, .ref x2), (3, .int x3)]) (hE : sX4_tree_145 F h x0 x1 x2 x3 = some o) : W p l e (rm 6 186) s m args below meth c H locs 0 0 (MQ below (QI X h0 o.1 o.2) args s 0 0 (aA (eB X))) (F0 m 145 ls []) := by
  refine lv_iconst (v := (0 : Int32)) C.1 C.2.1 dX4_tree_145 (by decide) ?_
  refine lv_istore (lv' := [(4, .int (0 : Int32)), (0, .ref x0), (1, .int x1), (2, .ref x2), (3, .int x3)]) C.1 C.2.1 dX4_tree_146 hl (by decide) rfl (fun ls hl => ?_)
  refine lv_iconst (v := (0 : Int32)) C.1 C.2.1 dX4_tree_148 (by decide) ?_
  refine lv_istore (lv' := [(5, .int (0 : Int32)), (4, .int (0 : Int32)), (0, .ref x0), (1, .int x1), (2, .ref x2), (3, .int x3)]) C.1 C.2.1 dX4_tree_149 hl (by decide) rfl (fun ls hl => ?_)
  exact bX4_tree_151 C F k_x0 k_x2 hkm hW hZ _ (lv_sub hl [2, 3, 4, 5, 1, 0] rfl) hE
set_option maxRecDepth 20000 in
theorem bX4_tree_122 {p : Program} {l : Launch} {e : Env} {s : State} {m : MethodId} {args : Array Value} {below : List Frame} {meth : Method} {c : Code} {X : Ec} {h0 : Hp} {o : Int32 × Hp} {F : Nat} (C : Cx X p s m args meth c RX4 cX4_tree 8 (some .int) "tree") {h : Hp} {x0 : Nat} {x1 : Int32} {x2 : Nat} {x3 : Int32} {t0 : Int32} {t1 : Nat} {H : Heap} {locs : List Loc} (k_x0 : hK h x0 = 4) (k_x2 : hK h x2 = 17) (k_t1 : hK h t1 = 4) (hkm : Km h0 h) (hW : Wx X h H) (hZ : va_S (aA (eB X)) s.heap H locs) (ls : Array Slot) (hl : lv_has ls 8 [(0, .ref x0), (1, .int x1), (2, .ref x2), (3, .int x3)]) (hE : sX4_tree_122 F h x0 x1 x2 x3 t0 t1 = some o) : W p l e (rm 6 186) s m args below meth c H locs 0 0 (MQ below (QI X h0 o.1 o.2) args s 0 0 (aA (eB X))) (F0 m 122 ls [.int t0, .ref t1]) := by
  obtain ⟨g_1, hE⟩ := gd_e hE
  obtain ⟨h_2, eh_2, hE⟩ := nm_e2 hE
  refine pf_X4_59 C hW hZ k_t1 (narB g_1) eh_2 dX4_tree_122 (fun _ _ hW km hZ => ?_)
  replace hkm := hkm.tr km
  replace k_x0 := km.at k_x0 (by decide)
  replace k_x2 := km.at k_x2 (by decide)
  refine lv_aload_n C.1 C.2.1 dX4_tree_125 rfl (lv_at hl 0 rfl) ?_
  refine gf_X4_50 C hW k_x0 dX4_tree_126 ?_
  refine lv_iconst (v := (4 : Int32)) C.1 C.2.1 dX4_tree_129 (by decide) ?_
  refine lv_icmp_ne (tgt := 145) C.1 C.2.1 dX4_tree_130 (by decide) (fun c_3 => ?_) (fun c_3 => ?_)
  · have hE := br_n hE c_3
    exact bX4_tree_145 C k_x0 k_x2 hkm hW hZ _ (lv_sub hl [0, 1, 2, 3] rfl) hE
  · have hE := br_p hE c_3
    refine lv_iload_n C.1 C.2.1 dX4_tree_133 rfl (lv_at hl 1 rfl) ?_
    refine lv_iconst (v := (1 : Int32)) C.1 C.2.1 dX4_tree_134 (by decide) ?_
    refine lv_iadd C.1 C.2.1 dX4_tree_135 ?_
    refine lv_aload_n C.1 C.2.1 dX4_tree_136 rfl (lv_at hl 0 rfl) ?_
    refine gf_X4_56 C hW k_x0 dX4_tree_137 ?_
    refine lv_icmp_ne (tgt := 145) C.1 C.2.1 dX4_tree_140 (by decide) (fun c_4 => ?_) (fun c_4 => ?_)
    · have hE := br_n hE c_4
      exact bX4_tree_145 C k_x0 k_x2 hkm hW hZ _ (lv_sub hl [0, 1, 2, 3] rfl) hE
    · have hE := br_p hE c_4
      refine lv_iload_n C.1 C.2.1 dX4_tree_143 rfl (lv_at hl 3 rfl) ?_
      exact x_iret C rfl rfl hW hZ hkm hE dX4_tree_144
set_option maxRecDepth 20000 in
theorem bX4_tree_117 {p : Program} {l : Launch} {e : Env} {s : State} {m : MethodId} {args : Array Value} {below : List Frame} {meth : Method} {c : Code} {X : Ec} {h0 : Hp} {o : Int32 × Hp} {F : Nat} (C : Cx X p s m args meth c RX4 cX4_tree 8 (some .int) "tree") {h : Hp} {x0 : Nat} {x1 : Int32} {x2 : Nat} {x3 : Int32} {t0 : Nat} {H : Heap} {locs : List Loc} (k_x0 : hK h x0 = 4) (k_x2 : hK h x2 = 17) (k_t0 : hK h t0 = 4) (hkm : Km h0 h) (hW : Wx X h H) (hZ : va_S (aA (eB X)) s.heap H locs) (ls : Array Slot) (hl : lv_has ls 8 [(0, .ref x0), (1, .int x1), (2, .ref x2), (3, .int x3)]) (hE : sX4_tree_117 F h x0 x1 x2 x3 t0 = some o) : W p l e (rm 6 186) s m args below meth c H locs 0 0 (MQ below (QI X h0 o.1 o.2) args s 0 0 (aA (eB X))) (F0 m 117 ls [.ref t0]) := by
  refine lv_iconst (v := (1 : Int32)) C.1 C.2.1 dX4_tree_117 (by decide) ?_
  refine lv_goto (tgt := 122) C.1 C.2.1 dX4_tree_118 (by decide) ?_
  exact bX4_tree_122 C k_x0 k_x2 k_t0 hkm hW hZ _ (lv_sub hl [0, 1, 2, 3] rfl) hE
set_option maxRecDepth 20000 in
theorem bX4_tree_87 {p : Program} {l : Launch} {e : Env} {s : State} {m : MethodId} {args : Array Value} {below : List Frame} {meth : Method} {c : Code} {X : Ec} {h0 : Hp} {o : Int32 × Hp} {F : Nat} (C : Cx X p s m args meth c RX4 cX4_tree 8 (some .int) "tree") {h : Hp} {x0 : Nat} {x1 : Int32} {x2 : Nat} {x3 : Int32} {t0 : Int32} {t1 : Int32} {t2 : Nat} {H : Heap} {locs : List Loc} (k_x0 : hK h x0 = 4) (k_x2 : hK h x2 = 17) (k_t2 : hK h t2 = 17) (hkm : Km h0 h) (hW : Wx X h H) (hZ : va_S (aA (eB X)) s.heap H locs) (ls : Array Slot) (hl : lv_has ls 8 [(0, .ref x0), (1, .int x1), (2, .ref x2), (3, .int x3)]) (hE : sX4_tree_87 F h x0 x1 x2 x3 t0 t1 t2 = some o) : W p l e (rm 6 186) s m args below meth c H locs 0 0 (MQ below (QI X h0 o.1 o.2) args s 0 0 (aA (eB X))) (F0 m 87 ls [.int t0, .int t1, .ref t2]) := by
  obtain ⟨g_1, hE⟩ := gd_e hE
  obtain ⟨h_2, eh_2, hE⟩ := nm_e2 hE
  refine y_iast C hW hZ k_t2 g_1 eh_2 dX4_tree_87 (fun _ _ hW km hZ => ?_)
  replace hkm := hkm.tr km
  replace k_x0 := km.at k_x0 (by decide)
  replace k_x2 := km.at k_x2 (by decide)
  refine lv_aload_n C.1 C.2.1 dX4_tree_88 rfl (lv_at hl 0 rfl) ?_
  obtain ⟨r_3, er_3, hE⟩ := cl_e hE
  refine gf_X4_26 C hW k_x0 er_3 dX4_tree_89 (fun k_r_3 => ?_)
  refine lv_iload_n C.1 C.2.1 dX4_tree_92 rfl (lv_at hl 1 rfl) ?_
  refine lv_dup2_11 C.1 C.2.1 dX4_tree_93 rfl rfl ?_
  obtain ⟨g_4, hE⟩ := gd_e hE
  refine y_iald C hW k_r_3 g_4 dX4_tree_94 ?_
  refine lv_iload_n C.1 C.2.1 dX4_tree_95 rfl (lv_at hl 3 rfl) ?_
  refine lv_iadd C.1 C.2.1 dX4_tree_96 ?_
  obtain ⟨g_5, hE⟩ := gd_e hE
  obtain ⟨h_6, eh_6, hE⟩ := nm_e2 hE
  refine y_iast C hW hZ k_r_3 g_5 eh_6 dX4_tree_97 (fun _ _ hW km hZ => ?_)
  replace hkm := hkm.tr km
  replace k_x0 := km.at k_x0 (by decide)
  replace k_x2 := km.at k_x2 (by decide)
  refine lv_aload_n C.1 C.2.1 dX4_tree_98 rfl (lv_at hl 0 rfl) ?_
  refine lv_aload_n C.1 C.2.1 dX4_tree_99 rfl (lv_at hl 0 rfl) ?_
  refine gf_X4_59 C hW k_x0 dX4_tree_100 ?_
  refine lv_if_ne (tgt := 117) C.1 C.2.1 dX4_tree_103 (by decide) (fun c_7 => ?_) (fun c_7 => ?_)
  · have hE := br_n hE c_7
    exact bX4_tree_117 C k_x0 k_x2 k_x0 hkm hW hZ _ (lv_sub hl [0, 1, 2, 3] rfl) hE
  · have hE := br_p hE c_7
    refine lv_aload_n C.1 C.2.1 dX4_tree_106 rfl (lv_at hl 0 rfl) ?_
    obtain ⟨r_8, er_8, hE⟩ := cl_e hE
    refine gf_X4_26 C hW k_x0 er_8 dX4_tree_107 (fun k_r_8 => ?_)
    refine lv_iload_n C.1 C.2.1 dX4_tree_110 rfl (lv_at hl 1 rfl) ?_
    obtain ⟨g_9, hE⟩ := gd_e hE
    refine y_iald C hW k_r_8 g_9 dX4_tree_111 ?_
    refine lv_ldc (v := (100000 : Int32)) C.1 C.2.1 C.2.2.2.1 (C.2.2.2.2.1 _ m_1384) dX4_tree_112 ?_
    refine lv_icmp_le (tgt := 121) C.1 C.2.1 dX4_tree_114 (by decide) (fun c_10 => ?_) (fun c_10 => ?_)
    · have hE := br_p hE c_10
      refine lv_iconst (v := (0 : Int32)) C.1 C.2.1 dX4_tree_121 (by decide) ?_
      exact bX4_tree_122 C k_x0 k_x2 k_x0 hkm hW hZ _ (lv_sub hl [0, 1, 2, 3] rfl) hE
    · have hE := br_n hE c_10
      exact bX4_tree_117 C k_x0 k_x2 k_x0 hkm hW hZ _ (lv_sub hl [0, 1, 2, 3] rfl) hE
set_option maxRecDepth 20000 in
theorem bX4_tree_58 {p : Program} {l : Launch} {e : Env} {s : State} {m : MethodId} {args : Array Value} {below : List Frame} {meth : Method} {c : Code} {X : Ec} {h0 : Hp} {o : Int32 × Hp} {F : Nat} (C : Cx X p s m args meth c RX4 cX4_tree 8 (some .int) "tree") {h : Hp} {x0 : Nat} {x1 : Int32} {x2 : Nat} {x3 : Int32} {t0 : Int32} {t1 : Nat} {H : Heap} {locs : List Loc} (k_x0 : hK h x0 = 4) (k_x2 : hK h x2 = 17) (k_t1 : hK h t1 = 4) (hkm : Km h0 h) (hW : Wx X h H) (hZ : va_S (aA (eB X)) s.heap H locs) (ls : Array Slot) (hl : lv_has ls 8 [(0, .ref x0), (1, .int x1), (2, .ref x2), (3, .int x3)]) (hE : sX4_tree_58 F h x0 x1 x2 x3 t0 t1 = some o) : W p l e (rm 6 186) s m args below meth c H locs 0 0 (MQ below (QI X h0 o.1 o.2) args s 0 0 (aA (eB X))) (F0 m 58 ls [.int t0, .ref t1]) := by
  obtain ⟨h_1, eh_1, hE⟩ := nm_e2 hE
  refine pf_X4_83 C hW hZ k_t1 eh_1 dX4_tree_58 (fun _ _ hW km hZ => ?_)
  replace hkm := hkm.tr km
  replace k_x0 := km.at k_x0 (by decide)
  replace k_x2 := km.at k_x2 (by decide)
  refine lv_aload_n C.1 C.2.1 dX4_tree_61 rfl (lv_at hl 0 rfl) ?_
  obtain ⟨r_2, er_2, hE⟩ := cl_e hE
  refine gf_X4_22 C hW k_x0 er_2 dX4_tree_62 (fun k_r_2 => ?_)
  refine lv_iload_n C.1 C.2.1 dX4_tree_65 rfl (lv_at hl 1 rfl) ?_
  refine lv_iload_n C.1 C.2.1 dX4_tree_66 rfl (lv_at hl 3 rfl) ?_
  refine lv_if_le (tgt := 74) C.1 C.2.1 dX4_tree_67 (by decide) (fun c_3 => ?_) (fun c_3 => ?_)
  · have hE := br_p hE c_3
    refine lv_aload_n C.1 C.2.1 dX4_tree_74 rfl (lv_at hl 0 rfl) ?_
    obtain ⟨r_4, er_4, hE⟩ := cl_e hE
    refine gf_X4_45 C hW k_x0 er_4 dX4_tree_75 (fun k_r_4 => ?_)
    refine lv_aload_n C.1 C.2.1 dX4_tree_78 rfl (lv_at hl 0 rfl) ?_
    obtain ⟨r_5, er_5, hE⟩ := cl_e hE
    refine gf_X4_13 C hW k_x0 er_5 dX4_tree_79 (fun k_r_5 => ?_)
    refine lv_iload_n C.1 C.2.1 dX4_tree_82 rfl (lv_at hl 1 rfl) ?_
    obtain ⟨g_6, hE⟩ := gd_e hE
    obtain ⟨r_7, er_7, hE⟩ := cl_e hE
    refine y_aald (t0 := 4) C hW k_r_5 (by decide) (by decide) rfl rfl rfl (fun _ => rfl) g_6 er_7 dX4_tree_83 (fun k_r_7 => ?_)
    obtain ⟨o_8, eo_8, hE⟩ := cl_e hE
    refine x_kI (o := o_8) (z_runV (As := [.ref r_7]) (rest := [.int x1, .ref r_2]) C (ct_X5_endOf l X F k_r_4 k_r_7 eo_8) cw_X4_86 hW hZ k_r_4 (by decide) rfl rfl rfl hl.1 (Nat.le_of_ble_eq_true rfl) rfl dX4_tree_84 ⟨Nat.le_of_ble_eq_true rfl, Nat.le_of_ble_eq_true rfl⟩ ⟨Nat.le_refl _, Nat.le_refl _⟩) hZ (fun _ _ hW km hZ => ?_)
    replace hkm := hkm.tr km
    replace k_x0 := km.at k_x0 (by decide)
    replace k_x2 := km.at k_x2 (by decide)
    replace k_r_2 := km.at k_r_2 (by decide)
    exact bX4_tree_87 C k_x0 k_x2 k_r_2 hkm hW hZ _ (lv_sub hl [0, 1, 2, 3] rfl) hE
  · have hE := br_n hE c_3
    refine lv_iconst (v := (0 : Int32)) C.1 C.2.1 dX4_tree_70 (by decide) ?_
    refine lv_goto (tgt := 87) C.1 C.2.1 dX4_tree_71 (by decide) ?_
    exact bX4_tree_87 C k_x0 k_x2 k_r_2 hkm hW hZ _ (lv_sub hl [0, 1, 2, 3] rfl) hE
set_option maxRecDepth 20000 in
theorem ct_X4_tree (l : Launch) (X : Ec) (F : Nat) {h : Hp} {x0 : Nat} {x1 : Int32} {o : Int32 × Hp} (k_x0 : hK h x0 = 4) (hE : sX4_tree F h x0 x1 = some o) : MetI l yX4_tree cX4_tree 8 (some .int) 6 186 X [.ref x0, .int x1] h o := by
  refine x_met (by decide) (Nat.le_of_ble_eq_true rfl) ?_
  intro p e s m below meth c ls C hl hW hZ
  have hl : lv_has ls 8 [(0, .ref x0), (1, .int x1)] := hl
  have hkm : Km h h := Km.rf h
  refine lv_iload_n C.1 C.2.1 dX4_tree_0 rfl (lv_at hl 1 rfl) ?_
  refine lv_if_lt (tgt := 18) C.1 C.2.1 dX4_tree_1 (by decide) (fun c_1 => ?_) (fun c_1 => ?_)
  · have hE := br_p hE c_1
    exact bX4_tree_18 C hkm hW hZ _ (lv_sub hl [] rfl) hE
  · have hE := br_n hE c_1
    refine lv_iload_n C.1 C.2.1 dX4_tree_4 rfl (lv_at hl 1 rfl) ?_
    refine lv_aload_n C.1 C.2.1 dX4_tree_5 rfl (lv_at hl 0 rfl) ?_
    refine gf_X4_56 C hW k_x0 dX4_tree_6 ?_
    refine lv_icmp_ge (tgt := 18) C.1 C.2.1 dX4_tree_9 (by decide) (fun c_2 => ?_) (fun c_2 => ?_)
    · have hE := br_p hE c_2
      exact bX4_tree_18 C hkm hW hZ _ (lv_sub hl [] rfl) hE
    · have hE := br_n hE c_2
      refine lv_iload_n C.1 C.2.1 dX4_tree_12 rfl (lv_at hl 1 rfl) ?_
      refine lv_bipush (v := (8 : Int32)) C.1 C.2.1 dX4_tree_13 (by decide) ?_
      refine lv_icmp_lt (tgt := 20) C.1 C.2.1 dX4_tree_15 (by decide) (fun c_3 => ?_) (fun c_3 => ?_)
      · have hE := br_p hE c_3
        refine lv_aload_n C.1 C.2.1 dX4_tree_20 rfl (lv_at hl 0 rfl) ?_
        obtain ⟨r_4, er_4, hE⟩ := cl_e hE
        refine gf_X4_19 C hW k_x0 er_4 dX4_tree_21 (fun k_r_4 => ?_)
        refine lv_iload_n C.1 C.2.1 dX4_tree_24 rfl (lv_at hl 1 rfl) ?_
        obtain ⟨g_5, hE⟩ := gd_e hE
        obtain ⟨r_6, er_6, hE⟩ := cl_e hE
        refine y_aald (t0 := 7) C hW k_r_4 (by decide) (by decide) rfl rfl rfl (fun _ => rfl) g_5 er_6 dX4_tree_25 (fun k_r_6 => ?_)
        refine lv_astore_n (lv' := [(2, .ref r_6), (0, .ref x0), (1, .int x1)]) C.1 C.2.1 dX4_tree_26 rfl hl (by decide) rfl (fun ls hl => ?_)
        refine lv_aload_n C.1 C.2.1 dX4_tree_27 rfl (lv_at hl 1 rfl) ?_
        obtain ⟨r_7, er_7, hE⟩ := cl_e hE
        refine gf_X4_45 C hW k_x0 er_7 dX4_tree_28 (fun k_r_7 => ?_)
        refine lv_aload_n C.1 C.2.1 dX4_tree_31 rfl (lv_at hl 1 rfl) ?_
        obtain ⟨r_8, er_8, hE⟩ := cl_e hE
        refine gf_X4_13 C hW k_x0 er_8 dX4_tree_32 (fun k_r_8 => ?_)
        refine lv_iload_n C.1 C.2.1 dX4_tree_35 rfl (lv_at hl 2 rfl) ?_
        obtain ⟨g_9, hE⟩ := gd_e hE
        obtain ⟨r_10, er_10, hE⟩ := cl_e hE
        refine y_aald (t0 := 4) C hW k_r_8 (by decide) (by decide) rfl rfl rfl (fun _ => rfl) g_9 er_10 dX4_tree_36 (fun k_r_10 => ?_)
        refine lv_aload_n C.1 C.2.1 dX4_tree_37 rfl (lv_at hl 0 rfl) ?_
        refine lv_sipush (v := (4096 : Int32)) C.1 C.2.1 dX4_tree_38 (by decide) ?_
        obtain ⟨o_11, eo_11, hE⟩ := cl_e hE
        refine x_kI (o := o_11) (z_runV (As := [.ref r_10, .ref r_6, .int (4096 : Int32)]) (rest := []) C (ct_X5_collect l X F k_r_7 k_r_10 k_r_6 eo_11) cw_X4_77 hW hZ k_r_7 (by decide) rfl rfl rfl hl.1 (Nat.le_of_ble_eq_true rfl) rfl dX4_tree_41 ⟨Nat.le_of_ble_eq_true rfl, Nat.le_of_ble_eq_true rfl⟩ ⟨Nat.le_refl _, Nat.le_refl _⟩) hZ (fun _ _ hW km hZ => ?_)
        replace hkm := hkm.tr km
        replace k_r_6 := km.at k_r_6 (by decide)
        replace k_x0 := km.at k_x0 (by decide)
        refine lv_istore_n (lv' := [(3, .int o_11.1), (2, .ref r_6), (0, .ref x0), (1, .int x1)]) C.1 C.2.1 dX4_tree_44 rfl hl (by decide) rfl (fun ls hl => ?_)
        refine lv_aload_n C.1 C.2.1 dX4_tree_45 rfl (lv_at hl 2 rfl) ?_
        refine lv_iload_n C.1 C.2.1 dX4_tree_46 rfl (lv_at hl 3 rfl) ?_
        refine lv_if_ne (tgt := 54) C.1 C.2.1 dX4_tree_47 (by decide) (fun c_12 => ?_) (fun c_12 => ?_)
        · have hE := br_n hE c_12
          refine lv_aload_n C.1 C.2.1 dX4_tree_54 rfl (lv_at hl 2 rfl) ?_
          refine gf_X4_83 C hW k_x0 dX4_tree_55 ?_
          exact bX4_tree_58 C k_x0 k_r_6 k_x0 hkm hW hZ _ (lv_sub hl [2, 3, 1, 0] rfl) hE
        · have hE := br_p hE c_12
          refine lv_iload_n C.1 C.2.1 dX4_tree_50 rfl (lv_at hl 0 rfl) ?_
          refine lv_goto (tgt := 58) C.1 C.2.1 dX4_tree_51 (by decide) ?_
          exact bX4_tree_58 C k_x0 k_r_6 k_x0 hkm hW hZ _ (lv_sub hl [2, 3, 1, 0] rfl) hE
      · have hE := br_n hE c_3
        exact bX4_tree_18 C hkm hW hZ _ (lv_sub hl [] rfl) hE
theorem m_1786 : Cond.methodLink RX4 136 arraycopyName ∈ W0 := w0_in (List.mem_append_right _ (List.mem_of_getElem? (i := 1786) (by decide +kernel))) rfl
section
variable {p : Program} {l : Launch} {e : Env} {R : Room} {s : State} {m : MethodId} {args : Array Value} {below : List Frame} {meth : Method} {c : Code} {H : Heap} {locs : List Loc} {cells slots : Nat} {Q : State → Prop}
variable {cc : ByteArray} {pc : Nat} {ls : Array Slot} {rest : List Value} {X : Ec} {h h1 : Hp} {nL : Nat} {rt : Option FieldType} {mn : String}
theorem gf_X4_38 {a r : Nat} (C : Cx X p s m args meth c RX4 cc nL rt mn) (hW : Wx X h H) (ha : hK h a = 4) (hr : hR h a 13 = some r) (hdg : decode cc pc = .ok (.getfield 38, 3)) (kk : hK h r = 17 → W p l e R s m args below meth c H locs cells slots Q (F0 m (pc + 3) ls (.ref r :: rest))) : W p l e R s m args below meth c H locs cells slots Q (F0 m pc ls (.ref a :: rest)) :=
  y_getr C hW ha i_X4 (by decide) rfl (by decide) m_542 rfl rfl hr hdg kk
theorem gf_X4_133 {a : Nat} (C : Cx X p s m args meth c RX4 cc nL rt mn) (hW : Wx X h H) (ha : hK h a = 4) (hdg : decode cc pc = .ok (.getfield 133, 3)) (kk : W p l e R s m args below meth c H locs cells slots Q (F0 m (pc + 3) ls (.int (hI h a 15) :: rest))) : W p l e R s m args below meth c H locs cells slots Q (F0 m pc ls (.ref a :: rest)) :=
  y_geti C hW ha i_X4 (by decide) rfl (by decide) m_544 rfl hdg kk
theorem gf_X4_35 {a r : Nat} (C : Cx X p s m args meth c RX4 cc nL rt mn) (hW : Wx X h H) (ha : hK h a = 4) (hr : hR h a 12 = some r) (hdg : decode cc pc = .ok (.getfield 35, 3)) (kk : hK h r = 17 → W p l e R s m args below meth c H locs cells slots Q (F0 m (pc + 3) ls (.ref r :: rest))) : W p l e R s m args below meth c H locs cells slots Q (F0 m pc ls (.ref a :: rest)) :=
  y_getr C hW ha i_X4 (by decide) rfl (by decide) m_541 rfl rfl hr hdg kk
theorem gf_X4_130 {a : Nat} (C : Cx X p s m args meth c RX4 cc nL rt mn) (hW : Wx X h H) (ha : hK h a = 4) (hdg : decode cc pc = .ok (.getfield 130, 3)) (kk : W p l e R s m args below meth c H locs cells slots Q (F0 m (pc + 3) ls (.int (hI h a 14) :: rest))) : W p l e R s m args below meth c H locs cells slots Q (F0 m pc ls (.ref a :: rest)) :=
  y_geti C hW ha i_X4 (by decide) rfl (by decide) m_543 rfl hdg kk
end
theorem dX4_keep_0 : decode cX4_keep 0 = .ok (.aload_n 0, 1) := by decide +kernel
theorem dX4_keep_1 : decode cX4_keep 1 = .ok (.iload_n 1, 1) := by decide +kernel
theorem dX4_keep_2 : decode cX4_keep 2 = .ok (.putfield 41, 3) := by decide +kernel
theorem dX4_keep_5 : decode cX4_keep 5 = .ok (.aload_n 0, 1) := by decide +kernel
theorem dX4_keep_6 : decode cX4_keep 6 = .ok (.iconst 0, 1) := by decide +kernel
theorem dX4_keep_7 : decode cX4_keep 7 = .ok (.putfield 130, 3) := by decide +kernel
theorem dX4_keep_10 : decode cX4_keep 10 = .ok (.iconst 0, 1) := by decide +kernel
theorem dX4_keep_11 : decode cX4_keep 11 = .ok (.istore_n 2, 1) := by decide +kernel
theorem dX4_keep_12 : decode cX4_keep 12 = .ok (.iload_n 2, 1) := by decide +kernel
theorem dX4_keep_13 : decode cX4_keep 13 = .ok (.aload_n 0, 1) := by decide +kernel
theorem dX4_keep_14 : decode cX4_keep 14 = .ok (.getfield 83, 3) := by decide +kernel
theorem dX4_keep_17 : decode cX4_keep 17 = .ok (.if_icmp .ge 38, 3) := by decide +kernel
theorem dX4_keep_20 : decode cX4_keep 20 = .ok (.aload_n 0, 1) := by decide +kernel
theorem dX4_keep_21 : decode cX4_keep 21 = .ok (.getfield 29, 3) := by decide +kernel
theorem dX4_keep_24 : decode cX4_keep 24 = .ok (.iload_n 2, 1) := by decide +kernel
theorem dX4_keep_25 : decode cX4_keep 25 = .ok (.iaload, 1) := by decide +kernel
theorem dX4_keep_26 : decode cX4_keep 26 = .ok (.ifCond .le 23, 3) := by decide +kernel
theorem dX4_keep_29 : decode cX4_keep 29 = .ok (.aload_n 0, 1) := by decide +kernel
theorem dX4_keep_30 : decode cX4_keep 30 = .ok (.getfield 35, 3) := by decide +kernel
theorem dX4_keep_33 : decode cX4_keep 33 = .ok (.aload_n 0, 1) := by decide +kernel
theorem dX4_keep_34 : decode cX4_keep 34 = .ok (.getfield 130, 3) := by decide +kernel
theorem dX4_keep_37 : decode cX4_keep 37 = .ok (.iload_n 2, 1) := by decide +kernel
theorem dX4_keep_38 : decode cX4_keep 38 = .ok (.iastore, 1) := by decide +kernel
theorem dX4_keep_39 : decode cX4_keep 39 = .ok (.aload_n 0, 1) := by decide +kernel
theorem dX4_keep_40 : decode cX4_keep 40 = .ok (.dup, 1) := by decide +kernel
theorem dX4_keep_41 : decode cX4_keep 41 = .ok (.getfield 130, 3) := by decide +kernel
theorem dX4_keep_44 : decode cX4_keep 44 = .ok (.iconst 1, 1) := by decide +kernel
theorem dX4_keep_45 : decode cX4_keep 45 = .ok (.iadd, 1) := by decide +kernel
theorem dX4_keep_46 : decode cX4_keep 46 = .ok (.putfield 130, 3) := by decide +kernel
theorem dX4_keep_49 : decode cX4_keep 49 = .ok (.iinc 2 1, 3) := by decide +kernel
theorem dX4_keep_52 : decode cX4_keep 52 = .ok (.goto (-40), 3) := by decide +kernel
theorem dX4_keep_55 : decode cX4_keep 55 = .ok (.aload_n 0, 1) := by decide +kernel
theorem dX4_keep_56 : decode cX4_keep 56 = .ok (.aload_n 0, 1) := by decide +kernel
theorem dX4_keep_57 : decode cX4_keep 57 = .ok (.getfield 50, 3) := by decide +kernel
theorem dX4_keep_60 : decode cX4_keep 60 = .ok (.ifCond .eq 11, 3) := by decide +kernel
theorem dX4_keep_63 : decode cX4_keep 63 = .ok (.aload_n 0, 1) := by decide +kernel
theorem dX4_keep_64 : decode cX4_keep 64 = .ok (.getfield 50, 3) := by decide +kernel
theorem dX4_keep_67 : decode cX4_keep 67 = .ok (.iconst 1, 1) := by decide +kernel
theorem dX4_keep_68 : decode cX4_keep 68 = .ok (.if_icmp .ne 10, 3) := by decide +kernel
theorem dX4_keep_71 : decode cX4_keep 71 = .ok (.aload_n 0, 1) := by decide +kernel
theorem dX4_keep_72 : decode cX4_keep 72 = .ok (.getfield 83, 3) := by decide +kernel
theorem dX4_keep_75 : decode cX4_keep 75 = .ok (.goto 4, 3) := by decide +kernel
theorem dX4_keep_78 : decode cX4_keep 78 = .ok (.iconst 0, 1) := by decide +kernel
theorem dX4_keep_79 : decode cX4_keep 79 = .ok (.putfield 133, 3) := by decide +kernel
theorem dX4_keep_82 : decode cX4_keep 82 = .ok (.aload_n 0, 1) := by decide +kernel
theorem dX4_keep_83 : decode cX4_keep 83 = .ok (.getfield 32, 3) := by decide +kernel
theorem dX4_keep_86 : decode cX4_keep 86 = .ok (.iconst 0, 1) := by decide +kernel
theorem dX4_keep_87 : decode cX4_keep 87 = .ok (.aload_n 0, 1) := by decide +kernel
theorem dX4_keep_88 : decode cX4_keep 88 = .ok (.getfield 38, 3) := by decide +kernel
theorem dX4_keep_91 : decode cX4_keep 91 = .ok (.iconst 0, 1) := by decide +kernel
theorem dX4_keep_92 : decode cX4_keep 92 = .ok (.aload_n 0, 1) := by decide +kernel
theorem dX4_keep_93 : decode cX4_keep 93 = .ok (.getfield 133, 3) := by decide +kernel
theorem dX4_keep_96 : decode cX4_keep 96 = .ok (.invokestatic 136, 3) := by decide +kernel
theorem dX4_keep_99 : decode cX4_keep 99 = .ok (.return_, 1) := by decide +kernel
def sX4_keep_79 (F : Nat) (h : Hp) (x0 : Nat) (t0 : Int32) (t1 : Nat) : Option (Hp) := nm (wI h t1 15 t0) fun h_1 => cl (hR h_1 x0 11) fun r_2 => cl (hR h_1 x0 13) fun r_3 => gd (¬ (0 : Int32) < 0) <| gd (¬ (0 : Int32) < 0) <| gd (¬ (hI h_1 x0 15) < 0) <| gd ((0 : Int32).toNatClampNeg + (hI h_1 x0 15).toNatClampNeg ≤ hN h_1 r_2) <| gd ((0 : Int32).toNatClampNeg + (hI h_1 x0 15).toNatClampNeg ≤ hN h_1 r_3) <| nm (cpI h_1 r_2 (0 : Int32).toNatClampNeg r_3 (0 : Int32).toNatClampNeg (hI h_1 x0 15).toNatClampNeg) fun h_9 => some h_9
def sX4_keep_71 (F : Nat) (h : Hp) (x0 : Nat) (t0 : Nat) : Option (Hp) := sX4_keep_79 F h x0 (hI h x0 8) t0
def sX4_keep_49 (F : Nat) (k_12 : Hp → Nat → Int32 → Option (Hp)) (h : Hp) (x0 : Nat) (x2 : Int32) : Option (Hp) := nm (x2 + (1 : Int32)) fun v_1 => k_12 h x0 v_1
def sX4_keep_12 (F : Nat) : Nat → Hp → Nat → Int32 → Option (Hp)
  | 0, _, _, _ => none
  | f + 1, h, x0, x2 => br ((hI h x0 8) ≤ x2) (br ((hI h x0 5) = 0) (sX4_keep_71 F h x0 x0) (br ((hI h x0 5) = (1 : Int32)) (sX4_keep_71 F h x0 x0) (sX4_keep_79 F h x0 (0 : Int32) x0))) (cl (hR h x0 10) fun r_4 => gd (inB x2 (hN h r_4)) <| br ((hI h r_4 x2.toNatClampNeg) ≤ 0) (sX4_keep_49 F (sX4_keep_12 F f) h x0 x2) (cl (hR h x0 12) fun r_7 => gd (inB (hI h x0 14) (hN h r_7)) <| nm (wI h r_7 (hI h x0 14).toNatClampNeg x2) fun h_9 => nm (wI h_9 x0 14 ((hI h_9 x0 14) + (1 : Int32))) fun h_10 => sX4_keep_49 F (sX4_keep_12 F f) h_10 x0 x2))
def sX4_keep (F : Nat) (h : Hp) (x0 : Nat) (x1 : Int32) : Option (Hp) := nm (wI h x0 16 x1) fun h_1 => nm (wI h_1 x0 14 (0 : Int32)) fun h_2 => sX4_keep_12 F F h_2 x0 (0 : Int32)
set_option maxRecDepth 20000 in
theorem bX4_keep_79 {p : Program} {l : Launch} {e : Env} {s : State} {m : MethodId} {args : Array Value} {below : List Frame} {meth : Method} {c : Code} {X : Ec} {h0 : Hp} {o : Hp} {F : Nat} (C : Cx X p s m args meth c RX4 cX4_keep 3 none "keep") {h : Hp} {x0 : Nat} {t0 : Int32} {t1 : Nat} {H : Heap} {locs : List Loc} (k_x0 : hK h x0 = 4) (k_t1 : hK h t1 = 4) (hkm : Km h0 h) (hW : Wx X h H) (hZ : va_S (aA (eB X)) s.heap H locs) (ls : Array Slot) (hl : lv_has ls 3 [(0, .ref x0)]) (hE : sX4_keep_79 F h x0 t0 t1 = some o) : W p l e (rm 1 64) s m args below meth c H locs 0 0 (MQ below (QV X h0 o) args s 0 0 (aA (eB X))) (F0 m 79 ls [.int t0, .ref t1]) := by
  obtain ⟨h_1, eh_1, hE⟩ := nm_e2 hE
  refine pf_X4_133 C hW hZ k_t1 eh_1 dX4_keep_79 (fun _ _ hW km hZ => ?_)
  replace hkm := hkm.tr km
  replace k_x0 := km.at k_x0 (by decide)
  refine lv_aload_n C.1 C.2.1 dX4_keep_82 rfl (lv_at hl 0 rfl) ?_
  obtain ⟨r_2, er_2, hE⟩ := cl_e hE
  refine gf_X4_32 C hW k_x0 er_2 dX4_keep_83 (fun k_r_2 => ?_)
  refine lv_iconst (v := (0 : Int32)) C.1 C.2.1 dX4_keep_86 (by decide) ?_
  refine lv_aload_n C.1 C.2.1 dX4_keep_87 rfl (lv_at hl 0 rfl) ?_
  obtain ⟨r_3, er_3, hE⟩ := cl_e hE
  refine gf_X4_38 C hW k_x0 er_3 dX4_keep_88 (fun k_r_3 => ?_)
  refine lv_iconst (v := (0 : Int32)) C.1 C.2.1 dX4_keep_91 (by decide) ?_
  refine lv_aload_n C.1 C.2.1 dX4_keep_92 rfl (lv_at hl 0 rfl) ?_
  refine gf_X4_133 C hW k_x0 dX4_keep_93 ?_
  obtain ⟨g_4, hE⟩ := gd_e hE
  obtain ⟨g_5, hE⟩ := gd_e hE
  obtain ⟨g_6, hE⟩ := gd_e hE
  obtain ⟨g_7, hE⟩ := gd_e hE
  obtain ⟨g_8, hE⟩ := gd_e hE
  obtain ⟨h_9, eh_9, hE⟩ := nm_e2 hE
  refine y_cpyI (ty := .int) C hW hZ hl.1 m_1786 m_835 m_834 m_19 k_r_2 k_r_3 (Or.inr (Or.inl ⟨rfl, rfl⟩)) g_4 g_5 g_6 g_7 g_8 (fun _ _ => rfl) (Nat.le_of_ble_eq_true rfl) (Nat.le_of_ble_eq_true rfl) eh_9 dX4_keep_96 (fun _ _ hW km hZ => ?_)
  replace hkm := hkm.tr km
  replace k_x0 := km.at k_x0 (by decide)
  exact x_vret C rfl hW hZ hkm hE dX4_keep_99
set_option maxRecDepth 20000 in
theorem bX4_keep_71 {p : Program} {l : Launch} {e : Env} {s : State} {m : MethodId} {args : Array Value} {below : List Frame} {meth : Method} {c : Code} {X : Ec} {h0 : Hp} {o : Hp} {F : Nat} (C : Cx X p s m args meth c RX4 cX4_keep 3 none "keep") {h : Hp} {x0 : Nat} {t0 : Nat} {H : Heap} {locs : List Loc} (k_x0 : hK h x0 = 4) (k_t0 : hK h t0 = 4) (hkm : Km h0 h) (hW : Wx X h H) (hZ : va_S (aA (eB X)) s.heap H locs) (ls : Array Slot) (hl : lv_has ls 3 [(0, .ref x0)]) (hE : sX4_keep_71 F h x0 t0 = some o) : W p l e (rm 1 64) s m args below meth c H locs 0 0 (MQ below (QV X h0 o) args s 0 0 (aA (eB X))) (F0 m 71 ls [.ref t0]) := by
  refine lv_aload_n C.1 C.2.1 dX4_keep_71 rfl (lv_at hl 0 rfl) ?_
  refine gf_X4_83 C hW k_x0 dX4_keep_72 ?_
  refine lv_goto (tgt := 79) C.1 C.2.1 dX4_keep_75 (by decide) ?_
  exact bX4_keep_79 C k_x0 k_t0 hkm hW hZ _ (lv_sub hl [0] rfl) hE
set_option maxRecDepth 20000 in
theorem bX4_keep_49 {p : Program} {l : Launch} {e : Env} {s : State} {m : MethodId} {args : Array Value} {below : List Frame} {meth : Method} {c : Code} {X : Ec} {h0 : Hp} {o : Hp} {k_12 : Hp → Nat → Int32 → Option (Hp)} {F : Nat} (C : Cx X p s m args meth c RX4 cX4_keep 3 none "keep") (hk_12 : ∀ (h : Hp) (x0 : Nat) (x2 : Int32) (H : Heap) (locs : List Loc), hK h x0 = 4 → Km h0 h → Wx X h H → va_S (aA (eB X)) s.heap H locs → ∀ (ls : Array Slot), lv_has ls 3 [(0, .ref x0), (2, .int x2)] → k_12 h x0 x2 = some o → W p l e (rm 1 64) s m args below meth c H locs 0 0 (MQ below (QV X h0 o) args s 0 0 (aA (eB X))) (F0 m 12 ls [])) {h : Hp} {x0 : Nat} {x2 : Int32} {H : Heap} {locs : List Loc} (k_x0 : hK h x0 = 4) (hkm : Km h0 h) (hW : Wx X h H) (hZ : va_S (aA (eB X)) s.heap H locs) (ls : Array Slot) (hl : lv_has ls 3 [(0, .ref x0), (2, .int x2)]) (hE : sX4_keep_49 F k_12 h x0 x2 = some o) : W p l e (rm 1 64) s m args below meth c H locs 0 0 (MQ below (QV X h0 o) args s 0 0 (aA (eB X))) (F0 m 49 ls []) := by
  obtain ⟨v_1, ev_1, hE⟩ := nm_e2 hE
  refine lv_iinc (v := v_1) (lv' := [(2, .int v_1), (0, .ref x0)]) C.1 C.2.1 dX4_keep_49 hl (k := 1) rfl (by rw [ev_1]; rfl) (by decide) rfl (fun ls hl => ?_)
  refine lv_goto (tgt := 12) C.1 C.2.1 dX4_keep_52 (by decide) ?_
  exact hk_12 _ _ _ _ _ k_x0 hkm hW hZ _ (lv_sub hl [1, 0] rfl) hE
set_option maxRecDepth 20000 in
theorem bX4_keep_12 {p : Program} {l : Launch} {e : Env} {s : State} {m : MethodId} {args : Array Value} {below : List Frame} {meth : Method} {c : Code} {X : Ec} {h0 : Hp} {o : Hp} {F : Nat} (C : Cx X p s m args meth c RX4 cX4_keep 3 none "keep") : ∀ (f : Nat) {h : Hp} {x0 : Nat} {x2 : Int32} {H : Heap} {locs : List Loc} (k_x0 : hK h x0 = 4), Km h0 h → Wx X h H → va_S (aA (eB X)) s.heap H locs → ∀ (ls : Array Slot), lv_has ls 3 [(0, .ref x0), (2, .int x2)] → sX4_keep_12 F f h x0 x2 = some o → W p l e (rm 1 64) s m args below meth c H locs 0 0 (MQ below (QV X h0 o) args s 0 0 (aA (eB X))) (F0 m 12 ls []) := by
  intro f
  induction f with
  | zero =>
    intro h x0 x2 H locs k_x0 hkm hW hZ ls hl hE
    rw [sX4_keep_12] at hE
    cases hE
  | succ f ih =>
    intro h x0 x2 H locs k_x0 hkm hW hZ ls hl hE
    rw [sX4_keep_12] at hE
    have hk_12 : ∀ (h : Hp) (x0 : Nat) (x2 : Int32) (H : Heap) (locs : List Loc), hK h x0 = 4 → Km h0 h → Wx X h H → va_S (aA (eB X)) s.heap H locs → ∀ (ls : Array Slot), lv_has ls 3 [(0, .ref x0), (2, .int x2)] → sX4_keep_12 F f h x0 x2 = some o → W p l e (rm 1 64) s m args below meth c H locs 0 0 (MQ below (QV X h0 o) args s 0 0 (aA (eB X))) (F0 m 12 ls []) := fun h x0 x2 H locs k_x0 a b c ls hl hE => ih k_x0 a b c ls hl hE
    refine lv_iload_n C.1 C.2.1 dX4_keep_12 rfl (lv_at hl 1 rfl) ?_
    refine lv_aload_n C.1 C.2.1 dX4_keep_13 rfl (lv_at hl 0 rfl) ?_
    refine gf_X4_83 C hW k_x0 dX4_keep_14 ?_
    refine lv_icmp_ge (tgt := 55) C.1 C.2.1 dX4_keep_17 (by decide) (fun c_1 => ?_) (fun c_1 => ?_)
    · have hE := br_p hE c_1
      refine lv_aload_n C.1 C.2.1 dX4_keep_55 rfl (lv_at hl 0 rfl) ?_
      refine lv_aload_n C.1 C.2.1 dX4_keep_56 rfl (lv_at hl 0 rfl) ?_
      refine gf_X4_50 C hW k_x0 dX4_keep_57 ?_
      refine lv_if_eq (tgt := 71) C.1 C.2.1 dX4_keep_60 (by decide) (fun c_2 => ?_) (fun c_2 => ?_)
      · have hE := br_p hE c_2
        exact bX4_keep_71 C k_x0 k_x0 hkm hW hZ _ (lv_sub hl [0] rfl) hE
      · have hE := br_n hE c_2
        refine lv_aload_n C.1 C.2.1 dX4_keep_63 rfl (lv_at hl 0 rfl) ?_
        refine gf_X4_50 C hW k_x0 dX4_keep_64 ?_
        refine lv_iconst (v := (1 : Int32)) C.1 C.2.1 dX4_keep_67 (by decide) ?_
        refine lv_icmp_ne (tgt := 78) C.1 C.2.1 dX4_keep_68 (by decide) (fun c_3 => ?_) (fun c_3 => ?_)
        · have hE := br_n hE c_3
          refine lv_iconst (v := (0 : Int32)) C.1 C.2.1 dX4_keep_78 (by decide) ?_
          exact bX4_keep_79 C k_x0 k_x0 hkm hW hZ _ (lv_sub hl [0] rfl) hE
        · have hE := br_p hE c_3
          exact bX4_keep_71 C k_x0 k_x0 hkm hW hZ _ (lv_sub hl [0] rfl) hE
    · have hE := br_n hE c_1
      refine lv_aload_n C.1 C.2.1 dX4_keep_20 rfl (lv_at hl 0 rfl) ?_
      obtain ⟨r_4, er_4, hE⟩ := cl_e hE
      refine gf_X4_29 C hW k_x0 er_4 dX4_keep_21 (fun k_r_4 => ?_)
      refine lv_iload_n C.1 C.2.1 dX4_keep_24 rfl (lv_at hl 1 rfl) ?_
      obtain ⟨g_5, hE⟩ := gd_e hE
      refine y_iald C hW k_r_4 g_5 dX4_keep_25 ?_
      refine lv_if_le (tgt := 49) C.1 C.2.1 dX4_keep_26 (by decide) (fun c_6 => ?_) (fun c_6 => ?_)
      · have hE := br_p hE c_6
        exact bX4_keep_49 C hk_12 k_x0 hkm hW hZ _ (lv_sub hl [0, 1] rfl) hE
      · have hE := br_n hE c_6
        refine lv_aload_n C.1 C.2.1 dX4_keep_29 rfl (lv_at hl 0 rfl) ?_
        obtain ⟨r_7, er_7, hE⟩ := cl_e hE
        refine gf_X4_35 C hW k_x0 er_7 dX4_keep_30 (fun k_r_7 => ?_)
        refine lv_aload_n C.1 C.2.1 dX4_keep_33 rfl (lv_at hl 0 rfl) ?_
        refine gf_X4_130 C hW k_x0 dX4_keep_34 ?_
        refine lv_iload_n C.1 C.2.1 dX4_keep_37 rfl (lv_at hl 1 rfl) ?_
        obtain ⟨g_8, hE⟩ := gd_e hE
        obtain ⟨h_9, eh_9, hE⟩ := nm_e2 hE
        refine y_iast C hW hZ k_r_7 g_8 eh_9 dX4_keep_38 (fun _ _ hW km hZ => ?_)
        replace hkm := hkm.tr km
        replace k_x0 := km.at k_x0 (by decide)
        refine lv_aload_n C.1 C.2.1 dX4_keep_39 rfl (lv_at hl 0 rfl) ?_
        refine lv_dup C.1 C.2.1 dX4_keep_40 rfl ?_
        refine gf_X4_130 C hW k_x0 dX4_keep_41 ?_
        refine lv_iconst (v := (1 : Int32)) C.1 C.2.1 dX4_keep_44 (by decide) ?_
        refine lv_iadd C.1 C.2.1 dX4_keep_45 ?_
        obtain ⟨h_10, eh_10, hE⟩ := nm_e2 hE
        refine pf_X4_130 C hW hZ k_x0 eh_10 dX4_keep_46 (fun _ _ hW km hZ => ?_)
        replace hkm := hkm.tr km
        replace k_x0 := km.at k_x0 (by decide)
        exact bX4_keep_49 C hk_12 k_x0 hkm hW hZ _ (lv_sub hl [0, 1] rfl) hE
set_option maxRecDepth 20000 in
theorem ct_X4_keep (l : Launch) (X : Ec) (F : Nat) {h : Hp} {x0 : Nat} {x1 : Int32} {o : Hp} (k_x0 : hK h x0 = 4) (hE : sX4_keep F h x0 x1 = some o) : MetV l yX4_keep cX4_keep 3 none 1 64 X [.ref x0, .int x1] h o := by
  refine x_met (by decide) (Nat.le_of_ble_eq_true rfl) ?_
  intro p e s m below meth c ls C hl hW hZ
  have hl : lv_has ls 3 [(0, .ref x0), (1, .int x1)] := hl
  have hkm : Km h h := Km.rf h
  refine lv_aload_n C.1 C.2.1 dX4_keep_0 rfl (lv_at hl 0 rfl) ?_
  refine lv_iload_n C.1 C.2.1 dX4_keep_1 rfl (lv_at hl 1 rfl) ?_
  obtain ⟨h_1, eh_1, hE⟩ := nm_e2 hE
  refine pf_X4_41 C hW hZ k_x0 eh_1 dX4_keep_2 (fun _ _ hW km hZ => ?_)
  replace hkm := hkm.tr km
  replace k_x0 := km.at k_x0 (by decide)
  refine lv_aload_n C.1 C.2.1 dX4_keep_5 rfl (lv_at hl 0 rfl) ?_
  refine lv_iconst (v := (0 : Int32)) C.1 C.2.1 dX4_keep_6 (by decide) ?_
  obtain ⟨h_2, eh_2, hE⟩ := nm_e2 hE
  refine pf_X4_130 C hW hZ k_x0 eh_2 dX4_keep_7 (fun _ _ hW km hZ => ?_)
  replace hkm := hkm.tr km
  replace k_x0 := km.at k_x0 (by decide)
  refine lv_iconst (v := (0 : Int32)) C.1 C.2.1 dX4_keep_10 (by decide) ?_
  refine lv_istore_n (lv' := [(2, .int (0 : Int32)), (0, .ref x0), (1, .int x1)]) C.1 C.2.1 dX4_keep_11 rfl hl (by decide) rfl (fun ls hl => ?_)
  exact bX4_keep_12 C F k_x0 hkm hW hZ _ (lv_sub hl [1, 0] rfl) hE
theorem dX4_keyAt_0 : decode cX4_keyAt 0 = .ok (.iload_n 1, 1) := by decide +kernel
theorem dX4_keyAt_1 : decode cX4_keyAt 1 = .ok (.ifCond .lt 20, 3) := by decide +kernel
theorem dX4_keyAt_4 : decode cX4_keyAt 4 = .ok (.iload_n 1, 1) := by decide +kernel
theorem dX4_keyAt_5 : decode cX4_keyAt 5 = .ok (.aload_n 0, 1) := by decide +kernel
theorem dX4_keyAt_6 : decode cX4_keyAt 6 = .ok (.getfield 130, 3) := by decide +kernel
theorem dX4_keyAt_9 : decode cX4_keyAt 9 = .ok (.if_icmp .ge 12, 3) := by decide +kernel
theorem dX4_keyAt_12 : decode cX4_keyAt 12 = .ok (.aload_n 0, 1) := by decide +kernel
theorem dX4_keyAt_13 : decode cX4_keyAt 13 = .ok (.getfield 35, 3) := by decide +kernel
theorem dX4_keyAt_16 : decode cX4_keyAt 16 = .ok (.iload_n 1, 1) := by decide +kernel
theorem dX4_keyAt_17 : decode cX4_keyAt 17 = .ok (.iaload, 1) := by decide +kernel
theorem dX4_keyAt_18 : decode cX4_keyAt 18 = .ok (.goto 4, 3) := by decide +kernel
theorem dX4_keyAt_21 : decode cX4_keyAt 21 = .ok (.iconst (-1), 1) := by decide +kernel
theorem dX4_keyAt_22 : decode cX4_keyAt 22 = .ok (.ireturn, 1) := by decide +kernel
def sX4_keyAt_22 (h : Hp) (t0 : Int32) : Option (Int32 × Hp) := some (t0, h)
def sX4_keyAt_21 (h : Hp) : Option (Int32 × Hp) := sX4_keyAt_22  h (-1 : Int32)
def sX4_keyAt (h : Hp) (x0 : Nat) (x1 : Int32) : Option (Int32 × Hp) := br (x1 < 0) (sX4_keyAt_21  h ) (br ((hI h x0 14) ≤ x1) (sX4_keyAt_21  h ) (cl (hR h x0 12) fun r_3 => gd (inB x1 (hN h r_3)) <| sX4_keyAt_22  h (hI h r_3 x1.toNatClampNeg)))
set_option maxRecDepth 20000 in
theorem bX4_keyAt_22 {p : Program} {l : Launch} {e : Env} {s : State} {m : MethodId} {args : Array Value} {below : List Frame} {meth : Method} {c : Code} {X : Ec} {h0 : Hp} {o : Int32 × Hp} (C : Cx X p s m args meth c RX4 cX4_keyAt 2 (some .int) "keyAt") {h : Hp} {t0 : Int32} {H : Heap} {locs : List Loc} (hkm : Km h0 h) (hW : Wx X h H) (hZ : va_S (aA (eB X)) s.heap H locs) (ls : Array Slot) (hl : lv_has ls 2 []) (hE : sX4_keyAt_22 h  t0 = some o) : W p l e (rm 0 0) s m args below meth c H locs 0 0 (MQ below (QI X h0 o.1 o.2) args s 0 0 (aA (eB X))) (F0 m 22 ls [.int t0]) := by
  exact x_iret C rfl rfl hW hZ hkm hE dX4_keyAt_22
set_option maxRecDepth 20000 in
theorem bX4_keyAt_21 {p : Program} {l : Launch} {e : Env} {s : State} {m : MethodId} {args : Array Value} {below : List Frame} {meth : Method} {c : Code} {X : Ec} {h0 : Hp} {o : Int32 × Hp} (C : Cx X p s m args meth c RX4 cX4_keyAt 2 (some .int) "keyAt") {h : Hp} {H : Heap} {locs : List Loc} (hkm : Km h0 h) (hW : Wx X h H) (hZ : va_S (aA (eB X)) s.heap H locs) (ls : Array Slot) (hl : lv_has ls 2 []) (hE : sX4_keyAt_21 h  = some o) : W p l e (rm 0 0) s m args below meth c H locs 0 0 (MQ below (QI X h0 o.1 o.2) args s 0 0 (aA (eB X))) (F0 m 21 ls []) := by
  refine lv_iconst (v := (-1 : Int32)) C.1 C.2.1 dX4_keyAt_21 (by decide) ?_
  exact bX4_keyAt_22 C hkm hW hZ _ (lv_sub hl [] rfl) hE
set_option maxRecDepth 20000 in
theorem ct_X4_keyAt (l : Launch) (X : Ec) {h : Hp} {x0 : Nat} {x1 : Int32} {o : Int32 × Hp} (k_x0 : hK h x0 = 4) (hE : sX4_keyAt h x0 x1 = some o) : MetI l yX4_keyAt cX4_keyAt 2 (some .int) 0 0 X [.ref x0, .int x1] h o := by
  refine x_met (by decide) (Nat.le_of_ble_eq_true rfl) ?_
  intro p e s m below meth c ls C hl hW hZ
  have hl : lv_has ls 2 [(0, .ref x0), (1, .int x1)] := hl
  have hkm : Km h h := Km.rf h
  refine lv_iload_n C.1 C.2.1 dX4_keyAt_0 rfl (lv_at hl 1 rfl) ?_
  refine lv_if_lt (tgt := 21) C.1 C.2.1 dX4_keyAt_1 (by decide) (fun c_1 => ?_) (fun c_1 => ?_)
  · have hE := br_p hE c_1
    exact bX4_keyAt_21 C hkm hW hZ _ (lv_sub hl [] rfl) hE
  · have hE := br_n hE c_1
    refine lv_iload_n C.1 C.2.1 dX4_keyAt_4 rfl (lv_at hl 1 rfl) ?_
    refine lv_aload_n C.1 C.2.1 dX4_keyAt_5 rfl (lv_at hl 0 rfl) ?_
    refine gf_X4_130 C hW k_x0 dX4_keyAt_6 ?_
    refine lv_icmp_ge (tgt := 21) C.1 C.2.1 dX4_keyAt_9 (by decide) (fun c_2 => ?_) (fun c_2 => ?_)
    · have hE := br_p hE c_2
      exact bX4_keyAt_21 C hkm hW hZ _ (lv_sub hl [] rfl) hE
    · have hE := br_n hE c_2
      refine lv_aload_n C.1 C.2.1 dX4_keyAt_12 rfl (lv_at hl 0 rfl) ?_
      obtain ⟨r_3, er_3, hE⟩ := cl_e hE
      refine gf_X4_35 C hW k_x0 er_3 dX4_keyAt_13 (fun k_r_3 => ?_)
      refine lv_iload_n C.1 C.2.1 dX4_keyAt_16 rfl (lv_at hl 1 rfl) ?_
      obtain ⟨g_4, hE⟩ := gd_e hE
      refine y_iald C hW k_r_3 g_4 dX4_keyAt_17 ?_
      refine lv_goto (tgt := 22) C.1 C.2.1 dX4_keyAt_18 (by decide) ?_
      exact bX4_keyAt_22 C hkm hW hZ _ (lv_sub hl [] rfl) hE
theorem dX4_refutesOf_0 : decode cX4_refutesOf 0 = .ok (.iload_n 1, 1) := by decide +kernel
theorem dX4_refutesOf_1 : decode cX4_refutesOf 1 = .ok (.ifCond .lt 20, 3) := by decide +kernel
theorem dX4_refutesOf_4 : decode cX4_refutesOf 4 = .ok (.iload_n 1, 1) := by decide +kernel
theorem dX4_refutesOf_5 : decode cX4_refutesOf 5 = .ok (.aload_n 0, 1) := by decide +kernel
theorem dX4_refutesOf_6 : decode cX4_refutesOf 6 = .ok (.getfield 133, 3) := by decide +kernel
theorem dX4_refutesOf_9 : decode cX4_refutesOf 9 = .ok (.if_icmp .ge 12, 3) := by decide +kernel
theorem dX4_refutesOf_12 : decode cX4_refutesOf 12 = .ok (.aload_n 0, 1) := by decide +kernel
theorem dX4_refutesOf_13 : decode cX4_refutesOf 13 = .ok (.getfield 38, 3) := by decide +kernel
theorem dX4_refutesOf_16 : decode cX4_refutesOf 16 = .ok (.iload_n 1, 1) := by decide +kernel
theorem dX4_refutesOf_17 : decode cX4_refutesOf 17 = .ok (.iaload, 1) := by decide +kernel
theorem dX4_refutesOf_18 : decode cX4_refutesOf 18 = .ok (.goto 4, 3) := by decide +kernel
theorem dX4_refutesOf_21 : decode cX4_refutesOf 21 = .ok (.iconst (-1), 1) := by decide +kernel
theorem dX4_refutesOf_22 : decode cX4_refutesOf 22 = .ok (.ireturn, 1) := by decide +kernel
def sX4_refutesOf_22 (h : Hp) (t0 : Int32) : Option (Int32 × Hp) := some (t0, h)
def sX4_refutesOf_21 (h : Hp) : Option (Int32 × Hp) := sX4_refutesOf_22  h (-1 : Int32)
def sX4_refutesOf (h : Hp) (x0 : Nat) (x1 : Int32) : Option (Int32 × Hp) := br (x1 < 0) (sX4_refutesOf_21  h ) (br ((hI h x0 15) ≤ x1) (sX4_refutesOf_21  h ) (cl (hR h x0 13) fun r_3 => gd (inB x1 (hN h r_3)) <| sX4_refutesOf_22  h (hI h r_3 x1.toNatClampNeg)))
set_option maxRecDepth 20000 in
theorem bX4_refutesOf_22 {p : Program} {l : Launch} {e : Env} {s : State} {m : MethodId} {args : Array Value} {below : List Frame} {meth : Method} {c : Code} {X : Ec} {h0 : Hp} {o : Int32 × Hp} (C : Cx X p s m args meth c RX4 cX4_refutesOf 2 (some .int) "refutesOf") {h : Hp} {t0 : Int32} {H : Heap} {locs : List Loc} (hkm : Km h0 h) (hW : Wx X h H) (hZ : va_S (aA (eB X)) s.heap H locs) (ls : Array Slot) (hl : lv_has ls 2 []) (hE : sX4_refutesOf_22 h  t0 = some o) : W p l e (rm 0 0) s m args below meth c H locs 0 0 (MQ below (QI X h0 o.1 o.2) args s 0 0 (aA (eB X))) (F0 m 22 ls [.int t0]) := by
  exact x_iret C rfl rfl hW hZ hkm hE dX4_refutesOf_22
set_option maxRecDepth 20000 in
theorem bX4_refutesOf_21 {p : Program} {l : Launch} {e : Env} {s : State} {m : MethodId} {args : Array Value} {below : List Frame} {meth : Method} {c : Code} {X : Ec} {h0 : Hp} {o : Int32 × Hp} (C : Cx X p s m args meth c RX4 cX4_refutesOf 2 (some .int) "refutesOf") {h : Hp} {H : Heap} {locs : List Loc} (hkm : Km h0 h) (hW : Wx X h H) (hZ : va_S (aA (eB X)) s.heap H locs) (ls : Array Slot) (hl : lv_has ls 2 []) (hE : sX4_refutesOf_21 h  = some o) : W p l e (rm 0 0) s m args below meth c H locs 0 0 (MQ below (QI X h0 o.1 o.2) args s 0 0 (aA (eB X))) (F0 m 21 ls []) := by
  refine lv_iconst (v := (-1 : Int32)) C.1 C.2.1 dX4_refutesOf_21 (by decide) ?_
  exact bX4_refutesOf_22 C hkm hW hZ _ (lv_sub hl [] rfl) hE
set_option maxRecDepth 20000 in
theorem ct_X4_refutesOf (l : Launch) (X : Ec) {h : Hp} {x0 : Nat} {x1 : Int32} {o : Int32 × Hp} (k_x0 : hK h x0 = 4) (hE : sX4_refutesOf h x0 x1 = some o) : MetI l yX4_refutesOf cX4_refutesOf 2 (some .int) 0 0 X [.ref x0, .int x1] h o := by
  refine x_met (by decide) (Nat.le_of_ble_eq_true rfl) ?_
  intro p e s m below meth c ls C hl hW hZ
  have hl : lv_has ls 2 [(0, .ref x0), (1, .int x1)] := hl
  have hkm : Km h h := Km.rf h
  refine lv_iload_n C.1 C.2.1 dX4_refutesOf_0 rfl (lv_at hl 1 rfl) ?_
  refine lv_if_lt (tgt := 21) C.1 C.2.1 dX4_refutesOf_1 (by decide) (fun c_1 => ?_) (fun c_1 => ?_)
  · have hE := br_p hE c_1
    exact bX4_refutesOf_21 C hkm hW hZ _ (lv_sub hl [] rfl) hE
  · have hE := br_n hE c_1
    refine lv_iload_n C.1 C.2.1 dX4_refutesOf_4 rfl (lv_at hl 1 rfl) ?_
    refine lv_aload_n C.1 C.2.1 dX4_refutesOf_5 rfl (lv_at hl 0 rfl) ?_
    refine gf_X4_133 C hW k_x0 dX4_refutesOf_6 ?_
    refine lv_icmp_ge (tgt := 21) C.1 C.2.1 dX4_refutesOf_9 (by decide) (fun c_2 => ?_) (fun c_2 => ?_)
    · have hE := br_p hE c_2
      exact bX4_refutesOf_21 C hkm hW hZ _ (lv_sub hl [] rfl) hE
    · have hE := br_n hE c_2
      refine lv_aload_n C.1 C.2.1 dX4_refutesOf_12 rfl (lv_at hl 0 rfl) ?_
      obtain ⟨r_3, er_3, hE⟩ := cl_e hE
      refine gf_X4_38 C hW k_x0 er_3 dX4_refutesOf_13 (fun k_r_3 => ?_)
      refine lv_iload_n C.1 C.2.1 dX4_refutesOf_16 rfl (lv_at hl 1 rfl) ?_
      obtain ⟨g_4, hE⟩ := gd_e hE
      refine y_iald C hW k_r_3 g_4 dX4_refutesOf_17 ?_
      refine lv_goto (tgt := 22) C.1 C.2.1 dX4_refutesOf_18 (by decide) ?_
      exact bX4_refutesOf_22 C hkm hW hZ _ (lv_sub hl [] rfl) hE

