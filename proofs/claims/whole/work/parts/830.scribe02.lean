set_option maxRecDepth 100000 in
theorem m_139 : Cond.fieldLink RX7 168 (TX1 19).1 (TX1 19).2.1 (TX1 19).2.2.1 ∈ W0 := w0_in (List.mem_append_right _ (List.mem_of_getElem? (i := 139) rfl)) rfl
set_option maxRecDepth 100000 in
theorem m_145 : Cond.fieldLink RX7 171 (TX1 20).1 (TX1 20).2.1 (TX1 20).2.2.1 ∈ W0 := w0_in (List.mem_append_right _ (List.mem_of_getElem? (i := 145) rfl)) rfl
section
variable {p : Program} {l : Launch} {e : Env} {R : Room} {s : State} {m : MethodId} {args : Array Value} {below : List Frame} {meth : Method} {c : Code} {H : Heap} {locs : List Loc} {cells slots : Nat} {Q : State → Prop}
variable {cc : ByteArray} {pc : Nat} {ls : Array Slot} {rest : List Value} {X : Ec} {h h1 : Hp} {nL : Nat} {rt : Option FieldType} {mn : String}
theorem gf_X7_168 {a r : Nat} (C : Cx X p s m args meth c RX7 cc nL rt mn) (hW : Wx X h H) (ha : hK h a = 1) (hr : hR h a 19 = some r) (hdg : decode cc pc = .ok (.getfield 168, 3)) (kk : hK h r = 17 → W p l e R s m args below meth c H locs cells slots Q (F0 m (pc + 3) ls (.ref r :: rest))) : W p l e R s m args below meth c H locs cells slots Q (F0 m pc ls (.ref a :: rest)) :=
  y_getr C hW ha i_X1 (by decide) rfl (by decide) m_139 rfl rfl hr hdg kk
theorem gf_X7_171 {a r : Nat} (C : Cx X p s m args meth c RX7 cc nL rt mn) (hW : Wx X h H) (ha : hK h a = 1) (hr : hR h a 20 = some r) (hdg : decode cc pc = .ok (.getfield 171, 3)) (kk : hK h r = 17 → W p l e R s m args below meth c H locs cells slots Q (F0 m (pc + 3) ls (.ref r :: rest))) : W p l e R s m args below meth c H locs cells slots Q (F0 m pc ls (.ref a :: rest)) :=
  y_getr C hW ha i_X1 (by decide) rfl (by decide) m_145 rfl rfl hr hdg kk
end
theorem dX7_writeSquare_0 : decode cX7_writeSquare 0 = .ok (.aload_n 2, 1) := by decide +kernel
theorem dX7_writeSquare_1 : decode cX7_writeSquare 1 = .ok (.bipush 97, 2) := by decide +kernel
theorem dX7_writeSquare_3 : decode cX7_writeSquare 3 = .ok (.aload_n 0, 1) := by decide +kernel
theorem dX7_writeSquare_4 : decode cX7_writeSquare 4 = .ok (.getfield 168, 3) := by decide +kernel
theorem dX7_writeSquare_7 : decode cX7_writeSquare 7 = .ok (.iload_n 1, 1) := by decide +kernel
theorem dX7_writeSquare_8 : decode cX7_writeSquare 8 = .ok (.iaload, 1) := by decide +kernel
theorem dX7_writeSquare_9 : decode cX7_writeSquare 9 = .ok (.iadd, 1) := by decide +kernel
theorem dX7_writeSquare_10 : decode cX7_writeSquare 10 = .ok (.invokevirtual 118, 3) := by decide +kernel
theorem dX7_writeSquare_13 : decode cX7_writeSquare 13 = .ok (.aload_n 2, 1) := by decide +kernel
theorem dX7_writeSquare_14 : decode cX7_writeSquare 14 = .ok (.bipush 49, 2) := by decide +kernel
theorem dX7_writeSquare_16 : decode cX7_writeSquare 16 = .ok (.aload_n 0, 1) := by decide +kernel
theorem dX7_writeSquare_17 : decode cX7_writeSquare 17 = .ok (.getfield 171, 3) := by decide +kernel
theorem dX7_writeSquare_20 : decode cX7_writeSquare 20 = .ok (.iload_n 1, 1) := by decide +kernel
theorem dX7_writeSquare_21 : decode cX7_writeSquare 21 = .ok (.iaload, 1) := by decide +kernel
theorem dX7_writeSquare_22 : decode cX7_writeSquare 22 = .ok (.iadd, 1) := by decide +kernel
theorem dX7_writeSquare_23 : decode cX7_writeSquare 23 = .ok (.invokevirtual 118, 3) := by decide +kernel
theorem dX7_writeSquare_26 : decode cX7_writeSquare 26 = .ok (.return_, 1) := by decide +kernel
set_option maxRecDepth 20000 in
theorem moX7_writeSquare {o : Hp} {h : Hp} {x0 : Nat} {x1 : Int32} {x2 : Nat} (hE : sX7_writeSquare h x0 x1 x2 = some o) : Le h o := by
  obtain ⟨r_1, er_1, hE⟩ := cl_e hE
  obtain ⟨g_2, hE⟩ := gd_e hE
  obtain ⟨o_3, eo_3, hE⟩ := cl_e hE
  refine (moX9_append eo_3).tr ?_
  obtain ⟨r_4, er_4, hE⟩ := cl_e hE
  obtain ⟨g_5, hE⟩ := gd_e hE
  obtain ⟨o_6, eo_6, hE⟩ := cl_e hE
  refine (moX9_append eo_6).tr ?_
  exact le_some1 hE
set_option maxRecDepth 20000 in
theorem ct_X7_writeSquare (l : Launch) (X : Ec) {h : Hp} {x0 : Nat} {x1 : Int32} {x2 : Nat} {o : Hp} (k_x0 : hK h x0 = 1) (k_x2 : hK h x2 = 9) (hE : sX7_writeSquare h x0 x1 x2 = some o) : MetV l yX7_writeSquare cX7_writeSquare 3 none 1 21 X [.ref x0, .int x1, .ref x2] h o := by
  refine x_met (by decide) (Nat.le_of_ble_eq_true rfl) ?_
  intro p e s m below meth c ls C hl hW hZ
  have hl : lv_has ls 3 [(0, .ref x0), (1, .int x1), (2, .ref x2)] := hl
  have hkm : Km h h := Km.rf h
  refine lv_aload_n C.1 C.2.1 dX7_writeSquare_0 rfl (lv_at hl 2 rfl) ?_
  refine lv_bipush (v := (97 : Int32)) C.1 C.2.1 dX7_writeSquare_1 (by decide) ?_
  refine lv_aload_n C.1 C.2.1 dX7_writeSquare_3 rfl (lv_at hl 0 rfl) ?_
  obtain ⟨r_1, er_1, hE⟩ := cl_e hE
  refine gf_X7_168 C hW k_x0 er_1 dX7_writeSquare_4 (fun k_r_1 => ?_)
  refine lv_iload_n C.1 C.2.1 dX7_writeSquare_7 rfl (lv_at hl 1 rfl) ?_
  obtain ⟨g_2, hE⟩ := gd_e hE
  refine y_iald C hW k_r_1 g_2 dX7_writeSquare_8 ?_
  refine lv_iadd C.1 C.2.1 dX7_writeSquare_9 ?_
  obtain ⟨o_3, eo_3, hE⟩ := cl_e hE
  refine x_kV (o := o_3) (z_runV (As := [.int ((97 : Int32) + (hI h r_1 x1.toNatClampNeg))]) (rest := []) C (ct_X9_append l X k_x2 eo_3) cw_X7_118 hW hZ k_x2 (by decide) rfl rfl rfl hl.1 (Nat.le_of_ble_eq_true rfl) rfl dX7_writeSquare_10 ⟨Nat.le_of_ble_eq_true rfl, Nat.le_of_ble_eq_true rfl⟩ ⟨Nat.le_refl _, Nat.le_refl _⟩) hZ (fun _ _ hW km hZ => ?_)
  replace hkm := hkm.tr km
  replace k_x0 := km.at k_x0 (by decide)
  replace k_x2 := km.at k_x2 (by decide)
  refine lv_aload_n C.1 C.2.1 dX7_writeSquare_13 rfl (lv_at hl 2 rfl) ?_
  refine lv_bipush (v := (49 : Int32)) C.1 C.2.1 dX7_writeSquare_14 (by decide) ?_
  refine lv_aload_n C.1 C.2.1 dX7_writeSquare_16 rfl (lv_at hl 0 rfl) ?_
  obtain ⟨r_4, er_4, hE⟩ := cl_e hE
  refine gf_X7_171 C hW k_x0 er_4 dX7_writeSquare_17 (fun k_r_4 => ?_)
  refine lv_iload_n C.1 C.2.1 dX7_writeSquare_20 rfl (lv_at hl 1 rfl) ?_
  obtain ⟨g_5, hE⟩ := gd_e hE
  refine y_iald C hW k_r_4 g_5 dX7_writeSquare_21 ?_
  refine lv_iadd C.1 C.2.1 dX7_writeSquare_22 ?_
  obtain ⟨o_6, eo_6, hE⟩ := cl_e hE
  refine x_kV (o := o_6) (z_runV (As := [.int ((49 : Int32) + (hI o_3 r_4 x1.toNatClampNeg))]) (rest := []) C (ct_X9_append l X k_x2 eo_6) cw_X7_118 hW hZ k_x2 (by decide) rfl rfl rfl hl.1 (Nat.le_of_ble_eq_true rfl) rfl dX7_writeSquare_23 ⟨Nat.le_of_ble_eq_true rfl, Nat.le_of_ble_eq_true rfl⟩ ⟨Nat.le_refl _, Nat.le_refl _⟩) hZ (fun _ _ hW km hZ => ?_)
  replace hkm := hkm.tr km
  replace k_x0 := km.at k_x0 (by decide)
  replace k_x2 := km.at k_x2 (by decide)
  exact x_vret C rfl hW hZ hkm hE dX7_writeSquare_26
set_option maxRecDepth 100000 in
theorem m_76 : Cond.fieldLink RX7 145 (TX1 2).1 (TX1 2).2.1 (TX1 2).2.2.1 ∈ W0 := w0_in (List.mem_append_right _ (List.mem_of_getElem? (i := 76) rfl)) rfl
set_option maxRecDepth 100000 in
theorem m_1109 : Cond.methodLink RX7 148 yX7_writeSquare ∈ W0 := w0_in (List.mem_append_right _ (List.mem_of_getElem? (i := 1109) rfl)) rfl
set_option maxRecDepth 100000 in
theorem m_1110 : Cond.static yX7_writeSquare ∈ W0 := w0_in (List.mem_append_right _ (List.mem_of_getElem? (i := 1110) rfl)) rfl
set_option maxRecDepth 100000 in
theorem m_1111 : Cond.code yX7_writeSquare cX7_writeSquare 3 none ∈ W0 := w0_in (List.mem_append_right _ (List.mem_of_getElem? (i := 1111) rfl)) rfl
section
variable {p : Program} {l : Launch} {e : Env} {R : Room} {s : State} {m : MethodId} {args : Array Value} {below : List Frame} {meth : Method} {c : Code} {H : Heap} {locs : List Loc} {cells slots : Nat} {Q : State → Prop}
variable {cc : ByteArray} {pc : Nat} {ls : Array Slot} {rest : List Value} {X : Ec} {h h1 : Hp} {nL : Nat} {rt : Option FieldType} {mn : String}
theorem gf_X7_145 {a : Nat} (C : Cx X p s m args meth c RX7 cc nL rt mn) (hW : Wx X h H) (ha : hK h a = 1) (hdg : decode cc pc = .ok (.getfield 145, 3)) (kk : W p l e R s m args below meth c H locs cells slots Q (F0 m (pc + 3) ls (.int (hI h a 2) :: rest))) : W p l e R s m args below meth c H locs cells slots Q (F0 m pc ls (.ref a :: rest)) :=
  y_geti C hW ha i_X1 (by decide) rfl (by decide) m_76 rfl hdg kk
end
theorem cw_X7_148 : cwd RX7 148 yX7_writeSquare cX7_writeSquare 3 none true 3 := ⟨m_1111, m_1109, m_10, m_1110, by decide, by decide, by decide +kernel⟩
theorem dX7_writeRights_0 : decode cX7_writeRights 0 = .ok (.iconst 0, 1) := by decide +kernel
theorem dX7_writeRights_1 : decode cX7_writeRights 1 = .ok (.istore_n 3, 1) := by decide +kernel
theorem dX7_writeRights_2 : decode cX7_writeRights 2 = .ok (.iload_n 3, 1) := by decide +kernel
theorem dX7_writeRights_3 : decode cX7_writeRights 3 = .ok (.aload_n 0, 1) := by decide +kernel
theorem dX7_writeRights_4 : decode cX7_writeRights 4 = .ok (.getfield 9, 3) := by decide +kernel
theorem dX7_writeRights_7 : decode cX7_writeRights 7 = .ok (.getfield 145, 3) := by decide +kernel
theorem dX7_writeRights_10 : decode cX7_writeRights 10 = .ok (.if_icmp .ge 31, 3) := by decide +kernel
theorem dX7_writeRights_13 : decode cX7_writeRights 13 = .ok (.aload_n 1, 1) := by decide +kernel
theorem dX7_writeRights_14 : decode cX7_writeRights 14 = .ok (.getfield 85, 3) := by decide +kernel
theorem dX7_writeRights_17 : decode cX7_writeRights 17 = .ok (.iload_n 3, 1) := by decide +kernel
theorem dX7_writeRights_18 : decode cX7_writeRights 18 = .ok (.lushr, 1) := by decide +kernel
theorem dX7_writeRights_19 : decode cX7_writeRights 19 = .ok (.lconst 1, 1) := by decide +kernel
theorem dX7_writeRights_20 : decode cX7_writeRights 20 = .ok (.land, 1) := by decide +kernel
theorem dX7_writeRights_21 : decode cX7_writeRights 21 = .ok (.lconst 0, 1) := by decide +kernel
theorem dX7_writeRights_22 : decode cX7_writeRights 22 = .ok (.lcmp, 1) := by decide +kernel
theorem dX7_writeRights_23 : decode cX7_writeRights 23 = .ok (.ifCond .eq 12, 3) := by decide +kernel
theorem dX7_writeRights_26 : decode cX7_writeRights 26 = .ok (.aload_n 0, 1) := by decide +kernel
theorem dX7_writeRights_27 : decode cX7_writeRights 27 = .ok (.getfield 9, 3) := by decide +kernel
theorem dX7_writeRights_30 : decode cX7_writeRights 30 = .ok (.iload_n 3, 1) := by decide +kernel
theorem dX7_writeRights_31 : decode cX7_writeRights 31 = .ok (.aload_n 2, 1) := by decide +kernel
theorem dX7_writeRights_32 : decode cX7_writeRights 32 = .ok (.invokestatic 148, 3) := by decide +kernel
theorem dX7_writeRights_35 : decode cX7_writeRights 35 = .ok (.iinc 3 1, 3) := by decide +kernel
theorem dX7_writeRights_38 : decode cX7_writeRights 38 = .ok (.goto (-36), 3) := by decide +kernel
theorem dX7_writeRights_41 : decode cX7_writeRights 41 = .ok (.aload_n 1, 1) := by decide +kernel
theorem dX7_writeRights_42 : decode cX7_writeRights 42 = .ok (.getfield 85, 3) := by decide +kernel
theorem dX7_writeRights_45 : decode cX7_writeRights 45 = .ok (.lconst 0, 1) := by decide +kernel
theorem dX7_writeRights_46 : decode cX7_writeRights 46 = .ok (.lcmp, 1) := by decide +kernel
theorem dX7_writeRights_47 : decode cX7_writeRights 47 = .ok (.ifCond .ne 9, 3) := by decide +kernel
theorem dX7_writeRights_50 : decode cX7_writeRights 50 = .ok (.aload_n 2, 1) := by decide +kernel
theorem dX7_writeRights_51 : decode cX7_writeRights 51 = .ok (.bipush 45, 2) := by decide +kernel
theorem dX7_writeRights_53 : decode cX7_writeRights 53 = .ok (.invokevirtual 118, 3) := by decide +kernel
theorem dX7_writeRights_56 : decode cX7_writeRights 56 = .ok (.return_, 1) := by decide +kernel
set_option maxRecDepth 20000 in
theorem moX7_writeRights_56 {o : Hp} {F : Nat} {h : Hp} (hE : sX7_writeRights_56 F h  = some o) : Le h o := by
  exact le_some1 hE
set_option maxRecDepth 20000 in
theorem moX7_writeRights_35 {o : Hp} {k_2 : Hp → Nat → Nat → Nat → Int32 → Option (Hp)} {F : Nat} (mk_2 : ∀ (h : Hp) (x0 : Nat) (x1 : Nat) (x2 : Nat) (x3 : Int32), k_2 h x0 x1 x2 x3 = some o → Le h o) {h : Hp} {x0 : Nat} {x1 : Nat} {x2 : Nat} {x3 : Int32} (hE : sX7_writeRights_35 F k_2 h x0 x1 x2 x3 = some o) : Le h o := by
  obtain ⟨v_1, ev_1, hE⟩ := nm_e2 hE
  exact mk_2 _ _ _ _ _ hE
set_option maxRecDepth 20000 in
theorem moX7_writeRights_2 {o : Hp} {F : Nat} : ∀ (f : Nat) {h : Hp} {x0 : Nat} {x1 : Nat} {x2 : Nat} {x3 : Int32}, sX7_writeRights_2 F f h x0 x1 x2 x3 = some o → Le h o := by
  intro f
  induction f with
  | zero =>
    intro h x0 x1 x2 x3 hE
    rw [sX7_writeRights_2] at hE
    cases hE
  | succ f ih =>
    intro h x0 x1 x2 x3 hE
    rw [sX7_writeRights_2] at hE
    have mk_2 : ∀ (h : Hp) (x0 : Nat) (x1 : Nat) (x2 : Nat) (x3 : Int32), sX7_writeRights_2 F f h x0 x1 x2 x3 = some o → Le h o := fun h x0 x1 x2 x3 hE => ih hE
    obtain ⟨r_1, er_1, hE⟩ := cl_e hE
    rcases br_e hE with ⟨_, hE⟩ | ⟨_, hE⟩
    · rcases br_e hE with ⟨_, hE⟩ | ⟨_, hE⟩
      · obtain ⟨o_4, eo_4, hE⟩ := cl_e hE
        refine (moX9_append eo_4).tr ?_
        exact moX7_writeRights_56 hE
      · exact moX7_writeRights_56 hE
    · rcases br_e hE with ⟨_, hE⟩ | ⟨_, hE⟩
      · exact moX7_writeRights_35 mk_2 hE
      · obtain ⟨r_6, er_6, hE⟩ := cl_e hE
        obtain ⟨o_7, eo_7, hE⟩ := cl_e hE
        refine (moX7_writeSquare eo_7).tr ?_
        exact moX7_writeRights_35 mk_2 hE
set_option maxRecDepth 20000 in
theorem moX7_writeRights {o : Hp} {F : Nat} {h : Hp} {x0 : Nat} {x1 : Nat} {x2 : Nat} (hE : sX7_writeRights F h x0 x1 x2 = some o) : Le h o := by
  exact moX7_writeRights_2 _ hE
set_option maxRecDepth 20000 in
theorem bX7_writeRights_56 {p : Program} {l : Launch} {e : Env} {s : State} {m : MethodId} {args : Array Value} {below : List Frame} {meth : Method} {c : Code} {X : Ec} {h0 : Hp} {o : Hp} {F : Nat} (C : Cx X p s m args meth c RX7 cX7_writeRights 4 none "writeRights") {h : Hp} {H : Heap} {locs : List Loc} (hkm : Km h0 h) (hW : Wx X h H) (hZ : va_S (aA (eB X)) s.heap H locs) (ls : Array Slot) (hl : lv_has ls 4 []) (hE : sX7_writeRights_56 F h  = some o) : W p l e (rm 2 43) s m args below meth c H locs 0 0 (MQ below (QV X h0 o) args s 0 0 (aA (eB X))) (F0 m 56 ls []) := by
  exact x_vret C rfl hW hZ hkm hE dX7_writeRights_56
set_option maxRecDepth 20000 in
theorem bX7_writeRights_35 {p : Program} {l : Launch} {e : Env} {s : State} {m : MethodId} {args : Array Value} {below : List Frame} {meth : Method} {c : Code} {X : Ec} {h0 : Hp} {o : Hp} {k_2 : Hp → Nat → Nat → Nat → Int32 → Option (Hp)} {F : Nat} (C : Cx X p s m args meth c RX7 cX7_writeRights 4 none "writeRights") (hk_2 : ∀ (h : Hp) (x0 : Nat) (x1 : Nat) (x2 : Nat) (x3 : Int32) (H : Heap) (locs : List Loc), hK h x0 = 7 → hK h x1 = 3 → hK h x2 = 9 → Km h0 h → Wx X h H → va_S (aA (eB X)) s.heap H locs → ∀ (ls : Array Slot), lv_has ls 4 [(0, .ref x0), (1, .ref x1), (2, .ref x2), (3, .int x3)] → k_2 h x0 x1 x2 x3 = some o → W p l e (rm 2 43) s m args below meth c H locs 0 0 (MQ below (QV X h0 o) args s 0 0 (aA (eB X))) (F0 m 2 ls [])) {h : Hp} {x0 : Nat} {x1 : Nat} {x2 : Nat} {x3 : Int32} {H : Heap} {locs : List Loc} (k_x0 : hK h x0 = 7) (k_x1 : hK h x1 = 3) (k_x2 : hK h x2 = 9) (hkm : Km h0 h) (hW : Wx X h H) (hZ : va_S (aA (eB X)) s.heap H locs) (ls : Array Slot) (hl : lv_has ls 4 [(0, .ref x0), (1, .ref x1), (2, .ref x2), (3, .int x3)]) (hE : sX7_writeRights_35 F k_2 h x0 x1 x2 x3 = some o) : W p l e (rm 2 43) s m args below meth c H locs 0 0 (MQ below (QV X h0 o) args s 0 0 (aA (eB X))) (F0 m 35 ls []) := by
  obtain ⟨v_1, ev_1, hE⟩ := nm_e2 hE
  refine lv_iinc (v := v_1) (lv' := [(3, .int v_1), (0, .ref x0), (1, .ref x1), (2, .ref x2)]) C.1 C.2.1 dX7_writeRights_35 hl (k := 3) rfl (by rw [ev_1]; rfl) (by decide) rfl (fun ls hl => ?_)
  refine lv_goto (tgt := 2) C.1 C.2.1 dX7_writeRights_38 (by decide) ?_
  exact hk_2 _ _ _ _ _ _ _ k_x0 k_x1 k_x2 hkm hW hZ _ (lv_sub hl [1, 2, 3, 0] rfl) hE
set_option maxRecDepth 20000 in
theorem bX7_writeRights_2 {p : Program} {l : Launch} {e : Env} {s : State} {m : MethodId} {args : Array Value} {below : List Frame} {meth : Method} {c : Code} {X : Ec} {h0 : Hp} {o : Hp} {F : Nat} (C : Cx X p s m args meth c RX7 cX7_writeRights 4 none "writeRights") : ∀ (f : Nat) {h : Hp} {x0 : Nat} {x1 : Nat} {x2 : Nat} {x3 : Int32} {H : Heap} {locs : List Loc} (k_x0 : hK h x0 = 7) (k_x1 : hK h x1 = 3) (k_x2 : hK h x2 = 9), Km h0 h → Wx X h H → va_S (aA (eB X)) s.heap H locs → ∀ (ls : Array Slot), lv_has ls 4 [(0, .ref x0), (1, .ref x1), (2, .ref x2), (3, .int x3)] → sX7_writeRights_2 F f h x0 x1 x2 x3 = some o → W p l e (rm 2 43) s m args below meth c H locs 0 0 (MQ below (QV X h0 o) args s 0 0 (aA (eB X))) (F0 m 2 ls []) := by
  intro f
  induction f with
  | zero =>
    intro h x0 x1 x2 x3 H locs k_x0 k_x1 k_x2 hkm hW hZ ls hl hE
    rw [sX7_writeRights_2] at hE
    cases hE
  | succ f ih =>
    intro h x0 x1 x2 x3 H locs k_x0 k_x1 k_x2 hkm hW hZ ls hl hE
    rw [sX7_writeRights_2] at hE
    have hk_2 : ∀ (h : Hp) (x0 : Nat) (x1 : Nat) (x2 : Nat) (x3 : Int32) (H : Heap) (locs : List Loc), hK h x0 = 7 → hK h x1 = 3 → hK h x2 = 9 → Km h0 h → Wx X h H → va_S (aA (eB X)) s.heap H locs → ∀ (ls : Array Slot), lv_has ls 4 [(0, .ref x0), (1, .ref x1), (2, .ref x2), (3, .int x3)] → sX7_writeRights_2 F f h x0 x1 x2 x3 = some o → W p l e (rm 2 43) s m args below meth c H locs 0 0 (MQ below (QV X h0 o) args s 0 0 (aA (eB X))) (F0 m 2 ls []) := fun h x0 x1 x2 x3 H locs k_x0 k_x1 k_x2 a b c ls hl hE => ih k_x0 k_x1 k_x2 a b c ls hl hE
    refine lv_iload_n C.1 C.2.1 dX7_writeRights_2 rfl (lv_at hl 3 rfl) ?_
    refine lv_aload_n C.1 C.2.1 dX7_writeRights_3 rfl (lv_at hl 0 rfl) ?_
    obtain ⟨r_1, er_1, hE⟩ := cl_e hE
    refine gf_X7_9 C hW k_x0 er_1 dX7_writeRights_4 (fun k_r_1 => ?_)
    refine gf_X7_145 C hW k_r_1 dX7_writeRights_7 ?_
    refine lv_icmp_ge (tgt := 41) C.1 C.2.1 dX7_writeRights_10 (by decide) (fun c_2 => ?_) (fun c_2 => ?_)
    · have hE := br_p hE c_2
      refine lv_aload_n C.1 C.2.1 dX7_writeRights_41 rfl (lv_at hl 1 rfl) ?_
      refine gf_X7_85 C hW k_x1 dX7_writeRights_42 ?_
      refine lv_lconst (v := (0 : Int64)) C.1 C.2.1 dX7_writeRights_45 (by decide) ?_
      refine W.lcmp C.1 C.2.1 dX7_writeRights_46 ?_
      refine lv_if_ne (tgt := 56) C.1 C.2.1 dX7_writeRights_47 (by decide) (fun c_3 => ?_) (fun c_3 => ?_)
      · have hE := br_n hE c_3
        exact bX7_writeRights_56 C hkm hW hZ _ (lv_sub hl [] rfl) hE
      · have hE := br_p hE c_3
        refine lv_aload_n C.1 C.2.1 dX7_writeRights_50 rfl (lv_at hl 2 rfl) ?_
        refine lv_bipush (v := (45 : Int32)) C.1 C.2.1 dX7_writeRights_51 (by decide) ?_
        obtain ⟨o_4, eo_4, hE⟩ := cl_e hE
        refine x_kV (o := o_4) (z_runV (As := [.int (45 : Int32)]) (rest := []) C (ct_X9_append l X k_x2 eo_4) cw_X7_118 hW hZ k_x2 (by decide) rfl rfl rfl hl.1 (Nat.le_of_ble_eq_true rfl) rfl dX7_writeRights_53 ⟨Nat.le_of_ble_eq_true rfl, Nat.le_of_ble_eq_true rfl⟩ ⟨Nat.le_refl _, Nat.le_refl _⟩) hZ (fun _ _ hW km hZ => ?_)
        replace hkm := hkm.tr km
        replace k_x0 := km.at k_x0 (by decide)
        replace k_x1 := km.at k_x1 (by decide)
        replace k_x2 := km.at k_x2 (by decide)
        exact bX7_writeRights_56 C hkm hW hZ _ (lv_sub hl [] rfl) hE
    · have hE := br_n hE c_2
      refine lv_aload_n C.1 C.2.1 dX7_writeRights_13 rfl (lv_at hl 1 rfl) ?_
      refine gf_X7_85 C hW k_x1 dX7_writeRights_14 ?_
      refine lv_iload_n C.1 C.2.1 dX7_writeRights_17 rfl (lv_at hl 3 rfl) ?_
      refine lv_lushr C.1 C.2.1 dX7_writeRights_18 rfl ?_
      refine lv_lconst (v := (1 : Int64)) C.1 C.2.1 dX7_writeRights_19 (by decide) ?_
      refine lv_land C.1 C.2.1 dX7_writeRights_20 ?_
      refine lv_lconst (v := (0 : Int64)) C.1 C.2.1 dX7_writeRights_21 (by decide) ?_
      refine W.lcmp C.1 C.2.1 dX7_writeRights_22 ?_
      refine lv_if_eq (tgt := 35) C.1 C.2.1 dX7_writeRights_23 (by decide) (fun c_5 => ?_) (fun c_5 => ?_)
      · have hE := br_p hE c_5
        exact bX7_writeRights_35 C hk_2 k_x0 k_x1 k_x2 hkm hW hZ _ (lv_sub hl [0, 1, 2, 3] rfl) hE
      · have hE := br_n hE c_5
        refine lv_aload_n C.1 C.2.1 dX7_writeRights_26 rfl (lv_at hl 0 rfl) ?_
        obtain ⟨r_6, er_6, hE⟩ := cl_e hE
        refine gf_X7_9 C hW k_x0 er_6 dX7_writeRights_27 (fun k_r_6 => ?_)
        refine lv_iload_n C.1 C.2.1 dX7_writeRights_30 rfl (lv_at hl 3 rfl) ?_
        refine lv_aload_n C.1 C.2.1 dX7_writeRights_31 rfl (lv_at hl 2 rfl) ?_
        obtain ⟨o_7, eo_7, hE⟩ := cl_e hE
        refine x_kV (o := o_7) (z_runS (As := [.ref r_6, .int x3, .ref x2]) (rest := []) C (ct_X7_writeSquare l X k_r_6 k_x2 eo_7) cw_X7_148 hW hZ rfl hl.1 (Nat.le_of_ble_eq_true rfl) rfl dX7_writeRights_32 ⟨Nat.le_of_ble_eq_true rfl, Nat.le_of_ble_eq_true rfl⟩ ⟨Nat.le_refl _, Nat.le_refl _⟩) hZ (fun _ _ hW km hZ => ?_)
        replace hkm := hkm.tr km
        replace k_x0 := km.at k_x0 (by decide)
        replace k_x1 := km.at k_x1 (by decide)
        replace k_x2 := km.at k_x2 (by decide)
        exact bX7_writeRights_35 C hk_2 k_x0 k_x1 k_x2 hkm hW hZ _ (lv_sub hl [0, 1, 2, 3] rfl) hE
set_option maxRecDepth 20000 in
theorem ct_X7_writeRights (l : Launch) (X : Ec) (F : Nat) {h : Hp} {x0 : Nat} {x1 : Nat} {x2 : Nat} {o : Hp} (k_x0 : hK h x0 = 7) (k_x1 : hK h x1 = 3) (k_x2 : hK h x2 = 9) (hE : sX7_writeRights F h x0 x1 x2 = some o) : MetV l yX7_writeRights cX7_writeRights 4 none 2 43 X [.ref x0, .ref x1, .ref x2] h o := by
  refine x_met (by decide) (Nat.le_of_ble_eq_true rfl) ?_
  intro p e s m below meth c ls C hl hW hZ
  have hl : lv_has ls 4 [(0, .ref x0), (1, .ref x1), (2, .ref x2)] := hl
  have hkm : Km h h := Km.rf h
  refine lv_iconst (v := (0 : Int32)) C.1 C.2.1 dX7_writeRights_0 (by decide) ?_
  refine lv_istore_n (lv' := [(3, .int (0 : Int32)), (0, .ref x0), (1, .ref x1), (2, .ref x2)]) C.1 C.2.1 dX7_writeRights_1 rfl hl (by decide) rfl (fun ls hl => ?_)
  exact bX7_writeRights_2 C F k_x0 k_x1 k_x2 hkm hW hZ _ (lv_sub hl [1, 2, 3, 0] rfl) hE
set_option maxRecDepth 100000 in
theorem m_316 : Cond.fieldLink RX7 158 (TX3 9).1 (TX3 9).2.1 (TX3 9).2.2.1 ∈ W0 := w0_in (List.mem_append_right _ (List.mem_of_getElem? (i := 316) rfl)) rfl
set_option maxRecDepth 100000 in
theorem m_1055 : Cond.instanceMethod yX3_passSquare ∈ W0 := w0_in (List.mem_append_right _ (List.mem_of_getElem? (i := 1055) rfl)) rfl
set_option maxRecDepth 100000 in
theorem m_1056 : Cond.selects RX3 yX3_passSquare yX3_passSquare ∈ W0 := w0_in (List.mem_append_right _ (List.mem_of_getElem? (i := 1056) rfl)) rfl
set_option maxRecDepth 100000 in
theorem m_1057 : Cond.code yX3_passSquare cX3_passSquare 2 (some .int) ∈ W0 := w0_in (List.mem_append_right _ (List.mem_of_getElem? (i := 1057) rfl)) rfl
set_option maxRecDepth 100000 in
theorem m_1116 : Cond.methodLink RX7 152 yX3_passSize ∈ W0 := w0_in (List.mem_append_right _ (List.mem_of_getElem? (i := 1116) rfl)) rfl
set_option maxRecDepth 100000 in
theorem m_1117 : Cond.methodLink RX7 155 yX3_passSquare ∈ W0 := w0_in (List.mem_append_right _ (List.mem_of_getElem? (i := 1117) rfl)) rfl
section
variable {p : Program} {l : Launch} {e : Env} {R : Room} {s : State} {m : MethodId} {args : Array Value} {below : List Frame} {meth : Method} {c : Code} {H : Heap} {locs : List Loc} {cells slots : Nat} {Q : State → Prop}
variable {cc : ByteArray} {pc : Nat} {ls : Array Slot} {rest : List Value} {X : Ec} {h h1 : Hp} {nL : Nat} {rt : Option FieldType} {mn : String}
theorem gf_X7_158 {a : Nat} (C : Cx X p s m args meth c RX7 cc nL rt mn) (hW : Wx X h H) (ha : hK h a = 3) (hdg : decode cc pc = .ok (.getfield 158, 3)) (kk : W p l e R s m args below meth c H locs cells slots Q (F0 m (pc + 3) ls (.long (hJ h a 9) :: rest))) : W p l e R s m args below meth c H locs cells slots Q (F0 m pc ls (.ref a :: rest)) :=
  y_getj C hW ha i_X3 (by decide) rfl (by decide) m_316 rfl hdg kk
end
theorem cw_X7_152 : cwd RX7 152 yX3_passSize cX3_passSize 1 (some .int) false 0 := ⟨m_989, m_1116, m_8, ⟨m_987, m_988⟩, by decide, by decide, by decide +kernel⟩
theorem cw_X7_155 : cwd RX7 155 yX3_passSquare cX3_passSquare 2 (some .int) false 1 := ⟨m_1057, m_1117, m_8, ⟨m_1055, m_1056⟩, by decide, by decide, by decide +kernel⟩
theorem dX7_writePass_0 : decode cX7_writePass 0 = .ok (.iconst 0, 1) := by decide +kernel
theorem dX7_writePass_1 : decode cX7_writePass 1 = .ok (.istore_n 3, 1) := by decide +kernel
theorem dX7_writePass_2 : decode cX7_writePass 2 = .ok (.iload_n 3, 1) := by decide +kernel
theorem dX7_writePass_3 : decode cX7_writePass 3 = .ok (.aload_n 1, 1) := by decide +kernel
theorem dX7_writePass_4 : decode cX7_writePass 4 = .ok (.invokevirtual 152, 3) := by decide +kernel
theorem dX7_writePass_7 : decode cX7_writePass 7 = .ok (.if_icmp .ge 22, 3) := by decide +kernel
theorem dX7_writePass_10 : decode cX7_writePass 10 = .ok (.aload_n 0, 1) := by decide +kernel
theorem dX7_writePass_11 : decode cX7_writePass 11 = .ok (.getfield 9, 3) := by decide +kernel
theorem dX7_writePass_14 : decode cX7_writePass 14 = .ok (.aload_n 1, 1) := by decide +kernel
theorem dX7_writePass_15 : decode cX7_writePass 15 = .ok (.iload_n 3, 1) := by decide +kernel
theorem dX7_writePass_16 : decode cX7_writePass 16 = .ok (.invokevirtual 155, 3) := by decide +kernel
theorem dX7_writePass_19 : decode cX7_writePass 19 = .ok (.aload_n 2, 1) := by decide +kernel
theorem dX7_writePass_20 : decode cX7_writePass 20 = .ok (.invokestatic 148, 3) := by decide +kernel
theorem dX7_writePass_23 : decode cX7_writePass 23 = .ok (.iinc 3 1, 3) := by decide +kernel
theorem dX7_writePass_26 : decode cX7_writePass 26 = .ok (.goto (-24), 3) := by decide +kernel
theorem dX7_writePass_29 : decode cX7_writePass 29 = .ok (.aload_n 1, 1) := by decide +kernel
theorem dX7_writePass_30 : decode cX7_writePass 30 = .ok (.getfield 158, 3) := by decide +kernel
theorem dX7_writePass_33 : decode cX7_writePass 33 = .ok (.lconst 0, 1) := by decide +kernel
theorem dX7_writePass_34 : decode cX7_writePass 34 = .ok (.lcmp, 1) := by decide +kernel
theorem dX7_writePass_35 : decode cX7_writePass 35 = .ok (.ifCond .ne 9, 3) := by decide +kernel
theorem dX7_writePass_38 : decode cX7_writePass 38 = .ok (.aload_n 2, 1) := by decide +kernel
theorem dX7_writePass_39 : decode cX7_writePass 39 = .ok (.bipush 45, 2) := by decide +kernel
theorem dX7_writePass_41 : decode cX7_writePass 41 = .ok (.invokevirtual 118, 3) := by decide +kernel
theorem dX7_writePass_44 : decode cX7_writePass 44 = .ok (.return_, 1) := by decide +kernel
set_option maxRecDepth 20000 in
theorem moX7_writePass_44 {o : Hp} {F : Nat} {h : Hp} (hE : sX7_writePass_44 F h  = some o) : Le h o := by
  exact le_some1 hE
set_option maxRecDepth 20000 in
theorem moX7_writePass_2 {o : Hp} {F : Nat} : ∀ (f : Nat) {h : Hp} {x0 : Nat} {x1 : Nat} {x2 : Nat} {x3 : Int32}, sX7_writePass_2 F f h x0 x1 x2 x3 = some o → Le h o := by
  intro f
  induction f with
  | zero =>
    intro h x0 x1 x2 x3 hE
    rw [sX7_writePass_2] at hE
    cases hE
  | succ f ih =>
    intro h x0 x1 x2 x3 hE
    rw [sX7_writePass_2] at hE
    have mk_2 : ∀ (h : Hp) (x0 : Nat) (x1 : Nat) (x2 : Nat) (x3 : Int32), sX7_writePass_2 F f h x0 x1 x2 x3 = some o → Le h o := fun h x0 x1 x2 x3 hE => ih hE
    obtain ⟨o_1, eo_1, hE⟩ := cl_e hE
    refine (moX3_passSize eo_1).tr ?_
    rcases br_e hE with ⟨_, hE⟩ | ⟨_, hE⟩
    · rcases br_e hE with ⟨_, hE⟩ | ⟨_, hE⟩
      · obtain ⟨o_4, eo_4, hE⟩ := cl_e hE
        refine (moX9_append eo_4).tr ?_
        exact moX7_writePass_44 hE
      · exact moX7_writePass_44 hE
    · obtain ⟨r_5, er_5, hE⟩ := cl_e hE
      obtain ⟨o_6, eo_6, hE⟩ := cl_e hE
      refine (moX3_passSquare eo_6).tr ?_
      obtain ⟨o_7, eo_7, hE⟩ := cl_e hE
      refine (moX7_writeSquare eo_7).tr ?_
      obtain ⟨v_8, ev_8, hE⟩ := nm_e2 hE
      exact mk_2 _ _ _ _ _ hE
set_option maxRecDepth 20000 in
theorem moX7_writePass {o : Hp} {F : Nat} {h : Hp} {x0 : Nat} {x1 : Nat} {x2 : Nat} (hE : sX7_writePass F h x0 x1 x2 = some o) : Le h o := by
  exact moX7_writePass_2 _ hE
set_option maxRecDepth 20000 in
theorem bX7_writePass_44 {p : Program} {l : Launch} {e : Env} {s : State} {m : MethodId} {args : Array Value} {below : List Frame} {meth : Method} {c : Code} {X : Ec} {h0 : Hp} {o : Hp} {F : Nat} (C : Cx X p s m args meth c RX7 cX7_writePass 4 none "writePass") {h : Hp} {H : Heap} {locs : List Loc} (hkm : Km h0 h) (hW : Wx X h H) (hZ : va_S (aA (eB X)) s.heap H locs) (ls : Array Slot) (hl : lv_has ls 4 []) (hE : sX7_writePass_44 F h  = some o) : W p l e (rm 2 43) s m args below meth c H locs 0 0 (MQ below (QV X h0 o) args s 0 0 (aA (eB X))) (F0 m 44 ls []) := by
  exact x_vret C rfl hW hZ hkm hE dX7_writePass_44
set_option maxRecDepth 20000 in
theorem bX7_writePass_2 {p : Program} {l : Launch} {e : Env} {s : State} {m : MethodId} {args : Array Value} {below : List Frame} {meth : Method} {c : Code} {X : Ec} {h0 : Hp} {o : Hp} {F : Nat} (C : Cx X p s m args meth c RX7 cX7_writePass 4 none "writePass") : ∀ (f : Nat) {h : Hp} {x0 : Nat} {x1 : Nat} {x2 : Nat} {x3 : Int32} {H : Heap} {locs : List Loc} (k_x0 : hK h x0 = 7) (k_x1 : hK h x1 = 3) (k_x2 : hK h x2 = 9), Km h0 h → Wx X h H → va_S (aA (eB X)) s.heap H locs → ∀ (ls : Array Slot), lv_has ls 4 [(0, .ref x0), (1, .ref x1), (2, .ref x2), (3, .int x3)] → sX7_writePass_2 F f h x0 x1 x2 x3 = some o → W p l e (rm 2 43) s m args below meth c H locs 0 0 (MQ below (QV X h0 o) args s 0 0 (aA (eB X))) (F0 m 2 ls []) := by
  intro f
  induction f with
  | zero =>
    intro h x0 x1 x2 x3 H locs k_x0 k_x1 k_x2 hkm hW hZ ls hl hE
    rw [sX7_writePass_2] at hE
    cases hE
  | succ f ih =>
    intro h x0 x1 x2 x3 H locs k_x0 k_x1 k_x2 hkm hW hZ ls hl hE
    rw [sX7_writePass_2] at hE
    have hk_2 : ∀ (h : Hp) (x0 : Nat) (x1 : Nat) (x2 : Nat) (x3 : Int32) (H : Heap) (locs : List Loc), hK h x0 = 7 → hK h x1 = 3 → hK h x2 = 9 → Km h0 h → Wx X h H → va_S (aA (eB X)) s.heap H locs → ∀ (ls : Array Slot), lv_has ls 4 [(0, .ref x0), (1, .ref x1), (2, .ref x2), (3, .int x3)] → sX7_writePass_2 F f h x0 x1 x2 x3 = some o → W p l e (rm 2 43) s m args below meth c H locs 0 0 (MQ below (QV X h0 o) args s 0 0 (aA (eB X))) (F0 m 2 ls []) := fun h x0 x1 x2 x3 H locs k_x0 k_x1 k_x2 a b c ls hl hE => ih k_x0 k_x1 k_x2 a b c ls hl hE
    refine lv_iload_n C.1 C.2.1 dX7_writePass_2 rfl (lv_at hl 3 rfl) ?_
    refine lv_aload_n C.1 C.2.1 dX7_writePass_3 rfl (lv_at hl 1 rfl) ?_
    obtain ⟨o_1, eo_1, hE⟩ := cl_e hE
    refine x_kI (o := o_1) (z_runV (As := []) (rest := [.int x3]) C (ct_X3_passSize l X k_x1 eo_1) cw_X7_152 hW hZ k_x1 (by decide) rfl rfl rfl hl.1 (Nat.le_of_ble_eq_true rfl) rfl dX7_writePass_4 ⟨Nat.le_of_ble_eq_true rfl, Nat.le_of_ble_eq_true rfl⟩ ⟨Nat.le_refl _, Nat.le_refl _⟩) hZ (fun _ _ hW km hZ => ?_)
    replace hkm := hkm.tr km
    replace k_x0 := km.at k_x0 (by decide)
    replace k_x1 := km.at k_x1 (by decide)
    replace k_x2 := km.at k_x2 (by decide)
    refine lv_icmp_ge (tgt := 29) C.1 C.2.1 dX7_writePass_7 (by decide) (fun c_2 => ?_) (fun c_2 => ?_)
    · have hE := br_p hE c_2
      refine lv_aload_n C.1 C.2.1 dX7_writePass_29 rfl (lv_at hl 1 rfl) ?_
      refine gf_X7_158 C hW k_x1 dX7_writePass_30 ?_
      refine lv_lconst (v := (0 : Int64)) C.1 C.2.1 dX7_writePass_33 (by decide) ?_
      refine W.lcmp C.1 C.2.1 dX7_writePass_34 ?_
      refine lv_if_ne (tgt := 44) C.1 C.2.1 dX7_writePass_35 (by decide) (fun c_3 => ?_) (fun c_3 => ?_)
      · have hE := br_n hE c_3
        exact bX7_writePass_44 C hkm hW hZ _ (lv_sub hl [] rfl) hE
      · have hE := br_p hE c_3
        refine lv_aload_n C.1 C.2.1 dX7_writePass_38 rfl (lv_at hl 2 rfl) ?_
        refine lv_bipush (v := (45 : Int32)) C.1 C.2.1 dX7_writePass_39 (by decide) ?_
        obtain ⟨o_4, eo_4, hE⟩ := cl_e hE
        refine x_kV (o := o_4) (z_runV (As := [.int (45 : Int32)]) (rest := []) C (ct_X9_append l X k_x2 eo_4) cw_X7_118 hW hZ k_x2 (by decide) rfl rfl rfl hl.1 (Nat.le_of_ble_eq_true rfl) rfl dX7_writePass_41 ⟨Nat.le_of_ble_eq_true rfl, Nat.le_of_ble_eq_true rfl⟩ ⟨Nat.le_refl _, Nat.le_refl _⟩) hZ (fun _ _ hW km hZ => ?_)
        replace hkm := hkm.tr km
        replace k_x0 := km.at k_x0 (by decide)
        replace k_x1 := km.at k_x1 (by decide)
        replace k_x2 := km.at k_x2 (by decide)
        exact bX7_writePass_44 C hkm hW hZ _ (lv_sub hl [] rfl) hE
    · have hE := br_n hE c_2
      refine lv_aload_n C.1 C.2.1 dX7_writePass_10 rfl (lv_at hl 0 rfl) ?_
      obtain ⟨r_5, er_5, hE⟩ := cl_e hE
      refine gf_X7_9 C hW k_x0 er_5 dX7_writePass_11 (fun k_r_5 => ?_)
      refine lv_aload_n C.1 C.2.1 dX7_writePass_14 rfl (lv_at hl 1 rfl) ?_
      refine lv_iload_n C.1 C.2.1 dX7_writePass_15 rfl (lv_at hl 3 rfl) ?_
      obtain ⟨o_6, eo_6, hE⟩ := cl_e hE
      refine x_kI (o := o_6) (z_runV (As := [.int x3]) (rest := [.ref r_5]) C (ct_X3_passSquare l X k_x1 eo_6) cw_X7_155 hW hZ k_x1 (by decide) rfl rfl rfl hl.1 (Nat.le_of_ble_eq_true rfl) rfl dX7_writePass_16 ⟨Nat.le_of_ble_eq_true rfl, Nat.le_of_ble_eq_true rfl⟩ ⟨Nat.le_refl _, Nat.le_refl _⟩) hZ (fun _ _ hW km hZ => ?_)
      replace hkm := hkm.tr km
      replace k_x0 := km.at k_x0 (by decide)
      replace k_x1 := km.at k_x1 (by decide)
      replace k_x2 := km.at k_x2 (by decide)
      replace k_r_5 := km.at k_r_5 (by decide)
      refine lv_aload_n C.1 C.2.1 dX7_writePass_19 rfl (lv_at hl 2 rfl) ?_
      obtain ⟨o_7, eo_7, hE⟩ := cl_e hE
      refine x_kV (o := o_7) (z_runS (As := [.ref r_5, .int o_6.1, .ref x2]) (rest := []) C (ct_X7_writeSquare l X k_r_5 k_x2 eo_7) cw_X7_148 hW hZ rfl hl.1 (Nat.le_of_ble_eq_true rfl) rfl dX7_writePass_20 ⟨Nat.le_of_ble_eq_true rfl, Nat.le_of_ble_eq_true rfl⟩ ⟨Nat.le_refl _, Nat.le_refl _⟩) hZ (fun _ _ hW km hZ => ?_)
      replace hkm := hkm.tr km
      replace k_x0 := km.at k_x0 (by decide)
      replace k_x1 := km.at k_x1 (by decide)
      replace k_x2 := km.at k_x2 (by decide)
      obtain ⟨v_8, ev_8, hE⟩ := nm_e2 hE
      refine lv_iinc (v := v_8) (lv' := [(3, .int v_8), (0, .ref x0), (1, .ref x1), (2, .ref x2)]) C.1 C.2.1 dX7_writePass_23 hl (k := 3) rfl (by rw [ev_8]; rfl) (by decide) rfl (fun ls hl => ?_)
      refine lv_goto (tgt := 2) C.1 C.2.1 dX7_writePass_26 (by decide) ?_
      exact hk_2 _ _ _ _ _ _ _ k_x0 k_x1 k_x2 hkm hW hZ _ (lv_sub hl [1, 2, 3, 0] rfl) hE
set_option maxRecDepth 20000 in
theorem ct_X7_writePass (l : Launch) (X : Ec) (F : Nat) {h : Hp} {x0 : Nat} {x1 : Nat} {x2 : Nat} {o : Hp} (k_x0 : hK h x0 = 7) (k_x1 : hK h x1 = 3) (k_x2 : hK h x2 = 9) (hE : sX7_writePass F h x0 x1 x2 = some o) : MetV l yX7_writePass cX7_writePass 4 none 2 43 X [.ref x0, .ref x1, .ref x2] h o := by
  refine x_met (by decide) (Nat.le_of_ble_eq_true rfl) ?_
  intro p e s m below meth c ls C hl hW hZ
  have hl : lv_has ls 4 [(0, .ref x0), (1, .ref x1), (2, .ref x2)] := hl
  have hkm : Km h h := Km.rf h
  refine lv_iconst (v := (0 : Int32)) C.1 C.2.1 dX7_writePass_0 (by decide) ?_
  refine lv_istore_n (lv' := [(3, .int (0 : Int32)), (0, .ref x0), (1, .ref x1), (2, .ref x2)]) C.1 C.2.1 dX7_writePass_1 rfl hl (by decide) rfl (fun ls hl => ?_)
  exact bX7_writePass_2 C F k_x0 k_x1 k_x2 hkm hW hZ _ (lv_sub hl [1, 2, 3, 0] rfl) hE
set_option maxRecDepth 100000 in
theorem m_82 : Cond.fieldLink RX7 161 (TX1 3).1 (TX1 3).2.1 (TX1 3).2.2.1 ∈ W0 := w0_in (List.mem_append_right _ (List.mem_of_getElem? (i := 82) rfl)) rfl
set_option maxRecDepth 100000 in
theorem m_290 : Cond.fieldLink RX7 164 (TX3 3).1 (TX3 3).2.1 (TX3 3).2.2.1 ∈ W0 := w0_in (List.mem_append_right _ (List.mem_of_getElem? (i := 290) rfl)) rfl
section
variable {p : Program} {l : Launch} {e : Env} {R : Room} {s : State} {m : MethodId} {args : Array Value} {below : List Frame} {meth : Method} {c : Code} {H : Heap} {locs : List Loc} {cells slots : Nat} {Q : State → Prop}
variable {cc : ByteArray} {pc : Nat} {ls : Array Slot} {rest : List Value} {X : Ec} {h h1 : Hp} {nL : Nat} {rt : Option FieldType} {mn : String}
theorem gf_X7_161 {a : Nat} (C : Cx X p s m args meth c RX7 cc nL rt mn) (hW : Wx X h H) (ha : hK h a = 1) (hdg : decode cc pc = .ok (.getfield 161, 3)) (kk : W p l e R s m args below meth c H locs cells slots Q (F0 m (pc + 3) ls (.int (hI h a 3) :: rest))) : W p l e R s m args below meth c H locs cells slots Q (F0 m pc ls (.ref a :: rest)) :=
  y_geti C hW ha i_X1 (by decide) rfl (by decide) m_82 rfl hdg kk
theorem gf_X7_164 {a r : Nat} (C : Cx X p s m args meth c RX7 cc nL rt mn) (hW : Wx X h H) (ha : hK h a = 3) (hr : hR h a 3 = some r) (hdg : decode cc pc = .ok (.getfield 164, 3)) (kk : hK h r = 18 → W p l e R s m args below meth c H locs cells slots Q (F0 m (pc + 3) ls (.ref r :: rest))) : W p l e R s m args below meth c H locs cells slots Q (F0 m pc ls (.ref a :: rest)) :=
  y_getr C hW ha i_X3 (by decide) rfl (by decide) m_290 rfl rfl hr hdg kk
end
theorem dX7_writeHands_0 : decode cX7_writeHands 0 = .ok (.iconst 0, 1) := by decide +kernel
theorem dX7_writeHands_1 : decode cX7_writeHands 1 = .ok (.istore_n 3, 1) := by decide +kernel
theorem dX7_writeHands_2 : decode cX7_writeHands 2 = .ok (.iload_n 3, 1) := by decide +kernel
theorem dX7_writeHands_3 : decode cX7_writeHands 3 = .ok (.iconst 2, 1) := by decide +kernel
theorem dX7_writeHands_4 : decode cX7_writeHands 4 = .ok (.if_icmp .ge 68, 3) := by decide +kernel
theorem dX7_writeHands_7 : decode cX7_writeHands 7 = .ok (.iconst 0, 1) := by decide +kernel
theorem dX7_writeHands_8 : decode cX7_writeHands 8 = .ok (.istore 4, 2) := by decide +kernel
theorem dX7_writeHands_10 : decode cX7_writeHands 10 = .ok (.iload 4, 2) := by decide +kernel
theorem dX7_writeHands_12 : decode cX7_writeHands 12 = .ok (.aload_n 0, 1) := by decide +kernel
theorem dX7_writeHands_13 : decode cX7_writeHands 13 = .ok (.getfield 9, 3) := by decide +kernel
theorem dX7_writeHands_16 : decode cX7_writeHands 16 = .ok (.getfield 161, 3) := by decide +kernel
theorem dX7_writeHands_19 : decode cX7_writeHands 19 = .ok (.if_icmp .ge 47, 3) := by decide +kernel
theorem dX7_writeHands_22 : decode cX7_writeHands 22 = .ok (.iconst 0, 1) := by decide +kernel
theorem dX7_writeHands_23 : decode cX7_writeHands 23 = .ok (.istore 5, 2) := by decide +kernel
theorem dX7_writeHands_25 : decode cX7_writeHands 25 = .ok (.iload 5, 2) := by decide +kernel
theorem dX7_writeHands_27 : decode cX7_writeHands 27 = .ok (.aload_n 1, 1) := by decide +kernel
theorem dX7_writeHands_28 : decode cX7_writeHands 28 = .ok (.iload_n 3, 1) := by decide +kernel
theorem dX7_writeHands_29 : decode cX7_writeHands 29 = .ok (.iload 4, 2) := by decide +kernel
theorem dX7_writeHands_31 : decode cX7_writeHands 31 = .ok (.invokevirtual 93, 3) := by decide +kernel
theorem dX7_writeHands_34 : decode cX7_writeHands 34 = .ok (.if_icmp .ge 26, 3) := by decide +kernel
theorem dX7_writeHands_37 : decode cX7_writeHands 37 = .ok (.aload_n 2, 1) := by decide +kernel
theorem dX7_writeHands_38 : decode cX7_writeHands 38 = .ok (.aload_n 0, 1) := by decide +kernel
theorem dX7_writeHands_39 : decode cX7_writeHands 39 = .ok (.getfield 9, 3) := by decide +kernel
theorem dX7_writeHands_42 : decode cX7_writeHands 42 = .ok (.iconst 2, 1) := by decide +kernel
theorem dX7_writeHands_43 : decode cX7_writeHands 43 = .ok (.iload 4, 2) := by decide +kernel
theorem dX7_writeHands_45 : decode cX7_writeHands 45 = .ok (.imul, 1) := by decide +kernel
theorem dX7_writeHands_46 : decode cX7_writeHands 46 = .ok (.iload_n 3, 1) := by decide +kernel
theorem dX7_writeHands_47 : decode cX7_writeHands 47 = .ok (.iadd, 1) := by decide +kernel
theorem dX7_writeHands_48 : decode cX7_writeHands 48 = .ok (.invokevirtual 142, 3) := by decide +kernel
theorem dX7_writeHands_51 : decode cX7_writeHands 51 = .ok (.invokevirtual 118, 3) := by decide +kernel
theorem dX7_writeHands_54 : decode cX7_writeHands 54 = .ok (.iinc 5 1, 3) := by decide +kernel
theorem dX7_writeHands_57 : decode cX7_writeHands 57 = .ok (.goto (-32), 3) := by decide +kernel
theorem dX7_writeHands_60 : decode cX7_writeHands 60 = .ok (.iinc 4 1, 3) := by decide +kernel
theorem dX7_writeHands_63 : decode cX7_writeHands 63 = .ok (.goto (-53), 3) := by decide +kernel
theorem dX7_writeHands_66 : decode cX7_writeHands 66 = .ok (.iinc 3 1, 3) := by decide +kernel
theorem dX7_writeHands_69 : decode cX7_writeHands 69 = .ok (.goto (-67), 3) := by decide +kernel
theorem dX7_writeHands_72 : decode cX7_writeHands 72 = .ok (.aload_n 1, 1) := by decide +kernel
theorem dX7_writeHands_73 : decode cX7_writeHands 73 = .ok (.getfield 164, 3) := by decide +kernel
theorem dX7_writeHands_76 : decode cX7_writeHands 76 = .ok (.iconst 0, 1) := by decide +kernel
theorem dX7_writeHands_77 : decode cX7_writeHands 77 = .ok (.laload, 1) := by decide +kernel
theorem dX7_writeHands_78 : decode cX7_writeHands 78 = .ok (.lconst 0, 1) := by decide +kernel
theorem dX7_writeHands_79 : decode cX7_writeHands 79 = .ok (.lcmp, 1) := by decide +kernel
theorem dX7_writeHands_80 : decode cX7_writeHands 80 = .ok (.ifCond .ne 20, 3) := by decide +kernel
theorem dX7_writeHands_83 : decode cX7_writeHands 83 = .ok (.aload_n 1, 1) := by decide +kernel
theorem dX7_writeHands_84 : decode cX7_writeHands 84 = .ok (.getfield 164, 3) := by decide +kernel
theorem dX7_writeHands_87 : decode cX7_writeHands 87 = .ok (.iconst 1, 1) := by decide +kernel
theorem dX7_writeHands_88 : decode cX7_writeHands 88 = .ok (.laload, 1) := by decide +kernel
theorem dX7_writeHands_89 : decode cX7_writeHands 89 = .ok (.lconst 0, 1) := by decide +kernel
theorem dX7_writeHands_90 : decode cX7_writeHands 90 = .ok (.lcmp, 1) := by decide +kernel
theorem dX7_writeHands_91 : decode cX7_writeHands 91 = .ok (.ifCond .ne 9, 3) := by decide +kernel
theorem dX7_writeHands_94 : decode cX7_writeHands 94 = .ok (.aload_n 2, 1) := by decide +kernel
theorem dX7_writeHands_95 : decode cX7_writeHands 95 = .ok (.bipush 45, 2) := by decide +kernel
theorem dX7_writeHands_97 : decode cX7_writeHands 97 = .ok (.invokevirtual 118, 3) := by decide +kernel
theorem dX7_writeHands_100 : decode cX7_writeHands 100 = .ok (.return_, 1) := by decide +kernel
set_option maxRecDepth 20000 in
theorem moX7_writeHands_100 {o : Hp} {F : Nat} {h : Hp} (hE : sX7_writeHands_100 F h  = some o) : Le h o := by
  exact le_some1 hE
set_option maxRecDepth 20000 in
theorem moX7_writeHands_25 {o : Hp} {k_2 : Hp → Nat → Nat → Nat → Int32 → Option (Hp)} {k_10 : Hp → Nat → Nat → Nat → Int32 → Int32 → Option (Hp)} {F : Nat} (mk_2 : ∀ (h : Hp) (x0 : Nat) (x1 : Nat) (x2 : Nat) (x3 : Int32), k_2 h x0 x1 x2 x3 = some o → Le h o) (mk_10 : ∀ (h : Hp) (x0 : Nat) (x1 : Nat) (x2 : Nat) (x3 : Int32) (x4 : Int32), k_10 h x0 x1 x2 x3 x4 = some o → Le h o) : ∀ (f : Nat) {h : Hp} {x0 : Nat} {x1 : Nat} {x2 : Nat} {x3 : Int32} {x4 : Int32} {x5 : Int32}, sX7_writeHands_25 F k_2 k_10 f h x0 x1 x2 x3 x4 x5 = some o → Le h o := by
  intro f
  induction f with
  | zero =>
    intro h x0 x1 x2 x3 x4 x5 hE
    rw [sX7_writeHands_25] at hE
    cases hE
  | succ f ih =>
    intro h x0 x1 x2 x3 x4 x5 hE
    rw [sX7_writeHands_25] at hE
    have mk_25 : ∀ (h : Hp) (x0 : Nat) (x1 : Nat) (x2 : Nat) (x3 : Int32) (x4 : Int32) (x5 : Int32), sX7_writeHands_25 F k_2 k_10 f h x0 x1 x2 x3 x4 x5 = some o → Le h o := fun h x0 x1 x2 x3 x4 x5 hE => ih hE
    obtain ⟨o_1, eo_1, hE⟩ := cl_e hE
    refine (moX3_inHand eo_1).tr ?_
    rcases br_e hE with ⟨_, hE⟩ | ⟨_, hE⟩
    · obtain ⟨v_3, ev_3, hE⟩ := nm_e2 hE
      exact mk_10 _ _ _ _ _ _ hE
    · obtain ⟨r_4, er_4, hE⟩ := cl_e hE
      obtain ⟨o_5, eo_5, hE⟩ := cl_e hE
      refine (moX1_letterOf eo_5).tr ?_
      obtain ⟨o_6, eo_6, hE⟩ := cl_e hE
      refine (moX9_append eo_6).tr ?_
      obtain ⟨v_7, ev_7, hE⟩ := nm_e2 hE
      exact mk_25 _ _ _ _ _ _ _ hE
set_option maxRecDepth 20000 in
theorem moX7_writeHands_10 {o : Hp} {k_2 : Hp → Nat → Nat → Nat → Int32 → Option (Hp)} {F : Nat} (mk_2 : ∀ (h : Hp) (x0 : Nat) (x1 : Nat) (x2 : Nat) (x3 : Int32), k_2 h x0 x1 x2 x3 = some o → Le h o) : ∀ (f : Nat) {h : Hp} {x0 : Nat} {x1 : Nat} {x2 : Nat} {x3 : Int32} {x4 : Int32}, sX7_writeHands_10 F k_2 f h x0 x1 x2 x3 x4 = some o → Le h o := by
  intro f
  induction f with
  | zero =>
    intro h x0 x1 x2 x3 x4 hE
    rw [sX7_writeHands_10] at hE
    cases hE
  | succ f ih =>
    intro h x0 x1 x2 x3 x4 hE
    rw [sX7_writeHands_10] at hE
    have mk_10 : ∀ (h : Hp) (x0 : Nat) (x1 : Nat) (x2 : Nat) (x3 : Int32) (x4 : Int32), sX7_writeHands_10 F k_2 f h x0 x1 x2 x3 x4 = some o → Le h o := fun h x0 x1 x2 x3 x4 hE => ih hE
    obtain ⟨r_1, er_1, hE⟩ := cl_e hE
    rcases br_e hE with ⟨_, hE⟩ | ⟨_, hE⟩
    · obtain ⟨v_3, ev_3, hE⟩ := nm_e2 hE
      exact mk_2 _ _ _ _ _ hE
    · exact moX7_writeHands_25 mk_2 mk_10 _ hE
set_option maxRecDepth 20000 in
theorem moX7_writeHands_2 {o : Hp} {F : Nat} : ∀ (f : Nat) {h : Hp} {x0 : Nat} {x1 : Nat} {x2 : Nat} {x3 : Int32}, sX7_writeHands_2 F f h x0 x1 x2 x3 = some o → Le h o := by
  intro f
  induction f with
  | zero =>
    intro h x0 x1 x2 x3 hE
    rw [sX7_writeHands_2] at hE
    cases hE
  | succ f ih =>
    intro h x0 x1 x2 x3 hE
    rw [sX7_writeHands_2] at hE
    have mk_2 : ∀ (h : Hp) (x0 : Nat) (x1 : Nat) (x2 : Nat) (x3 : Int32), sX7_writeHands_2 F f h x0 x1 x2 x3 = some o → Le h o := fun h x0 x1 x2 x3 hE => ih hE
    rcases br_e hE with ⟨_, hE⟩ | ⟨_, hE⟩
    · obtain ⟨r_2, er_2, hE⟩ := cl_e hE
      obtain ⟨g_3, hE⟩ := gd_e hE
      rcases br_e hE with ⟨_, hE⟩ | ⟨_, hE⟩
      · obtain ⟨r_5, er_5, hE⟩ := cl_e hE
        obtain ⟨g_6, hE⟩ := gd_e hE
        rcases br_e hE with ⟨_, hE⟩ | ⟨_, hE⟩
        · obtain ⟨o_8, eo_8, hE⟩ := cl_e hE
          refine (moX9_append eo_8).tr ?_
          exact moX7_writeHands_100 hE
        · exact moX7_writeHands_100 hE
      · exact moX7_writeHands_100 hE
    · exact moX7_writeHands_10 mk_2 _ hE
set_option maxRecDepth 20000 in
theorem moX7_writeHands {o : Hp} {F : Nat} {h : Hp} {x0 : Nat} {x1 : Nat} {x2 : Nat} (hE : sX7_writeHands F h x0 x1 x2 = some o) : Le h o := by
  exact moX7_writeHands_2 _ hE
set_option maxRecDepth 20000 in
theorem bX7_writeHands_100 {p : Program} {l : Launch} {e : Env} {s : State} {m : MethodId} {args : Array Value} {below : List Frame} {meth : Method} {c : Code} {X : Ec} {h0 : Hp} {o : Hp} {F : Nat} (C : Cx X p s m args meth c RX7 cX7_writeHands 6 none "writeHands") {h : Hp} {H : Heap} {locs : List Loc} (hkm : Km h0 h) (hW : Wx X h H) (hZ : va_S (aA (eB X)) s.heap H locs) (ls : Array Slot) (hl : lv_has ls 6 []) (hE : sX7_writeHands_100 F h  = some o) : W p l e (rm 1 22) s m args below meth c H locs 0 0 (MQ below (QV X h0 o) args s 0 0 (aA (eB X))) (F0 m 100 ls []) := by
  exact x_vret C rfl hW hZ hkm hE dX7_writeHands_100
set_option maxRecDepth 20000 in
theorem bX7_writeHands_25 {p : Program} {l : Launch} {e : Env} {s : State} {m : MethodId} {args : Array Value} {below : List Frame} {meth : Method} {c : Code} {X : Ec} {h0 : Hp} {o : Hp} {k_2 : Hp → Nat → Nat → Nat → Int32 → Option (Hp)} {k_10 : Hp → Nat → Nat → Nat → Int32 → Int32 → Option (Hp)} {F : Nat} (C : Cx X p s m args meth c RX7 cX7_writeHands 6 none "writeHands") (hk_2 : ∀ (h : Hp) (x0 : Nat) (x1 : Nat) (x2 : Nat) (x3 : Int32) (H : Heap) (locs : List Loc), hK h x0 = 7 → hK h x1 = 3 → hK h x2 = 9 → Km h0 h → Wx X h H → va_S (aA (eB X)) s.heap H locs → ∀ (ls : Array Slot), lv_has ls 6 [(0, .ref x0), (1, .ref x1), (2, .ref x2), (3, .int x3)] → k_2 h x0 x1 x2 x3 = some o → W p l e (rm 1 22) s m args below meth c H locs 0 0 (MQ below (QV X h0 o) args s 0 0 (aA (eB X))) (F0 m 2 ls [])) (hk_10 : ∀ (h : Hp) (x0 : Nat) (x1 : Nat) (x2 : Nat) (x3 : Int32) (x4 : Int32) (H : Heap) (locs : List Loc), hK h x0 = 7 → hK h x1 = 3 → hK h x2 = 9 → Km h0 h → Wx X h H → va_S (aA (eB X)) s.heap H locs → ∀ (ls : Array Slot), lv_has ls 6 [(0, .ref x0), (1, .ref x1), (2, .ref x2), (3, .int x3), (4, .int x4)] → k_10 h x0 x1 x2 x3 x4 = some o → W p l e (rm 1 22) s m args below meth c H locs 0 0 (MQ below (QV X h0 o) args s 0 0 (aA (eB X))) (F0 m 10 ls [])) : ∀ (f : Nat) {h : Hp} {x0 : Nat} {x1 : Nat} {x2 : Nat} {x3 : Int32} {x4 : Int32} {x5 : Int32} {H : Heap} {locs : List Loc} (k_x0 : hK h x0 = 7) (k_x1 : hK h x1 = 3) (k_x2 : hK h x2 = 9), Km h0 h → Wx X h H → va_S (aA (eB X)) s.heap H locs → ∀ (ls : Array Slot), lv_has ls 6 [(0, .ref x0), (1, .ref x1), (2, .ref x2), (3, .int x3), (4, .int x4), (5, .int x5)] → sX7_writeHands_25 F k_2 k_10 f h x0 x1 x2 x3 x4 x5 = some o → W p l e (rm 1 22) s m args below meth c H locs 0 0 (MQ below (QV X h0 o) args s 0 0 (aA (eB X))) (F0 m 25 ls []) := by
  intro f
  induction f with
  | zero =>
    intro h x0 x1 x2 x3 x4 x5 H locs k_x0 k_x1 k_x2 hkm hW hZ ls hl hE
    rw [sX7_writeHands_25] at hE
    cases hE
  | succ f ih =>
    intro h x0 x1 x2 x3 x4 x5 H locs k_x0 k_x1 k_x2 hkm hW hZ ls hl hE
    rw [sX7_writeHands_25] at hE
    have hk_25 : ∀ (h : Hp) (x0 : Nat) (x1 : Nat) (x2 : Nat) (x3 : Int32) (x4 : Int32) (x5 : Int32) (H : Heap) (locs : List Loc), hK h x0 = 7 → hK h x1 = 3 → hK h x2 = 9 → Km h0 h → Wx X h H → va_S (aA (eB X)) s.heap H locs → ∀ (ls : Array Slot), lv_has ls 6 [(0, .ref x0), (1, .ref x1), (2, .ref x2), (3, .int x3), (4, .int x4), (5, .int x5)] → sX7_writeHands_25 F k_2 k_10 f h x0 x1 x2 x3 x4 x5 = some o → W p l e (rm 1 22) s m args below meth c H locs 0 0 (MQ below (QV X h0 o) args s 0 0 (aA (eB X))) (F0 m 25 ls []) := fun h x0 x1 x2 x3 x4 x5 H locs k_x0 k_x1 k_x2 a b c ls hl hE => ih k_x0 k_x1 k_x2 a b c ls hl hE
    refine lv_iload C.1 C.2.1 dX7_writeHands_25 (lv_at hl 5 rfl) ?_
    refine lv_aload_n C.1 C.2.1 dX7_writeHands_27 rfl (lv_at hl 1 rfl) ?_
    refine lv_iload_n C.1 C.2.1 dX7_writeHands_28 rfl (lv_at hl 3 rfl) ?_
    refine lv_iload C.1 C.2.1 dX7_writeHands_29 (lv_at hl 4 rfl) ?_
    obtain ⟨o_1, eo_1, hE⟩ := cl_e hE
    refine x_kI (o := o_1) (z_runV (As := [.int x3, .int x4]) (rest := [.int x5]) C (ct_X3_inHand l X k_x1 eo_1) cw_X7_93 hW hZ k_x1 (by decide) rfl rfl rfl hl.1 (Nat.le_of_ble_eq_true rfl) rfl dX7_writeHands_31 ⟨Nat.le_of_ble_eq_true rfl, Nat.le_of_ble_eq_true rfl⟩ ⟨Nat.le_refl _, Nat.le_refl _⟩) hZ (fun _ _ hW km hZ => ?_)
    replace hkm := hkm.tr km
    replace k_x0 := km.at k_x0 (by decide)
    replace k_x1 := km.at k_x1 (by decide)
    replace k_x2 := km.at k_x2 (by decide)
    refine lv_icmp_ge (tgt := 60) C.1 C.2.1 dX7_writeHands_34 (by decide) (fun c_2 => ?_) (fun c_2 => ?_)
    · have hE := br_p hE c_2
      obtain ⟨v_3, ev_3, hE⟩ := nm_e2 hE
      refine lv_iinc (v := v_3) (lv' := [(4, .int v_3), (0, .ref x0), (1, .ref x1), (2, .ref x2), (3, .int x3), (5, .int x5)]) C.1 C.2.1 dX7_writeHands_60 hl (k := 4) rfl (by rw [ev_3]; rfl) (by decide) rfl (fun ls hl => ?_)
      refine lv_goto (tgt := 10) C.1 C.2.1 dX7_writeHands_63 (by decide) ?_
      exact hk_10 _ _ _ _ _ _ _ _ k_x0 k_x1 k_x2 hkm hW hZ _ (lv_sub hl [1, 2, 3, 4, 0] rfl) hE
    · have hE := br_n hE c_2
      refine lv_aload_n C.1 C.2.1 dX7_writeHands_37 rfl (lv_at hl 2 rfl) ?_
      refine lv_aload_n C.1 C.2.1 dX7_writeHands_38 rfl (lv_at hl 0 rfl) ?_
      obtain ⟨r_4, er_4, hE⟩ := cl_e hE
      refine gf_X7_9 C hW k_x0 er_4 dX7_writeHands_39 (fun k_r_4 => ?_)
      refine lv_iconst (v := (2 : Int32)) C.1 C.2.1 dX7_writeHands_42 (by decide) ?_
      refine lv_iload C.1 C.2.1 dX7_writeHands_43 (lv_at hl 4 rfl) ?_
      refine lv_imul C.1 C.2.1 dX7_writeHands_45 ?_
      refine lv_iload_n C.1 C.2.1 dX7_writeHands_46 rfl (lv_at hl 3 rfl) ?_
      refine lv_iadd C.1 C.2.1 dX7_writeHands_47 ?_
      obtain ⟨o_5, eo_5, hE⟩ := cl_e hE
      refine x_kI (o := o_5) (z_runV (As := [.int (((2 : Int32) * x4) + x3)]) (rest := [.ref x2]) C (ct_X1_letterOf l X k_r_4 eo_5) cw_X7_142 hW hZ k_r_4 (by decide) rfl rfl rfl hl.1 (Nat.le_of_ble_eq_true rfl) rfl dX7_writeHands_48 ⟨Nat.le_of_ble_eq_true rfl, Nat.le_of_ble_eq_true rfl⟩ ⟨Nat.le_refl _, Nat.le_refl _⟩) hZ (fun _ _ hW km hZ => ?_)
      replace hkm := hkm.tr km
      replace k_x0 := km.at k_x0 (by decide)
      replace k_x1 := km.at k_x1 (by decide)
      replace k_x2 := km.at k_x2 (by decide)
      obtain ⟨o_6, eo_6, hE⟩ := cl_e hE
      refine x_kV (o := o_6) (z_runV (As := [.int o_5.1]) (rest := []) C (ct_X9_append l X k_x2 eo_6) cw_X7_118 hW hZ k_x2 (by decide) rfl rfl rfl hl.1 (Nat.le_of_ble_eq_true rfl) rfl dX7_writeHands_51 ⟨Nat.le_of_ble_eq_true rfl, Nat.le_of_ble_eq_true rfl⟩ ⟨Nat.le_refl _, Nat.le_refl _⟩) hZ (fun _ _ hW km hZ => ?_)
      replace hkm := hkm.tr km
      replace k_x0 := km.at k_x0 (by decide)
      replace k_x1 := km.at k_x1 (by decide)
      replace k_x2 := km.at k_x2 (by decide)
      obtain ⟨v_7, ev_7, hE⟩ := nm_e2 hE
      refine lv_iinc (v := v_7) (lv' := [(5, .int v_7), (0, .ref x0), (1, .ref x1), (2, .ref x2), (3, .int x3), (4, .int x4)]) C.1 C.2.1 dX7_writeHands_54 hl (k := 5) rfl (by rw [ev_7]; rfl) (by decide) rfl (fun ls hl => ?_)
      refine lv_goto (tgt := 25) C.1 C.2.1 dX7_writeHands_57 (by decide) ?_
      exact hk_25 _ _ _ _ _ _ _ _ _ k_x0 k_x1 k_x2 hkm hW hZ _ (lv_sub hl [1, 2, 3, 4, 5, 0] rfl) hE
set_option maxRecDepth 20000 in
theorem bX7_writeHands_10 {p : Program} {l : Launch} {e : Env} {s : State} {m : MethodId} {args : Array Value} {below : List Frame} {meth : Method} {c : Code} {X : Ec} {h0 : Hp} {o : Hp} {k_2 : Hp → Nat → Nat → Nat → Int32 → Option (Hp)} {F : Nat} (C : Cx X p s m args meth c RX7 cX7_writeHands 6 none "writeHands") (hk_2 : ∀ (h : Hp) (x0 : Nat) (x1 : Nat) (x2 : Nat) (x3 : Int32) (H : Heap) (locs : List Loc), hK h x0 = 7 → hK h x1 = 3 → hK h x2 = 9 → Km h0 h → Wx X h H → va_S (aA (eB X)) s.heap H locs → ∀ (ls : Array Slot), lv_has ls 6 [(0, .ref x0), (1, .ref x1), (2, .ref x2), (3, .int x3)] → k_2 h x0 x1 x2 x3 = some o → W p l e (rm 1 22) s m args below meth c H locs 0 0 (MQ below (QV X h0 o) args s 0 0 (aA (eB X))) (F0 m 2 ls [])) : ∀ (f : Nat) {h : Hp} {x0 : Nat} {x1 : Nat} {x2 : Nat} {x3 : Int32} {x4 : Int32} {H : Heap} {locs : List Loc} (k_x0 : hK h x0 = 7) (k_x1 : hK h x1 = 3) (k_x2 : hK h x2 = 9), Km h0 h → Wx X h H → va_S (aA (eB X)) s.heap H locs → ∀ (ls : Array Slot), lv_has ls 6 [(0, .ref x0), (1, .ref x1), (2, .ref x2), (3, .int x3), (4, .int x4)] → sX7_writeHands_10 F k_2 f h x0 x1 x2 x3 x4 = some o → W p l e (rm 1 22) s m args below meth c H locs 0 0 (MQ below (QV X h0 o) args s 0 0 (aA (eB X))) (F0 m 10 ls []) := by
  intro f
  induction f with
  | zero =>
    intro h x0 x1 x2 x3 x4 H locs k_x0 k_x1 k_x2 hkm hW hZ ls hl hE
    rw [sX7_writeHands_10] at hE
    cases hE
  | succ f ih =>
    intro h x0 x1 x2 x3 x4 H locs k_x0 k_x1 k_x2 hkm hW hZ ls hl hE
    rw [sX7_writeHands_10] at hE
    have hk_10 : ∀ (h : Hp) (x0 : Nat) (x1 : Nat) (x2 : Nat) (x3 : Int32) (x4 : Int32) (H : Heap) (locs : List Loc), hK h x0 = 7 → hK h x1 = 3 → hK h x2 = 9 → Km h0 h → Wx X h H → va_S (aA (eB X)) s.heap H locs → ∀ (ls : Array Slot), lv_has ls 6 [(0, .ref x0), (1, .ref x1), (2, .ref x2), (3, .int x3), (4, .int x4)] → sX7_writeHands_10 F k_2 f h x0 x1 x2 x3 x4 = some o → W p l e (rm 1 22) s m args below meth c H locs 0 0 (MQ below (QV X h0 o) args s 0 0 (aA (eB X))) (F0 m 10 ls []) := fun h x0 x1 x2 x3 x4 H locs k_x0 k_x1 k_x2 a b c ls hl hE => ih k_x0 k_x1 k_x2 a b c ls hl hE
    refine lv_iload C.1 C.2.1 dX7_writeHands_10 (lv_at hl 4 rfl) ?_
    refine lv_aload_n C.1 C.2.1 dX7_writeHands_12 rfl (lv_at hl 0 rfl) ?_
    obtain ⟨r_1, er_1, hE⟩ := cl_e hE
    refine gf_X7_9 C hW k_x0 er_1 dX7_writeHands_13 (fun k_r_1 => ?_)
    refine gf_X7_161 C hW k_r_1 dX7_writeHands_16 ?_
    refine lv_icmp_ge (tgt := 66) C.1 C.2.1 dX7_writeHands_19 (by decide) (fun c_2 => ?_) (fun c_2 => ?_)
    · have hE := br_p hE c_2
      obtain ⟨v_3, ev_3, hE⟩ := nm_e2 hE
      refine lv_iinc (v := v_3) (lv' := [(3, .int v_3), (0, .ref x0), (1, .ref x1), (2, .ref x2), (4, .int x4)]) C.1 C.2.1 dX7_writeHands_66 hl (k := 3) rfl (by rw [ev_3]; rfl) (by decide) rfl (fun ls hl => ?_)
      refine lv_goto (tgt := 2) C.1 C.2.1 dX7_writeHands_69 (by decide) ?_
      exact hk_2 _ _ _ _ _ _ _ k_x0 k_x1 k_x2 hkm hW hZ _ (lv_sub hl [1, 2, 3, 0] rfl) hE
    · have hE := br_n hE c_2
      refine lv_iconst (v := (0 : Int32)) C.1 C.2.1 dX7_writeHands_22 (by decide) ?_
      refine lv_istore (lv' := [(5, .int (0 : Int32)), (0, .ref x0), (1, .ref x1), (2, .ref x2), (3, .int x3), (4, .int x4)]) C.1 C.2.1 dX7_writeHands_23 hl (by decide) rfl (fun ls hl => ?_)
      exact bX7_writeHands_25 C hk_2 hk_10 F k_x0 k_x1 k_x2 hkm hW hZ _ (lv_sub hl [1, 2, 3, 4, 5, 0] rfl) hE
set_option maxRecDepth 20000 in
theorem bX7_writeHands_2 {p : Program} {l : Launch} {e : Env} {s : State} {m : MethodId} {args : Array Value} {below : List Frame} {meth : Method} {c : Code} {X : Ec} {h0 : Hp} {o : Hp} {F : Nat} (C : Cx X p s m args meth c RX7 cX7_writeHands 6 none "writeHands") : ∀ (f : Nat) {h : Hp} {x0 : Nat} {x1 : Nat} {x2 : Nat} {x3 : Int32} {H : Heap} {locs : List Loc} (k_x0 : hK h x0 = 7) (k_x1 : hK h x1 = 3) (k_x2 : hK h x2 = 9), Km h0 h → Wx X h H → va_S (aA (eB X)) s.heap H locs → ∀ (ls : Array Slot), lv_has ls 6 [(0, .ref x0), (1, .ref x1), (2, .ref x2), (3, .int x3)] → sX7_writeHands_2 F f h x0 x1 x2 x3 = some o → W p l e (rm 1 22) s m args below meth c H locs 0 0 (MQ below (QV X h0 o) args s 0 0 (aA (eB X))) (F0 m 2 ls []) := by
  intro f
  induction f with
  | zero =>
    intro h x0 x1 x2 x3 H locs k_x0 k_x1 k_x2 hkm hW hZ ls hl hE
    rw [sX7_writeHands_2] at hE
    cases hE
  | succ f ih =>
    intro h x0 x1 x2 x3 H locs k_x0 k_x1 k_x2 hkm hW hZ ls hl hE
    rw [sX7_writeHands_2] at hE
    have hk_2 : ∀ (h : Hp) (x0 : Nat) (x1 : Nat) (x2 : Nat) (x3 : Int32) (H : Heap) (locs : List Loc), hK h x0 = 7 → hK h x1 = 3 → hK h x2 = 9 → Km h0 h → Wx X h H → va_S (aA (eB X)) s.heap H locs → ∀ (ls : Array Slot), lv_has ls 6 [(0, .ref x0), (1, .ref x1), (2, .ref x2), (3, .int x3)] → sX7_writeHands_2 F f h x0 x1 x2 x3 = some o → W p l e (rm 1 22) s m args below meth c H locs 0 0 (MQ below (QV X h0 o) args s 0 0 (aA (eB X))) (F0 m 2 ls []) := fun h x0 x1 x2 x3 H locs k_x0 k_x1 k_x2 a b c ls hl hE => ih k_x0 k_x1 k_x2 a b c ls hl hE
    refine lv_iload_n C.1 C.2.1 dX7_writeHands_2 rfl (lv_at hl 3 rfl) ?_
    refine lv_iconst (v := (2 : Int32)) C.1 C.2.1 dX7_writeHands_3 (by decide) ?_
    refine lv_icmp_ge (tgt := 72) C.1 C.2.1 dX7_writeHands_4 (by decide) (fun c_1 => ?_) (fun c_1 => ?_)
    · have hE := br_p hE c_1
      refine lv_aload_n C.1 C.2.1 dX7_writeHands_72 rfl (lv_at hl 1 rfl) ?_
      obtain ⟨r_2, er_2, hE⟩ := cl_e hE
      refine gf_X7_164 C hW k_x1 er_2 dX7_writeHands_73 (fun k_r_2 => ?_)
      refine lv_iconst (v := (0 : Int32)) C.1 C.2.1 dX7_writeHands_76 (by decide) ?_
      obtain ⟨g_3, hE⟩ := gd_e hE
      refine y_lald C hW k_r_2 g_3 dX7_writeHands_77 ?_
      refine lv_lconst (v := (0 : Int64)) C.1 C.2.1 dX7_writeHands_78 (by decide) ?_
      refine W.lcmp C.1 C.2.1 dX7_writeHands_79 ?_
      refine lv_if_ne (tgt := 100) C.1 C.2.1 dX7_writeHands_80 (by decide) (fun c_4 => ?_) (fun c_4 => ?_)
      · have hE := br_n hE c_4
        exact bX7_writeHands_100 C hkm hW hZ _ (lv_sub hl [] rfl) hE
      · have hE := br_p hE c_4
        refine lv_aload_n C.1 C.2.1 dX7_writeHands_83 rfl (lv_at hl 1 rfl) ?_
        obtain ⟨r_5, er_5, hE⟩ := cl_e hE
        refine gf_X7_164 C hW k_x1 er_5 dX7_writeHands_84 (fun k_r_5 => ?_)
        refine lv_iconst (v := (1 : Int32)) C.1 C.2.1 dX7_writeHands_87 (by decide) ?_
        obtain ⟨g_6, hE⟩ := gd_e hE
        refine y_lald C hW k_r_5 g_6 dX7_writeHands_88 ?_
        refine lv_lconst (v := (0 : Int64)) C.1 C.2.1 dX7_writeHands_89 (by decide) ?_
        refine W.lcmp C.1 C.2.1 dX7_writeHands_90 ?_
        refine lv_if_ne (tgt := 100) C.1 C.2.1 dX7_writeHands_91 (by decide) (fun c_7 => ?_) (fun c_7 => ?_)
        · have hE := br_n hE c_7
          exact bX7_writeHands_100 C hkm hW hZ _ (lv_sub hl [] rfl) hE
        · have hE := br_p hE c_7
          refine lv_aload_n C.1 C.2.1 dX7_writeHands_94 rfl (lv_at hl 2 rfl) ?_
          refine lv_bipush (v := (45 : Int32)) C.1 C.2.1 dX7_writeHands_95 (by decide) ?_
          obtain ⟨o_8, eo_8, hE⟩ := cl_e hE
          refine x_kV (o := o_8) (z_runV (As := [.int (45 : Int32)]) (rest := []) C (ct_X9_append l X k_x2 eo_8) cw_X7_118 hW hZ k_x2 (by decide) rfl rfl rfl hl.1 (Nat.le_of_ble_eq_true rfl) rfl dX7_writeHands_97 ⟨Nat.le_of_ble_eq_true rfl, Nat.le_of_ble_eq_true rfl⟩ ⟨Nat.le_refl _, Nat.le_refl _⟩) hZ (fun _ _ hW km hZ => ?_)
          replace hkm := hkm.tr km
          replace k_x0 := km.at k_x0 (by decide)
          replace k_x1 := km.at k_x1 (by decide)
          replace k_x2 := km.at k_x2 (by decide)
          exact bX7_writeHands_100 C hkm hW hZ _ (lv_sub hl [] rfl) hE
    · have hE := br_n hE c_1
      refine lv_iconst (v := (0 : Int32)) C.1 C.2.1 dX7_writeHands_7 (by decide) ?_
      refine lv_istore (lv' := [(4, .int (0 : Int32)), (0, .ref x0), (1, .ref x1), (2, .ref x2), (3, .int x3)]) C.1 C.2.1 dX7_writeHands_8 hl (by decide) rfl (fun ls hl => ?_)
      exact bX7_writeHands_10 C hk_2 F k_x0 k_x1 k_x2 hkm hW hZ _ (lv_sub hl [1, 2, 3, 4, 0] rfl) hE
set_option maxRecDepth 20000 in
theorem ct_X7_writeHands (l : Launch) (X : Ec) (F : Nat) {h : Hp} {x0 : Nat} {x1 : Nat} {x2 : Nat} {o : Hp} (k_x0 : hK h x0 = 7) (k_x1 : hK h x1 = 3) (k_x2 : hK h x2 = 9) (hE : sX7_writeHands F h x0 x1 x2 = some o) : MetV l yX7_writeHands cX7_writeHands 6 none 1 22 X [.ref x0, .ref x1, .ref x2] h o := by
  refine x_met (by decide) (Nat.le_of_ble_eq_true rfl) ?_
  intro p e s m below meth c ls C hl hW hZ
  have hl : lv_has ls 6 [(0, .ref x0), (1, .ref x1), (2, .ref x2)] := hl
  have hkm : Km h h := Km.rf h
  refine lv_iconst (v := (0 : Int32)) C.1 C.2.1 dX7_writeHands_0 (by decide) ?_
  refine lv_istore_n (lv' := [(3, .int (0 : Int32)), (0, .ref x0), (1, .ref x1), (2, .ref x2)]) C.1 C.2.1 dX7_writeHands_1 rfl hl (by decide) rfl (fun ls hl => ?_)
  exact bX7_writeHands_2 C F k_x0 k_x1 k_x2 hkm hW hZ _ (lv_sub hl [1, 2, 3, 0] rfl) hE
theorem dX7_writeClock_0 : decode cX7_writeClock 0 = .ok (.aload_n 0, 1) := by decide +kernel
theorem dX7_writeClock_1 : decode cX7_writeClock 1 = .ok (.getfield 109, 3) := by decide +kernel
theorem dX7_writeClock_4 : decode cX7_writeClock 4 = .ok (.bipush 100, 2) := by decide +kernel
theorem dX7_writeClock_6 : decode cX7_writeClock 6 = .ok (.if_icmp .lt 17, 3) := by decide +kernel
theorem dX7_writeClock_9 : decode cX7_writeClock 9 = .ok (.aload_n 1, 1) := by decide +kernel
theorem dX7_writeClock_10 : decode cX7_writeClock 10 = .ok (.bipush 48, 2) := by decide +kernel
theorem dX7_writeClock_12 : decode cX7_writeClock 12 = .ok (.aload_n 0, 1) := by decide +kernel
theorem dX7_writeClock_13 : decode cX7_writeClock 13 = .ok (.getfield 109, 3) := by decide +kernel
theorem dX7_writeClock_16 : decode cX7_writeClock 16 = .ok (.bipush 100, 2) := by decide +kernel
theorem dX7_writeClock_18 : decode cX7_writeClock 18 = .ok (.idiv, 1) := by decide +kernel
theorem dX7_writeClock_19 : decode cX7_writeClock 19 = .ok (.iadd, 1) := by decide +kernel
theorem dX7_writeClock_20 : decode cX7_writeClock 20 = .ok (.invokevirtual 118, 3) := by decide +kernel
theorem dX7_writeClock_23 : decode cX7_writeClock 23 = .ok (.aload_n 0, 1) := by decide +kernel
theorem dX7_writeClock_24 : decode cX7_writeClock 24 = .ok (.getfield 109, 3) := by decide +kernel
theorem dX7_writeClock_27 : decode cX7_writeClock 27 = .ok (.bipush 10, 2) := by decide +kernel
theorem dX7_writeClock_29 : decode cX7_writeClock 29 = .ok (.if_icmp .lt 20, 3) := by decide +kernel
theorem dX7_writeClock_32 : decode cX7_writeClock 32 = .ok (.aload_n 1, 1) := by decide +kernel
theorem dX7_writeClock_33 : decode cX7_writeClock 33 = .ok (.bipush 48, 2) := by decide +kernel
theorem dX7_writeClock_35 : decode cX7_writeClock 35 = .ok (.aload_n 0, 1) := by decide +kernel
theorem dX7_writeClock_36 : decode cX7_writeClock 36 = .ok (.getfield 109, 3) := by decide +kernel
theorem dX7_writeClock_39 : decode cX7_writeClock 39 = .ok (.bipush 10, 2) := by decide +kernel
theorem dX7_writeClock_41 : decode cX7_writeClock 41 = .ok (.idiv, 1) := by decide +kernel
theorem dX7_writeClock_42 : decode cX7_writeClock 42 = .ok (.bipush 10, 2) := by decide +kernel
theorem dX7_writeClock_44 : decode cX7_writeClock 44 = .ok (.irem, 1) := by decide +kernel
theorem dX7_writeClock_45 : decode cX7_writeClock 45 = .ok (.iadd, 1) := by decide +kernel
theorem dX7_writeClock_46 : decode cX7_writeClock 46 = .ok (.invokevirtual 118, 3) := by decide +kernel
theorem dX7_writeClock_49 : decode cX7_writeClock 49 = .ok (.aload_n 1, 1) := by decide +kernel
theorem dX7_writeClock_50 : decode cX7_writeClock 50 = .ok (.bipush 48, 2) := by decide +kernel
theorem dX7_writeClock_52 : decode cX7_writeClock 52 = .ok (.aload_n 0, 1) := by decide +kernel
theorem dX7_writeClock_53 : decode cX7_writeClock 53 = .ok (.getfield 109, 3) := by decide +kernel
theorem dX7_writeClock_56 : decode cX7_writeClock 56 = .ok (.bipush 10, 2) := by decide +kernel
theorem dX7_writeClock_58 : decode cX7_writeClock 58 = .ok (.irem, 1) := by decide +kernel
theorem dX7_writeClock_59 : decode cX7_writeClock 59 = .ok (.iadd, 1) := by decide +kernel
theorem dX7_writeClock_60 : decode cX7_writeClock 60 = .ok (.invokevirtual 118, 3) := by decide +kernel
theorem dX7_writeClock_63 : decode cX7_writeClock 63 = .ok (.return_, 1) := by decide +kernel
set_option maxRecDepth 20000 in
theorem moX7_writeClock_49 {o : Hp} {h : Hp} {x0 : Nat} {x1 : Nat} (hE : sX7_writeClock_49 h x0 x1 = some o) : Le h o := by
  obtain ⟨o_1, eo_1, hE⟩ := cl_e hE
  refine (moX9_append eo_1).tr ?_
  exact le_some1 hE
set_option maxRecDepth 20000 in
theorem moX7_writeClock_23 {o : Hp} {h : Hp} {x0 : Nat} {x1 : Nat} (hE : sX7_writeClock_23 h x0 x1 = some o) : Le h o := by
  rcases br_e hE with ⟨_, hE⟩ | ⟨_, hE⟩
  · exact moX7_writeClock_49 hE
  · obtain ⟨o_2, eo_2, hE⟩ := cl_e hE
    refine (moX9_append eo_2).tr ?_
    exact moX7_writeClock_49 hE
set_option maxRecDepth 20000 in
theorem moX7_writeClock {o : Hp} {h : Hp} {x0 : Nat} {x1 : Nat} (hE : sX7_writeClock h x0 x1 = some o) : Le h o := by
  rcases br_e hE with ⟨_, hE⟩ | ⟨_, hE⟩
  · exact moX7_writeClock_23 hE
  · obtain ⟨o_2, eo_2, hE⟩ := cl_e hE
    refine (moX9_append eo_2).tr ?_
    exact moX7_writeClock_23 hE
set_option maxRecDepth 20000 in
theorem bX7_writeClock_49 {p : Program} {l : Launch} {e : Env} {s : State} {m : MethodId} {args : Array Value} {below : List Frame} {meth : Method} {c : Code} {X : Ec} {h0 : Hp} {o : Hp} (C : Cx X p s m args meth c RX7 cX7_writeClock 2 none "writeClock") {h : Hp} {x0 : Nat} {x1 : Nat} {H : Heap} {locs : List Loc} (k_x0 : hK h x0 = 3) (k_x1 : hK h x1 = 9) (hkm : Km h0 h) (hW : Wx X h H) (hZ : va_S (aA (eB X)) s.heap H locs) (ls : Array Slot) (hl : lv_has ls 2 [(0, .ref x0), (1, .ref x1)]) (hE : sX7_writeClock_49 h x0 x1 = some o) : W p l e (rm 1 21) s m args below meth c H locs 0 0 (MQ below (QV X h0 o) args s 0 0 (aA (eB X))) (F0 m 49 ls []) := by
  refine lv_aload_n C.1 C.2.1 dX7_writeClock_49 rfl (lv_at hl 1 rfl) ?_
  refine lv_bipush (v := (48 : Int32)) C.1 C.2.1 dX7_writeClock_50 (by decide) ?_
  refine lv_aload_n C.1 C.2.1 dX7_writeClock_52 rfl (lv_at hl 0 rfl) ?_
  refine gf_X7_109 C hW k_x0 dX7_writeClock_53 ?_
  refine lv_bipush (v := (10 : Int32)) C.1 C.2.1 dX7_writeClock_56 (by decide) ?_
  refine lv_irem C.1 C.2.1 dX7_writeClock_58 (by decide) ?_
  refine lv_iadd C.1 C.2.1 dX7_writeClock_59 ?_
  obtain ⟨o_1, eo_1, hE⟩ := cl_e hE
  refine x_kV (o := o_1) (z_runV (As := [.int ((48 : Int32) + ((hI h x0 6) - (hI h x0 6) / (10 : Int32) * (10 : Int32)))]) (rest := []) C (ct_X9_append l X k_x1 eo_1) cw_X7_118 hW hZ k_x1 (by decide) rfl rfl rfl hl.1 (Nat.le_of_ble_eq_true rfl) rfl dX7_writeClock_60 ⟨Nat.le_of_ble_eq_true rfl, Nat.le_of_ble_eq_true rfl⟩ ⟨Nat.le_refl _, Nat.le_refl _⟩) hZ (fun _ _ hW km hZ => ?_)
  replace hkm := hkm.tr km
  replace k_x0 := km.at k_x0 (by decide)
  replace k_x1 := km.at k_x1 (by decide)
  exact x_vret C rfl hW hZ hkm hE dX7_writeClock_63
set_option maxRecDepth 20000 in
theorem bX7_writeClock_23 {p : Program} {l : Launch} {e : Env} {s : State} {m : MethodId} {args : Array Value} {below : List Frame} {meth : Method} {c : Code} {X : Ec} {h0 : Hp} {o : Hp} (C : Cx X p s m args meth c RX7 cX7_writeClock 2 none "writeClock") {h : Hp} {x0 : Nat} {x1 : Nat} {H : Heap} {locs : List Loc} (k_x0 : hK h x0 = 3) (k_x1 : hK h x1 = 9) (hkm : Km h0 h) (hW : Wx X h H) (hZ : va_S (aA (eB X)) s.heap H locs) (ls : Array Slot) (hl : lv_has ls 2 [(0, .ref x0), (1, .ref x1)]) (hE : sX7_writeClock_23 h x0 x1 = some o) : W p l e (rm 1 21) s m args below meth c H locs 0 0 (MQ below (QV X h0 o) args s 0 0 (aA (eB X))) (F0 m 23 ls []) := by
  refine lv_aload_n C.1 C.2.1 dX7_writeClock_23 rfl (lv_at hl 0 rfl) ?_
  refine gf_X7_109 C hW k_x0 dX7_writeClock_24 ?_
  refine lv_bipush (v := (10 : Int32)) C.1 C.2.1 dX7_writeClock_27 (by decide) ?_
  refine lv_icmp_lt (tgt := 49) C.1 C.2.1 dX7_writeClock_29 (by decide) (fun c_1 => ?_) (fun c_1 => ?_)
  · have hE := br_p hE c_1
    exact bX7_writeClock_49 C k_x0 k_x1 hkm hW hZ _ (lv_sub hl [0, 1] rfl) hE
  · have hE := br_n hE c_1
    refine lv_aload_n C.1 C.2.1 dX7_writeClock_32 rfl (lv_at hl 1 rfl) ?_
    refine lv_bipush (v := (48 : Int32)) C.1 C.2.1 dX7_writeClock_33 (by decide) ?_
    refine lv_aload_n C.1 C.2.1 dX7_writeClock_35 rfl (lv_at hl 0 rfl) ?_
    refine gf_X7_109 C hW k_x0 dX7_writeClock_36 ?_
    refine lv_bipush (v := (10 : Int32)) C.1 C.2.1 dX7_writeClock_39 (by decide) ?_
    refine lv_idiv C.1 C.2.1 dX7_writeClock_41 (by decide) ?_
    refine lv_bipush (v := (10 : Int32)) C.1 C.2.1 dX7_writeClock_42 (by decide) ?_
    refine lv_irem C.1 C.2.1 dX7_writeClock_44 (by decide) ?_
    refine lv_iadd C.1 C.2.1 dX7_writeClock_45 ?_
    obtain ⟨o_2, eo_2, hE⟩ := cl_e hE
    refine x_kV (o := o_2) (z_runV (As := [.int ((48 : Int32) + (((hI h x0 6) / (10 : Int32)) - ((hI h x0 6) / (10 : Int32)) / (10 : Int32) * (10 : Int32)))]) (rest := []) C (ct_X9_append l X k_x1 eo_2) cw_X7_118 hW hZ k_x1 (by decide) rfl rfl rfl hl.1 (Nat.le_of_ble_eq_true rfl) rfl dX7_writeClock_46 ⟨Nat.le_of_ble_eq_true rfl, Nat.le_of_ble_eq_true rfl⟩ ⟨Nat.le_refl _, Nat.le_refl _⟩) hZ (fun _ _ hW km hZ => ?_)
    replace hkm := hkm.tr km
    replace k_x0 := km.at k_x0 (by decide)
    replace k_x1 := km.at k_x1 (by decide)
    exact bX7_writeClock_49 C k_x0 k_x1 hkm hW hZ _ (lv_sub hl [0, 1] rfl) hE
set_option maxRecDepth 20000 in
theorem ct_X7_writeClock (l : Launch) (X : Ec) {h : Hp} {x0 : Nat} {x1 : Nat} {o : Hp} (k_x0 : hK h x0 = 3) (k_x1 : hK h x1 = 9) (hE : sX7_writeClock h x0 x1 = some o) : MetV l yX7_writeClock cX7_writeClock 2 none 1 21 X [.ref x0, .ref x1] h o := by
  refine x_met (by decide) (Nat.le_of_ble_eq_true rfl) ?_
  intro p e s m below meth c ls C hl hW hZ
  have hl : lv_has ls 2 [(0, .ref x0), (1, .ref x1)] := hl
  have hkm : Km h h := Km.rf h
  refine lv_aload_n C.1 C.2.1 dX7_writeClock_0 rfl (lv_at hl 0 rfl) ?_
  refine gf_X7_109 C hW k_x0 dX7_writeClock_1 ?_
  refine lv_bipush (v := (100 : Int32)) C.1 C.2.1 dX7_writeClock_4 (by decide) ?_
  refine lv_icmp_lt (tgt := 23) C.1 C.2.1 dX7_writeClock_6 (by decide) (fun c_1 => ?_) (fun c_1 => ?_)
  · have hE := br_p hE c_1
    exact bX7_writeClock_23 C k_x0 k_x1 hkm hW hZ _ (lv_sub hl [0, 1] rfl) hE
  · have hE := br_n hE c_1
    refine lv_aload_n C.1 C.2.1 dX7_writeClock_9 rfl (lv_at hl 1 rfl) ?_
    refine lv_bipush (v := (48 : Int32)) C.1 C.2.1 dX7_writeClock_10 (by decide) ?_
    refine lv_aload_n C.1 C.2.1 dX7_writeClock_12 rfl (lv_at hl 0 rfl) ?_
    refine gf_X7_109 C hW k_x0 dX7_writeClock_13 ?_
    refine lv_bipush (v := (100 : Int32)) C.1 C.2.1 dX7_writeClock_16 (by decide) ?_
    refine lv_idiv C.1 C.2.1 dX7_writeClock_18 (by decide) ?_
    refine lv_iadd C.1 C.2.1 dX7_writeClock_19 ?_
    obtain ⟨o_2, eo_2, hE⟩ := cl_e hE
    refine x_kV (o := o_2) (z_runV (As := [.int ((48 : Int32) + ((hI h x0 6) / (100 : Int32)))]) (rest := []) C (ct_X9_append l X k_x1 eo_2) cw_X7_118 hW hZ k_x1 (by decide) rfl rfl rfl hl.1 (Nat.le_of_ble_eq_true rfl) rfl dX7_writeClock_20 ⟨Nat.le_of_ble_eq_true rfl, Nat.le_of_ble_eq_true rfl⟩ ⟨Nat.le_refl _, Nat.le_refl _⟩) hZ (fun _ _ hW km hZ => ?_)
    replace hkm := hkm.tr km
    replace k_x0 := km.at k_x0 (by decide)
    replace k_x1 := km.at k_x1 (by decide)
    exact bX7_writeClock_23 C k_x0 k_x1 hkm hW hZ _ (lv_sub hl [0, 1] rfl) hE
set_option maxRecDepth 100000 in
theorem ms_47 : Cond.selects RX7 yX7_writeHands yX7_writeHands ∈ W0 := w0_in (List.mem_append_left _ (List.mem_of_getElem? (i := 47) rfl)) rfl
set_option maxRecDepth 100000 in
theorem ms_46 : Cond.selects RX7 yX7_writePass yX7_writePass ∈ W0 := w0_in (List.mem_append_left _ (List.mem_of_getElem? (i := 46) rfl)) rfl
set_option maxRecDepth 100000 in
theorem ms_45 : Cond.selects RX7 yX7_writeRights yX7_writeRights ∈ W0 := w0_in (List.mem_append_left _ (List.mem_of_getElem? (i := 45) rfl)) rfl
set_option maxRecDepth 100000 in
theorem m_1092 : Cond.constantLong RX7 112 (-1 : Int64) ∈ W0 := w0_in (List.mem_append_right _ (List.mem_of_getElem? (i := 1092) rfl)) rfl
set_option maxRecDepth 100000 in
theorem m_1093 : Cond.methodLink RX7 114 yX7_writeRanks ∈ W0 := w0_in (List.mem_append_right _ (List.mem_of_getElem? (i := 1093) rfl)) rfl
set_option maxRecDepth 100000 in
theorem m_1094 : Cond.instanceMethod yX7_writeRanks ∈ W0 := w0_in (List.mem_append_right _ (List.mem_of_getElem? (i := 1094) rfl)) rfl
set_option maxRecDepth 100000 in
theorem m_1095 : Cond.selects RX7 yX7_writeRanks yX7_writeRanks ∈ W0 := w0_in (List.mem_append_right _ (List.mem_of_getElem? (i := 1095) rfl)) rfl
set_option maxRecDepth 100000 in
theorem m_1096 : Cond.code yX7_writeRanks cX7_writeRanks 10 none ∈ W0 := w0_in (List.mem_append_right _ (List.mem_of_getElem? (i := 1096) rfl)) rfl
set_option maxRecDepth 100000 in
theorem m_1105 : Cond.methodLink RX7 121 yX7_writeRights ∈ W0 := w0_in (List.mem_append_right _ (List.mem_of_getElem? (i := 1105) rfl)) rfl
set_option maxRecDepth 100000 in
theorem m_1107 : Cond.instanceMethod yX7_writeRights ∈ W0 := w0_in (List.mem_append_right _ (List.mem_of_getElem? (i := 1107) rfl)) rfl
set_option maxRecDepth 100000 in
theorem m_1108 : Cond.code yX7_writeRights cX7_writeRights 4 none ∈ W0 := w0_in (List.mem_append_right _ (List.mem_of_getElem? (i := 1108) rfl)) rfl
set_option maxRecDepth 100000 in
theorem m_1112 : Cond.methodLink RX7 125 yX7_writePass ∈ W0 := w0_in (List.mem_append_right _ (List.mem_of_getElem? (i := 1112) rfl)) rfl
set_option maxRecDepth 100000 in
theorem m_1114 : Cond.instanceMethod yX7_writePass ∈ W0 := w0_in (List.mem_append_right _ (List.mem_of_getElem? (i := 1114) rfl)) rfl
set_option maxRecDepth 100000 in
theorem m_1115 : Cond.code yX7_writePass cX7_writePass 4 none ∈ W0 := w0_in (List.mem_append_right _ (List.mem_of_getElem? (i := 1115) rfl)) rfl
set_option maxRecDepth 100000 in
theorem m_1118 : Cond.methodLink RX7 128 yX7_writeHands ∈ W0 := w0_in (List.mem_append_right _ (List.mem_of_getElem? (i := 1118) rfl)) rfl
set_option maxRecDepth 100000 in
theorem m_1120 : Cond.instanceMethod yX7_writeHands ∈ W0 := w0_in (List.mem_append_right _ (List.mem_of_getElem? (i := 1120) rfl)) rfl
set_option maxRecDepth 100000 in
theorem m_1121 : Cond.code yX7_writeHands cX7_writeHands 6 none ∈ W0 := w0_in (List.mem_append_right _ (List.mem_of_getElem? (i := 1121) rfl)) rfl
set_option maxRecDepth 100000 in
theorem m_1122 : Cond.methodLink RX7 131 yX7_writeClock ∈ W0 := w0_in (List.mem_append_right _ (List.mem_of_getElem? (i := 1122) rfl)) rfl
set_option maxRecDepth 100000 in
theorem m_1123 : Cond.static yX7_writeClock ∈ W0 := w0_in (List.mem_append_right _ (List.mem_of_getElem? (i := 1123) rfl)) rfl
set_option maxRecDepth 100000 in
theorem m_1124 : Cond.code yX7_writeClock cX7_writeClock 2 none ∈ W0 := w0_in (List.mem_append_right _ (List.mem_of_getElem? (i := 1124) rfl)) rfl
section
variable {p : Program} {l : Launch} {e : Env} {R : Room} {s : State} {m : MethodId} {args : Array Value} {below : List Frame} {meth : Method} {c : Code} {H : Heap} {locs : List Loc} {cells slots : Nat} {Q : State → Prop}
variable {cc : ByteArray} {pc : Nat} {ls : Array Slot} {rest : List Value} {X : Ec} {h h1 : Hp} {nL : Nat} {rt : Option FieldType} {mn : String}
theorem gf_X7_78 {a : Nat} (C : Cx X p s m args meth c RX7 cc nL rt mn) (hW : Wx X h H) (ha : hK h a = 3) (hdg : decode cc pc = .ok (.getfield 78, 3)) (kk : W p l e R s m args below meth c H locs cells slots Q (F0 m (pc + 3) ls (.int (hI h a 5) :: rest))) : W p l e R s m args below meth c H locs cells slots Q (F0 m pc ls (.ref a :: rest)) :=
  y_geti C hW ha i_X3 (by decide) rfl (by decide) m_298 rfl hdg kk
end
theorem cw_X7_121 : cwd RX7 121 yX7_writeRights cX7_writeRights 4 none false 2 := ⟨m_1108, m_1105, m_10, ⟨m_1107, ms_45⟩, by decide, by decide, by decide +kernel⟩
theorem cw_X7_125 : cwd RX7 125 yX7_writePass cX7_writePass 4 none false 2 := ⟨m_1115, m_1112, m_10, ⟨m_1114, ms_46⟩, by decide, by decide, by decide +kernel⟩
theorem cw_X7_128 : cwd RX7 128 yX7_writeHands cX7_writeHands 6 none false 2 := ⟨m_1121, m_1118, m_10, ⟨m_1120, ms_47⟩, by decide, by decide, by decide +kernel⟩
theorem cw_X7_131 : cwd RX7 131 yX7_writeClock cX7_writeClock 2 none true 2 := ⟨m_1124, m_1122, m_10, m_1123, by decide, by decide, by decide +kernel⟩
theorem cw_X7_114 : cwd RX7 114 yX7_writeRanks cX7_writeRanks 10 none false 3 := ⟨m_1096, m_1093, m_10, ⟨m_1094, m_1095⟩, by decide, by decide, by decide +kernel⟩
theorem dX7_writeAll_0 : decode cX7_writeAll 0 = .ok (.aload_n 0, 1) := by decide +kernel
theorem dX7_writeAll_1 : decode cX7_writeAll 1 = .ok (.aload_n 1, 1) := by decide +kernel
theorem dX7_writeAll_2 : decode cX7_writeAll 2 = .ok (.ldc2_w 112, 3) := by decide +kernel
theorem dX7_writeAll_5 : decode cX7_writeAll 5 = .ok (.aload_n 2, 1) := by decide +kernel
theorem dX7_writeAll_6 : decode cX7_writeAll 6 = .ok (.invokevirtual 114, 3) := by decide +kernel
theorem dX7_writeAll_9 : decode cX7_writeAll 9 = .ok (.aload_n 2, 1) := by decide +kernel
theorem dX7_writeAll_10 : decode cX7_writeAll 10 = .ok (.bipush 32, 2) := by decide +kernel
theorem dX7_writeAll_12 : decode cX7_writeAll 12 = .ok (.invokevirtual 118, 3) := by decide +kernel
theorem dX7_writeAll_15 : decode cX7_writeAll 15 = .ok (.aload_n 2, 1) := by decide +kernel
theorem dX7_writeAll_16 : decode cX7_writeAll 16 = .ok (.aload_n 1, 1) := by decide +kernel
theorem dX7_writeAll_17 : decode cX7_writeAll 17 = .ok (.getfield 78, 3) := by decide +kernel
theorem dX7_writeAll_20 : decode cX7_writeAll 20 = .ok (.ifCond .ne 8, 3) := by decide +kernel
theorem dX7_writeAll_23 : decode cX7_writeAll 23 = .ok (.bipush 119, 2) := by decide +kernel
theorem dX7_writeAll_25 : decode cX7_writeAll 25 = .ok (.goto 5, 3) := by decide +kernel
theorem dX7_writeAll_28 : decode cX7_writeAll 28 = .ok (.bipush 98, 2) := by decide +kernel
theorem dX7_writeAll_30 : decode cX7_writeAll 30 = .ok (.invokevirtual 118, 3) := by decide +kernel
theorem dX7_writeAll_33 : decode cX7_writeAll 33 = .ok (.aload_n 2, 1) := by decide +kernel
theorem dX7_writeAll_34 : decode cX7_writeAll 34 = .ok (.bipush 32, 2) := by decide +kernel
theorem dX7_writeAll_36 : decode cX7_writeAll 36 = .ok (.invokevirtual 118, 3) := by decide +kernel
theorem dX7_writeAll_39 : decode cX7_writeAll 39 = .ok (.aload_n 0, 1) := by decide +kernel
theorem dX7_writeAll_40 : decode cX7_writeAll 40 = .ok (.aload_n 1, 1) := by decide +kernel
theorem dX7_writeAll_41 : decode cX7_writeAll 41 = .ok (.aload_n 2, 1) := by decide +kernel
theorem dX7_writeAll_42 : decode cX7_writeAll 42 = .ok (.invokevirtual 121, 3) := by decide +kernel
theorem dX7_writeAll_45 : decode cX7_writeAll 45 = .ok (.aload_n 2, 1) := by decide +kernel
theorem dX7_writeAll_46 : decode cX7_writeAll 46 = .ok (.bipush 32, 2) := by decide +kernel
theorem dX7_writeAll_48 : decode cX7_writeAll 48 = .ok (.invokevirtual 118, 3) := by decide +kernel
theorem dX7_writeAll_51 : decode cX7_writeAll 51 = .ok (.aload_n 0, 1) := by decide +kernel
theorem dX7_writeAll_52 : decode cX7_writeAll 52 = .ok (.aload_n 1, 1) := by decide +kernel
theorem dX7_writeAll_53 : decode cX7_writeAll 53 = .ok (.aload_n 2, 1) := by decide +kernel
theorem dX7_writeAll_54 : decode cX7_writeAll 54 = .ok (.invokevirtual 125, 3) := by decide +kernel
theorem dX7_writeAll_57 : decode cX7_writeAll 57 = .ok (.aload_n 2, 1) := by decide +kernel
theorem dX7_writeAll_58 : decode cX7_writeAll 58 = .ok (.bipush 32, 2) := by decide +kernel
theorem dX7_writeAll_60 : decode cX7_writeAll 60 = .ok (.invokevirtual 118, 3) := by decide +kernel
theorem dX7_writeAll_63 : decode cX7_writeAll 63 = .ok (.aload_n 0, 1) := by decide +kernel
theorem dX7_writeAll_64 : decode cX7_writeAll 64 = .ok (.aload_n 1, 1) := by decide +kernel
theorem dX7_writeAll_65 : decode cX7_writeAll 65 = .ok (.aload_n 2, 1) := by decide +kernel
theorem dX7_writeAll_66 : decode cX7_writeAll 66 = .ok (.invokevirtual 128, 3) := by decide +kernel
theorem dX7_writeAll_69 : decode cX7_writeAll 69 = .ok (.aload_n 2, 1) := by decide +kernel
theorem dX7_writeAll_70 : decode cX7_writeAll 70 = .ok (.bipush 32, 2) := by decide +kernel
theorem dX7_writeAll_72 : decode cX7_writeAll 72 = .ok (.invokevirtual 118, 3) := by decide +kernel
theorem dX7_writeAll_75 : decode cX7_writeAll 75 = .ok (.aload_n 2, 1) := by decide +kernel
theorem dX7_writeAll_76 : decode cX7_writeAll 76 = .ok (.bipush 48, 2) := by decide +kernel
theorem dX7_writeAll_78 : decode cX7_writeAll 78 = .ok (.aload_n 1, 1) := by decide +kernel
theorem dX7_writeAll_79 : decode cX7_writeAll 79 = .ok (.getfield 105, 3) := by decide +kernel
theorem dX7_writeAll_82 : decode cX7_writeAll 82 = .ok (.iconst 0, 1) := by decide +kernel
theorem dX7_writeAll_83 : decode cX7_writeAll 83 = .ok (.iaload, 1) := by decide +kernel
theorem dX7_writeAll_84 : decode cX7_writeAll 84 = .ok (.iadd, 1) := by decide +kernel
theorem dX7_writeAll_85 : decode cX7_writeAll 85 = .ok (.invokevirtual 118, 3) := by decide +kernel
theorem dX7_writeAll_88 : decode cX7_writeAll 88 = .ok (.aload_n 2, 1) := by decide +kernel
theorem dX7_writeAll_89 : decode cX7_writeAll 89 = .ok (.bipush 48, 2) := by decide +kernel
theorem dX7_writeAll_91 : decode cX7_writeAll 91 = .ok (.aload_n 1, 1) := by decide +kernel
theorem dX7_writeAll_92 : decode cX7_writeAll 92 = .ok (.getfield 105, 3) := by decide +kernel
theorem dX7_writeAll_95 : decode cX7_writeAll 95 = .ok (.iconst 1, 1) := by decide +kernel
theorem dX7_writeAll_96 : decode cX7_writeAll 96 = .ok (.iaload, 1) := by decide +kernel
theorem dX7_writeAll_97 : decode cX7_writeAll 97 = .ok (.iadd, 1) := by decide +kernel
theorem dX7_writeAll_98 : decode cX7_writeAll 98 = .ok (.invokevirtual 118, 3) := by decide +kernel
theorem dX7_writeAll_101 : decode cX7_writeAll 101 = .ok (.aload_n 2, 1) := by decide +kernel
theorem dX7_writeAll_102 : decode cX7_writeAll 102 = .ok (.bipush 32, 2) := by decide +kernel
theorem dX7_writeAll_104 : decode cX7_writeAll 104 = .ok (.invokevirtual 118, 3) := by decide +kernel
theorem dX7_writeAll_107 : decode cX7_writeAll 107 = .ok (.aload_n 1, 1) := by decide +kernel
theorem dX7_writeAll_108 : decode cX7_writeAll 108 = .ok (.aload_n 2, 1) := by decide +kernel
theorem dX7_writeAll_109 : decode cX7_writeAll 109 = .ok (.invokestatic 131, 3) := by decide +kernel
theorem dX7_writeAll_112 : decode cX7_writeAll 112 = .ok (.return_, 1) := by decide +kernel
set_option maxRecDepth 20000 in
theorem moX7_writeAll_30 {o : Hp} {F : Nat} {h : Hp} {x0 : Nat} {x1 : Nat} {x2 : Nat} {t0 : Int32} {t1 : Nat} (hE : sX7_writeAll_30 F h x0 x1 x2 t0 t1 = some o) : Le h o := by
  obtain ⟨o_1, eo_1, hE⟩ := cl_e hE
  refine (moX9_append eo_1).tr ?_
  obtain ⟨o_2, eo_2, hE⟩ := cl_e hE
  refine (moX9_append eo_2).tr ?_
  obtain ⟨o_3, eo_3, hE⟩ := cl_e hE
  refine (moX7_writeRights eo_3).tr ?_
  obtain ⟨o_4, eo_4, hE⟩ := cl_e hE
  refine (moX9_append eo_4).tr ?_
  obtain ⟨o_5, eo_5, hE⟩ := cl_e hE
  refine (moX7_writePass eo_5).tr ?_
  obtain ⟨o_6, eo_6, hE⟩ := cl_e hE
  refine (moX9_append eo_6).tr ?_
  obtain ⟨o_7, eo_7, hE⟩ := cl_e hE
  refine (moX7_writeHands eo_7).tr ?_
  obtain ⟨o_8, eo_8, hE⟩ := cl_e hE
  refine (moX9_append eo_8).tr ?_
  obtain ⟨r_9, er_9, hE⟩ := cl_e hE
  obtain ⟨g_10, hE⟩ := gd_e hE
  obtain ⟨o_11, eo_11, hE⟩ := cl_e hE
  refine (moX9_append eo_11).tr ?_
  obtain ⟨r_12, er_12, hE⟩ := cl_e hE
  obtain ⟨g_13, hE⟩ := gd_e hE
  obtain ⟨o_14, eo_14, hE⟩ := cl_e hE
  refine (moX9_append eo_14).tr ?_
  obtain ⟨o_15, eo_15, hE⟩ := cl_e hE
  refine (moX9_append eo_15).tr ?_
  obtain ⟨o_16, eo_16, hE⟩ := cl_e hE
  refine (moX7_writeClock eo_16).tr ?_
  exact le_some1 hE
set_option maxRecDepth 20000 in
theorem moX7_writeAll {o : Hp} {F : Nat} {h : Hp} {x0 : Nat} {x1 : Nat} {x2 : Nat} (hE : sX7_writeAll F h x0 x1 x2 = some o) : Le h o := by
  obtain ⟨o_1, eo_1, hE⟩ := cl_e hE
  refine (moX7_writeRanks eo_1).tr ?_
  obtain ⟨o_2, eo_2, hE⟩ := cl_e hE
  refine (moX9_append eo_2).tr ?_
  rcases br_e hE with ⟨_, hE⟩ | ⟨_, hE⟩
  · exact moX7_writeAll_30 hE
  · exact moX7_writeAll_30 hE
set_option maxRecDepth 20000 in
theorem bX7_writeAll_30 {p : Program} {l : Launch} {e : Env} {s : State} {m : MethodId} {args : Array Value} {below : List Frame} {meth : Method} {c : Code} {X : Ec} {h0 : Hp} {o : Hp} {F : Nat} (C : Cx X p s m args meth c RX7 cX7_writeAll 3 none "writeAll") {h : Hp} {x0 : Nat} {x1 : Nat} {x2 : Nat} {t0 : Int32} {t1 : Nat} {H : Heap} {locs : List Loc} (k_x0 : hK h x0 = 7) (k_x1 : hK h x1 = 3) (k_x2 : hK h x2 = 9) (k_t1 : hK h t1 = 9) (hkm : Km h0 h) (hW : Wx X h H) (hZ : va_S (aA (eB X)) s.heap H locs) (ls : Array Slot) (hl : lv_has ls 3 [(0, .ref x0), (1, .ref x1), (2, .ref x2)]) (hE : sX7_writeAll_30 F h x0 x1 x2 t0 t1 = some o) : W p l e (rm 3 71) s m args below meth c H locs 0 0 (MQ below (QV X h0 o) args s 0 0 (aA (eB X))) (F0 m 30 ls [.int t0, .ref t1]) := by
  obtain ⟨o_1, eo_1, hE⟩ := cl_e hE
  refine x_kV (o := o_1) (z_runV (As := [.int t0]) (rest := []) C (ct_X9_append l X k_t1 eo_1) cw_X7_118 hW hZ k_t1 (by decide) rfl rfl rfl hl.1 (Nat.le_of_ble_eq_true rfl) rfl dX7_writeAll_30 ⟨Nat.le_of_ble_eq_true rfl, Nat.le_of_ble_eq_true rfl⟩ ⟨Nat.le_refl _, Nat.le_refl _⟩) hZ (fun _ _ hW km hZ => ?_)
  replace hkm := hkm.tr km
  replace k_x0 := km.at k_x0 (by decide)
  replace k_x1 := km.at k_x1 (by decide)
  replace k_x2 := km.at k_x2 (by decide)
  refine lv_aload_n C.1 C.2.1 dX7_writeAll_33 rfl (lv_at hl 2 rfl) ?_
  refine lv_bipush (v := (32 : Int32)) C.1 C.2.1 dX7_writeAll_34 (by decide) ?_
  obtain ⟨o_2, eo_2, hE⟩ := cl_e hE
  refine x_kV (o := o_2) (z_runV (As := [.int (32 : Int32)]) (rest := []) C (ct_X9_append l X k_x2 eo_2) cw_X7_118 hW hZ k_x2 (by decide) rfl rfl rfl hl.1 (Nat.le_of_ble_eq_true rfl) rfl dX7_writeAll_36 ⟨Nat.le_of_ble_eq_true rfl, Nat.le_of_ble_eq_true rfl⟩ ⟨Nat.le_refl _, Nat.le_refl _⟩) hZ (fun _ _ hW km hZ => ?_)
  replace hkm := hkm.tr km
  replace k_x0 := km.at k_x0 (by decide)
  replace k_x1 := km.at k_x1 (by decide)
  replace k_x2 := km.at k_x2 (by decide)
  refine lv_aload_n C.1 C.2.1 dX7_writeAll_39 rfl (lv_at hl 0 rfl) ?_
  refine lv_aload_n C.1 C.2.1 dX7_writeAll_40 rfl (lv_at hl 1 rfl) ?_
  refine lv_aload_n C.1 C.2.1 dX7_writeAll_41 rfl (lv_at hl 2 rfl) ?_
  obtain ⟨o_3, eo_3, hE⟩ := cl_e hE
  refine x_kV (o := o_3) (z_runV (As := [.ref x1, .ref x2]) (rest := []) C (ct_X7_writeRights l X F k_x0 k_x1 k_x2 eo_3) cw_X7_121 hW hZ k_x0 (by decide) rfl rfl rfl hl.1 (Nat.le_of_ble_eq_true rfl) rfl dX7_writeAll_42 ⟨Nat.le_of_ble_eq_true rfl, Nat.le_of_ble_eq_true rfl⟩ ⟨Nat.le_refl _, Nat.le_refl _⟩) hZ (fun _ _ hW km hZ => ?_)
  replace hkm := hkm.tr km
  replace k_x0 := km.at k_x0 (by decide)
  replace k_x1 := km.at k_x1 (by decide)
  replace k_x2 := km.at k_x2 (by decide)
  refine lv_aload_n C.1 C.2.1 dX7_writeAll_45 rfl (lv_at hl 2 rfl) ?_
  refine lv_bipush (v := (32 : Int32)) C.1 C.2.1 dX7_writeAll_46 (by decide) ?_
  obtain ⟨o_4, eo_4, hE⟩ := cl_e hE
  refine x_kV (o := o_4) (z_runV (As := [.int (32 : Int32)]) (rest := []) C (ct_X9_append l X k_x2 eo_4) cw_X7_118 hW hZ k_x2 (by decide) rfl rfl rfl hl.1 (Nat.le_of_ble_eq_true rfl) rfl dX7_writeAll_48 ⟨Nat.le_of_ble_eq_true rfl, Nat.le_of_ble_eq_true rfl⟩ ⟨Nat.le_refl _, Nat.le_refl _⟩) hZ (fun _ _ hW km hZ => ?_)
  replace hkm := hkm.tr km
  replace k_x0 := km.at k_x0 (by decide)
  replace k_x1 := km.at k_x1 (by decide)
  replace k_x2 := km.at k_x2 (by decide)
  refine lv_aload_n C.1 C.2.1 dX7_writeAll_51 rfl (lv_at hl 0 rfl) ?_
  refine lv_aload_n C.1 C.2.1 dX7_writeAll_52 rfl (lv_at hl 1 rfl) ?_
  refine lv_aload_n C.1 C.2.1 dX7_writeAll_53 rfl (lv_at hl 2 rfl) ?_
  obtain ⟨o_5, eo_5, hE⟩ := cl_e hE
  refine x_kV (o := o_5) (z_runV (As := [.ref x1, .ref x2]) (rest := []) C (ct_X7_writePass l X F k_x0 k_x1 k_x2 eo_5) cw_X7_125 hW hZ k_x0 (by decide) rfl rfl rfl hl.1 (Nat.le_of_ble_eq_true rfl) rfl dX7_writeAll_54 ⟨Nat.le_of_ble_eq_true rfl, Nat.le_of_ble_eq_true rfl⟩ ⟨Nat.le_refl _, Nat.le_refl _⟩) hZ (fun _ _ hW km hZ => ?_)
  replace hkm := hkm.tr km
  replace k_x0 := km.at k_x0 (by decide)
  replace k_x1 := km.at k_x1 (by decide)
  replace k_x2 := km.at k_x2 (by decide)
  refine lv_aload_n C.1 C.2.1 dX7_writeAll_57 rfl (lv_at hl 2 rfl) ?_
  refine lv_bipush (v := (32 : Int32)) C.1 C.2.1 dX7_writeAll_58 (by decide) ?_
  obtain ⟨o_6, eo_6, hE⟩ := cl_e hE
  refine x_kV (o := o_6) (z_runV (As := [.int (32 : Int32)]) (rest := []) C (ct_X9_append l X k_x2 eo_6) cw_X7_118 hW hZ k_x2 (by decide) rfl rfl rfl hl.1 (Nat.le_of_ble_eq_true rfl) rfl dX7_writeAll_60 ⟨Nat.le_of_ble_eq_true rfl, Nat.le_of_ble_eq_true rfl⟩ ⟨Nat.le_refl _, Nat.le_refl _⟩) hZ (fun _ _ hW km hZ => ?_)
  replace hkm := hkm.tr km
  replace k_x0 := km.at k_x0 (by decide)
  replace k_x1 := km.at k_x1 (by decide)
  replace k_x2 := km.at k_x2 (by decide)
  refine lv_aload_n C.1 C.2.1 dX7_writeAll_63 rfl (lv_at hl 0 rfl) ?_
  refine lv_aload_n C.1 C.2.1 dX7_writeAll_64 rfl (lv_at hl 1 rfl) ?_
  refine lv_aload_n C.1 C.2.1 dX7_writeAll_65 rfl (lv_at hl 2 rfl) ?_
  obtain ⟨o_7, eo_7, hE⟩ := cl_e hE
  refine x_kV (o := o_7) (z_runV (As := [.ref x1, .ref x2]) (rest := []) C (ct_X7_writeHands l X F k_x0 k_x1 k_x2 eo_7) cw_X7_128 hW hZ k_x0 (by decide) rfl rfl rfl hl.1 (Nat.le_of_ble_eq_true rfl) rfl dX7_writeAll_66 ⟨Nat.le_of_ble_eq_true rfl, Nat.le_of_ble_eq_true rfl⟩ ⟨Nat.le_refl _, Nat.le_refl _⟩) hZ (fun _ _ hW km hZ => ?_)
  replace hkm := hkm.tr km
  replace k_x0 := km.at k_x0 (by decide)
  replace k_x1 := km.at k_x1 (by decide)
  replace k_x2 := km.at k_x2 (by decide)
  refine lv_aload_n C.1 C.2.1 dX7_writeAll_69 rfl (lv_at hl 2 rfl) ?_
  refine lv_bipush (v := (32 : Int32)) C.1 C.2.1 dX7_writeAll_70 (by decide) ?_
  obtain ⟨o_8, eo_8, hE⟩ := cl_e hE
  refine x_kV (o := o_8) (z_runV (As := [.int (32 : Int32)]) (rest := []) C (ct_X9_append l X k_x2 eo_8) cw_X7_118 hW hZ k_x2 (by decide) rfl rfl rfl hl.1 (Nat.le_of_ble_eq_true rfl) rfl dX7_writeAll_72 ⟨Nat.le_of_ble_eq_true rfl, Nat.le_of_ble_eq_true rfl⟩ ⟨Nat.le_refl _, Nat.le_refl _⟩) hZ (fun _ _ hW km hZ => ?_)
  replace hkm := hkm.tr km
  replace k_x0 := km.at k_x0 (by decide)
  replace k_x1 := km.at k_x1 (by decide)
  replace k_x2 := km.at k_x2 (by decide)
  refine lv_aload_n C.1 C.2.1 dX7_writeAll_75 rfl (lv_at hl 2 rfl) ?_
  refine lv_bipush (v := (48 : Int32)) C.1 C.2.1 dX7_writeAll_76 (by decide) ?_
  refine lv_aload_n C.1 C.2.1 dX7_writeAll_78 rfl (lv_at hl 1 rfl) ?_
  obtain ⟨r_9, er_9, hE⟩ := cl_e hE
  refine gf_X7_105 C hW k_x1 er_9 dX7_writeAll_79 (fun k_r_9 => ?_)
  refine lv_iconst (v := (0 : Int32)) C.1 C.2.1 dX7_writeAll_82 (by decide) ?_
  obtain ⟨g_10, hE⟩ := gd_e hE
  refine y_iald C hW k_r_9 g_10 dX7_writeAll_83 ?_
  refine lv_iadd C.1 C.2.1 dX7_writeAll_84 ?_
  obtain ⟨o_11, eo_11, hE⟩ := cl_e hE
  refine x_kV (o := o_11) (z_runV (As := [.int ((48 : Int32) + (hI o_8 r_9 (0 : Int32).toNatClampNeg))]) (rest := []) C (ct_X9_append l X k_x2 eo_11) cw_X7_118 hW hZ k_x2 (by decide) rfl rfl rfl hl.1 (Nat.le_of_ble_eq_true rfl) rfl dX7_writeAll_85 ⟨Nat.le_of_ble_eq_true rfl, Nat.le_of_ble_eq_true rfl⟩ ⟨Nat.le_refl _, Nat.le_refl _⟩) hZ (fun _ _ hW km hZ => ?_)
  replace hkm := hkm.tr km
  replace k_x0 := km.at k_x0 (by decide)
  replace k_x1 := km.at k_x1 (by decide)
  replace k_x2 := km.at k_x2 (by decide)
  refine lv_aload_n C.1 C.2.1 dX7_writeAll_88 rfl (lv_at hl 2 rfl) ?_
  refine lv_bipush (v := (48 : Int32)) C.1 C.2.1 dX7_writeAll_89 (by decide) ?_
  refine lv_aload_n C.1 C.2.1 dX7_writeAll_91 rfl (lv_at hl 1 rfl) ?_
  obtain ⟨r_12, er_12, hE⟩ := cl_e hE
  refine gf_X7_105 C hW k_x1 er_12 dX7_writeAll_92 (fun k_r_12 => ?_)
  refine lv_iconst (v := (1 : Int32)) C.1 C.2.1 dX7_writeAll_95 (by decide) ?_
  obtain ⟨g_13, hE⟩ := gd_e hE
  refine y_iald C hW k_r_12 g_13 dX7_writeAll_96 ?_
  refine lv_iadd C.1 C.2.1 dX7_writeAll_97 ?_
  obtain ⟨o_14, eo_14, hE⟩ := cl_e hE
  refine x_kV (o := o_14) (z_runV (As := [.int ((48 : Int32) + (hI o_11 r_12 (1 : Int32).toNatClampNeg))]) (rest := []) C (ct_X9_append l X k_x2 eo_14) cw_X7_118 hW hZ k_x2 (by decide) rfl rfl rfl hl.1 (Nat.le_of_ble_eq_true rfl) rfl dX7_writeAll_98 ⟨Nat.le_of_ble_eq_true rfl, Nat.le_of_ble_eq_true rfl⟩ ⟨Nat.le_refl _, Nat.le_refl _⟩) hZ (fun _ _ hW km hZ => ?_)
  replace hkm := hkm.tr km
  replace k_x0 := km.at k_x0 (by decide)
  replace k_x1 := km.at k_x1 (by decide)
  replace k_x2 := km.at k_x2 (by decide)
  refine lv_aload_n C.1 C.2.1 dX7_writeAll_101 rfl (lv_at hl 2 rfl) ?_
  refine lv_bipush (v := (32 : Int32)) C.1 C.2.1 dX7_writeAll_102 (by decide) ?_
  obtain ⟨o_15, eo_15, hE⟩ := cl_e hE
  refine x_kV (o := o_15) (z_runV (As := [.int (32 : Int32)]) (rest := []) C (ct_X9_append l X k_x2 eo_15) cw_X7_118 hW hZ k_x2 (by decide) rfl rfl rfl hl.1 (Nat.le_of_ble_eq_true rfl) rfl dX7_writeAll_104 ⟨Nat.le_of_ble_eq_true rfl, Nat.le_of_ble_eq_true rfl⟩ ⟨Nat.le_refl _, Nat.le_refl _⟩) hZ (fun _ _ hW km hZ => ?_)
  replace hkm := hkm.tr km
  replace k_x0 := km.at k_x0 (by decide)
  replace k_x1 := km.at k_x1 (by decide)
  replace k_x2 := km.at k_x2 (by decide)
  refine lv_aload_n C.1 C.2.1 dX7_writeAll_107 rfl (lv_at hl 1 rfl) ?_
  refine lv_aload_n C.1 C.2.1 dX7_writeAll_108 rfl (lv_at hl 2 rfl) ?_
  obtain ⟨o_16, eo_16, hE⟩ := cl_e hE
  refine x_kV (o := o_16) (z_runS (As := [.ref x1, .ref x2]) (rest := []) C (ct_X7_writeClock l X k_x1 k_x2 eo_16) cw_X7_131 hW hZ rfl hl.1 (Nat.le_of_ble_eq_true rfl) rfl dX7_writeAll_109 ⟨Nat.le_of_ble_eq_true rfl, Nat.le_of_ble_eq_true rfl⟩ ⟨Nat.le_refl _, Nat.le_refl _⟩) hZ (fun _ _ hW km hZ => ?_)
  replace hkm := hkm.tr km
  replace k_x0 := km.at k_x0 (by decide)
  replace k_x1 := km.at k_x1 (by decide)
  replace k_x2 := km.at k_x2 (by decide)
  exact x_vret C rfl hW hZ hkm hE dX7_writeAll_112
set_option maxRecDepth 20000 in
theorem ct_X7_writeAll (l : Launch) (X : Ec) (F : Nat) {h : Hp} {x0 : Nat} {x1 : Nat} {x2 : Nat} {o : Hp} (k_x0 : hK h x0 = 7) (k_x1 : hK h x1 = 3) (k_x2 : hK h x2 = 9) (hE : sX7_writeAll F h x0 x1 x2 = some o) : MetV l yX7_writeAll cX7_writeAll 3 none 3 71 X [.ref x0, .ref x1, .ref x2] h o := by
  refine x_met (by decide) (Nat.le_of_ble_eq_true rfl) ?_
  intro p e s m below meth c ls C hl hW hZ
  have hl : lv_has ls 3 [(0, .ref x0), (1, .ref x1), (2, .ref x2)] := hl
  have hkm : Km h h := Km.rf h
  refine lv_aload_n C.1 C.2.1 dX7_writeAll_0 rfl (lv_at hl 0 rfl) ?_
  refine lv_aload_n C.1 C.2.1 dX7_writeAll_1 rfl (lv_at hl 1 rfl) ?_
  refine lv_ldc2 (v := (-1 : Int64)) C.1 C.2.1 C.2.2.2.1 (C.2.2.2.2.1 _ m_1092) dX7_writeAll_2 ?_
  refine lv_aload_n C.1 C.2.1 dX7_writeAll_5 rfl (lv_at hl 2 rfl) ?_
  obtain ⟨o_1, eo_1, hE⟩ := cl_e hE
  refine x_kV (o := o_1) (z_runV (As := [.ref x1, .long (-1 : Int64), .ref x2]) (rest := []) C (ct_X7_writeRanks l X F k_x0 k_x1 k_x2 eo_1) cw_X7_114 hW hZ k_x0 (by decide) rfl rfl rfl hl.1 (Nat.le_of_ble_eq_true rfl) rfl dX7_writeAll_6 ⟨Nat.le_of_ble_eq_true rfl, Nat.le_of_ble_eq_true rfl⟩ ⟨Nat.le_refl _, Nat.le_refl _⟩) hZ (fun _ _ hW km hZ => ?_)
  replace hkm := hkm.tr km
  replace k_x0 := km.at k_x0 (by decide)
  replace k_x1 := km.at k_x1 (by decide)
  replace k_x2 := km.at k_x2 (by decide)
  refine lv_aload_n C.1 C.2.1 dX7_writeAll_9 rfl (lv_at hl 2 rfl) ?_
  refine lv_bipush (v := (32 : Int32)) C.1 C.2.1 dX7_writeAll_10 (by decide) ?_
  obtain ⟨o_2, eo_2, hE⟩ := cl_e hE
  refine x_kV (o := o_2) (z_runV (As := [.int (32 : Int32)]) (rest := []) C (ct_X9_append l X k_x2 eo_2) cw_X7_118 hW hZ k_x2 (by decide) rfl rfl rfl hl.1 (Nat.le_of_ble_eq_true rfl) rfl dX7_writeAll_12 ⟨Nat.le_of_ble_eq_true rfl, Nat.le_of_ble_eq_true rfl⟩ ⟨Nat.le_refl _, Nat.le_refl _⟩) hZ (fun _ _ hW km hZ => ?_)
  replace hkm := hkm.tr km
  replace k_x0 := km.at k_x0 (by decide)
  replace k_x1 := km.at k_x1 (by decide)
  replace k_x2 := km.at k_x2 (by decide)
  refine lv_aload_n C.1 C.2.1 dX7_writeAll_15 rfl (lv_at hl 2 rfl) ?_
  refine lv_aload_n C.1 C.2.1 dX7_writeAll_16 rfl (lv_at hl 1 rfl) ?_
  refine gf_X7_78 C hW k_x1 dX7_writeAll_17 ?_
  refine lv_if_ne (tgt := 28) C.1 C.2.1 dX7_writeAll_20 (by decide) (fun c_3 => ?_) (fun c_3 => ?_)
  · have hE := br_n hE c_3
    refine lv_bipush (v := (98 : Int32)) C.1 C.2.1 dX7_writeAll_28 (by decide) ?_
    exact bX7_writeAll_30 C k_x0 k_x1 k_x2 k_x2 hkm hW hZ _ (lv_sub hl [0, 1, 2] rfl) hE
  · have hE := br_p hE c_3
    refine lv_bipush (v := (119 : Int32)) C.1 C.2.1 dX7_writeAll_23 (by decide) ?_
    refine lv_goto (tgt := 30) C.1 C.2.1 dX7_writeAll_25 (by decide) ?_
    exact bX7_writeAll_30 C k_x0 k_x1 k_x2 k_x2 hkm hW hZ _ (lv_sub hl [0, 1, 2] rfl) hE
