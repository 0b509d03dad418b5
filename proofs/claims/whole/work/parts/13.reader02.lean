theorem dX2_toldMan_0 : decode cX2_toldMan 0 = .ok (.aload_n 0, 1) := by decide +kernel
theorem dX2_toldMan_1 : decode cX2_toldMan 1 = .ok (.invokevirtual 96, 3) := by decide +kernel
theorem dX2_toldMan_4 : decode cX2_toldMan 4 = .ok (.istore_n 1, 1) := by decide +kernel
theorem dX2_toldMan_5 : decode cX2_toldMan 5 = .ok (.iload_n 1, 1) := by decide +kernel
theorem dX2_toldMan_6 : decode cX2_toldMan 6 = .ok (.iconst (-1), 1) := by decide +kernel
theorem dX2_toldMan_7 : decode cX2_toldMan 7 = .ok (.if_icmp .ne 7, 3) := by decide +kernel
theorem dX2_toldMan_10 : decode cX2_toldMan 10 = .ok (.iconst (-1), 1) := by decide +kernel
theorem dX2_toldMan_11 : decode cX2_toldMan 11 = .ok (.goto 11, 3) := by decide +kernel
theorem dX2_toldMan_14 : decode cX2_toldMan 14 = .ok (.aload_n 0, 1) := by decide +kernel
theorem dX2_toldMan_15 : decode cX2_toldMan 15 = .ok (.getfield 15, 3) := by decide +kernel
theorem dX2_toldMan_18 : decode cX2_toldMan 18 = .ok (.iload_n 1, 1) := by decide +kernel
theorem dX2_toldMan_19 : decode cX2_toldMan 19 = .ok (.invokevirtual 99, 3) := by decide +kernel
theorem dX2_toldMan_22 : decode cX2_toldMan 22 = .ok (.ireturn, 1) := by decide +kernel
def sX2_toldMan_22 (F : Nat) (h : Hp) (t0 : Int32) : Option (Int32 × Hp) := some (t0, h)
def sX2_toldMan (F : Nat) (h : Hp) (x0 : Nat) : Option (Int32 × Hp) := cl (sX2_oneLetter h x0) fun o_1 => br (o_1.1 = (-1 : Int32)) (sX2_toldMan_22 F o_1.2 (-1 : Int32)) (cl (hR o_1.2 x0 1) fun r_3 => cl (sX1_manOf F o_1.2 r_3 o_1.1) fun o_4 => sX2_toldMan_22 F o_4.2 o_4.1)
set_option maxRecDepth 20000 in
theorem moX2_toldMan_22 {o : Int32 × Hp} {F : Nat} {h : Hp} {t0 : Int32} (hE : sX2_toldMan_22 F h  t0 = some o) : Le h o.2 := by
  exact le_some2 hE
set_option maxRecDepth 20000 in
theorem moX2_toldMan {o : Int32 × Hp} {F : Nat} {h : Hp} {x0 : Nat} (hE : sX2_toldMan F h x0 = some o) : Le h o.2 := by
  obtain ⟨o_1, eo_1, hE⟩ := cl_e hE
  refine (moX2_oneLetter eo_1).tr ?_
  rcases br_e hE with ⟨_, hE⟩ | ⟨_, hE⟩
  · exact moX2_toldMan_22 hE
  · obtain ⟨r_3, er_3, hE⟩ := cl_e hE
    obtain ⟨o_4, eo_4, hE⟩ := cl_e hE
    refine (moX1_manOf eo_4).tr ?_
    exact moX2_toldMan_22 hE
set_option maxRecDepth 20000 in
theorem bX2_toldMan_22 {p : Program} {l : Launch} {e : Env} {s : State} {m : MethodId} {args : Array Value} {below : List Frame} {meth : Method} {c : Code} {X : Ec} {h0 : Hp} {o : Int32 × Hp} {F : Nat} (C : Cx X p s m args meth c RX2 cX2_toldMan 2 (some .int) "toldMan") {h : Hp} {t0 : Int32} {H : Heap} {locs : List Loc} (hkm : Km h0 h) (hW : Wx X h H) (hZ : va_S (aA (eB X)) s.heap H locs) (ls : Array Slot) (hl : lv_has ls 2 []) (hE : sX2_toldMan_22 F h  t0 = some o) : W p l e (rm 2 41) s m args below meth c H locs 0 0 (MQ below (QI X h0 o.1 o.2) args s 0 0 (aA (eB X))) (F0 m 22 ls [.int t0]) := by
  exact x_iret C rfl rfl hW hZ hkm hE dX2_toldMan_22
set_option maxRecDepth 20000 in
theorem ct_X2_toldMan (l : Launch) (X : Ec) (F : Nat) {h : Hp} {x0 : Nat} {o : Int32 × Hp} (k_x0 : hK h x0 = 2) (hE : sX2_toldMan F h x0 = some o) : MetI l yX2_toldMan cX2_toldMan 2 (some .int) 2 41 X [.ref x0] h o := by
  refine x_met (by decide) (Nat.le_of_ble_eq_true rfl) ?_
  intro p e s m below meth c ls C hl hW hZ
  have hl : lv_has ls 2 [(0, .ref x0)] := hl
  have hkm : Km h h := Km.rf h
  refine lv_aload_n C.1 C.2.1 dX2_toldMan_0 rfl (lv_at hl 0 rfl) ?_
  obtain ⟨o_1, eo_1, hE⟩ := cl_e hE
  refine x_kI (o := o_1) (z_runV (As := []) (rest := []) C (ct_X2_oneLetter l X k_x0 eo_1) cw_X2_96 hW hZ k_x0 (by decide) rfl rfl rfl hl.1 (Nat.le_of_ble_eq_true rfl) rfl dX2_toldMan_1 ⟨Nat.le_of_ble_eq_true rfl, Nat.le_of_ble_eq_true rfl⟩ ⟨Nat.le_refl _, Nat.le_refl _⟩) hZ (fun _ _ hW km hZ => ?_)
  replace hkm := hkm.tr km
  replace k_x0 := km.at k_x0 (by decide)
  refine lv_istore_n (lv' := [(1, .int o_1.1), (0, .ref x0)]) C.1 C.2.1 dX2_toldMan_4 rfl hl (by decide) rfl (fun ls hl => ?_)
  refine lv_iload_n C.1 C.2.1 dX2_toldMan_5 rfl (lv_at hl 0 rfl) ?_
  refine lv_iconst (v := (-1 : Int32)) C.1 C.2.1 dX2_toldMan_6 (by decide) ?_
  refine lv_icmp_ne (tgt := 14) C.1 C.2.1 dX2_toldMan_7 (by decide) (fun c_2 => ?_) (fun c_2 => ?_)
  · have hE := br_n hE c_2
    refine lv_aload_n C.1 C.2.1 dX2_toldMan_14 rfl (lv_at hl 1 rfl) ?_
    obtain ⟨r_3, er_3, hE⟩ := cl_e hE
    refine gf_X2_15 C hW k_x0 er_3 dX2_toldMan_15 (fun k_r_3 => ?_)
    refine lv_iload_n C.1 C.2.1 dX2_toldMan_18 rfl (lv_at hl 0 rfl) ?_
    obtain ⟨o_4, eo_4, hE⟩ := cl_e hE
    refine x_kI (o := o_4) (z_runV (As := [.int o_1.1]) (rest := []) C (ct_X1_manOf l X F k_r_3 eo_4) cw_X2_99 hW hZ k_r_3 (by decide) rfl rfl rfl hl.1 (Nat.le_of_ble_eq_true rfl) rfl dX2_toldMan_19 ⟨Nat.le_of_ble_eq_true rfl, Nat.le_of_ble_eq_true rfl⟩ ⟨Nat.le_refl _, Nat.le_refl _⟩) hZ (fun _ _ hW km hZ => ?_)
    replace hkm := hkm.tr km
    replace k_x0 := km.at k_x0 (by decide)
    exact bX2_toldMan_22 C hkm hW hZ _ (lv_sub hl [] rfl) hE
  · have hE := br_p hE c_2
    refine lv_iconst (v := (-1 : Int32)) C.1 C.2.1 dX2_toldMan_10 (by decide) ?_
    refine lv_goto (tgt := 22) C.1 C.2.1 dX2_toldMan_11 (by decide) ?_
    exact bX2_toldMan_22 C hkm hW hZ _ (lv_sub hl [] rfl) hE
set_option maxRecDepth 100000 in
theorem ms_12 : Cond.selects RX2 yX2_toldMan yX2_toldMan ∈ W0 := w0_in (List.mem_append_left _ (List.mem_of_getElem? (i := 12) rfl)) rfl
set_option maxRecDepth 100000 in
theorem m_91 : Cond.fieldLink RX2 115 (TX1 4).1 (TX1 4).2.1 (TX1 4).2.2.1 ∈ W0 := w0_in (List.mem_append_right _ (List.mem_of_getElem? (i := 91) rfl)) rfl
set_option maxRecDepth 100000 in
theorem m_96 : Cond.fieldLink RX2 226 (TX1 5).1 (TX1 5).2.1 (TX1 5).2.2.1 ∈ W0 := w0_in (List.mem_append_right _ (List.mem_of_getElem? (i := 96) rfl)) rfl
set_option maxRecDepth 100000 in
theorem m_115 : Cond.fieldLink RX2 216 (TX1 12).1 (TX1 12).2.1 (TX1 12).2.2.1 ∈ W0 := w0_in (List.mem_append_right _ (List.mem_of_getElem? (i := 115) rfl)) rfl
set_option maxRecDepth 100000 in
theorem m_130 : Cond.fieldLink RX2 221 (TX1 17).1 (TX1 17).2.1 (TX1 17).2.2.1 ∈ W0 := w0_in (List.mem_append_right _ (List.mem_of_getElem? (i := 130) rfl)) rfl
set_option maxRecDepth 100000 in
theorem m_134 : Cond.fieldLink RX2 223 (TX1 18).1 (TX1 18).2.1 (TX1 18).2.2.1 ∈ W0 := w0_in (List.mem_append_right _ (List.mem_of_getElem? (i := 134) rfl)) rfl
set_option maxRecDepth 100000 in
theorem m_735 : Cond.methodLink RX2 210 yX2_toldMan ∈ W0 := w0_in (List.mem_append_right _ (List.mem_of_getElem? (i := 735) rfl)) rfl
set_option maxRecDepth 100000 in
theorem m_737 : Cond.instanceMethod yX2_toldMan ∈ W0 := w0_in (List.mem_append_right _ (List.mem_of_getElem? (i := 737) rfl)) rfl
set_option maxRecDepth 100000 in
theorem m_738 : Cond.code yX2_toldMan cX2_toldMan 2 (some .int) ∈ W0 := w0_in (List.mem_append_right _ (List.mem_of_getElem? (i := 738) rfl)) rfl
set_option maxRecDepth 100000 in
theorem m_739 : Cond.methodLink RX2 213 yX1_becomesOthers ∈ W0 := w0_in (List.mem_append_right _ (List.mem_of_getElem? (i := 739) rfl)) rfl
set_option maxRecDepth 100000 in
theorem m_740 : Cond.instanceMethod yX1_becomesOthers ∈ W0 := w0_in (List.mem_append_right _ (List.mem_of_getElem? (i := 740) rfl)) rfl
set_option maxRecDepth 100000 in
theorem m_741 : Cond.selects RX1 yX1_becomesOthers yX1_becomesOthers ∈ W0 := w0_in (List.mem_append_right _ (List.mem_of_getElem? (i := 741) rfl)) rfl
set_option maxRecDepth 100000 in
theorem m_742 : Cond.code yX1_becomesOthers cX1_becomesOthers 2 (some .boolean) ∈ W0 := w0_in (List.mem_append_right _ (List.mem_of_getElem? (i := 742) rfl)) rfl
section
variable {p : Program} {l : Launch} {e : Env} {R : Room} {s : State} {m : MethodId} {args : Array Value} {below : List Frame} {meth : Method} {c : Code} {H : Heap} {locs : List Loc} {cells slots : Nat} {Q : State → Prop}
variable {cc : ByteArray} {pc : Nat} {ls : Array Slot} {rest : List Value} {X : Ec} {h h1 : Hp} {nL : Nat} {rt : Option FieldType} {mn : String}
theorem pf_X2_226 {a : Nat} {v : Int32} (C : Cx X p s m args meth c RX2 cc nL rt mn) (hW : Wx X h H) (hZ : va_S (aA (eB X)) s.heap H locs) (ha : hK h a = 1) (eh : h1 = wI h a 5 v) (hdg : decode cc pc = .ok (.putfield 226, 3)) (kk : ∀ (H1 : Heap) (locs1 : List Loc), Wx X h1 H1 → Km h h1 → va_S (aA (eB X)) s.heap H1 locs1 → W p l e R s m args below meth c H1 locs1 cells slots Q (F0 m (pc + 3) ls rest)) : W p l e R s m args below meth c H locs cells slots Q (F0 m pc ls (.int v :: .ref a :: rest)) :=
  y_puti (ty := .int) C hW hZ ha i_X1 tyX1 tyX1_ok nmX1 (by decide) rfl rfl (by decide) m_96 rfl (by decide +kernel) rfl rfl rfl eh hdg kk
theorem gf_X2_216 {a : Nat} (C : Cx X p s m args meth c RX2 cc nL rt mn) (hW : Wx X h H) (ha : hK h a = 1) (hdg : decode cc pc = .ok (.getfield 216, 3)) (kk : W p l e R s m args below meth c H locs cells slots Q (F0 m (pc + 3) ls (.int (hI h a 12) :: rest))) : W p l e R s m args below meth c H locs cells slots Q (F0 m pc ls (.ref a :: rest)) :=
  y_geti C hW ha i_X1 (by decide) rfl (by decide) m_115 rfl hdg kk
theorem pf_X2_216 {a : Nat} {v : Int32} (C : Cx X p s m args meth c RX2 cc nL rt mn) (hW : Wx X h H) (hZ : va_S (aA (eB X)) s.heap H locs) (ha : hK h a = 1) (eh : h1 = wI h a 12 v) (hdg : decode cc pc = .ok (.putfield 216, 3)) (kk : ∀ (H1 : Heap) (locs1 : List Loc), Wx X h1 H1 → Km h h1 → va_S (aA (eB X)) s.heap H1 locs1 → W p l e R s m args below meth c H1 locs1 cells slots Q (F0 m (pc + 3) ls rest)) : W p l e R s m args below meth c H locs cells slots Q (F0 m pc ls (.int v :: .ref a :: rest)) :=
  y_puti (ty := .int) C hW hZ ha i_X1 tyX1 tyX1_ok nmX1 (by decide) rfl rfl (by decide) m_115 rfl (by decide +kernel) rfl rfl rfl eh hdg kk
theorem gf_X2_226 {a : Nat} (C : Cx X p s m args meth c RX2 cc nL rt mn) (hW : Wx X h H) (ha : hK h a = 1) (hdg : decode cc pc = .ok (.getfield 226, 3)) (kk : W p l e R s m args below meth c H locs cells slots Q (F0 m (pc + 3) ls (.int (hI h a 5) :: rest))) : W p l e R s m args below meth c H locs cells slots Q (F0 m pc ls (.ref a :: rest)) :=
  y_geti C hW ha i_X1 (by decide) rfl (by decide) m_96 rfl hdg kk
theorem gf_X2_115 {a : Nat} (C : Cx X p s m args meth c RX2 cc nL rt mn) (hW : Wx X h H) (ha : hK h a = 1) (hdg : decode cc pc = .ok (.getfield 115, 3)) (kk : W p l e R s m args below meth c H locs cells slots Q (F0 m (pc + 3) ls (.int (hI h a 4) :: rest))) : W p l e R s m args below meth c H locs cells slots Q (F0 m pc ls (.ref a :: rest)) :=
  y_geti C hW ha i_X1 (by decide) rfl (by decide) m_91 rfl hdg kk
theorem gf_X2_221 {a r : Nat} (C : Cx X p s m args meth c RX2 cc nL rt mn) (hW : Wx X h H) (ha : hK h a = 1) (hr : hR h a 17 = some r) (hdg : decode cc pc = .ok (.getfield 221, 3)) (kk : hK h r = 17 → W p l e R s m args below meth c H locs cells slots Q (F0 m (pc + 3) ls (.ref r :: rest))) : W p l e R s m args below meth c H locs cells slots Q (F0 m pc ls (.ref a :: rest)) :=
  y_getr C hW ha i_X1 (by decide) rfl (by decide) m_130 rfl rfl hr hdg kk
theorem gf_X2_223 {a r : Nat} (C : Cx X p s m args meth c RX2 cc nL rt mn) (hW : Wx X h H) (ha : hK h a = 1) (hr : hR h a 18 = some r) (hdg : decode cc pc = .ok (.getfield 223, 3)) (kk : hK h r = 17 → W p l e R s m args below meth c H locs cells slots Q (F0 m (pc + 3) ls (.ref r :: rest))) : W p l e R s m args below meth c H locs cells slots Q (F0 m pc ls (.ref a :: rest)) :=
  y_getr C hW ha i_X1 (by decide) rfl (by decide) m_134 rfl rfl hr hdg kk
end
theorem cw_X2_210 : cwd RX2 210 yX2_toldMan cX2_toldMan 2 (some .int) false 0 := ⟨m_738, m_735, m_5, ⟨m_737, ms_12⟩, by decide, by decide, by decide +kernel⟩
theorem cw_X2_213 : cwd RX2 213 yX1_becomesOthers cX1_becomesOthers 2 (some .boolean) false 1 := ⟨m_742, m_739, m_4, ⟨m_740, m_741⟩, by decide, by decide, by decide +kernel⟩
theorem dX2_takeBecomes_0 : decode cX2_takeBecomes 0 = .ok (.aload_n 0, 1) := by decide +kernel
theorem dX2_takeBecomes_1 : decode cX2_takeBecomes 1 = .ok (.invokevirtual 31, 3) := by decide +kernel
theorem dX2_takeBecomes_4 : decode cX2_takeBecomes 4 = .ok (.aload_n 0, 1) := by decide +kernel
theorem dX2_takeBecomes_5 : decode cX2_takeBecomes 5 = .ok (.invokevirtual 210, 3) := by decide +kernel
theorem dX2_takeBecomes_8 : decode cX2_takeBecomes 8 = .ok (.istore_n 1, 1) := by decide +kernel
theorem dX2_takeBecomes_9 : decode cX2_takeBecomes 9 = .ok (.iload_n 1, 1) := by decide +kernel
theorem dX2_takeBecomes_10 : decode cX2_takeBecomes 10 = .ok (.iconst (-1), 1) := by decide +kernel
theorem dX2_takeBecomes_11 : decode cX2_takeBecomes 11 = .ok (.if_icmp .eq 39, 3) := by decide +kernel
theorem dX2_takeBecomes_14 : decode cX2_takeBecomes 14 = .ok (.iload_n 1, 1) := by decide +kernel
theorem dX2_takeBecomes_15 : decode cX2_takeBecomes 15 = .ok (.aload_n 0, 1) := by decide +kernel
theorem dX2_takeBecomes_16 : decode cX2_takeBecomes 16 = .ok (.getfield 15, 3) := by decide +kernel
theorem dX2_takeBecomes_19 : decode cX2_takeBecomes 19 = .ok (.getfield 115, 3) := by decide +kernel
theorem dX2_takeBecomes_22 : decode cX2_takeBecomes 22 = .ok (.if_icmp .eq 28, 3) := by decide +kernel
theorem dX2_takeBecomes_25 : decode cX2_takeBecomes 25 = .ok (.aload_n 0, 1) := by decide +kernel
theorem dX2_takeBecomes_26 : decode cX2_takeBecomes 26 = .ok (.getfield 15, 3) := by decide +kernel
theorem dX2_takeBecomes_29 : decode cX2_takeBecomes 29 = .ok (.iload_n 1, 1) := by decide +kernel
theorem dX2_takeBecomes_30 : decode cX2_takeBecomes 30 = .ok (.invokevirtual 213, 3) := by decide +kernel
theorem dX2_takeBecomes_33 : decode cX2_takeBecomes 33 = .ok (.ifCond .ne 17, 3) := by decide +kernel
theorem dX2_takeBecomes_36 : decode cX2_takeBecomes 36 = .ok (.aload_n 0, 1) := by decide +kernel
theorem dX2_takeBecomes_37 : decode cX2_takeBecomes 37 = .ok (.getfield 15, 3) := by decide +kernel
theorem dX2_takeBecomes_40 : decode cX2_takeBecomes 40 = .ok (.getfield 216, 3) := by decide +kernel
theorem dX2_takeBecomes_43 : decode cX2_takeBecomes 43 = .ok (.iload_n 1, 1) := by decide +kernel
theorem dX2_takeBecomes_44 : decode cX2_takeBecomes 44 = .ok (.ishr, 1) := by decide +kernel
theorem dX2_takeBecomes_45 : decode cX2_takeBecomes 45 = .ok (.iconst 1, 1) := by decide +kernel
theorem dX2_takeBecomes_46 : decode cX2_takeBecomes 46 = .ok (.iand, 1) := by decide +kernel
theorem dX2_takeBecomes_47 : decode cX2_takeBecomes 47 = .ok (.ifCond .eq 5, 3) := by decide +kernel
theorem dX2_takeBecomes_50 : decode cX2_takeBecomes 50 = .ok (.iconst 0, 1) := by decide +kernel
theorem dX2_takeBecomes_51 : decode cX2_takeBecomes 51 = .ok (.ireturn, 1) := by decide +kernel
theorem dX2_takeBecomes_52 : decode cX2_takeBecomes 52 = .ok (.aload_n 0, 1) := by decide +kernel
theorem dX2_takeBecomes_53 : decode cX2_takeBecomes 53 = .ok (.invokevirtual 31, 3) := by decide +kernel
theorem dX2_takeBecomes_56 : decode cX2_takeBecomes 56 = .ok (.iconst 0, 1) := by decide +kernel
theorem dX2_takeBecomes_57 : decode cX2_takeBecomes 57 = .ok (.istore_n 2, 1) := by decide +kernel
theorem dX2_takeBecomes_58 : decode cX2_takeBecomes 58 = .ok (.iconst 0, 1) := by decide +kernel
theorem dX2_takeBecomes_59 : decode cX2_takeBecomes 59 = .ok (.istore_n 3, 1) := by decide +kernel
theorem dX2_takeBecomes_60 : decode cX2_takeBecomes 60 = .ok (.iload_n 3, 1) := by decide +kernel
theorem dX2_takeBecomes_61 : decode cX2_takeBecomes 61 = .ok (.bipush 6, 2) := by decide +kernel
theorem dX2_takeBecomes_63 : decode cX2_takeBecomes 63 = .ok (.if_icmp .ge 115, 3) := by decide +kernel
theorem dX2_takeBecomes_66 : decode cX2_takeBecomes 66 = .ok (.iload_n 3, 1) := by decide +kernel
theorem dX2_takeBecomes_67 : decode cX2_takeBecomes 67 = .ok (.ifCond .eq 11, 3) := by decide +kernel
theorem dX2_takeBecomes_70 : decode cX2_takeBecomes 70 = .ok (.aload_n 0, 1) := by decide +kernel
theorem dX2_takeBecomes_71 : decode cX2_takeBecomes 71 = .ok (.getfield 38, 3) := by decide +kernel
theorem dX2_takeBecomes_74 : decode cX2_takeBecomes 74 = .ok (.iconst 1, 1) := by decide +kernel
theorem dX2_takeBecomes_75 : decode cX2_takeBecomes 75 = .ok (.if_icmp .ne 103, 3) := by decide +kernel
theorem dX2_takeBecomes_78 : decode cX2_takeBecomes 78 = .ok (.aload_n 0, 1) := by decide +kernel
theorem dX2_takeBecomes_79 : decode cX2_takeBecomes 79 = .ok (.invokevirtual 210, 3) := by decide +kernel
theorem dX2_takeBecomes_82 : decode cX2_takeBecomes 82 = .ok (.istore 4, 2) := by decide +kernel
theorem dX2_takeBecomes_84 : decode cX2_takeBecomes 84 = .ok (.iload 4, 2) := by decide +kernel
theorem dX2_takeBecomes_86 : decode cX2_takeBecomes 86 = .ok (.iconst (-1), 1) := by decide +kernel
theorem dX2_takeBecomes_87 : decode cX2_takeBecomes 87 = .ok (.if_icmp .eq 21, 3) := by decide +kernel
theorem dX2_takeBecomes_90 : decode cX2_takeBecomes 90 = .ok (.iload 4, 2) := by decide +kernel
theorem dX2_takeBecomes_92 : decode cX2_takeBecomes 92 = .ok (.iload_n 1, 1) := by decide +kernel
theorem dX2_takeBecomes_93 : decode cX2_takeBecomes 93 = .ok (.if_icmp .eq 15, 3) := by decide +kernel
theorem dX2_takeBecomes_96 : decode cX2_takeBecomes 96 = .ok (.iload 4, 2) := by decide +kernel
theorem dX2_takeBecomes_98 : decode cX2_takeBecomes 98 = .ok (.aload_n 0, 1) := by decide +kernel
theorem dX2_takeBecomes_99 : decode cX2_takeBecomes 99 = .ok (.getfield 15, 3) := by decide +kernel
theorem dX2_takeBecomes_102 : decode cX2_takeBecomes 102 = .ok (.getfield 115, 3) := by decide +kernel
theorem dX2_takeBecomes_105 : decode cX2_takeBecomes 105 = .ok (.if_icmp .ne 5, 3) := by decide +kernel
theorem dX2_takeBecomes_108 : decode cX2_takeBecomes 108 = .ok (.iconst 0, 1) := by decide +kernel
theorem dX2_takeBecomes_109 : decode cX2_takeBecomes 109 = .ok (.ireturn, 1) := by decide +kernel
theorem dX2_takeBecomes_110 : decode cX2_takeBecomes 110 = .ok (.aload_n 0, 1) := by decide +kernel
theorem dX2_takeBecomes_111 : decode cX2_takeBecomes 111 = .ok (.getfield 15, 3) := by decide +kernel
theorem dX2_takeBecomes_114 : decode cX2_takeBecomes 114 = .ok (.iload 4, 2) := by decide +kernel
theorem dX2_takeBecomes_116 : decode cX2_takeBecomes 116 = .ok (.invokevirtual 213, 3) := by decide +kernel
theorem dX2_takeBecomes_119 : decode cX2_takeBecomes 119 = .ok (.ifCond .ne 12, 3) := by decide +kernel
theorem dX2_takeBecomes_122 : decode cX2_takeBecomes 122 = .ok (.iload_n 2, 1) := by decide +kernel
theorem dX2_takeBecomes_123 : decode cX2_takeBecomes 123 = .ok (.iload 4, 2) := by decide +kernel
theorem dX2_takeBecomes_125 : decode cX2_takeBecomes 125 = .ok (.ishr, 1) := by decide +kernel
theorem dX2_takeBecomes_126 : decode cX2_takeBecomes 126 = .ok (.iconst 1, 1) := by decide +kernel
theorem dX2_takeBecomes_127 : decode cX2_takeBecomes 127 = .ok (.iand, 1) := by decide +kernel
theorem dX2_takeBecomes_128 : decode cX2_takeBecomes 128 = .ok (.ifCond .eq 5, 3) := by decide +kernel
theorem dX2_takeBecomes_131 : decode cX2_takeBecomes 131 = .ok (.iconst 0, 1) := by decide +kernel
theorem dX2_takeBecomes_132 : decode cX2_takeBecomes 132 = .ok (.ireturn, 1) := by decide +kernel
theorem dX2_takeBecomes_133 : decode cX2_takeBecomes 133 = .ok (.iload_n 2, 1) := by decide +kernel
theorem dX2_takeBecomes_134 : decode cX2_takeBecomes 134 = .ok (.iconst 1, 1) := by decide +kernel
theorem dX2_takeBecomes_135 : decode cX2_takeBecomes 135 = .ok (.iload 4, 2) := by decide +kernel
theorem dX2_takeBecomes_137 : decode cX2_takeBecomes 137 = .ok (.ishl, 1) := by decide +kernel
theorem dX2_takeBecomes_138 : decode cX2_takeBecomes 138 = .ok (.ior, 1) := by decide +kernel
theorem dX2_takeBecomes_139 : decode cX2_takeBecomes 139 = .ok (.istore_n 2, 1) := by decide +kernel
theorem dX2_takeBecomes_140 : decode cX2_takeBecomes 140 = .ok (.aload_n 0, 1) := by decide +kernel
theorem dX2_takeBecomes_141 : decode cX2_takeBecomes 141 = .ok (.getfield 15, 3) := by decide +kernel
theorem dX2_takeBecomes_144 : decode cX2_takeBecomes 144 = .ok (.getfield 221, 3) := by decide +kernel
theorem dX2_takeBecomes_147 : decode cX2_takeBecomes 147 = .ok (.iload_n 1, 1) := by decide +kernel
theorem dX2_takeBecomes_148 : decode cX2_takeBecomes 148 = .ok (.bipush 6, 2) := by decide +kernel
theorem dX2_takeBecomes_150 : decode cX2_takeBecomes 150 = .ok (.imul, 1) := by decide +kernel
theorem dX2_takeBecomes_151 : decode cX2_takeBecomes 151 = .ok (.iload_n 3, 1) := by decide +kernel
theorem dX2_takeBecomes_152 : decode cX2_takeBecomes 152 = .ok (.iadd, 1) := by decide +kernel
theorem dX2_takeBecomes_153 : decode cX2_takeBecomes 153 = .ok (.iload 4, 2) := by decide +kernel
theorem dX2_takeBecomes_155 : decode cX2_takeBecomes 155 = .ok (.iastore, 1) := by decide +kernel
theorem dX2_takeBecomes_156 : decode cX2_takeBecomes 156 = .ok (.aload_n 0, 1) := by decide +kernel
theorem dX2_takeBecomes_157 : decode cX2_takeBecomes 157 = .ok (.getfield 15, 3) := by decide +kernel
theorem dX2_takeBecomes_160 : decode cX2_takeBecomes 160 = .ok (.getfield 223, 3) := by decide +kernel
theorem dX2_takeBecomes_163 : decode cX2_takeBecomes 163 = .ok (.iload_n 1, 1) := by decide +kernel
theorem dX2_takeBecomes_164 : decode cX2_takeBecomes 164 = .ok (.iload_n 3, 1) := by decide +kernel
theorem dX2_takeBecomes_165 : decode cX2_takeBecomes 165 = .ok (.iconst 1, 1) := by decide +kernel
theorem dX2_takeBecomes_166 : decode cX2_takeBecomes 166 = .ok (.iadd, 1) := by decide +kernel
theorem dX2_takeBecomes_167 : decode cX2_takeBecomes 167 = .ok (.iastore, 1) := by decide +kernel
theorem dX2_takeBecomes_168 : decode cX2_takeBecomes 168 = .ok (.aload_n 0, 1) := by decide +kernel
theorem dX2_takeBecomes_169 : decode cX2_takeBecomes 169 = .ok (.invokevirtual 31, 3) := by decide +kernel
theorem dX2_takeBecomes_172 : decode cX2_takeBecomes 172 = .ok (.iinc 3 1, 3) := by decide +kernel
theorem dX2_takeBecomes_175 : decode cX2_takeBecomes 175 = .ok (.goto (-115), 3) := by decide +kernel
theorem dX2_takeBecomes_178 : decode cX2_takeBecomes 178 = .ok (.aload_n 0, 1) := by decide +kernel
theorem dX2_takeBecomes_179 : decode cX2_takeBecomes 179 = .ok (.getfield 15, 3) := by decide +kernel
theorem dX2_takeBecomes_182 : decode cX2_takeBecomes 182 = .ok (.dup, 1) := by decide +kernel
theorem dX2_takeBecomes_183 : decode cX2_takeBecomes 183 = .ok (.getfield 216, 3) := by decide +kernel
theorem dX2_takeBecomes_186 : decode cX2_takeBecomes 186 = .ok (.iload_n 2, 1) := by decide +kernel
theorem dX2_takeBecomes_187 : decode cX2_takeBecomes 187 = .ok (.ior, 1) := by decide +kernel
theorem dX2_takeBecomes_188 : decode cX2_takeBecomes 188 = .ok (.putfield 216, 3) := by decide +kernel
theorem dX2_takeBecomes_191 : decode cX2_takeBecomes 191 = .ok (.aload_n 0, 1) := by decide +kernel
theorem dX2_takeBecomes_192 : decode cX2_takeBecomes 192 = .ok (.getfield 15, 3) := by decide +kernel
theorem dX2_takeBecomes_195 : decode cX2_takeBecomes 195 = .ok (.aload_n 0, 1) := by decide +kernel
theorem dX2_takeBecomes_196 : decode cX2_takeBecomes 196 = .ok (.getfield 15, 3) := by decide +kernel
theorem dX2_takeBecomes_199 : decode cX2_takeBecomes 199 = .ok (.getfield 226, 3) := by decide +kernel
theorem dX2_takeBecomes_202 : decode cX2_takeBecomes 202 = .ok (.iconst (-1), 1) := by decide +kernel
theorem dX2_takeBecomes_203 : decode cX2_takeBecomes 203 = .ok (.if_icmp .ne 7, 3) := by decide +kernel
theorem dX2_takeBecomes_206 : decode cX2_takeBecomes 206 = .ok (.iload_n 1, 1) := by decide +kernel
theorem dX2_takeBecomes_207 : decode cX2_takeBecomes 207 = .ok (.goto 10, 3) := by decide +kernel
theorem dX2_takeBecomes_210 : decode cX2_takeBecomes 210 = .ok (.aload_n 0, 1) := by decide +kernel
theorem dX2_takeBecomes_211 : decode cX2_takeBecomes 211 = .ok (.getfield 15, 3) := by decide +kernel
theorem dX2_takeBecomes_214 : decode cX2_takeBecomes 214 = .ok (.getfield 226, 3) := by decide +kernel
theorem dX2_takeBecomes_217 : decode cX2_takeBecomes 217 = .ok (.putfield 226, 3) := by decide +kernel
theorem dX2_takeBecomes_220 : decode cX2_takeBecomes 220 = .ok (.iconst 1, 1) := by decide +kernel
theorem dX2_takeBecomes_221 : decode cX2_takeBecomes 221 = .ok (.ireturn, 1) := by decide +kernel
def sX2_takeBecomes_50 (F : Nat) (h : Hp) : Option (Int32 × Hp) := some ((0 : Int32), h)
def sX2_takeBecomes_217 (F : Nat) (h : Hp) (t0 : Int32) (t1 : Nat) : Option (Int32 × Hp) := nm (wI h t1 5 t0) fun h_1 => some ((1 : Int32), h_1)
def sX2_takeBecomes_178 (F : Nat) (h : Hp) (x0 : Nat) (x1 : Int32) (x2 : Int32) : Option (Int32 × Hp) := cl (hR h x0 1) fun r_1 => nm (wI h r_1 12 ((hI h r_1 12) ||| x2)) fun h_2 => cl (hR h_2 x0 1) fun r_3 => cl (hR h_2 x0 1) fun r_4 => br ((hI h_2 r_4 5) = (-1 : Int32)) (sX2_takeBecomes_217 F h_2 x1 r_3) (cl (hR h_2 x0 1) fun r_6 => sX2_takeBecomes_217 F h_2 (hI h_2 r_6 5) r_3)
def sX2_takeBecomes_108 (F : Nat) (h : Hp) : Option (Int32 × Hp) := some ((0 : Int32), h)
def sX2_takeBecomes_131 (F : Nat) (h : Hp) : Option (Int32 × Hp) := some ((0 : Int32), h)
def sX2_takeBecomes_78 (F : Nat) (k_60 : Hp → Nat → Int32 → Int32 → Int32 → Option (Int32 × Hp)) (h : Hp) (x0 : Nat) (x1 : Int32) (x2 : Int32) (x3 : Int32) : Option (Int32 × Hp) := cl (sX2_toldMan F h x0) fun o_1 => br (o_1.1 = (-1 : Int32)) (sX2_takeBecomes_108 F o_1.2 ) (br (o_1.1 = x1) (sX2_takeBecomes_108 F o_1.2 ) (cl (hR o_1.2 x0 1) fun r_4 => br (o_1.1 = (hI o_1.2 r_4 4)) (sX2_takeBecomes_108 F o_1.2 ) (cl (hR o_1.2 x0 1) fun r_6 => cl (sX1_becomesOthers o_1.2 r_6 o_1.1) fun o_7 => br (o_7.1 = 0) (br (((x2 >>> (o_1.1 &&& 31)) &&& (1 : Int32)) = 0) (nm (x2 ||| ((1 : Int32) <<< (o_1.1 &&& 31))) fun v_10 => cl (hR o_7.2 x0 1) fun r_11 => cl (hR o_7.2 r_11 17) fun r_12 => gd (inB ((x1 * (6 : Int32)) + x3) (hN o_7.2 r_12)) <| nm (wI o_7.2 r_12 ((x1 * (6 : Int32)) + x3).toNatClampNeg o_1.1) fun h_14 => cl (hR h_14 x0 1) fun r_15 => cl (hR h_14 r_15 18) fun r_16 => gd (inB x1 (hN h_14 r_16)) <| nm (wI h_14 r_16 x1.toNatClampNeg (x3 + (1 : Int32))) fun h_18 => cl (sX2_advance F h_18 x0) fun o_19 => nm (x3 + (1 : Int32)) fun v_20 => k_60 o_19 x0 x1 v_10 v_20) (sX2_takeBecomes_131 F o_7.2 )) (sX2_takeBecomes_131 F o_7.2 ))))
def sX2_takeBecomes_60 (F : Nat) : Nat → Hp → Nat → Int32 → Int32 → Int32 → Option (Int32 × Hp)
  | 0, _, _, _, _, _ => none
  | f + 1, h, x0, x1, x2, x3 => br ((6 : Int32) ≤ x3) (sX2_takeBecomes_178 F h x0 x1 x2) (br (x3 = 0) (sX2_takeBecomes_78 F (sX2_takeBecomes_60 F f) h x0 x1 x2 x3) (br ((hI h x0 4) = (1 : Int32)) (sX2_takeBecomes_78 F (sX2_takeBecomes_60 F f) h x0 x1 x2 x3) (sX2_takeBecomes_178 F h x0 x1 x2)))
def sX2_takeBecomes (F : Nat) (h : Hp) (x0 : Nat) : Option (Int32 × Hp) := cl (sX2_advance F h x0) fun o_1 => cl (sX2_toldMan F o_1 x0) fun o_2 => br (o_2.1 = (-1 : Int32)) (sX2_takeBecomes_50 F o_2.2 ) (cl (hR o_2.2 x0 1) fun r_4 => br (o_2.1 = (hI o_2.2 r_4 4)) (sX2_takeBecomes_50 F o_2.2 ) (cl (hR o_2.2 x0 1) fun r_6 => cl (sX1_becomesOthers o_2.2 r_6 o_2.1) fun o_7 => br (o_7.1 = 0) (cl (hR o_7.2 x0 1) fun r_9 => br ((((hI o_7.2 r_9 12) >>> (o_2.1 &&& 31)) &&& (1 : Int32)) = 0) (cl (sX2_advance F o_7.2 x0) fun o_11 => sX2_takeBecomes_60 F F o_11 x0 o_2.1 (0 : Int32) (0 : Int32)) (sX2_takeBecomes_50 F o_7.2 )) (sX2_takeBecomes_50 F o_7.2 )))
set_option maxRecDepth 20000 in
theorem moX2_takeBecomes_50 {o : Int32 × Hp} {F : Nat} {h : Hp} (hE : sX2_takeBecomes_50 F h  = some o) : Le h o.2 := by
  exact le_some2 hE
set_option maxRecDepth 20000 in
theorem moX2_takeBecomes_217 {o : Int32 × Hp} {F : Nat} {h : Hp} {t0 : Int32} {t1 : Nat} (hE : sX2_takeBecomes_217 F h  t0 t1 = some o) : Le h o.2 := by
  obtain ⟨h_1, eh_1, hE⟩ := nm_e2 hE
  refine (le_I eh_1).tr ?_
  exact le_some2 hE
set_option maxRecDepth 20000 in
theorem moX2_takeBecomes_178 {o : Int32 × Hp} {F : Nat} {h : Hp} {x0 : Nat} {x1 : Int32} {x2 : Int32} (hE : sX2_takeBecomes_178 F h x0 x1 x2 = some o) : Le h o.2 := by
  obtain ⟨r_1, er_1, hE⟩ := cl_e hE
  obtain ⟨h_2, eh_2, hE⟩ := nm_e2 hE
  refine (le_I eh_2).tr ?_
  obtain ⟨r_3, er_3, hE⟩ := cl_e hE
  obtain ⟨r_4, er_4, hE⟩ := cl_e hE
  rcases br_e hE with ⟨_, hE⟩ | ⟨_, hE⟩
  · exact moX2_takeBecomes_217 hE
  · obtain ⟨r_6, er_6, hE⟩ := cl_e hE
    exact moX2_takeBecomes_217 hE
set_option maxRecDepth 20000 in
theorem moX2_takeBecomes_108 {o : Int32 × Hp} {F : Nat} {h : Hp} (hE : sX2_takeBecomes_108 F h  = some o) : Le h o.2 := by
  exact le_some2 hE
set_option maxRecDepth 20000 in
theorem moX2_takeBecomes_131 {o : Int32 × Hp} {F : Nat} {h : Hp} (hE : sX2_takeBecomes_131 F h  = some o) : Le h o.2 := by
  exact le_some2 hE
set_option maxRecDepth 20000 in
theorem moX2_takeBecomes_78 {o : Int32 × Hp} {k_60 : Hp → Nat → Int32 → Int32 → Int32 → Option (Int32 × Hp)} {F : Nat} (mk_60 : ∀ (h : Hp) (x0 : Nat) (x1 : Int32) (x2 : Int32) (x3 : Int32), k_60 h x0 x1 x2 x3 = some o → Le h o.2) {h : Hp} {x0 : Nat} {x1 : Int32} {x2 : Int32} {x3 : Int32} (hE : sX2_takeBecomes_78 F k_60 h x0 x1 x2 x3 = some o) : Le h o.2 := by
  obtain ⟨o_1, eo_1, hE⟩ := cl_e hE
  refine (moX2_toldMan eo_1).tr ?_
  rcases br_e hE with ⟨_, hE⟩ | ⟨_, hE⟩
  · exact moX2_takeBecomes_108 hE
  · rcases br_e hE with ⟨_, hE⟩ | ⟨_, hE⟩
    · exact moX2_takeBecomes_108 hE
    · obtain ⟨r_4, er_4, hE⟩ := cl_e hE
      rcases br_e hE with ⟨_, hE⟩ | ⟨_, hE⟩
      · exact moX2_takeBecomes_108 hE
      · obtain ⟨r_6, er_6, hE⟩ := cl_e hE
        obtain ⟨o_7, eo_7, hE⟩ := cl_e hE
        refine (moX1_becomesOthers eo_7).tr ?_
        rcases br_e hE with ⟨_, hE⟩ | ⟨_, hE⟩
        · rcases br_e hE with ⟨_, hE⟩ | ⟨_, hE⟩
          · obtain ⟨v_10, ev_10, hE⟩ := nm_e2 hE
            obtain ⟨r_11, er_11, hE⟩ := cl_e hE
            obtain ⟨r_12, er_12, hE⟩ := cl_e hE
            obtain ⟨g_13, hE⟩ := gd_e hE
            obtain ⟨h_14, eh_14, hE⟩ := nm_e2 hE
            refine (le_I eh_14).tr ?_
            obtain ⟨r_15, er_15, hE⟩ := cl_e hE
            obtain ⟨r_16, er_16, hE⟩ := cl_e hE
            obtain ⟨g_17, hE⟩ := gd_e hE
            obtain ⟨h_18, eh_18, hE⟩ := nm_e2 hE
            refine (le_I eh_18).tr ?_
            obtain ⟨o_19, eo_19, hE⟩ := cl_e hE
            refine (moX2_advance eo_19).tr ?_
            obtain ⟨v_20, ev_20, hE⟩ := nm_e2 hE
            exact mk_60 _ _ _ _ _ hE
          · exact moX2_takeBecomes_131 hE
        · exact moX2_takeBecomes_131 hE
set_option maxRecDepth 20000 in
theorem moX2_takeBecomes_60 {o : Int32 × Hp} {F : Nat} : ∀ (f : Nat) {h : Hp} {x0 : Nat} {x1 : Int32} {x2 : Int32} {x3 : Int32}, sX2_takeBecomes_60 F f h x0 x1 x2 x3 = some o → Le h o.2 := by
  intro f
  induction f with
  | zero =>
    intro h x0 x1 x2 x3 hE
    rw [sX2_takeBecomes_60] at hE
    cases hE
  | succ f ih =>
    intro h x0 x1 x2 x3 hE
    rw [sX2_takeBecomes_60] at hE
    have mk_60 : ∀ (h : Hp) (x0 : Nat) (x1 : Int32) (x2 : Int32) (x3 : Int32), sX2_takeBecomes_60 F f h x0 x1 x2 x3 = some o → Le h o.2 := fun h x0 x1 x2 x3 hE => ih hE
    rcases br_e hE with ⟨_, hE⟩ | ⟨_, hE⟩
    · exact moX2_takeBecomes_178 hE
    · rcases br_e hE with ⟨_, hE⟩ | ⟨_, hE⟩
      · exact moX2_takeBecomes_78 mk_60 hE
      · rcases br_e hE with ⟨_, hE⟩ | ⟨_, hE⟩
        · exact moX2_takeBecomes_78 mk_60 hE
        · exact moX2_takeBecomes_178 hE
set_option maxRecDepth 20000 in
theorem moX2_takeBecomes {o : Int32 × Hp} {F : Nat} {h : Hp} {x0 : Nat} (hE : sX2_takeBecomes F h x0 = some o) : Le h o.2 := by
  obtain ⟨o_1, eo_1, hE⟩ := cl_e hE
  refine (moX2_advance eo_1).tr ?_
  obtain ⟨o_2, eo_2, hE⟩ := cl_e hE
  refine (moX2_toldMan eo_2).tr ?_
  rcases br_e hE with ⟨_, hE⟩ | ⟨_, hE⟩
  · exact moX2_takeBecomes_50 hE
  · obtain ⟨r_4, er_4, hE⟩ := cl_e hE
    rcases br_e hE with ⟨_, hE⟩ | ⟨_, hE⟩
    · exact moX2_takeBecomes_50 hE
    · obtain ⟨r_6, er_6, hE⟩ := cl_e hE
      obtain ⟨o_7, eo_7, hE⟩ := cl_e hE
      refine (moX1_becomesOthers eo_7).tr ?_
      rcases br_e hE with ⟨_, hE⟩ | ⟨_, hE⟩
      · obtain ⟨r_9, er_9, hE⟩ := cl_e hE
        rcases br_e hE with ⟨_, hE⟩ | ⟨_, hE⟩
        · obtain ⟨o_11, eo_11, hE⟩ := cl_e hE
          refine (moX2_advance eo_11).tr ?_
          exact moX2_takeBecomes_60 _ hE
        · exact moX2_takeBecomes_50 hE
      · exact moX2_takeBecomes_50 hE
set_option maxRecDepth 20000 in
theorem bX2_takeBecomes_50 {p : Program} {l : Launch} {e : Env} {s : State} {m : MethodId} {args : Array Value} {below : List Frame} {meth : Method} {c : Code} {X : Ec} {h0 : Hp} {o : Int32 × Hp} {F : Nat} (C : Cx X p s m args meth c RX2 cX2_takeBecomes 5 (some .boolean) "takeBecomes") {h : Hp} {H : Heap} {locs : List Loc} (hkm : Km h0 h) (hW : Wx X h H) (hZ : va_S (aA (eB X)) s.heap H locs) (ls : Array Slot) (hl : lv_has ls 5 []) (hE : sX2_takeBecomes_50 F h  = some o) : W p l e (rm 3 63) s m args below meth c H locs 0 0 (MQ below (QI X h0 o.1 o.2) args s 0 0 (aA (eB X))) (F0 m 50 ls []) := by
  refine lv_iconst (v := (0 : Int32)) C.1 C.2.1 dX2_takeBecomes_50 (by decide) ?_
  exact x_iret C rfl (by decide) hW hZ hkm hE dX2_takeBecomes_51
set_option maxRecDepth 20000 in
theorem bX2_takeBecomes_217 {p : Program} {l : Launch} {e : Env} {s : State} {m : MethodId} {args : Array Value} {below : List Frame} {meth : Method} {c : Code} {X : Ec} {h0 : Hp} {o : Int32 × Hp} {F : Nat} (C : Cx X p s m args meth c RX2 cX2_takeBecomes 5 (some .boolean) "takeBecomes") {h : Hp} {t0 : Int32} {t1 : Nat} {H : Heap} {locs : List Loc} (k_t1 : hK h t1 = 1) (hkm : Km h0 h) (hW : Wx X h H) (hZ : va_S (aA (eB X)) s.heap H locs) (ls : Array Slot) (hl : lv_has ls 5 []) (hE : sX2_takeBecomes_217 F h  t0 t1 = some o) : W p l e (rm 3 63) s m args below meth c H locs 0 0 (MQ below (QI X h0 o.1 o.2) args s 0 0 (aA (eB X))) (F0 m 217 ls [.int t0, .ref t1]) := by
  obtain ⟨h_1, eh_1, hE⟩ := nm_e2 hE
  refine pf_X2_226 C hW hZ k_t1 eh_1 dX2_takeBecomes_217 (fun _ _ hW km hZ => ?_)
  replace hkm := hkm.tr km
  refine lv_iconst (v := (1 : Int32)) C.1 C.2.1 dX2_takeBecomes_220 (by decide) ?_
  exact x_iret C rfl (by decide) hW hZ hkm hE dX2_takeBecomes_221
set_option maxRecDepth 20000 in
theorem bX2_takeBecomes_178 {p : Program} {l : Launch} {e : Env} {s : State} {m : MethodId} {args : Array Value} {below : List Frame} {meth : Method} {c : Code} {X : Ec} {h0 : Hp} {o : Int32 × Hp} {F : Nat} (C : Cx X p s m args meth c RX2 cX2_takeBecomes 5 (some .boolean) "takeBecomes") {h : Hp} {x0 : Nat} {x1 : Int32} {x2 : Int32} {H : Heap} {locs : List Loc} (k_x0 : hK h x0 = 2) (hkm : Km h0 h) (hW : Wx X h H) (hZ : va_S (aA (eB X)) s.heap H locs) (ls : Array Slot) (hl : lv_has ls 5 [(0, .ref x0), (1, .int x1), (2, .int x2)]) (hE : sX2_takeBecomes_178 F h x0 x1 x2 = some o) : W p l e (rm 3 63) s m args below meth c H locs 0 0 (MQ below (QI X h0 o.1 o.2) args s 0 0 (aA (eB X))) (F0 m 178 ls []) := by
  refine lv_aload_n C.1 C.2.1 dX2_takeBecomes_178 rfl (lv_at hl 0 rfl) ?_
  obtain ⟨r_1, er_1, hE⟩ := cl_e hE
  refine gf_X2_15 C hW k_x0 er_1 dX2_takeBecomes_179 (fun k_r_1 => ?_)
  refine lv_dup C.1 C.2.1 dX2_takeBecomes_182 rfl ?_
  refine gf_X2_216 C hW k_r_1 dX2_takeBecomes_183 ?_
  refine lv_iload_n C.1 C.2.1 dX2_takeBecomes_186 rfl (lv_at hl 2 rfl) ?_
  refine lv_ior C.1 C.2.1 dX2_takeBecomes_187 ?_
  obtain ⟨h_2, eh_2, hE⟩ := nm_e2 hE
  refine pf_X2_216 C hW hZ k_r_1 eh_2 dX2_takeBecomes_188 (fun _ _ hW km hZ => ?_)
  replace hkm := hkm.tr km
  replace k_x0 := km.at k_x0 (by decide)
  refine lv_aload_n C.1 C.2.1 dX2_takeBecomes_191 rfl (lv_at hl 0 rfl) ?_
  obtain ⟨r_3, er_3, hE⟩ := cl_e hE
  refine gf_X2_15 C hW k_x0 er_3 dX2_takeBecomes_192 (fun k_r_3 => ?_)
  refine lv_aload_n C.1 C.2.1 dX2_takeBecomes_195 rfl (lv_at hl 0 rfl) ?_
  obtain ⟨r_4, er_4, hE⟩ := cl_e hE
  refine gf_X2_15 C hW k_x0 er_4 dX2_takeBecomes_196 (fun k_r_4 => ?_)
  refine gf_X2_226 C hW k_r_4 dX2_takeBecomes_199 ?_
  refine lv_iconst (v := (-1 : Int32)) C.1 C.2.1 dX2_takeBecomes_202 (by decide) ?_
  refine lv_icmp_ne (tgt := 210) C.1 C.2.1 dX2_takeBecomes_203 (by decide) (fun c_5 => ?_) (fun c_5 => ?_)
  · have hE := br_n hE c_5
    refine lv_aload_n C.1 C.2.1 dX2_takeBecomes_210 rfl (lv_at hl 0 rfl) ?_
    obtain ⟨r_6, er_6, hE⟩ := cl_e hE
    refine gf_X2_15 C hW k_x0 er_6 dX2_takeBecomes_211 (fun k_r_6 => ?_)
    refine gf_X2_226 C hW k_r_6 dX2_takeBecomes_214 ?_
    exact bX2_takeBecomes_217 C k_r_3 hkm hW hZ _ (lv_sub hl [] rfl) hE
  · have hE := br_p hE c_5
    refine lv_iload_n C.1 C.2.1 dX2_takeBecomes_206 rfl (lv_at hl 1 rfl) ?_
    refine lv_goto (tgt := 217) C.1 C.2.1 dX2_takeBecomes_207 (by decide) ?_
    exact bX2_takeBecomes_217 C k_r_3 hkm hW hZ _ (lv_sub hl [] rfl) hE
set_option maxRecDepth 20000 in
theorem bX2_takeBecomes_108 {p : Program} {l : Launch} {e : Env} {s : State} {m : MethodId} {args : Array Value} {below : List Frame} {meth : Method} {c : Code} {X : Ec} {h0 : Hp} {o : Int32 × Hp} {F : Nat} (C : Cx X p s m args meth c RX2 cX2_takeBecomes 5 (some .boolean) "takeBecomes") {h : Hp} {H : Heap} {locs : List Loc} (hkm : Km h0 h) (hW : Wx X h H) (hZ : va_S (aA (eB X)) s.heap H locs) (ls : Array Slot) (hl : lv_has ls 5 []) (hE : sX2_takeBecomes_108 F h  = some o) : W p l e (rm 3 63) s m args below meth c H locs 0 0 (MQ below (QI X h0 o.1 o.2) args s 0 0 (aA (eB X))) (F0 m 108 ls []) := by
  refine lv_iconst (v := (0 : Int32)) C.1 C.2.1 dX2_takeBecomes_108 (by decide) ?_
  exact x_iret C rfl (by decide) hW hZ hkm hE dX2_takeBecomes_109
set_option maxRecDepth 20000 in
theorem bX2_takeBecomes_131 {p : Program} {l : Launch} {e : Env} {s : State} {m : MethodId} {args : Array Value} {below : List Frame} {meth : Method} {c : Code} {X : Ec} {h0 : Hp} {o : Int32 × Hp} {F : Nat} (C : Cx X p s m args meth c RX2 cX2_takeBecomes 5 (some .boolean) "takeBecomes") {h : Hp} {H : Heap} {locs : List Loc} (hkm : Km h0 h) (hW : Wx X h H) (hZ : va_S (aA (eB X)) s.heap H locs) (ls : Array Slot) (hl : lv_has ls 5 []) (hE : sX2_takeBecomes_131 F h  = some o) : W p l e (rm 3 63) s m args below meth c H locs 0 0 (MQ below (QI X h0 o.1 o.2) args s 0 0 (aA (eB X))) (F0 m 131 ls []) := by
  refine lv_iconst (v := (0 : Int32)) C.1 C.2.1 dX2_takeBecomes_131 (by decide) ?_
  exact x_iret C rfl (by decide) hW hZ hkm hE dX2_takeBecomes_132
set_option maxRecDepth 20000 in
theorem bX2_takeBecomes_78 {p : Program} {l : Launch} {e : Env} {s : State} {m : MethodId} {args : Array Value} {below : List Frame} {meth : Method} {c : Code} {X : Ec} {h0 : Hp} {o : Int32 × Hp} {k_60 : Hp → Nat → Int32 → Int32 → Int32 → Option (Int32 × Hp)} {F : Nat} (C : Cx X p s m args meth c RX2 cX2_takeBecomes 5 (some .boolean) "takeBecomes") (hk_60 : ∀ (h : Hp) (x0 : Nat) (x1 : Int32) (x2 : Int32) (x3 : Int32) (H : Heap) (locs : List Loc), hK h x0 = 2 → Km h0 h → Wx X h H → va_S (aA (eB X)) s.heap H locs → ∀ (ls : Array Slot), lv_has ls 5 [(0, .ref x0), (1, .int x1), (2, .int x2), (3, .int x3)] → k_60 h x0 x1 x2 x3 = some o → W p l e (rm 3 63) s m args below meth c H locs 0 0 (MQ below (QI X h0 o.1 o.2) args s 0 0 (aA (eB X))) (F0 m 60 ls [])) {h : Hp} {x0 : Nat} {x1 : Int32} {x2 : Int32} {x3 : Int32} {H : Heap} {locs : List Loc} (k_x0 : hK h x0 = 2) (hkm : Km h0 h) (hW : Wx X h H) (hZ : va_S (aA (eB X)) s.heap H locs) (ls : Array Slot) (hl : lv_has ls 5 [(0, .ref x0), (1, .int x1), (2, .int x2), (3, .int x3)]) (hE : sX2_takeBecomes_78 F k_60 h x0 x1 x2 x3 = some o) : W p l e (rm 3 63) s m args below meth c H locs 0 0 (MQ below (QI X h0 o.1 o.2) args s 0 0 (aA (eB X))) (F0 m 78 ls []) := by
  refine lv_aload_n C.1 C.2.1 dX2_takeBecomes_78 rfl (lv_at hl 0 rfl) ?_
  obtain ⟨o_1, eo_1, hE⟩ := cl_e hE
  refine x_kI (o := o_1) (z_runV (As := []) (rest := []) C (ct_X2_toldMan l X F k_x0 eo_1) cw_X2_210 hW hZ k_x0 (by decide) rfl rfl rfl hl.1 (Nat.le_of_ble_eq_true rfl) rfl dX2_takeBecomes_79 ⟨Nat.le_of_ble_eq_true rfl, Nat.le_of_ble_eq_true rfl⟩ ⟨Nat.le_refl _, Nat.le_refl _⟩) hZ (fun _ _ hW km hZ => ?_)
  replace hkm := hkm.tr km
  replace k_x0 := km.at k_x0 (by decide)
  refine lv_istore (lv' := [(4, .int o_1.1), (0, .ref x0), (1, .int x1), (2, .int x2), (3, .int x3)]) C.1 C.2.1 dX2_takeBecomes_82 hl (by decide) rfl (fun ls hl => ?_)
  refine lv_iload C.1 C.2.1 dX2_takeBecomes_84 (lv_at hl 0 rfl) ?_
  refine lv_iconst (v := (-1 : Int32)) C.1 C.2.1 dX2_takeBecomes_86 (by decide) ?_
  refine lv_icmp_eq (tgt := 108) C.1 C.2.1 dX2_takeBecomes_87 (by decide) (fun c_2 => ?_) (fun c_2 => ?_)
  · have hE := br_p hE c_2
    exact bX2_takeBecomes_108 C hkm hW hZ _ (lv_sub hl [] rfl) hE
  · have hE := br_n hE c_2
    refine lv_iload C.1 C.2.1 dX2_takeBecomes_90 (lv_at hl 0 rfl) ?_
    refine lv_iload_n C.1 C.2.1 dX2_takeBecomes_92 rfl (lv_at hl 2 rfl) ?_
    refine lv_icmp_eq (tgt := 108) C.1 C.2.1 dX2_takeBecomes_93 (by decide) (fun c_3 => ?_) (fun c_3 => ?_)
    · have hE := br_p hE c_3
      exact bX2_takeBecomes_108 C hkm hW hZ _ (lv_sub hl [] rfl) hE
    · have hE := br_n hE c_3
      refine lv_iload C.1 C.2.1 dX2_takeBecomes_96 (lv_at hl 0 rfl) ?_
      refine lv_aload_n C.1 C.2.1 dX2_takeBecomes_98 rfl (lv_at hl 1 rfl) ?_
      obtain ⟨r_4, er_4, hE⟩ := cl_e hE
      refine gf_X2_15 C hW k_x0 er_4 dX2_takeBecomes_99 (fun k_r_4 => ?_)
      refine gf_X2_115 C hW k_r_4 dX2_takeBecomes_102 ?_
      refine lv_icmp_ne (tgt := 110) C.1 C.2.1 dX2_takeBecomes_105 (by decide) (fun c_5 => ?_) (fun c_5 => ?_)
      · have hE := br_n hE c_5
        refine lv_aload_n C.1 C.2.1 dX2_takeBecomes_110 rfl (lv_at hl 1 rfl) ?_
        obtain ⟨r_6, er_6, hE⟩ := cl_e hE
        refine gf_X2_15 C hW k_x0 er_6 dX2_takeBecomes_111 (fun k_r_6 => ?_)
        refine lv_iload C.1 C.2.1 dX2_takeBecomes_114 (lv_at hl 0 rfl) ?_
        obtain ⟨o_7, eo_7, hE⟩ := cl_e hE
        refine x_kI (o := o_7) (z_runV (As := [.int o_1.1]) (rest := []) C (ct_X1_becomesOthers l X k_r_6 eo_7) cw_X2_213 hW hZ k_r_6 (by decide) rfl rfl rfl hl.1 (Nat.le_of_ble_eq_true rfl) rfl dX2_takeBecomes_116 ⟨Nat.le_of_ble_eq_true rfl, Nat.le_of_ble_eq_true rfl⟩ ⟨Nat.le_refl _, Nat.le_refl _⟩) hZ (fun _ _ hW km hZ => ?_)
        replace hkm := hkm.tr km
        replace k_x0 := km.at k_x0 (by decide)
        refine lv_if_ne (tgt := 131) C.1 C.2.1 dX2_takeBecomes_119 (by decide) (fun c_8 => ?_) (fun c_8 => ?_)
        · have hE := br_n hE c_8
          exact bX2_takeBecomes_131 C hkm hW hZ _ (lv_sub hl [] rfl) hE
        · have hE := br_p hE c_8
          refine lv_iload_n C.1 C.2.1 dX2_takeBecomes_122 rfl (lv_at hl 3 rfl) ?_
          refine lv_iload C.1 C.2.1 dX2_takeBecomes_123 (lv_at hl 0 rfl) ?_
          refine lv_ishr C.1 C.2.1 dX2_takeBecomes_125 ?_
          refine lv_iconst (v := (1 : Int32)) C.1 C.2.1 dX2_takeBecomes_126 (by decide) ?_
          refine lv_iand C.1 C.2.1 dX2_takeBecomes_127 ?_
          refine lv_if_eq (tgt := 133) C.1 C.2.1 dX2_takeBecomes_128 (by decide) (fun c_9 => ?_) (fun c_9 => ?_)
          · have hE := br_p hE c_9
            refine lv_iload_n C.1 C.2.1 dX2_takeBecomes_133 rfl (lv_at hl 3 rfl) ?_
            refine lv_iconst (v := (1 : Int32)) C.1 C.2.1 dX2_takeBecomes_134 (by decide) ?_
            refine lv_iload C.1 C.2.1 dX2_takeBecomes_135 (lv_at hl 0 rfl) ?_
            refine lv_ishl C.1 C.2.1 dX2_takeBecomes_137 ?_
            refine lv_ior C.1 C.2.1 dX2_takeBecomes_138 ?_
            obtain ⟨v_10, ev_10, hE⟩ := nm_e2 hE
            refine x_nmI ev_10 ?_
            refine lv_istore_n (lv' := [(2, .int v_10), (4, .int o_1.1), (0, .ref x0), (1, .int x1), (3, .int x3)]) C.1 C.2.1 dX2_takeBecomes_139 rfl hl (by decide) rfl (fun ls hl => ?_)
            refine lv_aload_n C.1 C.2.1 dX2_takeBecomes_140 rfl (lv_at hl 2 rfl) ?_
            obtain ⟨r_11, er_11, hE⟩ := cl_e hE
            refine gf_X2_15 C hW k_x0 er_11 dX2_takeBecomes_141 (fun k_r_11 => ?_)
            obtain ⟨r_12, er_12, hE⟩ := cl_e hE
            refine gf_X2_221 C hW k_r_11 er_12 dX2_takeBecomes_144 (fun k_r_12 => ?_)
            refine lv_iload_n C.1 C.2.1 dX2_takeBecomes_147 rfl (lv_at hl 3 rfl) ?_
            refine lv_bipush (v := (6 : Int32)) C.1 C.2.1 dX2_takeBecomes_148 (by decide) ?_
            refine lv_imul C.1 C.2.1 dX2_takeBecomes_150 ?_
            refine lv_iload_n C.1 C.2.1 dX2_takeBecomes_151 rfl (lv_at hl 4 rfl) ?_
            refine lv_iadd C.1 C.2.1 dX2_takeBecomes_152 ?_
            refine lv_iload C.1 C.2.1 dX2_takeBecomes_153 (lv_at hl 1 rfl) ?_
            obtain ⟨g_13, hE⟩ := gd_e hE
            obtain ⟨h_14, eh_14, hE⟩ := nm_e2 hE
            refine y_iast C hW hZ k_r_12 g_13 eh_14 dX2_takeBecomes_155 (fun _ _ hW km hZ => ?_)
            replace hkm := hkm.tr km
            replace k_x0 := km.at k_x0 (by decide)
            refine lv_aload_n C.1 C.2.1 dX2_takeBecomes_156 rfl (lv_at hl 2 rfl) ?_
            obtain ⟨r_15, er_15, hE⟩ := cl_e hE
            refine gf_X2_15 C hW k_x0 er_15 dX2_takeBecomes_157 (fun k_r_15 => ?_)
            obtain ⟨r_16, er_16, hE⟩ := cl_e hE
            refine gf_X2_223 C hW k_r_15 er_16 dX2_takeBecomes_160 (fun k_r_16 => ?_)
            refine lv_iload_n C.1 C.2.1 dX2_takeBecomes_163 rfl (lv_at hl 3 rfl) ?_
            refine lv_iload_n C.1 C.2.1 dX2_takeBecomes_164 rfl (lv_at hl 4 rfl) ?_
            refine lv_iconst (v := (1 : Int32)) C.1 C.2.1 dX2_takeBecomes_165 (by decide) ?_
            refine lv_iadd C.1 C.2.1 dX2_takeBecomes_166 ?_
            obtain ⟨g_17, hE⟩ := gd_e hE
            obtain ⟨h_18, eh_18, hE⟩ := nm_e2 hE
            refine y_iast C hW hZ k_r_16 g_17 eh_18 dX2_takeBecomes_167 (fun _ _ hW km hZ => ?_)
            replace hkm := hkm.tr km
            replace k_x0 := km.at k_x0 (by decide)
            refine lv_aload_n C.1 C.2.1 dX2_takeBecomes_168 rfl (lv_at hl 2 rfl) ?_
            obtain ⟨o_19, eo_19, hE⟩ := cl_e hE
            refine x_kV (o := o_19) (z_runV (As := []) (rest := []) C (ct_X2_advance l X F k_x0 eo_19) cw_X2_31 hW hZ k_x0 (by decide) rfl rfl rfl hl.1 (Nat.le_of_ble_eq_true rfl) rfl dX2_takeBecomes_169 ⟨Nat.le_of_ble_eq_true rfl, Nat.le_of_ble_eq_true rfl⟩ ⟨Nat.le_refl _, Nat.le_refl _⟩) hZ (fun _ _ hW km hZ => ?_)
            replace hkm := hkm.tr km
            replace k_x0 := km.at k_x0 (by decide)
            obtain ⟨v_20, ev_20, hE⟩ := nm_e2 hE
            refine lv_iinc (v := v_20) (lv' := [(3, .int v_20), (2, .int v_10), (4, .int o_1.1), (0, .ref x0), (1, .int x1)]) C.1 C.2.1 dX2_takeBecomes_172 hl (k := 4) rfl (by rw [ev_20]; rfl) (by decide) rfl (fun ls hl => ?_)
            refine lv_goto (tgt := 60) C.1 C.2.1 dX2_takeBecomes_175 (by decide) ?_
            exact hk_60 _ _ _ _ _ _ _ k_x0 hkm hW hZ _ (lv_sub hl [3, 4, 1, 0] rfl) hE
          · have hE := br_n hE c_9
            exact bX2_takeBecomes_131 C hkm hW hZ _ (lv_sub hl [] rfl) hE
      · have hE := br_p hE c_5
        exact bX2_takeBecomes_108 C hkm hW hZ _ (lv_sub hl [] rfl) hE
set_option maxRecDepth 20000 in
theorem bX2_takeBecomes_60 {p : Program} {l : Launch} {e : Env} {s : State} {m : MethodId} {args : Array Value} {below : List Frame} {meth : Method} {c : Code} {X : Ec} {h0 : Hp} {o : Int32 × Hp} {F : Nat} (C : Cx X p s m args meth c RX2 cX2_takeBecomes 5 (some .boolean) "takeBecomes") : ∀ (f : Nat) {h : Hp} {x0 : Nat} {x1 : Int32} {x2 : Int32} {x3 : Int32} {H : Heap} {locs : List Loc} (k_x0 : hK h x0 = 2), Km h0 h → Wx X h H → va_S (aA (eB X)) s.heap H locs → ∀ (ls : Array Slot), lv_has ls 5 [(0, .ref x0), (1, .int x1), (2, .int x2), (3, .int x3)] → sX2_takeBecomes_60 F f h x0 x1 x2 x3 = some o → W p l e (rm 3 63) s m args below meth c H locs 0 0 (MQ below (QI X h0 o.1 o.2) args s 0 0 (aA (eB X))) (F0 m 60 ls []) := by
  intro f
  induction f with
  | zero =>
    intro h x0 x1 x2 x3 H locs k_x0 hkm hW hZ ls hl hE
    rw [sX2_takeBecomes_60] at hE
    cases hE
  | succ f ih =>
    intro h x0 x1 x2 x3 H locs k_x0 hkm hW hZ ls hl hE
    rw [sX2_takeBecomes_60] at hE
    have hk_60 : ∀ (h : Hp) (x0 : Nat) (x1 : Int32) (x2 : Int32) (x3 : Int32) (H : Heap) (locs : List Loc), hK h x0 = 2 → Km h0 h → Wx X h H → va_S (aA (eB X)) s.heap H locs → ∀ (ls : Array Slot), lv_has ls 5 [(0, .ref x0), (1, .int x1), (2, .int x2), (3, .int x3)] → sX2_takeBecomes_60 F f h x0 x1 x2 x3 = some o → W p l e (rm 3 63) s m args below meth c H locs 0 0 (MQ below (QI X h0 o.1 o.2) args s 0 0 (aA (eB X))) (F0 m 60 ls []) := fun h x0 x1 x2 x3 H locs k_x0 a b c ls hl hE => ih k_x0 a b c ls hl hE
    refine lv_iload_n C.1 C.2.1 dX2_takeBecomes_60 rfl (lv_at hl 3 rfl) ?_
    refine lv_bipush (v := (6 : Int32)) C.1 C.2.1 dX2_takeBecomes_61 (by decide) ?_
    refine lv_icmp_ge (tgt := 178) C.1 C.2.1 dX2_takeBecomes_63 (by decide) (fun c_1 => ?_) (fun c_1 => ?_)
    · have hE := br_p hE c_1
      exact bX2_takeBecomes_178 C k_x0 hkm hW hZ _ (lv_sub hl [0, 1, 2] rfl) hE
    · have hE := br_n hE c_1
      refine lv_iload_n C.1 C.2.1 dX2_takeBecomes_66 rfl (lv_at hl 3 rfl) ?_
      refine lv_if_eq (tgt := 78) C.1 C.2.1 dX2_takeBecomes_67 (by decide) (fun c_2 => ?_) (fun c_2 => ?_)
      · have hE := br_p hE c_2
        exact bX2_takeBecomes_78 C hk_60 k_x0 hkm hW hZ _ (lv_sub hl [0, 1, 2, 3] rfl) hE
      · have hE := br_n hE c_2
        refine lv_aload_n C.1 C.2.1 dX2_takeBecomes_70 rfl (lv_at hl 0 rfl) ?_
        refine gf_X2_38 C hW k_x0 dX2_takeBecomes_71 ?_
        refine lv_iconst (v := (1 : Int32)) C.1 C.2.1 dX2_takeBecomes_74 (by decide) ?_
        refine lv_icmp_ne (tgt := 178) C.1 C.2.1 dX2_takeBecomes_75 (by decide) (fun c_3 => ?_) (fun c_3 => ?_)
        · have hE := br_n hE c_3
          exact bX2_takeBecomes_178 C k_x0 hkm hW hZ _ (lv_sub hl [0, 1, 2] rfl) hE
        · have hE := br_p hE c_3
          exact bX2_takeBecomes_78 C hk_60 k_x0 hkm hW hZ _ (lv_sub hl [0, 1, 2, 3] rfl) hE
set_option maxRecDepth 20000 in
theorem ct_X2_takeBecomes (l : Launch) (X : Ec) (F : Nat) {h : Hp} {x0 : Nat} {o : Int32 × Hp} (k_x0 : hK h x0 = 2) (hE : sX2_takeBecomes F h x0 = some o) : MetI l yX2_takeBecomes cX2_takeBecomes 5 (some .boolean) 3 63 X [.ref x0] h o := by
  refine x_met (by decide) (Nat.le_of_ble_eq_true rfl) ?_
  intro p e s m below meth c ls C hl hW hZ
  have hl : lv_has ls 5 [(0, .ref x0)] := hl
  have hkm : Km h h := Km.rf h
  refine lv_aload_n C.1 C.2.1 dX2_takeBecomes_0 rfl (lv_at hl 0 rfl) ?_
  obtain ⟨o_1, eo_1, hE⟩ := cl_e hE
  refine x_kV (o := o_1) (z_runV (As := []) (rest := []) C (ct_X2_advance l X F k_x0 eo_1) cw_X2_31 hW hZ k_x0 (by decide) rfl rfl rfl hl.1 (Nat.le_of_ble_eq_true rfl) rfl dX2_takeBecomes_1 ⟨Nat.le_of_ble_eq_true rfl, Nat.le_of_ble_eq_true rfl⟩ ⟨Nat.le_refl _, Nat.le_refl _⟩) hZ (fun _ _ hW km hZ => ?_)
  replace hkm := hkm.tr km
  replace k_x0 := km.at k_x0 (by decide)
  refine lv_aload_n C.1 C.2.1 dX2_takeBecomes_4 rfl (lv_at hl 0 rfl) ?_
  obtain ⟨o_2, eo_2, hE⟩ := cl_e hE
  refine x_kI (o := o_2) (z_runV (As := []) (rest := []) C (ct_X2_toldMan l X F k_x0 eo_2) cw_X2_210 hW hZ k_x0 (by decide) rfl rfl rfl hl.1 (Nat.le_of_ble_eq_true rfl) rfl dX2_takeBecomes_5 ⟨Nat.le_of_ble_eq_true rfl, Nat.le_of_ble_eq_true rfl⟩ ⟨Nat.le_refl _, Nat.le_refl _⟩) hZ (fun _ _ hW km hZ => ?_)
  replace hkm := hkm.tr km
  replace k_x0 := km.at k_x0 (by decide)
  refine lv_istore_n (lv' := [(1, .int o_2.1), (0, .ref x0)]) C.1 C.2.1 dX2_takeBecomes_8 rfl hl (by decide) rfl (fun ls hl => ?_)
  refine lv_iload_n C.1 C.2.1 dX2_takeBecomes_9 rfl (lv_at hl 0 rfl) ?_
  refine lv_iconst (v := (-1 : Int32)) C.1 C.2.1 dX2_takeBecomes_10 (by decide) ?_
  refine lv_icmp_eq (tgt := 50) C.1 C.2.1 dX2_takeBecomes_11 (by decide) (fun c_3 => ?_) (fun c_3 => ?_)
  · have hE := br_p hE c_3
    exact bX2_takeBecomes_50 C hkm hW hZ _ (lv_sub hl [] rfl) hE
  · have hE := br_n hE c_3
    refine lv_iload_n C.1 C.2.1 dX2_takeBecomes_14 rfl (lv_at hl 0 rfl) ?_
    refine lv_aload_n C.1 C.2.1 dX2_takeBecomes_15 rfl (lv_at hl 1 rfl) ?_
    obtain ⟨r_4, er_4, hE⟩ := cl_e hE
    refine gf_X2_15 C hW k_x0 er_4 dX2_takeBecomes_16 (fun k_r_4 => ?_)
    refine gf_X2_115 C hW k_r_4 dX2_takeBecomes_19 ?_
    refine lv_icmp_eq (tgt := 50) C.1 C.2.1 dX2_takeBecomes_22 (by decide) (fun c_5 => ?_) (fun c_5 => ?_)
    · have hE := br_p hE c_5
      exact bX2_takeBecomes_50 C hkm hW hZ _ (lv_sub hl [] rfl) hE
    · have hE := br_n hE c_5
      refine lv_aload_n C.1 C.2.1 dX2_takeBecomes_25 rfl (lv_at hl 1 rfl) ?_
      obtain ⟨r_6, er_6, hE⟩ := cl_e hE
      refine gf_X2_15 C hW k_x0 er_6 dX2_takeBecomes_26 (fun k_r_6 => ?_)
      refine lv_iload_n C.1 C.2.1 dX2_takeBecomes_29 rfl (lv_at hl 0 rfl) ?_
      obtain ⟨o_7, eo_7, hE⟩ := cl_e hE
      refine x_kI (o := o_7) (z_runV (As := [.int o_2.1]) (rest := []) C (ct_X1_becomesOthers l X k_r_6 eo_7) cw_X2_213 hW hZ k_r_6 (by decide) rfl rfl rfl hl.1 (Nat.le_of_ble_eq_true rfl) rfl dX2_takeBecomes_30 ⟨Nat.le_of_ble_eq_true rfl, Nat.le_of_ble_eq_true rfl⟩ ⟨Nat.le_refl _, Nat.le_refl _⟩) hZ (fun _ _ hW km hZ => ?_)
      replace hkm := hkm.tr km
      replace k_x0 := km.at k_x0 (by decide)
      refine lv_if_ne (tgt := 50) C.1 C.2.1 dX2_takeBecomes_33 (by decide) (fun c_8 => ?_) (fun c_8 => ?_)
      · have hE := br_n hE c_8
        exact bX2_takeBecomes_50 C hkm hW hZ _ (lv_sub hl [] rfl) hE
      · have hE := br_p hE c_8
        refine lv_aload_n C.1 C.2.1 dX2_takeBecomes_36 rfl (lv_at hl 1 rfl) ?_
        obtain ⟨r_9, er_9, hE⟩ := cl_e hE
        refine gf_X2_15 C hW k_x0 er_9 dX2_takeBecomes_37 (fun k_r_9 => ?_)
        refine gf_X2_216 C hW k_r_9 dX2_takeBecomes_40 ?_
        refine lv_iload_n C.1 C.2.1 dX2_takeBecomes_43 rfl (lv_at hl 0 rfl) ?_
        refine lv_ishr C.1 C.2.1 dX2_takeBecomes_44 ?_
        refine lv_iconst (v := (1 : Int32)) C.1 C.2.1 dX2_takeBecomes_45 (by decide) ?_
        refine lv_iand C.1 C.2.1 dX2_takeBecomes_46 ?_
        refine lv_if_eq (tgt := 52) C.1 C.2.1 dX2_takeBecomes_47 (by decide) (fun c_10 => ?_) (fun c_10 => ?_)
        · have hE := br_p hE c_10
          refine lv_aload_n C.1 C.2.1 dX2_takeBecomes_52 rfl (lv_at hl 1 rfl) ?_
          obtain ⟨o_11, eo_11, hE⟩ := cl_e hE
          refine x_kV (o := o_11) (z_runV (As := []) (rest := []) C (ct_X2_advance l X F k_x0 eo_11) cw_X2_31 hW hZ k_x0 (by decide) rfl rfl rfl hl.1 (Nat.le_of_ble_eq_true rfl) rfl dX2_takeBecomes_53 ⟨Nat.le_of_ble_eq_true rfl, Nat.le_of_ble_eq_true rfl⟩ ⟨Nat.le_refl _, Nat.le_refl _⟩) hZ (fun _ _ hW km hZ => ?_)
          replace hkm := hkm.tr km
          replace k_x0 := km.at k_x0 (by decide)
          refine lv_iconst (v := (0 : Int32)) C.1 C.2.1 dX2_takeBecomes_56 (by decide) ?_
          refine lv_istore_n (lv' := [(2, .int (0 : Int32)), (1, .int o_2.1), (0, .ref x0)]) C.1 C.2.1 dX2_takeBecomes_57 rfl hl (by decide) rfl (fun ls hl => ?_)
          refine lv_iconst (v := (0 : Int32)) C.1 C.2.1 dX2_takeBecomes_58 (by decide) ?_
          refine lv_istore_n (lv' := [(3, .int (0 : Int32)), (2, .int (0 : Int32)), (1, .int o_2.1), (0, .ref x0)]) C.1 C.2.1 dX2_takeBecomes_59 rfl hl (by decide) rfl (fun ls hl => ?_)
          exact bX2_takeBecomes_60 C F k_x0 hkm hW hZ _ (lv_sub hl [3, 2, 1, 0] rfl) hE
        · have hE := br_n hE c_10
          exact bX2_takeBecomes_50 C hkm hW hZ _ (lv_sub hl [] rfl) hE
theorem dX2_onceWord_0 : decode cX2_onceWord 0 = .ok (.aload_n 0, 1) := by decide +kernel
theorem dX2_onceWord_1 : decode cX2_onceWord 1 = .ok (.ldc 121, 2) := by decide +kernel
theorem dX2_onceWord_3 : decode cX2_onceWord 3 = .ok (.invokevirtual 43, 3) := by decide +kernel
theorem dX2_onceWord_6 : decode cX2_onceWord 6 = .ok (.ifCond .eq 5, 3) := by decide +kernel
theorem dX2_onceWord_9 : decode cX2_onceWord 9 = .ok (.iconst 1, 1) := by decide +kernel
theorem dX2_onceWord_10 : decode cX2_onceWord 10 = .ok (.ireturn, 1) := by decide +kernel
theorem dX2_onceWord_11 : decode cX2_onceWord 11 = .ok (.aload_n 0, 1) := by decide +kernel
theorem dX2_onceWord_12 : decode cX2_onceWord 12 = .ok (.ldc 122, 2) := by decide +kernel
theorem dX2_onceWord_14 : decode cX2_onceWord 14 = .ok (.invokevirtual 43, 3) := by decide +kernel
theorem dX2_onceWord_17 : decode cX2_onceWord 17 = .ok (.ifCond .eq 5, 3) := by decide +kernel
theorem dX2_onceWord_20 : decode cX2_onceWord 20 = .ok (.iconst 2, 1) := by decide +kernel
theorem dX2_onceWord_21 : decode cX2_onceWord 21 = .ok (.ireturn, 1) := by decide +kernel
theorem dX2_onceWord_22 : decode cX2_onceWord 22 = .ok (.aload_n 0, 1) := by decide +kernel
theorem dX2_onceWord_23 : decode cX2_onceWord 23 = .ok (.ldc 124, 2) := by decide +kernel
theorem dX2_onceWord_25 : decode cX2_onceWord 25 = .ok (.invokevirtual 43, 3) := by decide +kernel
theorem dX2_onceWord_28 : decode cX2_onceWord 28 = .ok (.ifCond .eq 5, 3) := by decide +kernel
theorem dX2_onceWord_31 : decode cX2_onceWord 31 = .ok (.iconst 4, 1) := by decide +kernel
theorem dX2_onceWord_32 : decode cX2_onceWord 32 = .ok (.ireturn, 1) := by decide +kernel
theorem dX2_onceWord_33 : decode cX2_onceWord 33 = .ok (.aload_n 0, 1) := by decide +kernel
theorem dX2_onceWord_34 : decode cX2_onceWord 34 = .ok (.ldc 126, 2) := by decide +kernel
theorem dX2_onceWord_36 : decode cX2_onceWord 36 = .ok (.invokevirtual 43, 3) := by decide +kernel
theorem dX2_onceWord_39 : decode cX2_onceWord 39 = .ok (.ifCond .eq 6, 3) := by decide +kernel
theorem dX2_onceWord_42 : decode cX2_onceWord 42 = .ok (.bipush 8, 2) := by decide +kernel
theorem dX2_onceWord_44 : decode cX2_onceWord 44 = .ok (.ireturn, 1) := by decide +kernel
theorem dX2_onceWord_45 : decode cX2_onceWord 45 = .ok (.aload_n 0, 1) := by decide +kernel
theorem dX2_onceWord_46 : decode cX2_onceWord 46 = .ok (.ldc 128, 2) := by decide +kernel
theorem dX2_onceWord_48 : decode cX2_onceWord 48 = .ok (.invokevirtual 43, 3) := by decide +kernel
theorem dX2_onceWord_51 : decode cX2_onceWord 51 = .ok (.ifCond .eq 6, 3) := by decide +kernel
theorem dX2_onceWord_54 : decode cX2_onceWord 54 = .ok (.bipush 16, 2) := by decide +kernel
theorem dX2_onceWord_56 : decode cX2_onceWord 56 = .ok (.ireturn, 1) := by decide +kernel
theorem dX2_onceWord_57 : decode cX2_onceWord 57 = .ok (.aload_n 0, 1) := by decide +kernel
theorem dX2_onceWord_58 : decode cX2_onceWord 58 = .ok (.ldc 130, 2) := by decide +kernel
theorem dX2_onceWord_60 : decode cX2_onceWord 60 = .ok (.invokevirtual 43, 3) := by decide +kernel
theorem dX2_onceWord_63 : decode cX2_onceWord 63 = .ok (.ifCond .eq 6, 3) := by decide +kernel
theorem dX2_onceWord_66 : decode cX2_onceWord 66 = .ok (.bipush 32, 2) := by decide +kernel
theorem dX2_onceWord_68 : decode cX2_onceWord 68 = .ok (.ireturn, 1) := by decide +kernel
theorem dX2_onceWord_69 : decode cX2_onceWord 69 = .ok (.aload_n 0, 1) := by decide +kernel
theorem dX2_onceWord_70 : decode cX2_onceWord 70 = .ok (.ldc 132, 2) := by decide +kernel
theorem dX2_onceWord_72 : decode cX2_onceWord 72 = .ok (.invokevirtual 43, 3) := by decide +kernel
theorem dX2_onceWord_75 : decode cX2_onceWord 75 = .ok (.ifCond .eq 6, 3) := by decide +kernel
theorem dX2_onceWord_78 : decode cX2_onceWord 78 = .ok (.bipush 64, 2) := by decide +kernel
theorem dX2_onceWord_80 : decode cX2_onceWord 80 = .ok (.ireturn, 1) := by decide +kernel
theorem dX2_onceWord_81 : decode cX2_onceWord 81 = .ok (.aload_n 0, 1) := by decide +kernel
theorem dX2_onceWord_82 : decode cX2_onceWord 82 = .ok (.ldc 134, 2) := by decide +kernel
theorem dX2_onceWord_84 : decode cX2_onceWord 84 = .ok (.invokevirtual 43, 3) := by decide +kernel
theorem dX2_onceWord_87 : decode cX2_onceWord 87 = .ok (.ifCond .eq 7, 3) := by decide +kernel
theorem dX2_onceWord_90 : decode cX2_onceWord 90 = .ok (.sipush 128, 3) := by decide +kernel
theorem dX2_onceWord_93 : decode cX2_onceWord 93 = .ok (.ireturn, 1) := by decide +kernel
theorem dX2_onceWord_94 : decode cX2_onceWord 94 = .ok (.aload_n 0, 1) := by decide +kernel
theorem dX2_onceWord_95 : decode cX2_onceWord 95 = .ok (.ldc 136, 2) := by decide +kernel
theorem dX2_onceWord_97 : decode cX2_onceWord 97 = .ok (.invokevirtual 43, 3) := by decide +kernel
theorem dX2_onceWord_100 : decode cX2_onceWord 100 = .ok (.ifCond .eq 7, 3) := by decide +kernel
theorem dX2_onceWord_103 : decode cX2_onceWord 103 = .ok (.sipush 256, 3) := by decide +kernel
theorem dX2_onceWord_106 : decode cX2_onceWord 106 = .ok (.ireturn, 1) := by decide +kernel
theorem dX2_onceWord_107 : decode cX2_onceWord 107 = .ok (.aload_n 0, 1) := by decide +kernel
theorem dX2_onceWord_108 : decode cX2_onceWord 108 = .ok (.ldc 138, 2) := by decide +kernel
theorem dX2_onceWord_110 : decode cX2_onceWord 110 = .ok (.invokevirtual 43, 3) := by decide +kernel
theorem dX2_onceWord_113 : decode cX2_onceWord 113 = .ok (.ifCond .eq 9, 3) := by decide +kernel
theorem dX2_onceWord_116 : decode cX2_onceWord 116 = .ok (.sipush 512, 3) := by decide +kernel
theorem dX2_onceWord_119 : decode cX2_onceWord 119 = .ok (.goto 4, 3) := by decide +kernel
theorem dX2_onceWord_122 : decode cX2_onceWord 122 = .ok (.iconst 0, 1) := by decide +kernel
theorem dX2_onceWord_123 : decode cX2_onceWord 123 = .ok (.ireturn, 1) := by decide +kernel
def sX2_onceWord_123 (F : Nat) (h : Hp) (t0 : Int32) : Option (Int32 × Hp) := some (t0, h)
def sX2_onceWord (F : Nat) (h : Hp) (x0 : Nat) : Option (Int32 × Hp) := cl (sX2_isWord F h x0 14) fun o_1 => br (o_1.1 = 0) (cl (sX2_isWord F o_1.2 x0 15) fun o_3 => br (o_3.1 = 0) (cl (sX2_isWord F o_3.2 x0 16) fun o_5 => br (o_5.1 = 0) (cl (sX2_isWord F o_5.2 x0 17) fun o_7 => br (o_7.1 = 0) (cl (sX2_isWord F o_7.2 x0 18) fun o_9 => br (o_9.1 = 0) (cl (sX2_isWord F o_9.2 x0 19) fun o_11 => br (o_11.1 = 0) (cl (sX2_isWord F o_11.2 x0 20) fun o_13 => br (o_13.1 = 0) (cl (sX2_isWord F o_13.2 x0 21) fun o_15 => br (o_15.1 = 0) (cl (sX2_isWord F o_15.2 x0 22) fun o_17 => br (o_17.1 = 0) (cl (sX2_isWord F o_17.2 x0 23) fun o_19 => br (o_19.1 = 0) (sX2_onceWord_123 F o_19.2 (0 : Int32)) (sX2_onceWord_123 F o_19.2 (512 : Int32))) (some ((256 : Int32), o_17.2))) (some ((128 : Int32), o_15.2))) (some ((64 : Int32), o_13.2))) (some ((32 : Int32), o_11.2))) (some ((16 : Int32), o_9.2))) (some ((8 : Int32), o_7.2))) (some ((4 : Int32), o_5.2))) (some ((2 : Int32), o_3.2))) (some ((1 : Int32), o_1.2))
set_option maxRecDepth 20000 in
theorem moX2_onceWord_123 {o : Int32 × Hp} {F : Nat} {h : Hp} {t0 : Int32} (hE : sX2_onceWord_123 F h  t0 = some o) : Le h o.2 := by
  exact le_some2 hE
set_option maxRecDepth 20000 in
theorem moX2_onceWord {o : Int32 × Hp} {F : Nat} {h : Hp} {x0 : Nat} (hE : sX2_onceWord F h x0 = some o) : Le h o.2 := by
  obtain ⟨o_1, eo_1, hE⟩ := cl_e hE
  refine (moX2_isWord eo_1).tr ?_
  rcases br_e hE with ⟨_, hE⟩ | ⟨_, hE⟩
  · obtain ⟨o_3, eo_3, hE⟩ := cl_e hE
    refine (moX2_isWord eo_3).tr ?_
    rcases br_e hE with ⟨_, hE⟩ | ⟨_, hE⟩
    · obtain ⟨o_5, eo_5, hE⟩ := cl_e hE
      refine (moX2_isWord eo_5).tr ?_
      rcases br_e hE with ⟨_, hE⟩ | ⟨_, hE⟩
      · obtain ⟨o_7, eo_7, hE⟩ := cl_e hE
        refine (moX2_isWord eo_7).tr ?_
        rcases br_e hE with ⟨_, hE⟩ | ⟨_, hE⟩
        · obtain ⟨o_9, eo_9, hE⟩ := cl_e hE
          refine (moX2_isWord eo_9).tr ?_
          rcases br_e hE with ⟨_, hE⟩ | ⟨_, hE⟩
          · obtain ⟨o_11, eo_11, hE⟩ := cl_e hE
            refine (moX2_isWord eo_11).tr ?_
            rcases br_e hE with ⟨_, hE⟩ | ⟨_, hE⟩
            · obtain ⟨o_13, eo_13, hE⟩ := cl_e hE
              refine (moX2_isWord eo_13).tr ?_
              rcases br_e hE with ⟨_, hE⟩ | ⟨_, hE⟩
              · obtain ⟨o_15, eo_15, hE⟩ := cl_e hE
                refine (moX2_isWord eo_15).tr ?_
                rcases br_e hE with ⟨_, hE⟩ | ⟨_, hE⟩
                · obtain ⟨o_17, eo_17, hE⟩ := cl_e hE
                  refine (moX2_isWord eo_17).tr ?_
                  rcases br_e hE with ⟨_, hE⟩ | ⟨_, hE⟩
                  · obtain ⟨o_19, eo_19, hE⟩ := cl_e hE
                    refine (moX2_isWord eo_19).tr ?_
                    rcases br_e hE with ⟨_, hE⟩ | ⟨_, hE⟩
                    · exact moX2_onceWord_123 hE
                    · exact moX2_onceWord_123 hE
                  · exact le_some2 hE
                · exact le_some2 hE
              · exact le_some2 hE
            · exact le_some2 hE
          · exact le_some2 hE
        · exact le_some2 hE
      · exact le_some2 hE
    · exact le_some2 hE
  · exact le_some2 hE
set_option maxRecDepth 20000 in
theorem bX2_onceWord_123 {p : Program} {l : Launch} {e : Env} {s : State} {m : MethodId} {args : Array Value} {below : List Frame} {meth : Method} {c : Code} {X : Ec} {h0 : Hp} {o : Int32 × Hp} {F : Nat} (C : Cx X p s m args meth c RX2 cX2_onceWord 1 (some .int) "onceWord") {h : Hp} {t0 : Int32} {H : Heap} {locs : List Loc} (hkm : Km h0 h) (hW : Wx X h H) (hZ : va_S (aA (eB X)) s.heap H locs) (ls : Array Slot) (hl : lv_has ls 1 []) (hE : sX2_onceWord_123 F h  t0 = some o) : W p l e (rm 5 107) s m args below meth c H locs 0 0 (MQ below (QI X h0 o.1 o.2) args s 0 0 (aA (eB X))) (F0 m 123 ls [.int t0]) := by
  exact x_iret C rfl rfl hW hZ hkm hE dX2_onceWord_123
set_option maxRecDepth 20000 in
theorem ct_X2_onceWord (l : Launch) (X : Ec) (F : Nat) {h : Hp} {x0 : Nat} {o : Int32 × Hp} (k_x0 : hK h x0 = 2) (hE : sX2_onceWord F h x0 = some o) : MetI l yX2_onceWord cX2_onceWord 1 (some .int) 5 107 X [.ref x0] h o := by
  refine x_met (by decide) (Nat.le_of_ble_eq_true rfl) ?_
  intro p e s m below meth c ls C hl hW hZ
  have hl : lv_has ls 1 [(0, .ref x0)] := hl
  have hkm : Km h h := Km.rf h
  refine lv_aload_n C.1 C.2.1 dX2_onceWord_0 rfl (lv_at hl 0 rfl) ?_
  refine va_ldcS C.1 C.2.1 C.2.2.2.1 (C.2.2.2.2.2.2.2.2.1 14 (by decide)).2 dX2_onceWord_1 ?_
  obtain ⟨o_1, eo_1, hE⟩ := cl_e hE
  refine x_kI (o := o_1) (z_runV (As := [.ref (X.2.2.2.1 14)]) (rest := []) C (ct_X2_isWord l X F k_x0 (by decide) eo_1) cw_X2_43 hW hZ k_x0 (by decide) rfl rfl rfl hl.1 (Nat.le_of_ble_eq_true rfl) rfl dX2_onceWord_3 ⟨Nat.le_of_ble_eq_true rfl, Nat.le_of_ble_eq_true rfl⟩ ⟨Nat.le_refl _, Nat.le_refl _⟩) hZ (fun _ _ hW km hZ => ?_)
  replace hkm := hkm.tr km
  replace k_x0 := km.at k_x0 (by decide)
  refine lv_if_eq (tgt := 11) C.1 C.2.1 dX2_onceWord_6 (by decide) (fun c_2 => ?_) (fun c_2 => ?_)
  · have hE := br_p hE c_2
    refine lv_aload_n C.1 C.2.1 dX2_onceWord_11 rfl (lv_at hl 0 rfl) ?_
    refine va_ldcS C.1 C.2.1 C.2.2.2.1 (C.2.2.2.2.2.2.2.2.1 15 (by decide)).2 dX2_onceWord_12 ?_
    obtain ⟨o_3, eo_3, hE⟩ := cl_e hE
    refine x_kI (o := o_3) (z_runV (As := [.ref (X.2.2.2.1 15)]) (rest := []) C (ct_X2_isWord l X F k_x0 (by decide) eo_3) cw_X2_43 hW hZ k_x0 (by decide) rfl rfl rfl hl.1 (Nat.le_of_ble_eq_true rfl) rfl dX2_onceWord_14 ⟨Nat.le_of_ble_eq_true rfl, Nat.le_of_ble_eq_true rfl⟩ ⟨Nat.le_refl _, Nat.le_refl _⟩) hZ (fun _ _ hW km hZ => ?_)
    replace hkm := hkm.tr km
    replace k_x0 := km.at k_x0 (by decide)
    refine lv_if_eq (tgt := 22) C.1 C.2.1 dX2_onceWord_17 (by decide) (fun c_4 => ?_) (fun c_4 => ?_)
    · have hE := br_p hE c_4
      refine lv_aload_n C.1 C.2.1 dX2_onceWord_22 rfl (lv_at hl 0 rfl) ?_
      refine va_ldcS C.1 C.2.1 C.2.2.2.1 (C.2.2.2.2.2.2.2.2.1 16 (by decide)).2 dX2_onceWord_23 ?_
      obtain ⟨o_5, eo_5, hE⟩ := cl_e hE
      refine x_kI (o := o_5) (z_runV (As := [.ref (X.2.2.2.1 16)]) (rest := []) C (ct_X2_isWord l X F k_x0 (by decide) eo_5) cw_X2_43 hW hZ k_x0 (by decide) rfl rfl rfl hl.1 (Nat.le_of_ble_eq_true rfl) rfl dX2_onceWord_25 ⟨Nat.le_of_ble_eq_true rfl, Nat.le_of_ble_eq_true rfl⟩ ⟨Nat.le_refl _, Nat.le_refl _⟩) hZ (fun _ _ hW km hZ => ?_)
      replace hkm := hkm.tr km
      replace k_x0 := km.at k_x0 (by decide)
      refine lv_if_eq (tgt := 33) C.1 C.2.1 dX2_onceWord_28 (by decide) (fun c_6 => ?_) (fun c_6 => ?_)
      · have hE := br_p hE c_6
        refine lv_aload_n C.1 C.2.1 dX2_onceWord_33 rfl (lv_at hl 0 rfl) ?_
        refine va_ldcS C.1 C.2.1 C.2.2.2.1 (C.2.2.2.2.2.2.2.2.1 17 (by decide)).2 dX2_onceWord_34 ?_
        obtain ⟨o_7, eo_7, hE⟩ := cl_e hE
        refine x_kI (o := o_7) (z_runV (As := [.ref (X.2.2.2.1 17)]) (rest := []) C (ct_X2_isWord l X F k_x0 (by decide) eo_7) cw_X2_43 hW hZ k_x0 (by decide) rfl rfl rfl hl.1 (Nat.le_of_ble_eq_true rfl) rfl dX2_onceWord_36 ⟨Nat.le_of_ble_eq_true rfl, Nat.le_of_ble_eq_true rfl⟩ ⟨Nat.le_refl _, Nat.le_refl _⟩) hZ (fun _ _ hW km hZ => ?_)
        replace hkm := hkm.tr km
        replace k_x0 := km.at k_x0 (by decide)
        refine lv_if_eq (tgt := 45) C.1 C.2.1 dX2_onceWord_39 (by decide) (fun c_8 => ?_) (fun c_8 => ?_)
        · have hE := br_p hE c_8
          refine lv_aload_n C.1 C.2.1 dX2_onceWord_45 rfl (lv_at hl 0 rfl) ?_
          refine va_ldcS C.1 C.2.1 C.2.2.2.1 (C.2.2.2.2.2.2.2.2.1 18 (by decide)).2 dX2_onceWord_46 ?_
          obtain ⟨o_9, eo_9, hE⟩ := cl_e hE
          refine x_kI (o := o_9) (z_runV (As := [.ref (X.2.2.2.1 18)]) (rest := []) C (ct_X2_isWord l X F k_x0 (by decide) eo_9) cw_X2_43 hW hZ k_x0 (by decide) rfl rfl rfl hl.1 (Nat.le_of_ble_eq_true rfl) rfl dX2_onceWord_48 ⟨Nat.le_of_ble_eq_true rfl, Nat.le_of_ble_eq_true rfl⟩ ⟨Nat.le_refl _, Nat.le_refl _⟩) hZ (fun _ _ hW km hZ => ?_)
          replace hkm := hkm.tr km
          replace k_x0 := km.at k_x0 (by decide)
          refine lv_if_eq (tgt := 57) C.1 C.2.1 dX2_onceWord_51 (by decide) (fun c_10 => ?_) (fun c_10 => ?_)
          · have hE := br_p hE c_10
            refine lv_aload_n C.1 C.2.1 dX2_onceWord_57 rfl (lv_at hl 0 rfl) ?_
            refine va_ldcS C.1 C.2.1 C.2.2.2.1 (C.2.2.2.2.2.2.2.2.1 19 (by decide)).2 dX2_onceWord_58 ?_
            obtain ⟨o_11, eo_11, hE⟩ := cl_e hE
            refine x_kI (o := o_11) (z_runV (As := [.ref (X.2.2.2.1 19)]) (rest := []) C (ct_X2_isWord l X F k_x0 (by decide) eo_11) cw_X2_43 hW hZ k_x0 (by decide) rfl rfl rfl hl.1 (Nat.le_of_ble_eq_true rfl) rfl dX2_onceWord_60 ⟨Nat.le_of_ble_eq_true rfl, Nat.le_of_ble_eq_true rfl⟩ ⟨Nat.le_refl _, Nat.le_refl _⟩) hZ (fun _ _ hW km hZ => ?_)
            replace hkm := hkm.tr km
            replace k_x0 := km.at k_x0 (by decide)
            refine lv_if_eq (tgt := 69) C.1 C.2.1 dX2_onceWord_63 (by decide) (fun c_12 => ?_) (fun c_12 => ?_)
            · have hE := br_p hE c_12
              refine lv_aload_n C.1 C.2.1 dX2_onceWord_69 rfl (lv_at hl 0 rfl) ?_
              refine va_ldcS C.1 C.2.1 C.2.2.2.1 (C.2.2.2.2.2.2.2.2.1 20 (by decide)).2 dX2_onceWord_70 ?_
              obtain ⟨o_13, eo_13, hE⟩ := cl_e hE
              refine x_kI (o := o_13) (z_runV (As := [.ref (X.2.2.2.1 20)]) (rest := []) C (ct_X2_isWord l X F k_x0 (by decide) eo_13) cw_X2_43 hW hZ k_x0 (by decide) rfl rfl rfl hl.1 (Nat.le_of_ble_eq_true rfl) rfl dX2_onceWord_72 ⟨Nat.le_of_ble_eq_true rfl, Nat.le_of_ble_eq_true rfl⟩ ⟨Nat.le_refl _, Nat.le_refl _⟩) hZ (fun _ _ hW km hZ => ?_)
              replace hkm := hkm.tr km
              replace k_x0 := km.at k_x0 (by decide)
              refine lv_if_eq (tgt := 81) C.1 C.2.1 dX2_onceWord_75 (by decide) (fun c_14 => ?_) (fun c_14 => ?_)
              · have hE := br_p hE c_14
                refine lv_aload_n C.1 C.2.1 dX2_onceWord_81 rfl (lv_at hl 0 rfl) ?_
                refine va_ldcS C.1 C.2.1 C.2.2.2.1 (C.2.2.2.2.2.2.2.2.1 21 (by decide)).2 dX2_onceWord_82 ?_
                obtain ⟨o_15, eo_15, hE⟩ := cl_e hE
                refine x_kI (o := o_15) (z_runV (As := [.ref (X.2.2.2.1 21)]) (rest := []) C (ct_X2_isWord l X F k_x0 (by decide) eo_15) cw_X2_43 hW hZ k_x0 (by decide) rfl rfl rfl hl.1 (Nat.le_of_ble_eq_true rfl) rfl dX2_onceWord_84 ⟨Nat.le_of_ble_eq_true rfl, Nat.le_of_ble_eq_true rfl⟩ ⟨Nat.le_refl _, Nat.le_refl _⟩) hZ (fun _ _ hW km hZ => ?_)
                replace hkm := hkm.tr km
                replace k_x0 := km.at k_x0 (by decide)
                refine lv_if_eq (tgt := 94) C.1 C.2.1 dX2_onceWord_87 (by decide) (fun c_16 => ?_) (fun c_16 => ?_)
                · have hE := br_p hE c_16
                  refine lv_aload_n C.1 C.2.1 dX2_onceWord_94 rfl (lv_at hl 0 rfl) ?_
                  refine va_ldcS C.1 C.2.1 C.2.2.2.1 (C.2.2.2.2.2.2.2.2.1 22 (by decide)).2 dX2_onceWord_95 ?_
                  obtain ⟨o_17, eo_17, hE⟩ := cl_e hE
                  refine x_kI (o := o_17) (z_runV (As := [.ref (X.2.2.2.1 22)]) (rest := []) C (ct_X2_isWord l X F k_x0 (by decide) eo_17) cw_X2_43 hW hZ k_x0 (by decide) rfl rfl rfl hl.1 (Nat.le_of_ble_eq_true rfl) rfl dX2_onceWord_97 ⟨Nat.le_of_ble_eq_true rfl, Nat.le_of_ble_eq_true rfl⟩ ⟨Nat.le_refl _, Nat.le_refl _⟩) hZ (fun _ _ hW km hZ => ?_)
                  replace hkm := hkm.tr km
                  replace k_x0 := km.at k_x0 (by decide)
                  refine lv_if_eq (tgt := 107) C.1 C.2.1 dX2_onceWord_100 (by decide) (fun c_18 => ?_) (fun c_18 => ?_)
                  · have hE := br_p hE c_18
                    refine lv_aload_n C.1 C.2.1 dX2_onceWord_107 rfl (lv_at hl 0 rfl) ?_
                    refine va_ldcS C.1 C.2.1 C.2.2.2.1 (C.2.2.2.2.2.2.2.2.1 23 (by decide)).2 dX2_onceWord_108 ?_
                    obtain ⟨o_19, eo_19, hE⟩ := cl_e hE
                    refine x_kI (o := o_19) (z_runV (As := [.ref (X.2.2.2.1 23)]) (rest := []) C (ct_X2_isWord l X F k_x0 (by decide) eo_19) cw_X2_43 hW hZ k_x0 (by decide) rfl rfl rfl hl.1 (Nat.le_of_ble_eq_true rfl) rfl dX2_onceWord_110 ⟨Nat.le_of_ble_eq_true rfl, Nat.le_of_ble_eq_true rfl⟩ ⟨Nat.le_refl _, Nat.le_refl _⟩) hZ (fun _ _ hW km hZ => ?_)
                    replace hkm := hkm.tr km
                    replace k_x0 := km.at k_x0 (by decide)
                    refine lv_if_eq (tgt := 122) C.1 C.2.1 dX2_onceWord_113 (by decide) (fun c_20 => ?_) (fun c_20 => ?_)
                    · have hE := br_p hE c_20
                      refine lv_iconst (v := (0 : Int32)) C.1 C.2.1 dX2_onceWord_122 (by decide) ?_
                      exact bX2_onceWord_123 C hkm hW hZ _ (lv_sub hl [] rfl) hE
                    · have hE := br_n hE c_20
                      refine lv_sipush (v := (512 : Int32)) C.1 C.2.1 dX2_onceWord_116 (by decide) ?_
                      refine lv_goto (tgt := 123) C.1 C.2.1 dX2_onceWord_119 (by decide) ?_
                      exact bX2_onceWord_123 C hkm hW hZ _ (lv_sub hl [] rfl) hE
                  · have hE := br_n hE c_18
                    refine lv_sipush (v := (256 : Int32)) C.1 C.2.1 dX2_onceWord_103 (by decide) ?_
                    exact x_iret C rfl rfl hW hZ hkm hE dX2_onceWord_106
                · have hE := br_n hE c_16
                  refine lv_sipush (v := (128 : Int32)) C.1 C.2.1 dX2_onceWord_90 (by decide) ?_
                  exact x_iret C rfl rfl hW hZ hkm hE dX2_onceWord_93
              · have hE := br_n hE c_14
                refine lv_bipush (v := (64 : Int32)) C.1 C.2.1 dX2_onceWord_78 (by decide) ?_
                exact x_iret C rfl rfl hW hZ hkm hE dX2_onceWord_80
            · have hE := br_n hE c_12
              refine lv_bipush (v := (32 : Int32)) C.1 C.2.1 dX2_onceWord_66 (by decide) ?_
              exact x_iret C rfl rfl hW hZ hkm hE dX2_onceWord_68
          · have hE := br_n hE c_10
            refine lv_bipush (v := (16 : Int32)) C.1 C.2.1 dX2_onceWord_54 (by decide) ?_
            exact x_iret C rfl rfl hW hZ hkm hE dX2_onceWord_56
        · have hE := br_n hE c_8
          refine lv_bipush (v := (8 : Int32)) C.1 C.2.1 dX2_onceWord_42 (by decide) ?_
          exact x_iret C rfl rfl hW hZ hkm hE dX2_onceWord_44
      · have hE := br_n hE c_6
        refine lv_iconst (v := (4 : Int32)) C.1 C.2.1 dX2_onceWord_31 (by decide) ?_
        exact x_iret C rfl rfl hW hZ hkm hE dX2_onceWord_32
    · have hE := br_n hE c_4
      refine lv_iconst (v := (2 : Int32)) C.1 C.2.1 dX2_onceWord_20 (by decide) ?_
      exact x_iret C rfl rfl hW hZ hkm hE dX2_onceWord_21
  · have hE := br_n hE c_2
    refine lv_iconst (v := (1 : Int32)) C.1 C.2.1 dX2_onceWord_9 (by decide) ?_
    exact x_iret C rfl rfl hW hZ hkm hE dX2_onceWord_10
section
variable {p : Program} {l : Launch} {e : Env} {R : Room} {s : State} {m : MethodId} {args : Array Value} {below : List Frame} {meth : Method} {c : Code} {H : Heap} {locs : List Loc} {cells slots : Nat} {Q : State → Prop}
variable {cc : ByteArray} {pc : Nat} {ls : Array Slot} {rest : List Value} {X : Ec} {h h1 : Hp} {nL : Nat} {rt : Option FieldType} {mn : String}
theorem pf_X2_115 {a : Nat} {v : Int32} (C : Cx X p s m args meth c RX2 cc nL rt mn) (hW : Wx X h H) (hZ : va_S (aA (eB X)) s.heap H locs) (ha : hK h a = 1) (eh : h1 = wI h a 4 v) (hdg : decode cc pc = .ok (.putfield 115, 3)) (kk : ∀ (H1 : Heap) (locs1 : List Loc), Wx X h1 H1 → Km h h1 → va_S (aA (eB X)) s.heap H1 locs1 → W p l e R s m args below meth c H1 locs1 cells slots Q (F0 m (pc + 3) ls rest)) : W p l e R s m args below meth c H locs cells slots Q (F0 m pc ls (.int v :: .ref a :: rest)) :=
  y_puti (ty := .int) C hW hZ ha i_X1 tyX1 tyX1_ok nmX1 (by decide) rfl rfl (by decide) m_91 rfl (by decide +kernel) rfl rfl rfl eh hdg kk
end
theorem dX2_takeRoyal_0 : decode cX2_takeRoyal 0 = .ok (.aload_n 0, 1) := by decide +kernel
theorem dX2_takeRoyal_1 : decode cX2_takeRoyal 1 = .ok (.invokevirtual 210, 3) := by decide +kernel
theorem dX2_takeRoyal_4 : decode cX2_takeRoyal 4 = .ok (.istore_n 1, 1) := by decide +kernel
theorem dX2_takeRoyal_5 : decode cX2_takeRoyal 5 = .ok (.iload_n 1, 1) := by decide +kernel
theorem dX2_takeRoyal_6 : decode cX2_takeRoyal 6 = .ok (.iconst (-1), 1) := by decide +kernel
theorem dX2_takeRoyal_7 : decode cX2_takeRoyal 7 = .ok (.if_icmp .eq 28, 3) := by decide +kernel
theorem dX2_takeRoyal_10 : decode cX2_takeRoyal 10 = .ok (.aload_n 0, 1) := by decide +kernel
theorem dX2_takeRoyal_11 : decode cX2_takeRoyal 11 = .ok (.getfield 15, 3) := by decide +kernel
theorem dX2_takeRoyal_14 : decode cX2_takeRoyal 14 = .ok (.iload_n 1, 1) := by decide +kernel
theorem dX2_takeRoyal_15 : decode cX2_takeRoyal 15 = .ok (.invokevirtual 213, 3) := by decide +kernel
theorem dX2_takeRoyal_18 : decode cX2_takeRoyal 18 = .ok (.ifCond .ne 17, 3) := by decide +kernel
theorem dX2_takeRoyal_21 : decode cX2_takeRoyal 21 = .ok (.aload_n 0, 1) := by decide +kernel
theorem dX2_takeRoyal_22 : decode cX2_takeRoyal 22 = .ok (.getfield 15, 3) := by decide +kernel
theorem dX2_takeRoyal_25 : decode cX2_takeRoyal 25 = .ok (.getfield 216, 3) := by decide +kernel
theorem dX2_takeRoyal_28 : decode cX2_takeRoyal 28 = .ok (.iload_n 1, 1) := by decide +kernel
theorem dX2_takeRoyal_29 : decode cX2_takeRoyal 29 = .ok (.ishr, 1) := by decide +kernel
theorem dX2_takeRoyal_30 : decode cX2_takeRoyal 30 = .ok (.iconst 1, 1) := by decide +kernel
theorem dX2_takeRoyal_31 : decode cX2_takeRoyal 31 = .ok (.iand, 1) := by decide +kernel
theorem dX2_takeRoyal_32 : decode cX2_takeRoyal 32 = .ok (.ifCond .eq 5, 3) := by decide +kernel
theorem dX2_takeRoyal_35 : decode cX2_takeRoyal 35 = .ok (.iconst 0, 1) := by decide +kernel
theorem dX2_takeRoyal_36 : decode cX2_takeRoyal 36 = .ok (.ireturn, 1) := by decide +kernel
theorem dX2_takeRoyal_37 : decode cX2_takeRoyal 37 = .ok (.aload_n 0, 1) := by decide +kernel
theorem dX2_takeRoyal_38 : decode cX2_takeRoyal 38 = .ok (.getfield 15, 3) := by decide +kernel
theorem dX2_takeRoyal_41 : decode cX2_takeRoyal 41 = .ok (.iload_n 1, 1) := by decide +kernel
theorem dX2_takeRoyal_42 : decode cX2_takeRoyal 42 = .ok (.putfield 115, 3) := by decide +kernel
theorem dX2_takeRoyal_45 : decode cX2_takeRoyal 45 = .ok (.aload_n 0, 1) := by decide +kernel
theorem dX2_takeRoyal_46 : decode cX2_takeRoyal 46 = .ok (.invokevirtual 31, 3) := by decide +kernel
theorem dX2_takeRoyal_49 : decode cX2_takeRoyal 49 = .ok (.iconst 1, 1) := by decide +kernel
theorem dX2_takeRoyal_50 : decode cX2_takeRoyal 50 = .ok (.ireturn, 1) := by decide +kernel
def sX2_takeRoyal_35 (F : Nat) (h : Hp) : Option (Int32 × Hp) := some ((0 : Int32), h)
def sX2_takeRoyal (F : Nat) (h : Hp) (x0 : Nat) : Option (Int32 × Hp) := cl (sX2_toldMan F h x0) fun o_1 => br (o_1.1 = (-1 : Int32)) (sX2_takeRoyal_35 F o_1.2 ) (cl (hR o_1.2 x0 1) fun r_3 => cl (sX1_becomesOthers o_1.2 r_3 o_1.1) fun o_4 => br (o_4.1 = 0) (cl (hR o_4.2 x0 1) fun r_6 => br ((((hI o_4.2 r_6 12) >>> (o_1.1 &&& 31)) &&& (1 : Int32)) = 0) (cl (hR o_4.2 x0 1) fun r_8 => nm (wI o_4.2 r_8 4 o_1.1) fun h_9 => cl (sX2_advance F h_9 x0) fun o_10 => some ((1 : Int32), o_10)) (sX2_takeRoyal_35 F o_4.2 )) (sX2_takeRoyal_35 F o_4.2 ))
set_option maxRecDepth 20000 in
theorem moX2_takeRoyal_35 {o : Int32 × Hp} {F : Nat} {h : Hp} (hE : sX2_takeRoyal_35 F h  = some o) : Le h o.2 := by
  exact le_some2 hE
set_option maxRecDepth 20000 in
theorem moX2_takeRoyal {o : Int32 × Hp} {F : Nat} {h : Hp} {x0 : Nat} (hE : sX2_takeRoyal F h x0 = some o) : Le h o.2 := by
  obtain ⟨o_1, eo_1, hE⟩ := cl_e hE
  refine (moX2_toldMan eo_1).tr ?_
  rcases br_e hE with ⟨_, hE⟩ | ⟨_, hE⟩
  · exact moX2_takeRoyal_35 hE
  · obtain ⟨r_3, er_3, hE⟩ := cl_e hE
    obtain ⟨o_4, eo_4, hE⟩ := cl_e hE
    refine (moX1_becomesOthers eo_4).tr ?_
    rcases br_e hE with ⟨_, hE⟩ | ⟨_, hE⟩
    · obtain ⟨r_6, er_6, hE⟩ := cl_e hE
      rcases br_e hE with ⟨_, hE⟩ | ⟨_, hE⟩
      · obtain ⟨r_8, er_8, hE⟩ := cl_e hE
        obtain ⟨h_9, eh_9, hE⟩ := nm_e2 hE
        refine (le_I eh_9).tr ?_
        obtain ⟨o_10, eo_10, hE⟩ := cl_e hE
        refine (moX2_advance eo_10).tr ?_
        exact le_some2 hE
      · exact moX2_takeRoyal_35 hE
    · exact moX2_takeRoyal_35 hE
set_option maxRecDepth 20000 in
theorem bX2_takeRoyal_35 {p : Program} {l : Launch} {e : Env} {s : State} {m : MethodId} {args : Array Value} {below : List Frame} {meth : Method} {c : Code} {X : Ec} {h0 : Hp} {o : Int32 × Hp} {F : Nat} (C : Cx X p s m args meth c RX2 cX2_takeRoyal 2 (some .boolean) "takeRoyal") {h : Hp} {H : Heap} {locs : List Loc} (hkm : Km h0 h) (hW : Wx X h H) (hZ : va_S (aA (eB X)) s.heap H locs) (ls : Array Slot) (hl : lv_has ls 2 []) (hE : sX2_takeRoyal_35 F h  = some o) : W p l e (rm 3 63) s m args below meth c H locs 0 0 (MQ below (QI X h0 o.1 o.2) args s 0 0 (aA (eB X))) (F0 m 35 ls []) := by
  refine lv_iconst (v := (0 : Int32)) C.1 C.2.1 dX2_takeRoyal_35 (by decide) ?_
  exact x_iret C rfl (by decide) hW hZ hkm hE dX2_takeRoyal_36
set_option maxRecDepth 20000 in
theorem ct_X2_takeRoyal (l : Launch) (X : Ec) (F : Nat) {h : Hp} {x0 : Nat} {o : Int32 × Hp} (k_x0 : hK h x0 = 2) (hE : sX2_takeRoyal F h x0 = some o) : MetI l yX2_takeRoyal cX2_takeRoyal 2 (some .boolean) 3 63 X [.ref x0] h o := by
  refine x_met (by decide) (Nat.le_of_ble_eq_true rfl) ?_
  intro p e s m below meth c ls C hl hW hZ
  have hl : lv_has ls 2 [(0, .ref x0)] := hl
  have hkm : Km h h := Km.rf h
  refine lv_aload_n C.1 C.2.1 dX2_takeRoyal_0 rfl (lv_at hl 0 rfl) ?_
  obtain ⟨o_1, eo_1, hE⟩ := cl_e hE
  refine x_kI (o := o_1) (z_runV (As := []) (rest := []) C (ct_X2_toldMan l X F k_x0 eo_1) cw_X2_210 hW hZ k_x0 (by decide) rfl rfl rfl hl.1 (Nat.le_of_ble_eq_true rfl) rfl dX2_takeRoyal_1 ⟨Nat.le_of_ble_eq_true rfl, Nat.le_of_ble_eq_true rfl⟩ ⟨Nat.le_refl _, Nat.le_refl _⟩) hZ (fun _ _ hW km hZ => ?_)
  replace hkm := hkm.tr km
  replace k_x0 := km.at k_x0 (by decide)
  refine lv_istore_n (lv' := [(1, .int o_1.1), (0, .ref x0)]) C.1 C.2.1 dX2_takeRoyal_4 rfl hl (by decide) rfl (fun ls hl => ?_)
  refine lv_iload_n C.1 C.2.1 dX2_takeRoyal_5 rfl (lv_at hl 0 rfl) ?_
  refine lv_iconst (v := (-1 : Int32)) C.1 C.2.1 dX2_takeRoyal_6 (by decide) ?_
  refine lv_icmp_eq (tgt := 35) C.1 C.2.1 dX2_takeRoyal_7 (by decide) (fun c_2 => ?_) (fun c_2 => ?_)
  · have hE := br_p hE c_2
    exact bX2_takeRoyal_35 C hkm hW hZ _ (lv_sub hl [] rfl) hE
  · have hE := br_n hE c_2
    refine lv_aload_n C.1 C.2.1 dX2_takeRoyal_10 rfl (lv_at hl 1 rfl) ?_
    obtain ⟨r_3, er_3, hE⟩ := cl_e hE
    refine gf_X2_15 C hW k_x0 er_3 dX2_takeRoyal_11 (fun k_r_3 => ?_)
    refine lv_iload_n C.1 C.2.1 dX2_takeRoyal_14 rfl (lv_at hl 0 rfl) ?_
    obtain ⟨o_4, eo_4, hE⟩ := cl_e hE
    refine x_kI (o := o_4) (z_runV (As := [.int o_1.1]) (rest := []) C (ct_X1_becomesOthers l X k_r_3 eo_4) cw_X2_213 hW hZ k_r_3 (by decide) rfl rfl rfl hl.1 (Nat.le_of_ble_eq_true rfl) rfl dX2_takeRoyal_15 ⟨Nat.le_of_ble_eq_true rfl, Nat.le_of_ble_eq_true rfl⟩ ⟨Nat.le_refl _, Nat.le_refl _⟩) hZ (fun _ _ hW km hZ => ?_)
    replace hkm := hkm.tr km
    replace k_x0 := km.at k_x0 (by decide)
    refine lv_if_ne (tgt := 35) C.1 C.2.1 dX2_takeRoyal_18 (by decide) (fun c_5 => ?_) (fun c_5 => ?_)
    · have hE := br_n hE c_5
      exact bX2_takeRoyal_35 C hkm hW hZ _ (lv_sub hl [] rfl) hE
    · have hE := br_p hE c_5
      refine lv_aload_n C.1 C.2.1 dX2_takeRoyal_21 rfl (lv_at hl 1 rfl) ?_
      obtain ⟨r_6, er_6, hE⟩ := cl_e hE
      refine gf_X2_15 C hW k_x0 er_6 dX2_takeRoyal_22 (fun k_r_6 => ?_)
      refine gf_X2_216 C hW k_r_6 dX2_takeRoyal_25 ?_
      refine lv_iload_n C.1 C.2.1 dX2_takeRoyal_28 rfl (lv_at hl 0 rfl) ?_
      refine lv_ishr C.1 C.2.1 dX2_takeRoyal_29 ?_
      refine lv_iconst (v := (1 : Int32)) C.1 C.2.1 dX2_takeRoyal_30 (by decide) ?_
      refine lv_iand C.1 C.2.1 dX2_takeRoyal_31 ?_
      refine lv_if_eq (tgt := 37) C.1 C.2.1 dX2_takeRoyal_32 (by decide) (fun c_7 => ?_) (fun c_7 => ?_)
      · have hE := br_p hE c_7
        refine lv_aload_n C.1 C.2.1 dX2_takeRoyal_37 rfl (lv_at hl 1 rfl) ?_
        obtain ⟨r_8, er_8, hE⟩ := cl_e hE
        refine gf_X2_15 C hW k_x0 er_8 dX2_takeRoyal_38 (fun k_r_8 => ?_)
        refine lv_iload_n C.1 C.2.1 dX2_takeRoyal_41 rfl (lv_at hl 0 rfl) ?_
        obtain ⟨h_9, eh_9, hE⟩ := nm_e2 hE
        refine pf_X2_115 C hW hZ k_r_8 eh_9 dX2_takeRoyal_42 (fun _ _ hW km hZ => ?_)
        replace hkm := hkm.tr km
        replace k_x0 := km.at k_x0 (by decide)
        refine lv_aload_n C.1 C.2.1 dX2_takeRoyal_45 rfl (lv_at hl 1 rfl) ?_
        obtain ⟨o_10, eo_10, hE⟩ := cl_e hE
        refine x_kV (o := o_10) (z_runV (As := []) (rest := []) C (ct_X2_advance l X F k_x0 eo_10) cw_X2_31 hW hZ k_x0 (by decide) rfl rfl rfl hl.1 (Nat.le_of_ble_eq_true rfl) rfl dX2_takeRoyal_46 ⟨Nat.le_of_ble_eq_true rfl, Nat.le_of_ble_eq_true rfl⟩ ⟨Nat.le_refl _, Nat.le_refl _⟩) hZ (fun _ _ hW km hZ => ?_)
        replace hkm := hkm.tr km
        replace k_x0 := km.at k_x0 (by decide)
        refine lv_iconst (v := (1 : Int32)) C.1 C.2.1 dX2_takeRoyal_49 (by decide) ?_
        exact x_iret C rfl (by decide) hW hZ hkm hE dX2_takeRoyal_50
      · have hE := br_n hE c_7
        exact bX2_takeRoyal_35 C hkm hW hZ _ (lv_sub hl [] rfl) hE
set_option maxRecDepth 100000 in
theorem m_98 : Cond.fieldLink RX2 219 (TX1 6).1 (TX1 6).2.1 (TX1 6).2.2.1 ∈ W0 := w0_in (List.mem_append_right _ (List.mem_of_getElem? (i := 98) rfl)) rfl
section
variable {p : Program} {l : Launch} {e : Env} {R : Room} {s : State} {m : MethodId} {args : Array Value} {below : List Frame} {meth : Method} {c : Code} {H : Heap} {locs : List Loc} {cells slots : Nat} {Q : State → Prop}
variable {cc : ByteArray} {pc : Nat} {ls : Array Slot} {rest : List Value} {X : Ec} {h h1 : Hp} {nL : Nat} {rt : Option FieldType} {mn : String}
theorem pf_X2_219 {a : Nat} {v : Int32} (C : Cx X p s m args meth c RX2 cc nL rt mn) (hW : Wx X h H) (hZ : va_S (aA (eB X)) s.heap H locs) (ha : hK h a = 1) (eh : h1 = wI h a 6 v) (hdg : decode cc pc = .ok (.putfield 219, 3)) (kk : ∀ (H1 : Heap) (locs1 : List Loc), Wx X h1 H1 → Km h h1 → va_S (aA (eB X)) s.heap H1 locs1 → W p l e R s m args below meth c H1 locs1 cells slots Q (F0 m (pc + 3) ls rest)) : W p l e R s m args below meth c H locs cells slots Q (F0 m pc ls (.int v :: .ref a :: rest)) :=
  y_puti (ty := .int) C hW hZ ha i_X1 tyX1 tyX1_ok nmX1 (by decide) rfl rfl (by decide) m_98 rfl (by decide +kernel) rfl rfl rfl eh hdg kk
end
theorem dX2_takeCastle_0 : decode cX2_takeCastle 0 = .ok (.aload_n 0, 1) := by decide +kernel
theorem dX2_takeCastle_1 : decode cX2_takeCastle 1 = .ok (.invokevirtual 210, 3) := by decide +kernel
theorem dX2_takeCastle_4 : decode cX2_takeCastle 4 = .ok (.istore_n 1, 1) := by decide +kernel
theorem dX2_takeCastle_5 : decode cX2_takeCastle 5 = .ok (.iload_n 1, 1) := by decide +kernel
theorem dX2_takeCastle_6 : decode cX2_takeCastle 6 = .ok (.iconst (-1), 1) := by decide +kernel
theorem dX2_takeCastle_7 : decode cX2_takeCastle 7 = .ok (.if_icmp .eq 14, 3) := by decide +kernel
theorem dX2_takeCastle_10 : decode cX2_takeCastle 10 = .ok (.iload_n 1, 1) := by decide +kernel
theorem dX2_takeCastle_11 : decode cX2_takeCastle 11 = .ok (.aload_n 0, 1) := by decide +kernel
theorem dX2_takeCastle_12 : decode cX2_takeCastle 12 = .ok (.getfield 15, 3) := by decide +kernel
theorem dX2_takeCastle_15 : decode cX2_takeCastle 15 = .ok (.getfield 115, 3) := by decide +kernel
theorem dX2_takeCastle_18 : decode cX2_takeCastle 18 = .ok (.if_icmp .ne 5, 3) := by decide +kernel
theorem dX2_takeCastle_21 : decode cX2_takeCastle 21 = .ok (.iconst 0, 1) := by decide +kernel
theorem dX2_takeCastle_22 : decode cX2_takeCastle 22 = .ok (.ireturn, 1) := by decide +kernel
theorem dX2_takeCastle_23 : decode cX2_takeCastle 23 = .ok (.aload_n 0, 1) := by decide +kernel
theorem dX2_takeCastle_24 : decode cX2_takeCastle 24 = .ok (.getfield 15, 3) := by decide +kernel
theorem dX2_takeCastle_27 : decode cX2_takeCastle 27 = .ok (.iload_n 1, 1) := by decide +kernel
theorem dX2_takeCastle_28 : decode cX2_takeCastle 28 = .ok (.putfield 219, 3) := by decide +kernel
theorem dX2_takeCastle_31 : decode cX2_takeCastle 31 = .ok (.aload_n 0, 1) := by decide +kernel
theorem dX2_takeCastle_32 : decode cX2_takeCastle 32 = .ok (.invokevirtual 31, 3) := by decide +kernel
theorem dX2_takeCastle_35 : decode cX2_takeCastle 35 = .ok (.iconst 1, 1) := by decide +kernel
theorem dX2_takeCastle_36 : decode cX2_takeCastle 36 = .ok (.ireturn, 1) := by decide +kernel
def sX2_takeCastle_21 (F : Nat) (h : Hp) : Option (Int32 × Hp) := some ((0 : Int32), h)
def sX2_takeCastle (F : Nat) (h : Hp) (x0 : Nat) : Option (Int32 × Hp) := cl (sX2_toldMan F h x0) fun o_1 => br (o_1.1 = (-1 : Int32)) (sX2_takeCastle_21 F o_1.2 ) (cl (hR o_1.2 x0 1) fun r_3 => br (o_1.1 = (hI o_1.2 r_3 4)) (sX2_takeCastle_21 F o_1.2 ) (cl (hR o_1.2 x0 1) fun r_5 => nm (wI o_1.2 r_5 6 o_1.1) fun h_6 => cl (sX2_advance F h_6 x0) fun o_7 => some ((1 : Int32), o_7)))
set_option maxRecDepth 20000 in
theorem moX2_takeCastle_21 {o : Int32 × Hp} {F : Nat} {h : Hp} (hE : sX2_takeCastle_21 F h  = some o) : Le h o.2 := by
  exact le_some2 hE
set_option maxRecDepth 20000 in
theorem moX2_takeCastle {o : Int32 × Hp} {F : Nat} {h : Hp} {x0 : Nat} (hE : sX2_takeCastle F h x0 = some o) : Le h o.2 := by
  obtain ⟨o_1, eo_1, hE⟩ := cl_e hE
  refine (moX2_toldMan eo_1).tr ?_
  rcases br_e hE with ⟨_, hE⟩ | ⟨_, hE⟩
  · exact moX2_takeCastle_21 hE
  · obtain ⟨r_3, er_3, hE⟩ := cl_e hE
    rcases br_e hE with ⟨_, hE⟩ | ⟨_, hE⟩
    · exact moX2_takeCastle_21 hE
    · obtain ⟨r_5, er_5, hE⟩ := cl_e hE
      obtain ⟨h_6, eh_6, hE⟩ := nm_e2 hE
      refine (le_I eh_6).tr ?_
      obtain ⟨o_7, eo_7, hE⟩ := cl_e hE
      refine (moX2_advance eo_7).tr ?_
      exact le_some2 hE
set_option maxRecDepth 20000 in
theorem bX2_takeCastle_21 {p : Program} {l : Launch} {e : Env} {s : State} {m : MethodId} {args : Array Value} {below : List Frame} {meth : Method} {c : Code} {X : Ec} {h0 : Hp} {o : Int32 × Hp} {F : Nat} (C : Cx X p s m args meth c RX2 cX2_takeCastle 2 (some .boolean) "takeCastle") {h : Hp} {H : Heap} {locs : List Loc} (hkm : Km h0 h) (hW : Wx X h H) (hZ : va_S (aA (eB X)) s.heap H locs) (ls : Array Slot) (hl : lv_has ls 2 []) (hE : sX2_takeCastle_21 F h  = some o) : W p l e (rm 3 63) s m args below meth c H locs 0 0 (MQ below (QI X h0 o.1 o.2) args s 0 0 (aA (eB X))) (F0 m 21 ls []) := by
  refine lv_iconst (v := (0 : Int32)) C.1 C.2.1 dX2_takeCastle_21 (by decide) ?_
  exact x_iret C rfl (by decide) hW hZ hkm hE dX2_takeCastle_22
set_option maxRecDepth 20000 in
theorem ct_X2_takeCastle (l : Launch) (X : Ec) (F : Nat) {h : Hp} {x0 : Nat} {o : Int32 × Hp} (k_x0 : hK h x0 = 2) (hE : sX2_takeCastle F h x0 = some o) : MetI l yX2_takeCastle cX2_takeCastle 2 (some .boolean) 3 63 X [.ref x0] h o := by
  refine x_met (by decide) (Nat.le_of_ble_eq_true rfl) ?_
  intro p e s m below meth c ls C hl hW hZ
  have hl : lv_has ls 2 [(0, .ref x0)] := hl
  have hkm : Km h h := Km.rf h
  refine lv_aload_n C.1 C.2.1 dX2_takeCastle_0 rfl (lv_at hl 0 rfl) ?_
  obtain ⟨o_1, eo_1, hE⟩ := cl_e hE
  refine x_kI (o := o_1) (z_runV (As := []) (rest := []) C (ct_X2_toldMan l X F k_x0 eo_1) cw_X2_210 hW hZ k_x0 (by decide) rfl rfl rfl hl.1 (Nat.le_of_ble_eq_true rfl) rfl dX2_takeCastle_1 ⟨Nat.le_of_ble_eq_true rfl, Nat.le_of_ble_eq_true rfl⟩ ⟨Nat.le_refl _, Nat.le_refl _⟩) hZ (fun _ _ hW km hZ => ?_)
  replace hkm := hkm.tr km
  replace k_x0 := km.at k_x0 (by decide)
  refine lv_istore_n (lv' := [(1, .int o_1.1), (0, .ref x0)]) C.1 C.2.1 dX2_takeCastle_4 rfl hl (by decide) rfl (fun ls hl => ?_)
  refine lv_iload_n C.1 C.2.1 dX2_takeCastle_5 rfl (lv_at hl 0 rfl) ?_
  refine lv_iconst (v := (-1 : Int32)) C.1 C.2.1 dX2_takeCastle_6 (by decide) ?_
  refine lv_icmp_eq (tgt := 21) C.1 C.2.1 dX2_takeCastle_7 (by decide) (fun c_2 => ?_) (fun c_2 => ?_)
  · have hE := br_p hE c_2
    exact bX2_takeCastle_21 C hkm hW hZ _ (lv_sub hl [] rfl) hE
  · have hE := br_n hE c_2
    refine lv_iload_n C.1 C.2.1 dX2_takeCastle_10 rfl (lv_at hl 0 rfl) ?_
    refine lv_aload_n C.1 C.2.1 dX2_takeCastle_11 rfl (lv_at hl 1 rfl) ?_
    obtain ⟨r_3, er_3, hE⟩ := cl_e hE
    refine gf_X2_15 C hW k_x0 er_3 dX2_takeCastle_12 (fun k_r_3 => ?_)
    refine gf_X2_115 C hW k_r_3 dX2_takeCastle_15 ?_
    refine lv_icmp_ne (tgt := 23) C.1 C.2.1 dX2_takeCastle_18 (by decide) (fun c_4 => ?_) (fun c_4 => ?_)
    · have hE := br_n hE c_4
      refine lv_aload_n C.1 C.2.1 dX2_takeCastle_23 rfl (lv_at hl 1 rfl) ?_
      obtain ⟨r_5, er_5, hE⟩ := cl_e hE
      refine gf_X2_15 C hW k_x0 er_5 dX2_takeCastle_24 (fun k_r_5 => ?_)
      refine lv_iload_n C.1 C.2.1 dX2_takeCastle_27 rfl (lv_at hl 0 rfl) ?_
      obtain ⟨h_6, eh_6, hE⟩ := nm_e2 hE
      refine pf_X2_219 C hW hZ k_r_5 eh_6 dX2_takeCastle_28 (fun _ _ hW km hZ => ?_)
      replace hkm := hkm.tr km
      replace k_x0 := km.at k_x0 (by decide)
      refine lv_aload_n C.1 C.2.1 dX2_takeCastle_31 rfl (lv_at hl 1 rfl) ?_
      obtain ⟨o_7, eo_7, hE⟩ := cl_e hE
      refine x_kV (o := o_7) (z_runV (As := []) (rest := []) C (ct_X2_advance l X F k_x0 eo_7) cw_X2_31 hW hZ k_x0 (by decide) rfl rfl rfl hl.1 (Nat.le_of_ble_eq_true rfl) rfl dX2_takeCastle_32 ⟨Nat.le_of_ble_eq_true rfl, Nat.le_of_ble_eq_true rfl⟩ ⟨Nat.le_refl _, Nat.le_refl _⟩) hZ (fun _ _ hW km hZ => ?_)
      replace hkm := hkm.tr km
      replace k_x0 := km.at k_x0 (by decide)
      refine lv_iconst (v := (1 : Int32)) C.1 C.2.1 dX2_takeCastle_35 (by decide) ?_
      exact x_iret C rfl (by decide) hW hZ hkm hE dX2_takeCastle_36
    · have hE := br_p hE c_4
      exact bX2_takeCastle_21 C hkm hW hZ _ (lv_sub hl [] rfl) hE
set_option maxRecDepth 100000 in
theorem m_110 : Cond.fieldLink RX2 146 (TX1 10).1 (TX1 10).2.1 (TX1 10).2.2.1 ∈ W0 := w0_in (List.mem_append_right _ (List.mem_of_getElem? (i := 110) rfl)) rfl
set_option maxRecDepth 100000 in
theorem m_112 : Cond.fieldLink RX2 229 (TX1 11).1 (TX1 11).2.1 (TX1 11).2.2.1 ∈ W0 := w0_in (List.mem_append_right _ (List.mem_of_getElem? (i := 112) rfl)) rfl
section
variable {p : Program} {l : Launch} {e : Env} {R : Room} {s : State} {m : MethodId} {args : Array Value} {below : List Frame} {meth : Method} {c : Code} {H : Heap} {locs : List Loc} {cells slots : Nat} {Q : State → Prop}
variable {cc : ByteArray} {pc : Nat} {ls : Array Slot} {rest : List Value} {X : Ec} {h h1 : Hp} {nL : Nat} {rt : Option FieldType} {mn : String}
theorem gf_X2_229 {a : Nat} (C : Cx X p s m args meth c RX2 cc nL rt mn) (hW : Wx X h H) (ha : hK h a = 1) (hdg : decode cc pc = .ok (.getfield 229, 3)) (kk : W p l e R s m args below meth c H locs cells slots Q (F0 m (pc + 3) ls (.int (hI h a 11) :: rest))) : W p l e R s m args below meth c H locs cells slots Q (F0 m pc ls (.ref a :: rest)) :=
  y_geti C hW ha i_X1 (by decide) rfl (by decide) m_112 rfl hdg kk
theorem pf_X2_229 {a : Nat} {v : Int32} (C : Cx X p s m args meth c RX2 cc nL rt mn) (hW : Wx X h H) (hZ : va_S (aA (eB X)) s.heap H locs) (ha : hK h a = 1) (eh : h1 = wI h a 11 v) (hdg : decode cc pc = .ok (.putfield 229, 3)) (kk : ∀ (H1 : Heap) (locs1 : List Loc), Wx X h1 H1 → Km h h1 → va_S (aA (eB X)) s.heap H1 locs1 → W p l e R s m args below meth c H1 locs1 cells slots Q (F0 m (pc + 3) ls rest)) : W p l e R s m args below meth c H locs cells slots Q (F0 m pc ls (.int v :: .ref a :: rest)) :=
  y_puti (ty := .int) C hW hZ ha i_X1 tyX1 tyX1_ok nmX1 (by decide) rfl rfl (by decide) m_112 rfl (by decide +kernel) rfl rfl rfl eh hdg kk
theorem gf_X2_146 {a : Nat} (C : Cx X p s m args meth c RX2 cc nL rt mn) (hW : Wx X h H) (ha : hK h a = 1) (hdg : decode cc pc = .ok (.getfield 146, 3)) (kk : W p l e R s m args below meth c H locs cells slots Q (F0 m (pc + 3) ls (.int (hI h a 10) :: rest))) : W p l e R s m args below meth c H locs cells slots Q (F0 m pc ls (.ref a :: rest)) :=
  y_geti C hW ha i_X1 (by decide) rfl (by decide) m_110 rfl hdg kk
theorem pf_X2_146 {a : Nat} {v : Int32} (C : Cx X p s m args meth c RX2 cc nL rt mn) (hW : Wx X h H) (hZ : va_S (aA (eB X)) s.heap H locs) (ha : hK h a = 1) (eh : h1 = wI h a 10 v) (hdg : decode cc pc = .ok (.putfield 146, 3)) (kk : ∀ (H1 : Heap) (locs1 : List Loc), Wx X h1 H1 → Km h h1 → va_S (aA (eB X)) s.heap H1 locs1 → W p l e R s m args below meth c H1 locs1 cells slots Q (F0 m (pc + 3) ls rest)) : W p l e R s m args below meth c H locs cells slots Q (F0 m pc ls (.int v :: .ref a :: rest)) :=
  y_puti (ty := .int) C hW hZ ha i_X1 tyX1 tyX1_ok nmX1 (by decide) rfl rfl (by decide) m_110 rfl (by decide +kernel) rfl rfl rfl eh hdg kk
end
theorem dX2_takeBlast_0 : decode cX2_takeBlast 0 = .ok (.aload_n 0, 1) := by decide +kernel
theorem dX2_takeBlast_1 : decode cX2_takeBlast 1 = .ok (.getfield 15, 3) := by decide +kernel
theorem dX2_takeBlast_4 : decode cX2_takeBlast 4 = .ok (.dup, 1) := by decide +kernel
theorem dX2_takeBlast_5 : decode cX2_takeBlast 5 = .ok (.getfield 146, 3) := by decide +kernel
theorem dX2_takeBlast_8 : decode cX2_takeBlast 8 = .ok (.bipush 8, 2) := by decide +kernel
theorem dX2_takeBlast_10 : decode cX2_takeBlast 10 = .ok (.ior, 1) := by decide +kernel
theorem dX2_takeBlast_11 : decode cX2_takeBlast 11 = .ok (.putfield 146, 3) := by decide +kernel
theorem dX2_takeBlast_14 : decode cX2_takeBlast 14 = .ok (.iconst 0, 1) := by decide +kernel
theorem dX2_takeBlast_15 : decode cX2_takeBlast 15 = .ok (.istore_n 1, 1) := by decide +kernel
theorem dX2_takeBlast_16 : decode cX2_takeBlast 16 = .ok (.iload_n 1, 1) := by decide +kernel
theorem dX2_takeBlast_17 : decode cX2_takeBlast 17 = .ok (.bipush 12, 2) := by decide +kernel
theorem dX2_takeBlast_19 : decode cX2_takeBlast 19 = .ok (.if_icmp .ge 62, 3) := by decide +kernel
theorem dX2_takeBlast_22 : decode cX2_takeBlast 22 = .ok (.aload_n 0, 1) := by decide +kernel
theorem dX2_takeBlast_23 : decode cX2_takeBlast 23 = .ok (.getfield 38, 3) := by decide +kernel
theorem dX2_takeBlast_26 : decode cX2_takeBlast 26 = .ok (.iconst 1, 1) := by decide +kernel
theorem dX2_takeBlast_27 : decode cX2_takeBlast 27 = .ok (.if_icmp .ne 54, 3) := by decide +kernel
theorem dX2_takeBlast_30 : decode cX2_takeBlast 30 = .ok (.aload_n 0, 1) := by decide +kernel
theorem dX2_takeBlast_31 : decode cX2_takeBlast 31 = .ok (.invokevirtual 210, 3) := by decide +kernel
theorem dX2_takeBlast_34 : decode cX2_takeBlast 34 = .ok (.istore_n 2, 1) := by decide +kernel
theorem dX2_takeBlast_35 : decode cX2_takeBlast 35 = .ok (.iload_n 2, 1) := by decide +kernel
theorem dX2_takeBlast_36 : decode cX2_takeBlast 36 = .ok (.iconst (-1), 1) := by decide +kernel
theorem dX2_takeBlast_37 : decode cX2_takeBlast 37 = .ok (.if_icmp .eq 17, 3) := by decide +kernel
theorem dX2_takeBlast_40 : decode cX2_takeBlast 40 = .ok (.aload_n 0, 1) := by decide +kernel
theorem dX2_takeBlast_41 : decode cX2_takeBlast 41 = .ok (.getfield 15, 3) := by decide +kernel
theorem dX2_takeBlast_44 : decode cX2_takeBlast 44 = .ok (.getfield 229, 3) := by decide +kernel
theorem dX2_takeBlast_47 : decode cX2_takeBlast 47 = .ok (.iload_n 2, 1) := by decide +kernel
theorem dX2_takeBlast_48 : decode cX2_takeBlast 48 = .ok (.ishr, 1) := by decide +kernel
theorem dX2_takeBlast_49 : decode cX2_takeBlast 49 = .ok (.iconst 1, 1) := by decide +kernel
theorem dX2_takeBlast_50 : decode cX2_takeBlast 50 = .ok (.iand, 1) := by decide +kernel
theorem dX2_takeBlast_51 : decode cX2_takeBlast 51 = .ok (.ifCond .eq 5, 3) := by decide +kernel
theorem dX2_takeBlast_54 : decode cX2_takeBlast 54 = .ok (.iconst 0, 1) := by decide +kernel
theorem dX2_takeBlast_55 : decode cX2_takeBlast 55 = .ok (.ireturn, 1) := by decide +kernel
theorem dX2_takeBlast_56 : decode cX2_takeBlast 56 = .ok (.aload_n 0, 1) := by decide +kernel
theorem dX2_takeBlast_57 : decode cX2_takeBlast 57 = .ok (.getfield 15, 3) := by decide +kernel
theorem dX2_takeBlast_60 : decode cX2_takeBlast 60 = .ok (.dup, 1) := by decide +kernel
theorem dX2_takeBlast_61 : decode cX2_takeBlast 61 = .ok (.getfield 229, 3) := by decide +kernel
theorem dX2_takeBlast_64 : decode cX2_takeBlast 64 = .ok (.iconst 1, 1) := by decide +kernel
theorem dX2_takeBlast_65 : decode cX2_takeBlast 65 = .ok (.iload_n 2, 1) := by decide +kernel
theorem dX2_takeBlast_66 : decode cX2_takeBlast 66 = .ok (.ishl, 1) := by decide +kernel
theorem dX2_takeBlast_67 : decode cX2_takeBlast 67 = .ok (.ior, 1) := by decide +kernel
theorem dX2_takeBlast_68 : decode cX2_takeBlast 68 = .ok (.putfield 229, 3) := by decide +kernel
theorem dX2_takeBlast_71 : decode cX2_takeBlast 71 = .ok (.aload_n 0, 1) := by decide +kernel
theorem dX2_takeBlast_72 : decode cX2_takeBlast 72 = .ok (.invokevirtual 31, 3) := by decide +kernel
theorem dX2_takeBlast_75 : decode cX2_takeBlast 75 = .ok (.iinc 1 1, 3) := by decide +kernel
theorem dX2_takeBlast_78 : decode cX2_takeBlast 78 = .ok (.goto (-62), 3) := by decide +kernel
theorem dX2_takeBlast_81 : decode cX2_takeBlast 81 = .ok (.iconst 1, 1) := by decide +kernel
theorem dX2_takeBlast_82 : decode cX2_takeBlast 82 = .ok (.ireturn, 1) := by decide +kernel
def sX2_takeBlast_81 (F : Nat) (h : Hp) : Option (Int32 × Hp) := some ((1 : Int32), h)
def sX2_takeBlast_54 (F : Nat) (h : Hp) : Option (Int32 × Hp) := some ((0 : Int32), h)
def sX2_takeBlast_16 (F : Nat) : Nat → Hp → Nat → Int32 → Option (Int32 × Hp)
  | 0, _, _, _ => none
  | f + 1, h, x0, x1 => br ((12 : Int32) ≤ x1) (sX2_takeBlast_81 F h ) (br ((hI h x0 4) = (1 : Int32)) (cl (sX2_toldMan F h x0) fun o_3 => br (o_3.1 = (-1 : Int32)) (sX2_takeBlast_54 F o_3.2 ) (cl (hR o_3.2 x0 1) fun r_5 => br ((((hI o_3.2 r_5 11) >>> (o_3.1 &&& 31)) &&& (1 : Int32)) = 0) (cl (hR o_3.2 x0 1) fun r_7 => nm (wI o_3.2 r_7 11 ((hI o_3.2 r_7 11) ||| ((1 : Int32) <<< (o_3.1 &&& 31)))) fun h_8 => cl (sX2_advance F h_8 x0) fun o_9 => nm (x1 + (1 : Int32)) fun v_10 => sX2_takeBlast_16 F f o_9 x0 v_10) (sX2_takeBlast_54 F o_3.2 ))) (sX2_takeBlast_81 F h ))
def sX2_takeBlast (F : Nat) (h : Hp) (x0 : Nat) : Option (Int32 × Hp) := cl (hR h x0 1) fun r_1 => nm (wI h r_1 10 ((hI h r_1 10) ||| (8 : Int32))) fun h_2 => sX2_takeBlast_16 F F h_2 x0 (0 : Int32)
set_option maxRecDepth 20000 in
theorem moX2_takeBlast_81 {o : Int32 × Hp} {F : Nat} {h : Hp} (hE : sX2_takeBlast_81 F h  = some o) : Le h o.2 := by
  exact le_some2 hE
set_option maxRecDepth 20000 in
theorem moX2_takeBlast_54 {o : Int32 × Hp} {F : Nat} {h : Hp} (hE : sX2_takeBlast_54 F h  = some o) : Le h o.2 := by
  exact le_some2 hE
set_option maxRecDepth 20000 in
theorem moX2_takeBlast_16 {o : Int32 × Hp} {F : Nat} : ∀ (f : Nat) {h : Hp} {x0 : Nat} {x1 : Int32}, sX2_takeBlast_16 F f h x0 x1 = some o → Le h o.2 := by
  intro f
  induction f with
  | zero =>
    intro h x0 x1 hE
    rw [sX2_takeBlast_16] at hE
    cases hE
  | succ f ih =>
    intro h x0 x1 hE
    rw [sX2_takeBlast_16] at hE
    have mk_16 : ∀ (h : Hp) (x0 : Nat) (x1 : Int32), sX2_takeBlast_16 F f h x0 x1 = some o → Le h o.2 := fun h x0 x1 hE => ih hE
    rcases br_e hE with ⟨_, hE⟩ | ⟨_, hE⟩
    · exact moX2_takeBlast_81 hE
    · rcases br_e hE with ⟨_, hE⟩ | ⟨_, hE⟩
      · obtain ⟨o_3, eo_3, hE⟩ := cl_e hE
        refine (moX2_toldMan eo_3).tr ?_
        rcases br_e hE with ⟨_, hE⟩ | ⟨_, hE⟩
        · exact moX2_takeBlast_54 hE
        · obtain ⟨r_5, er_5, hE⟩ := cl_e hE
          rcases br_e hE with ⟨_, hE⟩ | ⟨_, hE⟩
          · obtain ⟨r_7, er_7, hE⟩ := cl_e hE
            obtain ⟨h_8, eh_8, hE⟩ := nm_e2 hE
            refine (le_I eh_8).tr ?_
            obtain ⟨o_9, eo_9, hE⟩ := cl_e hE
            refine (moX2_advance eo_9).tr ?_
            obtain ⟨v_10, ev_10, hE⟩ := nm_e2 hE
            exact mk_16 _ _ _ hE
          · exact moX2_takeBlast_54 hE
      · exact moX2_takeBlast_81 hE
set_option maxRecDepth 20000 in
theorem moX2_takeBlast {o : Int32 × Hp} {F : Nat} {h : Hp} {x0 : Nat} (hE : sX2_takeBlast F h x0 = some o) : Le h o.2 := by
  obtain ⟨r_1, er_1, hE⟩ := cl_e hE
  obtain ⟨h_2, eh_2, hE⟩ := nm_e2 hE
  refine (le_I eh_2).tr ?_
  exact moX2_takeBlast_16 _ hE
set_option maxRecDepth 20000 in
theorem bX2_takeBlast_81 {p : Program} {l : Launch} {e : Env} {s : State} {m : MethodId} {args : Array Value} {below : List Frame} {meth : Method} {c : Code} {X : Ec} {h0 : Hp} {o : Int32 × Hp} {F : Nat} (C : Cx X p s m args meth c RX2 cX2_takeBlast 3 (some .boolean) "takeBlast") {h : Hp} {H : Heap} {locs : List Loc} (hkm : Km h0 h) (hW : Wx X h H) (hZ : va_S (aA (eB X)) s.heap H locs) (ls : Array Slot) (hl : lv_has ls 3 []) (hE : sX2_takeBlast_81 F h  = some o) : W p l e (rm 3 63) s m args below meth c H locs 0 0 (MQ below (QI X h0 o.1 o.2) args s 0 0 (aA (eB X))) (F0 m 81 ls []) := by
  refine lv_iconst (v := (1 : Int32)) C.1 C.2.1 dX2_takeBlast_81 (by decide) ?_
  exact x_iret C rfl (by decide) hW hZ hkm hE dX2_takeBlast_82
set_option maxRecDepth 20000 in
theorem bX2_takeBlast_54 {p : Program} {l : Launch} {e : Env} {s : State} {m : MethodId} {args : Array Value} {below : List Frame} {meth : Method} {c : Code} {X : Ec} {h0 : Hp} {o : Int32 × Hp} {F : Nat} (C : Cx X p s m args meth c RX2 cX2_takeBlast 3 (some .boolean) "takeBlast") {h : Hp} {H : Heap} {locs : List Loc} (hkm : Km h0 h) (hW : Wx X h H) (hZ : va_S (aA (eB X)) s.heap H locs) (ls : Array Slot) (hl : lv_has ls 3 []) (hE : sX2_takeBlast_54 F h  = some o) : W p l e (rm 3 63) s m args below meth c H locs 0 0 (MQ below (QI X h0 o.1 o.2) args s 0 0 (aA (eB X))) (F0 m 54 ls []) := by
  refine lv_iconst (v := (0 : Int32)) C.1 C.2.1 dX2_takeBlast_54 (by decide) ?_
  exact x_iret C rfl (by decide) hW hZ hkm hE dX2_takeBlast_55
set_option maxRecDepth 20000 in
theorem bX2_takeBlast_16 {p : Program} {l : Launch} {e : Env} {s : State} {m : MethodId} {args : Array Value} {below : List Frame} {meth : Method} {c : Code} {X : Ec} {h0 : Hp} {o : Int32 × Hp} {F : Nat} (C : Cx X p s m args meth c RX2 cX2_takeBlast 3 (some .boolean) "takeBlast") : ∀ (f : Nat) {h : Hp} {x0 : Nat} {x1 : Int32} {H : Heap} {locs : List Loc} (k_x0 : hK h x0 = 2), Km h0 h → Wx X h H → va_S (aA (eB X)) s.heap H locs → ∀ (ls : Array Slot), lv_has ls 3 [(0, .ref x0), (1, .int x1)] → sX2_takeBlast_16 F f h x0 x1 = some o → W p l e (rm 3 63) s m args below meth c H locs 0 0 (MQ below (QI X h0 o.1 o.2) args s 0 0 (aA (eB X))) (F0 m 16 ls []) := by
  intro f
  induction f with
  | zero =>
    intro h x0 x1 H locs k_x0 hkm hW hZ ls hl hE
    rw [sX2_takeBlast_16] at hE
    cases hE
  | succ f ih =>
    intro h x0 x1 H locs k_x0 hkm hW hZ ls hl hE
    rw [sX2_takeBlast_16] at hE
    have hk_16 : ∀ (h : Hp) (x0 : Nat) (x1 : Int32) (H : Heap) (locs : List Loc), hK h x0 = 2 → Km h0 h → Wx X h H → va_S (aA (eB X)) s.heap H locs → ∀ (ls : Array Slot), lv_has ls 3 [(0, .ref x0), (1, .int x1)] → sX2_takeBlast_16 F f h x0 x1 = some o → W p l e (rm 3 63) s m args below meth c H locs 0 0 (MQ below (QI X h0 o.1 o.2) args s 0 0 (aA (eB X))) (F0 m 16 ls []) := fun h x0 x1 H locs k_x0 a b c ls hl hE => ih k_x0 a b c ls hl hE
    refine lv_iload_n C.1 C.2.1 dX2_takeBlast_16 rfl (lv_at hl 1 rfl) ?_
    refine lv_bipush (v := (12 : Int32)) C.1 C.2.1 dX2_takeBlast_17 (by decide) ?_
    refine lv_icmp_ge (tgt := 81) C.1 C.2.1 dX2_takeBlast_19 (by decide) (fun c_1 => ?_) (fun c_1 => ?_)
    · have hE := br_p hE c_1
      exact bX2_takeBlast_81 C hkm hW hZ _ (lv_sub hl [] rfl) hE
    · have hE := br_n hE c_1
      refine lv_aload_n C.1 C.2.1 dX2_takeBlast_22 rfl (lv_at hl 0 rfl) ?_
      refine gf_X2_38 C hW k_x0 dX2_takeBlast_23 ?_
      refine lv_iconst (v := (1 : Int32)) C.1 C.2.1 dX2_takeBlast_26 (by decide) ?_
      refine lv_icmp_ne (tgt := 81) C.1 C.2.1 dX2_takeBlast_27 (by decide) (fun c_2 => ?_) (fun c_2 => ?_)
      · have hE := br_n hE c_2
        exact bX2_takeBlast_81 C hkm hW hZ _ (lv_sub hl [] rfl) hE
      · have hE := br_p hE c_2
        refine lv_aload_n C.1 C.2.1 dX2_takeBlast_30 rfl (lv_at hl 0 rfl) ?_
        obtain ⟨o_3, eo_3, hE⟩ := cl_e hE
        refine x_kI (o := o_3) (z_runV (As := []) (rest := []) C (ct_X2_toldMan l X F k_x0 eo_3) cw_X2_210 hW hZ k_x0 (by decide) rfl rfl rfl hl.1 (Nat.le_of_ble_eq_true rfl) rfl dX2_takeBlast_31 ⟨Nat.le_of_ble_eq_true rfl, Nat.le_of_ble_eq_true rfl⟩ ⟨Nat.le_refl _, Nat.le_refl _⟩) hZ (fun _ _ hW km hZ => ?_)
        replace hkm := hkm.tr km
        replace k_x0 := km.at k_x0 (by decide)
        refine lv_istore_n (lv' := [(2, .int o_3.1), (0, .ref x0), (1, .int x1)]) C.1 C.2.1 dX2_takeBlast_34 rfl hl (by decide) rfl (fun ls hl => ?_)
        refine lv_iload_n C.1 C.2.1 dX2_takeBlast_35 rfl (lv_at hl 0 rfl) ?_
        refine lv_iconst (v := (-1 : Int32)) C.1 C.2.1 dX2_takeBlast_36 (by decide) ?_
        refine lv_icmp_eq (tgt := 54) C.1 C.2.1 dX2_takeBlast_37 (by decide) (fun c_4 => ?_) (fun c_4 => ?_)
        · have hE := br_p hE c_4
          exact bX2_takeBlast_54 C hkm hW hZ _ (lv_sub hl [] rfl) hE
        · have hE := br_n hE c_4
          refine lv_aload_n C.1 C.2.1 dX2_takeBlast_40 rfl (lv_at hl 1 rfl) ?_
          obtain ⟨r_5, er_5, hE⟩ := cl_e hE
          refine gf_X2_15 C hW k_x0 er_5 dX2_takeBlast_41 (fun k_r_5 => ?_)
          refine gf_X2_229 C hW k_r_5 dX2_takeBlast_44 ?_
          refine lv_iload_n C.1 C.2.1 dX2_takeBlast_47 rfl (lv_at hl 0 rfl) ?_
          refine lv_ishr C.1 C.2.1 dX2_takeBlast_48 ?_
          refine lv_iconst (v := (1 : Int32)) C.1 C.2.1 dX2_takeBlast_49 (by decide) ?_
          refine lv_iand C.1 C.2.1 dX2_takeBlast_50 ?_
          refine lv_if_eq (tgt := 56) C.1 C.2.1 dX2_takeBlast_51 (by decide) (fun c_6 => ?_) (fun c_6 => ?_)
          · have hE := br_p hE c_6
            refine lv_aload_n C.1 C.2.1 dX2_takeBlast_56 rfl (lv_at hl 1 rfl) ?_
            obtain ⟨r_7, er_7, hE⟩ := cl_e hE
            refine gf_X2_15 C hW k_x0 er_7 dX2_takeBlast_57 (fun k_r_7 => ?_)
            refine lv_dup C.1 C.2.1 dX2_takeBlast_60 rfl ?_
            refine gf_X2_229 C hW k_r_7 dX2_takeBlast_61 ?_
            refine lv_iconst (v := (1 : Int32)) C.1 C.2.1 dX2_takeBlast_64 (by decide) ?_
            refine lv_iload_n C.1 C.2.1 dX2_takeBlast_65 rfl (lv_at hl 0 rfl) ?_
            refine lv_ishl C.1 C.2.1 dX2_takeBlast_66 ?_
            refine lv_ior C.1 C.2.1 dX2_takeBlast_67 ?_
            obtain ⟨h_8, eh_8, hE⟩ := nm_e2 hE
            refine pf_X2_229 C hW hZ k_r_7 eh_8 dX2_takeBlast_68 (fun _ _ hW km hZ => ?_)
            replace hkm := hkm.tr km
            replace k_x0 := km.at k_x0 (by decide)
            refine lv_aload_n C.1 C.2.1 dX2_takeBlast_71 rfl (lv_at hl 1 rfl) ?_
            obtain ⟨o_9, eo_9, hE⟩ := cl_e hE
            refine x_kV (o := o_9) (z_runV (As := []) (rest := []) C (ct_X2_advance l X F k_x0 eo_9) cw_X2_31 hW hZ k_x0 (by decide) rfl rfl rfl hl.1 (Nat.le_of_ble_eq_true rfl) rfl dX2_takeBlast_72 ⟨Nat.le_of_ble_eq_true rfl, Nat.le_of_ble_eq_true rfl⟩ ⟨Nat.le_refl _, Nat.le_refl _⟩) hZ (fun _ _ hW km hZ => ?_)
            replace hkm := hkm.tr km
            replace k_x0 := km.at k_x0 (by decide)
            obtain ⟨v_10, ev_10, hE⟩ := nm_e2 hE
            refine lv_iinc (v := v_10) (lv' := [(1, .int v_10), (2, .int o_3.1), (0, .ref x0)]) C.1 C.2.1 dX2_takeBlast_75 hl (k := 2) rfl (by rw [ev_10]; rfl) (by decide) rfl (fun ls hl => ?_)
            refine lv_goto (tgt := 16) C.1 C.2.1 dX2_takeBlast_78 (by decide) ?_
            exact hk_16 _ _ _ _ _ k_x0 hkm hW hZ _ (lv_sub hl [2, 0] rfl) hE
          · have hE := br_n hE c_6
            exact bX2_takeBlast_54 C hkm hW hZ _ (lv_sub hl [] rfl) hE
set_option maxRecDepth 20000 in
theorem ct_X2_takeBlast (l : Launch) (X : Ec) (F : Nat) {h : Hp} {x0 : Nat} {o : Int32 × Hp} (k_x0 : hK h x0 = 2) (hE : sX2_takeBlast F h x0 = some o) : MetI l yX2_takeBlast cX2_takeBlast 3 (some .boolean) 3 63 X [.ref x0] h o := by
  refine x_met (by decide) (Nat.le_of_ble_eq_true rfl) ?_
  intro p e s m below meth c ls C hl hW hZ
  have hl : lv_has ls 3 [(0, .ref x0)] := hl
  have hkm : Km h h := Km.rf h
  refine lv_aload_n C.1 C.2.1 dX2_takeBlast_0 rfl (lv_at hl 0 rfl) ?_
  obtain ⟨r_1, er_1, hE⟩ := cl_e hE
  refine gf_X2_15 C hW k_x0 er_1 dX2_takeBlast_1 (fun k_r_1 => ?_)
  refine lv_dup C.1 C.2.1 dX2_takeBlast_4 rfl ?_
  refine gf_X2_146 C hW k_r_1 dX2_takeBlast_5 ?_
  refine lv_bipush (v := (8 : Int32)) C.1 C.2.1 dX2_takeBlast_8 (by decide) ?_
  refine lv_ior C.1 C.2.1 dX2_takeBlast_10 ?_
  obtain ⟨h_2, eh_2, hE⟩ := nm_e2 hE
  refine pf_X2_146 C hW hZ k_r_1 eh_2 dX2_takeBlast_11 (fun _ _ hW km hZ => ?_)
  replace hkm := hkm.tr km
  replace k_x0 := km.at k_x0 (by decide)
  refine lv_iconst (v := (0 : Int32)) C.1 C.2.1 dX2_takeBlast_14 (by decide) ?_
  refine lv_istore_n (lv' := [(1, .int (0 : Int32)), (0, .ref x0)]) C.1 C.2.1 dX2_takeBlast_15 rfl hl (by decide) rfl (fun ls hl => ?_)
  exact bX2_takeBlast_16 C F k_x0 hkm hW hZ _ (lv_sub hl [1, 0] rfl) hE
