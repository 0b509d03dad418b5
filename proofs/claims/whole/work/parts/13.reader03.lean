set_option maxRecDepth 100000 in
theorem m_101 : Cond.fieldLink RX2 232 (TX1 7).1 (TX1 7).2.1 (TX1 7).2.2.1 ∈ W0 := w0_in (List.mem_append_right _ (List.mem_of_getElem? (i := 101) rfl)) rfl
section
variable {p : Program} {l : Launch} {e : Env} {R : Room} {s : State} {m : MethodId} {args : Array Value} {below : List Frame} {meth : Method} {c : Code} {H : Heap} {locs : List Loc} {cells slots : Nat} {Q : State → Prop}
variable {cc : ByteArray} {pc : Nat} {ls : Array Slot} {rest : List Value} {X : Ec} {h h1 : Hp} {nL : Nat} {rt : Option FieldType} {mn : String}
theorem pf_X2_232 {a : Nat} {v : Int32} (C : Cx X p s m args meth c RX2 cc nL rt mn) (hW : Wx X h H) (hZ : va_S (aA (eB X)) s.heap H locs) (ha : hK h a = 1) (eh : h1 = wI h a 7 v) (hdg : decode cc pc = .ok (.putfield 232, 3)) (kk : ∀ (H1 : Heap) (locs1 : List Loc), Wx X h1 H1 → Km h h1 → va_S (aA (eB X)) s.heap H1 locs1 → W p l e R s m args below meth c H1 locs1 cells slots Q (F0 m (pc + 3) ls rest)) : W p l e R s m args below meth c H locs cells slots Q (F0 m pc ls (.int v :: .ref a :: rest)) :=
  y_puti (ty := .int) C hW hZ ha i_X1 tyX1 tyX1_ok nmX1 (by decide) rfl rfl (by decide) m_101 rfl (by decide +kernel) rfl rfl rfl eh hdg kk
end
theorem dX2_takeChecks_0 : decode cX2_takeChecks 0 = .ok (.aload_n 0, 1) := by decide +kernel
theorem dX2_takeChecks_1 : decode cX2_takeChecks 1 = .ok (.iconst 1, 1) := by decide +kernel
theorem dX2_takeChecks_2 : decode cX2_takeChecks 2 = .ok (.bipush 9, 2) := by decide +kernel
theorem dX2_takeChecks_4 : decode cX2_takeChecks 4 = .ok (.invokevirtual 104, 3) := by decide +kernel
theorem dX2_takeChecks_7 : decode cX2_takeChecks 7 = .ok (.ifCond .ne 5, 3) := by decide +kernel
theorem dX2_takeChecks_10 : decode cX2_takeChecks 10 = .ok (.iconst 0, 1) := by decide +kernel
theorem dX2_takeChecks_11 : decode cX2_takeChecks 11 = .ok (.ireturn, 1) := by decide +kernel
theorem dX2_takeChecks_12 : decode cX2_takeChecks 12 = .ok (.aload_n 0, 1) := by decide +kernel
theorem dX2_takeChecks_13 : decode cX2_takeChecks 13 = .ok (.getfield 15, 3) := by decide +kernel
theorem dX2_takeChecks_16 : decode cX2_takeChecks 16 = .ok (.aload_n 0, 1) := by decide +kernel
theorem dX2_takeChecks_17 : decode cX2_takeChecks 17 = .ok (.getfield 84, 3) := by decide +kernel
theorem dX2_takeChecks_20 : decode cX2_takeChecks 20 = .ok (.putfield 232, 3) := by decide +kernel
theorem dX2_takeChecks_23 : decode cX2_takeChecks 23 = .ok (.aload_n 0, 1) := by decide +kernel
theorem dX2_takeChecks_24 : decode cX2_takeChecks 24 = .ok (.invokevirtual 31, 3) := by decide +kernel
theorem dX2_takeChecks_27 : decode cX2_takeChecks 27 = .ok (.iconst 1, 1) := by decide +kernel
theorem dX2_takeChecks_28 : decode cX2_takeChecks 28 = .ok (.ireturn, 1) := by decide +kernel
def sX2_takeChecks (F : Nat) (h : Hp) (x0 : Nat) : Option (Int32 × Hp) := cl (sX2_isNumber h x0 (1 : Int32) (9 : Int32)) fun o_1 => br (o_1.1 = 0) (some ((0 : Int32), o_1.2)) (cl (hR o_1.2 x0 1) fun r_3 => nm (wI o_1.2 r_3 7 (hI o_1.2 x0 5)) fun h_4 => cl (sX2_advance F h_4 x0) fun o_5 => some ((1 : Int32), o_5))
set_option maxRecDepth 20000 in
theorem moX2_takeChecks {o : Int32 × Hp} {F : Nat} {h : Hp} {x0 : Nat} (hE : sX2_takeChecks F h x0 = some o) : Le h o.2 := by
  obtain ⟨o_1, eo_1, hE⟩ := cl_e hE
  refine (moX2_isNumber eo_1).tr ?_
  rcases br_e hE with ⟨_, hE⟩ | ⟨_, hE⟩
  · exact le_some2 hE
  · obtain ⟨r_3, er_3, hE⟩ := cl_e hE
    obtain ⟨h_4, eh_4, hE⟩ := nm_e2 hE
    refine (le_I eh_4).tr ?_
    obtain ⟨o_5, eo_5, hE⟩ := cl_e hE
    refine (moX2_advance eo_5).tr ?_
    exact le_some2 hE
set_option maxRecDepth 20000 in
theorem ct_X2_takeChecks (l : Launch) (X : Ec) (F : Nat) {h : Hp} {x0 : Nat} {o : Int32 × Hp} (k_x0 : hK h x0 = 2) (hE : sX2_takeChecks F h x0 = some o) : MetI l yX2_takeChecks cX2_takeChecks 1 (some .boolean) 3 63 X [.ref x0] h o := by
  refine x_met (by decide) (Nat.le_of_ble_eq_true rfl) ?_
  intro p e s m below meth c ls C hl hW hZ
  have hl : lv_has ls 1 [(0, .ref x0)] := hl
  have hkm : Km h h := Km.rf h
  refine lv_aload_n C.1 C.2.1 dX2_takeChecks_0 rfl (lv_at hl 0 rfl) ?_
  refine lv_iconst (v := (1 : Int32)) C.1 C.2.1 dX2_takeChecks_1 (by decide) ?_
  refine lv_bipush (v := (9 : Int32)) C.1 C.2.1 dX2_takeChecks_2 (by decide) ?_
  obtain ⟨o_1, eo_1, hE⟩ := cl_e hE
  refine x_kI (o := o_1) (z_runV (As := [.int (1 : Int32), .int (9 : Int32)]) (rest := []) C (ct_X2_isNumber l X k_x0 eo_1) cw_X2_104 hW hZ k_x0 (by decide) rfl rfl rfl hl.1 (Nat.le_of_ble_eq_true rfl) rfl dX2_takeChecks_4 ⟨Nat.le_of_ble_eq_true rfl, Nat.le_of_ble_eq_true rfl⟩ ⟨Nat.le_refl _, Nat.le_refl _⟩) hZ (fun _ _ hW km hZ => ?_)
  replace hkm := hkm.tr km
  replace k_x0 := km.at k_x0 (by decide)
  refine lv_if_ne (tgt := 12) C.1 C.2.1 dX2_takeChecks_7 (by decide) (fun c_2 => ?_) (fun c_2 => ?_)
  · have hE := br_n hE c_2
    refine lv_aload_n C.1 C.2.1 dX2_takeChecks_12 rfl (lv_at hl 0 rfl) ?_
    obtain ⟨r_3, er_3, hE⟩ := cl_e hE
    refine gf_X2_15 C hW k_x0 er_3 dX2_takeChecks_13 (fun k_r_3 => ?_)
    refine lv_aload_n C.1 C.2.1 dX2_takeChecks_16 rfl (lv_at hl 0 rfl) ?_
    refine gf_X2_84 C hW k_x0 dX2_takeChecks_17 ?_
    obtain ⟨h_4, eh_4, hE⟩ := nm_e2 hE
    refine pf_X2_232 C hW hZ k_r_3 eh_4 dX2_takeChecks_20 (fun _ _ hW km hZ => ?_)
    replace hkm := hkm.tr km
    replace k_x0 := km.at k_x0 (by decide)
    refine lv_aload_n C.1 C.2.1 dX2_takeChecks_23 rfl (lv_at hl 0 rfl) ?_
    obtain ⟨o_5, eo_5, hE⟩ := cl_e hE
    refine x_kV (o := o_5) (z_runV (As := []) (rest := []) C (ct_X2_advance l X F k_x0 eo_5) cw_X2_31 hW hZ k_x0 (by decide) rfl rfl rfl hl.1 (Nat.le_of_ble_eq_true rfl) rfl dX2_takeChecks_24 ⟨Nat.le_of_ble_eq_true rfl, Nat.le_of_ble_eq_true rfl⟩ ⟨Nat.le_refl _, Nat.le_refl _⟩) hZ (fun _ _ hW km hZ => ?_)
    replace hkm := hkm.tr km
    replace k_x0 := km.at k_x0 (by decide)
    refine lv_iconst (v := (1 : Int32)) C.1 C.2.1 dX2_takeChecks_27 (by decide) ?_
    exact x_iret C rfl (by decide) hW hZ hkm hE dX2_takeChecks_28
  · have hE := br_p hE c_2
    refine lv_iconst (v := (0 : Int32)) C.1 C.2.1 dX2_takeChecks_10 (by decide) ?_
    exact x_iret C rfl (by decide) hW hZ hkm hE dX2_takeChecks_11
set_option maxRecDepth 100000 in
theorem m_66 : Cond.fieldLink RX2 234 (TX1 0).1 (TX1 0).2.1 (TX1 0).2.2.1 ∈ W0 := w0_in (List.mem_append_right _ (List.mem_of_getElem? (i := 66) rfl)) rfl
set_option maxRecDepth 100000 in
theorem m_117 : Cond.fieldLink RX2 237 (TX1 13).1 (TX1 13).2.1 (TX1 13).2.2.1 ∈ W0 := w0_in (List.mem_append_right _ (List.mem_of_getElem? (i := 117) rfl)) rfl
section
variable {p : Program} {l : Launch} {e : Env} {R : Room} {s : State} {m : MethodId} {args : Array Value} {below : List Frame} {meth : Method} {c : Code} {H : Heap} {locs : List Loc} {cells slots : Nat} {Q : State → Prop}
variable {cc : ByteArray} {pc : Nat} {ls : Array Slot} {rest : List Value} {X : Ec} {h h1 : Hp} {nL : Nat} {rt : Option FieldType} {mn : String}
theorem gf_X2_234 {a : Nat} (C : Cx X p s m args meth c RX2 cc nL rt mn) (hW : Wx X h H) (ha : hK h a = 1) (hdg : decode cc pc = .ok (.getfield 234, 3)) (kk : W p l e R s m args below meth c H locs cells slots Q (F0 m (pc + 3) ls (.int (hI h a 0) :: rest))) : W p l e R s m args below meth c H locs cells slots Q (F0 m pc ls (.ref a :: rest)) :=
  y_geti C hW ha i_X1 (by decide) rfl (by decide) m_66 rfl hdg kk
theorem gf_X2_237 {a : Nat} (C : Cx X p s m args meth c RX2 cc nL rt mn) (hW : Wx X h H) (ha : hK h a = 1) (hdg : decode cc pc = .ok (.getfield 237, 3)) (kk : W p l e R s m args below meth c H locs cells slots Q (F0 m (pc + 3) ls (.long (hJ h a 13) :: rest))) : W p l e R s m args below meth c H locs cells slots Q (F0 m pc ls (.ref a :: rest)) :=
  y_getj C hW ha i_X1 (by decide) rfl (by decide) m_117 rfl hdg kk
theorem pf_X2_237 {a : Nat} {v : Int64} (C : Cx X p s m args meth c RX2 cc nL rt mn) (hW : Wx X h H) (hZ : va_S (aA (eB X)) s.heap H locs) (ha : hK h a = 1) (eh : h1 = wJ h a 13 v) (hdg : decode cc pc = .ok (.putfield 237, 3)) (kk : ∀ (H1 : Heap) (locs1 : List Loc), Wx X h1 H1 → Km h h1 → va_S (aA (eB X)) s.heap H1 locs1 → W p l e R s m args below meth c H1 locs1 cells slots Q (F0 m (pc + 3) ls rest)) : W p l e R s m args below meth c H locs cells slots Q (F0 m pc ls (.long v :: .ref a :: rest)) :=
  y_putj C hW hZ ha i_X1 tyX1 tyX1_ok nmX1 (by decide) rfl rfl (by decide) m_117 rfl (by decide +kernel) rfl eh hdg kk
end
theorem dX2_takeHill_0 : decode cX2_takeHill 0 = .ok (.iconst 0, 1) := by decide +kernel
theorem dX2_takeHill_1 : decode cX2_takeHill 1 = .ok (.istore_n 1, 1) := by decide +kernel
theorem dX2_takeHill_2 : decode cX2_takeHill 2 = .ok (.iload_n 1, 1) := by decide +kernel
theorem dX2_takeHill_3 : decode cX2_takeHill 3 = .ok (.bipush 64, 2) := by decide +kernel
theorem dX2_takeHill_5 : decode cX2_takeHill 5 = .ok (.if_icmp .gt 123, 3) := by decide +kernel
theorem dX2_takeHill_8 : decode cX2_takeHill 8 = .ok (.iload_n 1, 1) := by decide +kernel
theorem dX2_takeHill_9 : decode cX2_takeHill 9 = .ok (.ifCond .eq 11, 3) := by decide +kernel
theorem dX2_takeHill_12 : decode cX2_takeHill 12 = .ok (.aload_n 0, 1) := by decide +kernel
theorem dX2_takeHill_13 : decode cX2_takeHill 13 = .ok (.getfield 38, 3) := by decide +kernel
theorem dX2_takeHill_16 : decode cX2_takeHill 16 = .ok (.iconst 1, 1) := by decide +kernel
theorem dX2_takeHill_17 : decode cX2_takeHill 17 = .ok (.if_icmp .ne 111, 3) := by decide +kernel
theorem dX2_takeHill_20 : decode cX2_takeHill 20 = .ok (.aload_n 0, 1) := by decide +kernel
theorem dX2_takeHill_21 : decode cX2_takeHill 21 = .ok (.invokevirtual 96, 3) := by decide +kernel
theorem dX2_takeHill_24 : decode cX2_takeHill 24 = .ok (.istore_n 2, 1) := by decide +kernel
theorem dX2_takeHill_25 : decode cX2_takeHill 25 = .ok (.iload_n 2, 1) := by decide +kernel
theorem dX2_takeHill_26 : decode cX2_takeHill 26 = .ok (.iconst (-1), 1) := by decide +kernel
theorem dX2_takeHill_27 : decode cX2_takeHill 27 = .ok (.if_icmp .eq 17, 3) := by decide +kernel
theorem dX2_takeHill_30 : decode cX2_takeHill 30 = .ok (.iload_n 2, 1) := by decide +kernel
theorem dX2_takeHill_31 : decode cX2_takeHill 31 = .ok (.bipush 97, 2) := by decide +kernel
theorem dX2_takeHill_33 : decode cX2_takeHill 33 = .ok (.isub, 1) := by decide +kernel
theorem dX2_takeHill_34 : decode cX2_takeHill 34 = .ok (.aload_n 0, 1) := by decide +kernel
theorem dX2_takeHill_35 : decode cX2_takeHill 35 = .ok (.getfield 15, 3) := by decide +kernel
theorem dX2_takeHill_38 : decode cX2_takeHill 38 = .ok (.getfield 234, 3) := by decide +kernel
theorem dX2_takeHill_41 : decode cX2_takeHill 41 = .ok (.if_icmp .lt 5, 3) := by decide +kernel
theorem dX2_takeHill_44 : decode cX2_takeHill 44 = .ok (.iconst 0, 1) := by decide +kernel
theorem dX2_takeHill_45 : decode cX2_takeHill 45 = .ok (.ireturn, 1) := by decide +kernel
theorem dX2_takeHill_46 : decode cX2_takeHill 46 = .ok (.aload_n 0, 1) := by decide +kernel
theorem dX2_takeHill_47 : decode cX2_takeHill 47 = .ok (.invokevirtual 31, 3) := by decide +kernel
theorem dX2_takeHill_50 : decode cX2_takeHill 50 = .ok (.aload_n 0, 1) := by decide +kernel
theorem dX2_takeHill_51 : decode cX2_takeHill 51 = .ok (.iconst 1, 1) := by decide +kernel
theorem dX2_takeHill_52 : decode cX2_takeHill 52 = .ok (.aload_n 0, 1) := by decide +kernel
theorem dX2_takeHill_53 : decode cX2_takeHill 53 = .ok (.getfield 15, 3) := by decide +kernel
theorem dX2_takeHill_56 : decode cX2_takeHill 56 = .ok (.getfield 189, 3) := by decide +kernel
theorem dX2_takeHill_59 : decode cX2_takeHill 59 = .ok (.invokevirtual 104, 3) := by decide +kernel
theorem dX2_takeHill_62 : decode cX2_takeHill 62 = .ok (.ifCond .ne 5, 3) := by decide +kernel
theorem dX2_takeHill_65 : decode cX2_takeHill 65 = .ok (.iconst 0, 1) := by decide +kernel
theorem dX2_takeHill_66 : decode cX2_takeHill 66 = .ok (.ireturn, 1) := by decide +kernel
theorem dX2_takeHill_67 : decode cX2_takeHill 67 = .ok (.lconst 1, 1) := by decide +kernel
theorem dX2_takeHill_68 : decode cX2_takeHill 68 = .ok (.aload_n 0, 1) := by decide +kernel
theorem dX2_takeHill_69 : decode cX2_takeHill 69 = .ok (.getfield 84, 3) := by decide +kernel
theorem dX2_takeHill_72 : decode cX2_takeHill 72 = .ok (.iconst 1, 1) := by decide +kernel
theorem dX2_takeHill_73 : decode cX2_takeHill 73 = .ok (.isub, 1) := by decide +kernel
theorem dX2_takeHill_74 : decode cX2_takeHill 74 = .ok (.aload_n 0, 1) := by decide +kernel
theorem dX2_takeHill_75 : decode cX2_takeHill 75 = .ok (.getfield 15, 3) := by decide +kernel
theorem dX2_takeHill_78 : decode cX2_takeHill 78 = .ok (.getfield 234, 3) := by decide +kernel
theorem dX2_takeHill_81 : decode cX2_takeHill 81 = .ok (.imul, 1) := by decide +kernel
theorem dX2_takeHill_82 : decode cX2_takeHill 82 = .ok (.iload_n 2, 1) := by decide +kernel
theorem dX2_takeHill_83 : decode cX2_takeHill 83 = .ok (.iadd, 1) := by decide +kernel
theorem dX2_takeHill_84 : decode cX2_takeHill 84 = .ok (.bipush 97, 2) := by decide +kernel
theorem dX2_takeHill_86 : decode cX2_takeHill 86 = .ok (.isub, 1) := by decide +kernel
theorem dX2_takeHill_87 : decode cX2_takeHill 87 = .ok (.lshl, 1) := by decide +kernel
theorem dX2_takeHill_88 : decode cX2_takeHill 88 = .ok (.lstore_n 3, 1) := by decide +kernel
theorem dX2_takeHill_89 : decode cX2_takeHill 89 = .ok (.aload_n 0, 1) := by decide +kernel
theorem dX2_takeHill_90 : decode cX2_takeHill 90 = .ok (.getfield 15, 3) := by decide +kernel
theorem dX2_takeHill_93 : decode cX2_takeHill 93 = .ok (.getfield 237, 3) := by decide +kernel
theorem dX2_takeHill_96 : decode cX2_takeHill 96 = .ok (.lload_n 3, 1) := by decide +kernel
theorem dX2_takeHill_97 : decode cX2_takeHill 97 = .ok (.land, 1) := by decide +kernel
theorem dX2_takeHill_98 : decode cX2_takeHill 98 = .ok (.lconst 0, 1) := by decide +kernel
theorem dX2_takeHill_99 : decode cX2_takeHill 99 = .ok (.lcmp, 1) := by decide +kernel
theorem dX2_takeHill_100 : decode cX2_takeHill 100 = .ok (.ifCond .eq 5, 3) := by decide +kernel
theorem dX2_takeHill_103 : decode cX2_takeHill 103 = .ok (.iconst 0, 1) := by decide +kernel
theorem dX2_takeHill_104 : decode cX2_takeHill 104 = .ok (.ireturn, 1) := by decide +kernel
theorem dX2_takeHill_105 : decode cX2_takeHill 105 = .ok (.aload_n 0, 1) := by decide +kernel
theorem dX2_takeHill_106 : decode cX2_takeHill 106 = .ok (.getfield 15, 3) := by decide +kernel
theorem dX2_takeHill_109 : decode cX2_takeHill 109 = .ok (.dup, 1) := by decide +kernel
theorem dX2_takeHill_110 : decode cX2_takeHill 110 = .ok (.getfield 237, 3) := by decide +kernel
theorem dX2_takeHill_113 : decode cX2_takeHill 113 = .ok (.lload_n 3, 1) := by decide +kernel
theorem dX2_takeHill_114 : decode cX2_takeHill 114 = .ok (.lor, 1) := by decide +kernel
theorem dX2_takeHill_115 : decode cX2_takeHill 115 = .ok (.putfield 237, 3) := by decide +kernel
theorem dX2_takeHill_118 : decode cX2_takeHill 118 = .ok (.aload_n 0, 1) := by decide +kernel
theorem dX2_takeHill_119 : decode cX2_takeHill 119 = .ok (.invokevirtual 31, 3) := by decide +kernel
theorem dX2_takeHill_122 : decode cX2_takeHill 122 = .ok (.iinc 1 1, 3) := by decide +kernel
theorem dX2_takeHill_125 : decode cX2_takeHill 125 = .ok (.goto (-123), 3) := by decide +kernel
theorem dX2_takeHill_128 : decode cX2_takeHill 128 = .ok (.iconst 1, 1) := by decide +kernel
theorem dX2_takeHill_129 : decode cX2_takeHill 129 = .ok (.ireturn, 1) := by decide +kernel
def sX2_takeHill_128 (F : Nat) (h : Hp) : Option (Int32 × Hp) := some ((1 : Int32), h)
def sX2_takeHill_44 (F : Nat) (h : Hp) : Option (Int32 × Hp) := some ((0 : Int32), h)
def sX2_takeHill_20 (F : Nat) (k_2 : Hp → Nat → Int32 → Option (Int32 × Hp)) (h : Hp) (x0 : Nat) (x1 : Int32) : Option (Int32 × Hp) := cl (sX2_oneLetter h x0) fun o_1 => br (o_1.1 = (-1 : Int32)) (sX2_takeHill_44 F o_1.2 ) (cl (hR o_1.2 x0 1) fun r_3 => br ((o_1.1 - (97 : Int32)) < (hI o_1.2 r_3 0)) (cl (sX2_advance F o_1.2 x0) fun o_5 => cl (hR o_5 x0 1) fun r_6 => cl (sX2_isNumber o_5 x0 (1 : Int32) (hI o_5 r_6 1)) fun o_7 => br (o_7.1 = 0) (some ((0 : Int32), o_7.2)) (cl (hR o_7.2 x0 1) fun r_9 => nm ((1 : Int64) <<< ((((((hI o_7.2 x0 5) - (1 : Int32)) * (hI o_7.2 r_9 0)) + o_1.1) - (97 : Int32)).toInt64 &&& 63)) fun v_10 => cl (hR o_7.2 x0 1) fun r_11 => br ((lg_cmp ((hJ o_7.2 r_11 13) &&& v_10) (0 : Int64)) = 0) (cl (hR o_7.2 x0 1) fun r_13 => nm (wJ o_7.2 r_13 13 ((hJ o_7.2 r_13 13) ||| v_10)) fun h_14 => cl (sX2_advance F h_14 x0) fun o_15 => nm (x1 + (1 : Int32)) fun v_16 => k_2 o_15 x0 v_16) (some ((0 : Int32), o_7.2)))) (sX2_takeHill_44 F o_1.2 ))
def sX2_takeHill_2 (F : Nat) : Nat → Hp → Nat → Int32 → Option (Int32 × Hp)
  | 0, _, _, _ => none
  | f + 1, h, x0, x1 => br ((64 : Int32) < x1) (sX2_takeHill_128 F h ) (br (x1 = 0) (sX2_takeHill_20 F (sX2_takeHill_2 F f) h x0 x1) (br ((hI h x0 4) = (1 : Int32)) (sX2_takeHill_20 F (sX2_takeHill_2 F f) h x0 x1) (sX2_takeHill_128 F h )))
def sX2_takeHill (F : Nat) (h : Hp) (x0 : Nat) : Option (Int32 × Hp) := sX2_takeHill_2 F F h x0 (0 : Int32)
set_option maxRecDepth 20000 in
theorem moX2_takeHill_128 {o : Int32 × Hp} {F : Nat} {h : Hp} (hE : sX2_takeHill_128 F h  = some o) : Le h o.2 := by
  exact le_some2 hE
set_option maxRecDepth 20000 in
theorem moX2_takeHill_44 {o : Int32 × Hp} {F : Nat} {h : Hp} (hE : sX2_takeHill_44 F h  = some o) : Le h o.2 := by
  exact le_some2 hE
set_option maxRecDepth 20000 in
theorem moX2_takeHill_20 {o : Int32 × Hp} {k_2 : Hp → Nat → Int32 → Option (Int32 × Hp)} {F : Nat} (mk_2 : ∀ (h : Hp) (x0 : Nat) (x1 : Int32), k_2 h x0 x1 = some o → Le h o.2) {h : Hp} {x0 : Nat} {x1 : Int32} (hE : sX2_takeHill_20 F k_2 h x0 x1 = some o) : Le h o.2 := by
  obtain ⟨o_1, eo_1, hE⟩ := cl_e hE
  refine (moX2_oneLetter eo_1).tr ?_
  rcases br_e hE with ⟨_, hE⟩ | ⟨_, hE⟩
  · exact moX2_takeHill_44 hE
  · obtain ⟨r_3, er_3, hE⟩ := cl_e hE
    rcases br_e hE with ⟨_, hE⟩ | ⟨_, hE⟩
    · obtain ⟨o_5, eo_5, hE⟩ := cl_e hE
      refine (moX2_advance eo_5).tr ?_
      obtain ⟨r_6, er_6, hE⟩ := cl_e hE
      obtain ⟨o_7, eo_7, hE⟩ := cl_e hE
      refine (moX2_isNumber eo_7).tr ?_
      rcases br_e hE with ⟨_, hE⟩ | ⟨_, hE⟩
      · exact le_some2 hE
      · obtain ⟨r_9, er_9, hE⟩ := cl_e hE
        obtain ⟨v_10, ev_10, hE⟩ := nm_e2 hE
        obtain ⟨r_11, er_11, hE⟩ := cl_e hE
        rcases br_e hE with ⟨_, hE⟩ | ⟨_, hE⟩
        · obtain ⟨r_13, er_13, hE⟩ := cl_e hE
          obtain ⟨h_14, eh_14, hE⟩ := nm_e2 hE
          refine (le_J eh_14).tr ?_
          obtain ⟨o_15, eo_15, hE⟩ := cl_e hE
          refine (moX2_advance eo_15).tr ?_
          obtain ⟨v_16, ev_16, hE⟩ := nm_e2 hE
          exact mk_2 _ _ _ hE
        · exact le_some2 hE
    · exact moX2_takeHill_44 hE
set_option maxRecDepth 20000 in
theorem moX2_takeHill_2 {o : Int32 × Hp} {F : Nat} : ∀ (f : Nat) {h : Hp} {x0 : Nat} {x1 : Int32}, sX2_takeHill_2 F f h x0 x1 = some o → Le h o.2 := by
  intro f
  induction f with
  | zero =>
    intro h x0 x1 hE
    rw [sX2_takeHill_2] at hE
    cases hE
  | succ f ih =>
    intro h x0 x1 hE
    rw [sX2_takeHill_2] at hE
    have mk_2 : ∀ (h : Hp) (x0 : Nat) (x1 : Int32), sX2_takeHill_2 F f h x0 x1 = some o → Le h o.2 := fun h x0 x1 hE => ih hE
    rcases br_e hE with ⟨_, hE⟩ | ⟨_, hE⟩
    · exact moX2_takeHill_128 hE
    · rcases br_e hE with ⟨_, hE⟩ | ⟨_, hE⟩
      · exact moX2_takeHill_20 mk_2 hE
      · rcases br_e hE with ⟨_, hE⟩ | ⟨_, hE⟩
        · exact moX2_takeHill_20 mk_2 hE
        · exact moX2_takeHill_128 hE
set_option maxRecDepth 20000 in
theorem moX2_takeHill {o : Int32 × Hp} {F : Nat} {h : Hp} {x0 : Nat} (hE : sX2_takeHill F h x0 = some o) : Le h o.2 := by
  exact moX2_takeHill_2 _ hE
set_option maxRecDepth 20000 in
theorem bX2_takeHill_128 {p : Program} {l : Launch} {e : Env} {s : State} {m : MethodId} {args : Array Value} {below : List Frame} {meth : Method} {c : Code} {X : Ec} {h0 : Hp} {o : Int32 × Hp} {F : Nat} (C : Cx X p s m args meth c RX2 cX2_takeHill 5 (some .boolean) "takeHill") {h : Hp} {H : Heap} {locs : List Loc} (hkm : Km h0 h) (hW : Wx X h H) (hZ : va_S (aA (eB X)) s.heap H locs) (ls : Array Slot) (hl : lv_has ls 5 []) (hE : sX2_takeHill_128 F h  = some o) : W p l e (rm 3 63) s m args below meth c H locs 0 0 (MQ below (QI X h0 o.1 o.2) args s 0 0 (aA (eB X))) (F0 m 128 ls []) := by
  refine lv_iconst (v := (1 : Int32)) C.1 C.2.1 dX2_takeHill_128 (by decide) ?_
  exact x_iret C rfl (by decide) hW hZ hkm hE dX2_takeHill_129
set_option maxRecDepth 20000 in
theorem bX2_takeHill_44 {p : Program} {l : Launch} {e : Env} {s : State} {m : MethodId} {args : Array Value} {below : List Frame} {meth : Method} {c : Code} {X : Ec} {h0 : Hp} {o : Int32 × Hp} {F : Nat} (C : Cx X p s m args meth c RX2 cX2_takeHill 5 (some .boolean) "takeHill") {h : Hp} {H : Heap} {locs : List Loc} (hkm : Km h0 h) (hW : Wx X h H) (hZ : va_S (aA (eB X)) s.heap H locs) (ls : Array Slot) (hl : lv_has ls 5 []) (hE : sX2_takeHill_44 F h  = some o) : W p l e (rm 3 63) s m args below meth c H locs 0 0 (MQ below (QI X h0 o.1 o.2) args s 0 0 (aA (eB X))) (F0 m 44 ls []) := by
  refine lv_iconst (v := (0 : Int32)) C.1 C.2.1 dX2_takeHill_44 (by decide) ?_
  exact x_iret C rfl (by decide) hW hZ hkm hE dX2_takeHill_45
set_option maxRecDepth 20000 in
theorem bX2_takeHill_20 {p : Program} {l : Launch} {e : Env} {s : State} {m : MethodId} {args : Array Value} {below : List Frame} {meth : Method} {c : Code} {X : Ec} {h0 : Hp} {o : Int32 × Hp} {k_2 : Hp → Nat → Int32 → Option (Int32 × Hp)} {F : Nat} (C : Cx X p s m args meth c RX2 cX2_takeHill 5 (some .boolean) "takeHill") (hk_2 : ∀ (h : Hp) (x0 : Nat) (x1 : Int32) (H : Heap) (locs : List Loc), hK h x0 = 2 → Km h0 h → Wx X h H → va_S (aA (eB X)) s.heap H locs → ∀ (ls : Array Slot), lv_has ls 5 [(0, .ref x0), (1, .int x1)] → k_2 h x0 x1 = some o → W p l e (rm 3 63) s m args below meth c H locs 0 0 (MQ below (QI X h0 o.1 o.2) args s 0 0 (aA (eB X))) (F0 m 2 ls [])) {h : Hp} {x0 : Nat} {x1 : Int32} {H : Heap} {locs : List Loc} (k_x0 : hK h x0 = 2) (hkm : Km h0 h) (hW : Wx X h H) (hZ : va_S (aA (eB X)) s.heap H locs) (ls : Array Slot) (hl : lv_has ls 5 [(0, .ref x0), (1, .int x1)]) (hE : sX2_takeHill_20 F k_2 h x0 x1 = some o) : W p l e (rm 3 63) s m args below meth c H locs 0 0 (MQ below (QI X h0 o.1 o.2) args s 0 0 (aA (eB X))) (F0 m 20 ls []) := by
  refine lv_aload_n C.1 C.2.1 dX2_takeHill_20 rfl (lv_at hl 0 rfl) ?_
  obtain ⟨o_1, eo_1, hE⟩ := cl_e hE
  refine x_kI (o := o_1) (z_runV (As := []) (rest := []) C (ct_X2_oneLetter l X k_x0 eo_1) cw_X2_96 hW hZ k_x0 (by decide) rfl rfl rfl hl.1 (Nat.le_of_ble_eq_true rfl) rfl dX2_takeHill_21 ⟨Nat.le_of_ble_eq_true rfl, Nat.le_of_ble_eq_true rfl⟩ ⟨Nat.le_refl _, Nat.le_refl _⟩) hZ (fun _ _ hW km hZ => ?_)
  replace hkm := hkm.tr km
  replace k_x0 := km.at k_x0 (by decide)
  refine lv_istore_n (lv' := [(2, .int o_1.1), (0, .ref x0), (1, .int x1)]) C.1 C.2.1 dX2_takeHill_24 rfl hl (by decide) rfl (fun ls hl => ?_)
  refine lv_iload_n C.1 C.2.1 dX2_takeHill_25 rfl (lv_at hl 0 rfl) ?_
  refine lv_iconst (v := (-1 : Int32)) C.1 C.2.1 dX2_takeHill_26 (by decide) ?_
  refine lv_icmp_eq (tgt := 44) C.1 C.2.1 dX2_takeHill_27 (by decide) (fun c_2 => ?_) (fun c_2 => ?_)
  · have hE := br_p hE c_2
    exact bX2_takeHill_44 C hkm hW hZ _ (lv_sub hl [] rfl) hE
  · have hE := br_n hE c_2
    refine lv_iload_n C.1 C.2.1 dX2_takeHill_30 rfl (lv_at hl 0 rfl) ?_
    refine lv_bipush (v := (97 : Int32)) C.1 C.2.1 dX2_takeHill_31 (by decide) ?_
    refine lv_isub C.1 C.2.1 dX2_takeHill_33 ?_
    refine lv_aload_n C.1 C.2.1 dX2_takeHill_34 rfl (lv_at hl 1 rfl) ?_
    obtain ⟨r_3, er_3, hE⟩ := cl_e hE
    refine gf_X2_15 C hW k_x0 er_3 dX2_takeHill_35 (fun k_r_3 => ?_)
    refine gf_X2_234 C hW k_r_3 dX2_takeHill_38 ?_
    refine lv_icmp_lt (tgt := 46) C.1 C.2.1 dX2_takeHill_41 (by decide) (fun c_4 => ?_) (fun c_4 => ?_)
    · have hE := br_p hE c_4
      refine lv_aload_n C.1 C.2.1 dX2_takeHill_46 rfl (lv_at hl 1 rfl) ?_
      obtain ⟨o_5, eo_5, hE⟩ := cl_e hE
      refine x_kV (o := o_5) (z_runV (As := []) (rest := []) C (ct_X2_advance l X F k_x0 eo_5) cw_X2_31 hW hZ k_x0 (by decide) rfl rfl rfl hl.1 (Nat.le_of_ble_eq_true rfl) rfl dX2_takeHill_47 ⟨Nat.le_of_ble_eq_true rfl, Nat.le_of_ble_eq_true rfl⟩ ⟨Nat.le_refl _, Nat.le_refl _⟩) hZ (fun _ _ hW km hZ => ?_)
      replace hkm := hkm.tr km
      replace k_x0 := km.at k_x0 (by decide)
      refine lv_aload_n C.1 C.2.1 dX2_takeHill_50 rfl (lv_at hl 1 rfl) ?_
      refine lv_iconst (v := (1 : Int32)) C.1 C.2.1 dX2_takeHill_51 (by decide) ?_
      refine lv_aload_n C.1 C.2.1 dX2_takeHill_52 rfl (lv_at hl 1 rfl) ?_
      obtain ⟨r_6, er_6, hE⟩ := cl_e hE
      refine gf_X2_15 C hW k_x0 er_6 dX2_takeHill_53 (fun k_r_6 => ?_)
      refine gf_X2_189 C hW k_r_6 dX2_takeHill_56 ?_
      obtain ⟨o_7, eo_7, hE⟩ := cl_e hE
      refine x_kI (o := o_7) (z_runV (As := [.int (1 : Int32), .int (hI o_5 r_6 1)]) (rest := []) C (ct_X2_isNumber l X k_x0 eo_7) cw_X2_104 hW hZ k_x0 (by decide) rfl rfl rfl hl.1 (Nat.le_of_ble_eq_true rfl) rfl dX2_takeHill_59 ⟨Nat.le_of_ble_eq_true rfl, Nat.le_of_ble_eq_true rfl⟩ ⟨Nat.le_refl _, Nat.le_refl _⟩) hZ (fun _ _ hW km hZ => ?_)
      replace hkm := hkm.tr km
      replace k_x0 := km.at k_x0 (by decide)
      refine lv_if_ne (tgt := 67) C.1 C.2.1 dX2_takeHill_62 (by decide) (fun c_8 => ?_) (fun c_8 => ?_)
      · have hE := br_n hE c_8
        refine lv_lconst (v := (1 : Int64)) C.1 C.2.1 dX2_takeHill_67 (by decide) ?_
        refine lv_aload_n C.1 C.2.1 dX2_takeHill_68 rfl (lv_at hl 1 rfl) ?_
        refine gf_X2_84 C hW k_x0 dX2_takeHill_69 ?_
        refine lv_iconst (v := (1 : Int32)) C.1 C.2.1 dX2_takeHill_72 (by decide) ?_
        refine lv_isub C.1 C.2.1 dX2_takeHill_73 ?_
        refine lv_aload_n C.1 C.2.1 dX2_takeHill_74 rfl (lv_at hl 1 rfl) ?_
        obtain ⟨r_9, er_9, hE⟩ := cl_e hE
        refine gf_X2_15 C hW k_x0 er_9 dX2_takeHill_75 (fun k_r_9 => ?_)
        refine gf_X2_234 C hW k_r_9 dX2_takeHill_78 ?_
        refine lv_imul C.1 C.2.1 dX2_takeHill_81 ?_
        refine lv_iload_n C.1 C.2.1 dX2_takeHill_82 rfl (lv_at hl 0 rfl) ?_
        refine lv_iadd C.1 C.2.1 dX2_takeHill_83 ?_
        refine lv_bipush (v := (97 : Int32)) C.1 C.2.1 dX2_takeHill_84 (by decide) ?_
        refine lv_isub C.1 C.2.1 dX2_takeHill_86 ?_
        refine lv_lshl C.1 C.2.1 dX2_takeHill_87 rfl ?_
        obtain ⟨v_10, ev_10, hE⟩ := nm_e2 hE
        refine x_nmJ ev_10 ?_
        refine lv_lstore_n (lv' := [(3, .long v_10), (2, .int o_1.1), (0, .ref x0), (1, .int x1)]) C.1 C.2.1 dX2_takeHill_88 rfl hl (by decide) rfl (fun ls hl => ?_)
        refine lv_aload_n C.1 C.2.1 dX2_takeHill_89 rfl (lv_at hl 2 rfl) ?_
        obtain ⟨r_11, er_11, hE⟩ := cl_e hE
        refine gf_X2_15 C hW k_x0 er_11 dX2_takeHill_90 (fun k_r_11 => ?_)
        refine gf_X2_237 C hW k_r_11 dX2_takeHill_93 ?_
        refine lv_lload_n C.1 C.2.1 dX2_takeHill_96 rfl (lv_at hl 0 rfl) ?_
        refine lv_land C.1 C.2.1 dX2_takeHill_97 ?_
        refine lv_lconst (v := (0 : Int64)) C.1 C.2.1 dX2_takeHill_98 (by decide) ?_
        refine W.lcmp C.1 C.2.1 dX2_takeHill_99 ?_
        refine lv_if_eq (tgt := 105) C.1 C.2.1 dX2_takeHill_100 (by decide) (fun c_12 => ?_) (fun c_12 => ?_)
        · have hE := br_p hE c_12
          refine lv_aload_n C.1 C.2.1 dX2_takeHill_105 rfl (lv_at hl 2 rfl) ?_
          obtain ⟨r_13, er_13, hE⟩ := cl_e hE
          refine gf_X2_15 C hW k_x0 er_13 dX2_takeHill_106 (fun k_r_13 => ?_)
          refine lv_dup C.1 C.2.1 dX2_takeHill_109 rfl ?_
          refine gf_X2_237 C hW k_r_13 dX2_takeHill_110 ?_
          refine lv_lload_n C.1 C.2.1 dX2_takeHill_113 rfl (lv_at hl 0 rfl) ?_
          refine lv_lor C.1 C.2.1 dX2_takeHill_114 ?_
          obtain ⟨h_14, eh_14, hE⟩ := nm_e2 hE
          refine pf_X2_237 C hW hZ k_r_13 eh_14 dX2_takeHill_115 (fun _ _ hW km hZ => ?_)
          replace hkm := hkm.tr km
          replace k_x0 := km.at k_x0 (by decide)
          refine lv_aload_n C.1 C.2.1 dX2_takeHill_118 rfl (lv_at hl 2 rfl) ?_
          obtain ⟨o_15, eo_15, hE⟩ := cl_e hE
          refine x_kV (o := o_15) (z_runV (As := []) (rest := []) C (ct_X2_advance l X F k_x0 eo_15) cw_X2_31 hW hZ k_x0 (by decide) rfl rfl rfl hl.1 (Nat.le_of_ble_eq_true rfl) rfl dX2_takeHill_119 ⟨Nat.le_of_ble_eq_true rfl, Nat.le_of_ble_eq_true rfl⟩ ⟨Nat.le_refl _, Nat.le_refl _⟩) hZ (fun _ _ hW km hZ => ?_)
          replace hkm := hkm.tr km
          replace k_x0 := km.at k_x0 (by decide)
          obtain ⟨v_16, ev_16, hE⟩ := nm_e2 hE
          refine lv_iinc (v := v_16) (lv' := [(1, .int v_16), (3, .long v_10), (2, .int o_1.1), (0, .ref x0)]) C.1 C.2.1 dX2_takeHill_122 hl (k := 3) rfl (by rw [ev_16]; rfl) (by decide) rfl (fun ls hl => ?_)
          refine lv_goto (tgt := 2) C.1 C.2.1 dX2_takeHill_125 (by decide) ?_
          exact hk_2 _ _ _ _ _ k_x0 hkm hW hZ _ (lv_sub hl [3, 0] rfl) hE
        · have hE := br_n hE c_12
          refine lv_iconst (v := (0 : Int32)) C.1 C.2.1 dX2_takeHill_103 (by decide) ?_
          exact x_iret C rfl (by decide) hW hZ hkm hE dX2_takeHill_104
      · have hE := br_p hE c_8
        refine lv_iconst (v := (0 : Int32)) C.1 C.2.1 dX2_takeHill_65 (by decide) ?_
        exact x_iret C rfl (by decide) hW hZ hkm hE dX2_takeHill_66
    · have hE := br_n hE c_4
      exact bX2_takeHill_44 C hkm hW hZ _ (lv_sub hl [] rfl) hE
set_option maxRecDepth 20000 in
theorem bX2_takeHill_2 {p : Program} {l : Launch} {e : Env} {s : State} {m : MethodId} {args : Array Value} {below : List Frame} {meth : Method} {c : Code} {X : Ec} {h0 : Hp} {o : Int32 × Hp} {F : Nat} (C : Cx X p s m args meth c RX2 cX2_takeHill 5 (some .boolean) "takeHill") : ∀ (f : Nat) {h : Hp} {x0 : Nat} {x1 : Int32} {H : Heap} {locs : List Loc} (k_x0 : hK h x0 = 2), Km h0 h → Wx X h H → va_S (aA (eB X)) s.heap H locs → ∀ (ls : Array Slot), lv_has ls 5 [(0, .ref x0), (1, .int x1)] → sX2_takeHill_2 F f h x0 x1 = some o → W p l e (rm 3 63) s m args below meth c H locs 0 0 (MQ below (QI X h0 o.1 o.2) args s 0 0 (aA (eB X))) (F0 m 2 ls []) := by
  intro f
  induction f with
  | zero =>
    intro h x0 x1 H locs k_x0 hkm hW hZ ls hl hE
    rw [sX2_takeHill_2] at hE
    cases hE
  | succ f ih =>
    intro h x0 x1 H locs k_x0 hkm hW hZ ls hl hE
    rw [sX2_takeHill_2] at hE
    have hk_2 : ∀ (h : Hp) (x0 : Nat) (x1 : Int32) (H : Heap) (locs : List Loc), hK h x0 = 2 → Km h0 h → Wx X h H → va_S (aA (eB X)) s.heap H locs → ∀ (ls : Array Slot), lv_has ls 5 [(0, .ref x0), (1, .int x1)] → sX2_takeHill_2 F f h x0 x1 = some o → W p l e (rm 3 63) s m args below meth c H locs 0 0 (MQ below (QI X h0 o.1 o.2) args s 0 0 (aA (eB X))) (F0 m 2 ls []) := fun h x0 x1 H locs k_x0 a b c ls hl hE => ih k_x0 a b c ls hl hE
    refine lv_iload_n C.1 C.2.1 dX2_takeHill_2 rfl (lv_at hl 1 rfl) ?_
    refine lv_bipush (v := (64 : Int32)) C.1 C.2.1 dX2_takeHill_3 (by decide) ?_
    refine lv_icmp_gt (tgt := 128) C.1 C.2.1 dX2_takeHill_5 (by decide) (fun c_1 => ?_) (fun c_1 => ?_)
    · have hE := br_p hE c_1
      exact bX2_takeHill_128 C hkm hW hZ _ (lv_sub hl [] rfl) hE
    · have hE := br_n hE c_1
      refine lv_iload_n C.1 C.2.1 dX2_takeHill_8 rfl (lv_at hl 1 rfl) ?_
      refine lv_if_eq (tgt := 20) C.1 C.2.1 dX2_takeHill_9 (by decide) (fun c_2 => ?_) (fun c_2 => ?_)
      · have hE := br_p hE c_2
        exact bX2_takeHill_20 C hk_2 k_x0 hkm hW hZ _ (lv_sub hl [0, 1] rfl) hE
      · have hE := br_n hE c_2
        refine lv_aload_n C.1 C.2.1 dX2_takeHill_12 rfl (lv_at hl 0 rfl) ?_
        refine gf_X2_38 C hW k_x0 dX2_takeHill_13 ?_
        refine lv_iconst (v := (1 : Int32)) C.1 C.2.1 dX2_takeHill_16 (by decide) ?_
        refine lv_icmp_ne (tgt := 128) C.1 C.2.1 dX2_takeHill_17 (by decide) (fun c_3 => ?_) (fun c_3 => ?_)
        · have hE := br_n hE c_3
          exact bX2_takeHill_128 C hkm hW hZ _ (lv_sub hl [] rfl) hE
        · have hE := br_p hE c_3
          exact bX2_takeHill_20 C hk_2 k_x0 hkm hW hZ _ (lv_sub hl [0, 1] rfl) hE
set_option maxRecDepth 20000 in
theorem ct_X2_takeHill (l : Launch) (X : Ec) (F : Nat) {h : Hp} {x0 : Nat} {o : Int32 × Hp} (k_x0 : hK h x0 = 2) (hE : sX2_takeHill F h x0 = some o) : MetI l yX2_takeHill cX2_takeHill 5 (some .boolean) 3 63 X [.ref x0] h o := by
  refine x_met (by decide) (Nat.le_of_ble_eq_true rfl) ?_
  intro p e s m below meth c ls C hl hW hZ
  have hl : lv_has ls 5 [(0, .ref x0)] := hl
  have hkm : Km h h := Km.rf h
  refine lv_iconst (v := (0 : Int32)) C.1 C.2.1 dX2_takeHill_0 (by decide) ?_
  refine lv_istore_n (lv' := [(1, .int (0 : Int32)), (0, .ref x0)]) C.1 C.2.1 dX2_takeHill_1 rfl hl (by decide) rfl (fun ls hl => ?_)
  exact bX2_takeHill_2 C F k_x0 hkm hW hZ _ (lv_sub hl [1, 0] rfl) hE
theorem dX2_wonOrLost_0 : decode cX2_wonOrLost 0 = .ok (.aload_n 0, 1) := by decide +kernel
theorem dX2_wonOrLost_1 : decode cX2_wonOrLost 1 = .ok (.ldc 240, 2) := by decide +kernel
theorem dX2_wonOrLost_3 : decode cX2_wonOrLost 3 = .ok (.invokevirtual 43, 3) := by decide +kernel
theorem dX2_wonOrLost_6 : decode cX2_wonOrLost 6 = .ok (.ifCond .eq 7, 3) := by decide +kernel
theorem dX2_wonOrLost_9 : decode cX2_wonOrLost 9 = .ok (.iconst 1, 1) := by decide +kernel
theorem dX2_wonOrLost_10 : decode cX2_wonOrLost 10 = .ok (.goto 17, 3) := by decide +kernel
theorem dX2_wonOrLost_13 : decode cX2_wonOrLost 13 = .ok (.aload_n 0, 1) := by decide +kernel
theorem dX2_wonOrLost_14 : decode cX2_wonOrLost 14 = .ok (.ldc 242, 2) := by decide +kernel
theorem dX2_wonOrLost_16 : decode cX2_wonOrLost 16 = .ok (.invokevirtual 43, 3) := by decide +kernel
theorem dX2_wonOrLost_19 : decode cX2_wonOrLost 19 = .ok (.ifCond .eq 7, 3) := by decide +kernel
theorem dX2_wonOrLost_22 : decode cX2_wonOrLost 22 = .ok (.iconst 2, 1) := by decide +kernel
theorem dX2_wonOrLost_23 : decode cX2_wonOrLost 23 = .ok (.goto 4, 3) := by decide +kernel
theorem dX2_wonOrLost_26 : decode cX2_wonOrLost 26 = .ok (.iconst 0, 1) := by decide +kernel
theorem dX2_wonOrLost_27 : decode cX2_wonOrLost 27 = .ok (.istore_n 1, 1) := by decide +kernel
theorem dX2_wonOrLost_28 : decode cX2_wonOrLost 28 = .ok (.iload_n 1, 1) := by decide +kernel
theorem dX2_wonOrLost_29 : decode cX2_wonOrLost 29 = .ok (.ifCond .eq 7, 3) := by decide +kernel
theorem dX2_wonOrLost_32 : decode cX2_wonOrLost 32 = .ok (.aload_n 0, 1) := by decide +kernel
theorem dX2_wonOrLost_33 : decode cX2_wonOrLost 33 = .ok (.invokevirtual 31, 3) := by decide +kernel
theorem dX2_wonOrLost_36 : decode cX2_wonOrLost 36 = .ok (.iload_n 1, 1) := by decide +kernel
theorem dX2_wonOrLost_37 : decode cX2_wonOrLost 37 = .ok (.ireturn, 1) := by decide +kernel
def sX2_wonOrLost_36 (F : Nat) (h : Hp) (x1 : Int32) : Option (Int32 × Hp) := some (x1, h)
def sX2_wonOrLost_27 (F : Nat) (h : Hp) (x0 : Nat) (t0 : Int32) : Option (Int32 × Hp) := br (t0 = 0) (sX2_wonOrLost_36 F h t0) (cl (sX2_advance F h x0) fun o_2 => sX2_wonOrLost_36 F o_2 t0)
def sX2_wonOrLost (F : Nat) (h : Hp) (x0 : Nat) : Option (Int32 × Hp) := cl (sX2_isWord F h x0 24) fun o_1 => br (o_1.1 = 0) (cl (sX2_isWord F o_1.2 x0 25) fun o_3 => br (o_3.1 = 0) (sX2_wonOrLost_27 F o_3.2 x0 (0 : Int32)) (sX2_wonOrLost_27 F o_3.2 x0 (2 : Int32))) (sX2_wonOrLost_27 F o_1.2 x0 (1 : Int32))
set_option maxRecDepth 20000 in
theorem moX2_wonOrLost_36 {o : Int32 × Hp} {F : Nat} {h : Hp} {x1 : Int32} (hE : sX2_wonOrLost_36 F h x1 = some o) : Le h o.2 := by
  exact le_some2 hE
set_option maxRecDepth 20000 in
theorem moX2_wonOrLost_27 {o : Int32 × Hp} {F : Nat} {h : Hp} {x0 : Nat} {t0 : Int32} (hE : sX2_wonOrLost_27 F h x0 t0 = some o) : Le h o.2 := by
  rcases br_e hE with ⟨_, hE⟩ | ⟨_, hE⟩
  · exact moX2_wonOrLost_36 hE
  · obtain ⟨o_2, eo_2, hE⟩ := cl_e hE
    refine (moX2_advance eo_2).tr ?_
    exact moX2_wonOrLost_36 hE
set_option maxRecDepth 20000 in
theorem moX2_wonOrLost {o : Int32 × Hp} {F : Nat} {h : Hp} {x0 : Nat} (hE : sX2_wonOrLost F h x0 = some o) : Le h o.2 := by
  obtain ⟨o_1, eo_1, hE⟩ := cl_e hE
  refine (moX2_isWord eo_1).tr ?_
  rcases br_e hE with ⟨_, hE⟩ | ⟨_, hE⟩
  · obtain ⟨o_3, eo_3, hE⟩ := cl_e hE
    refine (moX2_isWord eo_3).tr ?_
    rcases br_e hE with ⟨_, hE⟩ | ⟨_, hE⟩
    · exact moX2_wonOrLost_27 hE
    · exact moX2_wonOrLost_27 hE
  · exact moX2_wonOrLost_27 hE
set_option maxRecDepth 20000 in
theorem bX2_wonOrLost_36 {p : Program} {l : Launch} {e : Env} {s : State} {m : MethodId} {args : Array Value} {below : List Frame} {meth : Method} {c : Code} {X : Ec} {h0 : Hp} {o : Int32 × Hp} {F : Nat} (C : Cx X p s m args meth c RX2 cX2_wonOrLost 2 (some .int) "wonOrLost") {h : Hp} {x1 : Int32} {H : Heap} {locs : List Loc} (hkm : Km h0 h) (hW : Wx X h H) (hZ : va_S (aA (eB X)) s.heap H locs) (ls : Array Slot) (hl : lv_has ls 2 [(1, .int x1)]) (hE : sX2_wonOrLost_36 F h x1 = some o) : W p l e (rm 5 107) s m args below meth c H locs 0 0 (MQ below (QI X h0 o.1 o.2) args s 0 0 (aA (eB X))) (F0 m 36 ls []) := by
  refine lv_iload_n C.1 C.2.1 dX2_wonOrLost_36 rfl (lv_at hl 0 rfl) ?_
  exact x_iret C rfl rfl hW hZ hkm hE dX2_wonOrLost_37
set_option maxRecDepth 20000 in
theorem bX2_wonOrLost_27 {p : Program} {l : Launch} {e : Env} {s : State} {m : MethodId} {args : Array Value} {below : List Frame} {meth : Method} {c : Code} {X : Ec} {h0 : Hp} {o : Int32 × Hp} {F : Nat} (C : Cx X p s m args meth c RX2 cX2_wonOrLost 2 (some .int) "wonOrLost") {h : Hp} {x0 : Nat} {t0 : Int32} {H : Heap} {locs : List Loc} (k_x0 : hK h x0 = 2) (hkm : Km h0 h) (hW : Wx X h H) (hZ : va_S (aA (eB X)) s.heap H locs) (ls : Array Slot) (hl : lv_has ls 2 [(0, .ref x0)]) (hE : sX2_wonOrLost_27 F h x0 t0 = some o) : W p l e (rm 5 107) s m args below meth c H locs 0 0 (MQ below (QI X h0 o.1 o.2) args s 0 0 (aA (eB X))) (F0 m 27 ls [.int t0]) := by
  refine lv_istore_n (lv' := [(1, .int t0), (0, .ref x0)]) C.1 C.2.1 dX2_wonOrLost_27 rfl hl (by decide) rfl (fun ls hl => ?_)
  refine lv_iload_n C.1 C.2.1 dX2_wonOrLost_28 rfl (lv_at hl 0 rfl) ?_
  refine lv_if_eq (tgt := 36) C.1 C.2.1 dX2_wonOrLost_29 (by decide) (fun c_1 => ?_) (fun c_1 => ?_)
  · have hE := br_p hE c_1
    exact bX2_wonOrLost_36 C hkm hW hZ _ (lv_sub hl [0] rfl) hE
  · have hE := br_n hE c_1
    refine lv_aload_n C.1 C.2.1 dX2_wonOrLost_32 rfl (lv_at hl 1 rfl) ?_
    obtain ⟨o_2, eo_2, hE⟩ := cl_e hE
    refine x_kV (o := o_2) (z_runV (As := []) (rest := []) C (ct_X2_advance l X F k_x0 eo_2) cw_X2_31 hW hZ k_x0 (by decide) rfl rfl rfl hl.1 (Nat.le_of_ble_eq_true rfl) rfl dX2_wonOrLost_33 ⟨Nat.le_of_ble_eq_true rfl, Nat.le_of_ble_eq_true rfl⟩ ⟨Nat.le_refl _, Nat.le_refl _⟩) hZ (fun _ _ hW km hZ => ?_)
    replace hkm := hkm.tr km
    replace k_x0 := km.at k_x0 (by decide)
    exact bX2_wonOrLost_36 C hkm hW hZ _ (lv_sub hl [0] rfl) hE
set_option maxRecDepth 20000 in
theorem ct_X2_wonOrLost (l : Launch) (X : Ec) (F : Nat) {h : Hp} {x0 : Nat} {o : Int32 × Hp} (k_x0 : hK h x0 = 2) (hE : sX2_wonOrLost F h x0 = some o) : MetI l yX2_wonOrLost cX2_wonOrLost 2 (some .int) 5 107 X [.ref x0] h o := by
  refine x_met (by decide) (Nat.le_of_ble_eq_true rfl) ?_
  intro p e s m below meth c ls C hl hW hZ
  have hl : lv_has ls 2 [(0, .ref x0)] := hl
  have hkm : Km h h := Km.rf h
  refine lv_aload_n C.1 C.2.1 dX2_wonOrLost_0 rfl (lv_at hl 0 rfl) ?_
  refine va_ldcS C.1 C.2.1 C.2.2.2.1 (C.2.2.2.2.2.2.2.2.1 24 (by decide)).2 dX2_wonOrLost_1 ?_
  obtain ⟨o_1, eo_1, hE⟩ := cl_e hE
  refine x_kI (o := o_1) (z_runV (As := [.ref (X.2.2.2.1 24)]) (rest := []) C (ct_X2_isWord l X F k_x0 (by decide) eo_1) cw_X2_43 hW hZ k_x0 (by decide) rfl rfl rfl hl.1 (Nat.le_of_ble_eq_true rfl) rfl dX2_wonOrLost_3 ⟨Nat.le_of_ble_eq_true rfl, Nat.le_of_ble_eq_true rfl⟩ ⟨Nat.le_refl _, Nat.le_refl _⟩) hZ (fun _ _ hW km hZ => ?_)
  replace hkm := hkm.tr km
  replace k_x0 := km.at k_x0 (by decide)
  refine lv_if_eq (tgt := 13) C.1 C.2.1 dX2_wonOrLost_6 (by decide) (fun c_2 => ?_) (fun c_2 => ?_)
  · have hE := br_p hE c_2
    refine lv_aload_n C.1 C.2.1 dX2_wonOrLost_13 rfl (lv_at hl 0 rfl) ?_
    refine va_ldcS C.1 C.2.1 C.2.2.2.1 (C.2.2.2.2.2.2.2.2.1 25 (by decide)).2 dX2_wonOrLost_14 ?_
    obtain ⟨o_3, eo_3, hE⟩ := cl_e hE
    refine x_kI (o := o_3) (z_runV (As := [.ref (X.2.2.2.1 25)]) (rest := []) C (ct_X2_isWord l X F k_x0 (by decide) eo_3) cw_X2_43 hW hZ k_x0 (by decide) rfl rfl rfl hl.1 (Nat.le_of_ble_eq_true rfl) rfl dX2_wonOrLost_16 ⟨Nat.le_of_ble_eq_true rfl, Nat.le_of_ble_eq_true rfl⟩ ⟨Nat.le_refl _, Nat.le_refl _⟩) hZ (fun _ _ hW km hZ => ?_)
    replace hkm := hkm.tr km
    replace k_x0 := km.at k_x0 (by decide)
    refine lv_if_eq (tgt := 26) C.1 C.2.1 dX2_wonOrLost_19 (by decide) (fun c_4 => ?_) (fun c_4 => ?_)
    · have hE := br_p hE c_4
      refine lv_iconst (v := (0 : Int32)) C.1 C.2.1 dX2_wonOrLost_26 (by decide) ?_
      exact bX2_wonOrLost_27 C k_x0 hkm hW hZ _ (lv_sub hl [0] rfl) hE
    · have hE := br_n hE c_4
      refine lv_iconst (v := (2 : Int32)) C.1 C.2.1 dX2_wonOrLost_22 (by decide) ?_
      refine lv_goto (tgt := 27) C.1 C.2.1 dX2_wonOrLost_23 (by decide) ?_
      exact bX2_wonOrLost_27 C k_x0 hkm hW hZ _ (lv_sub hl [0] rfl) hE
  · have hE := br_n hE c_2
    refine lv_iconst (v := (1 : Int32)) C.1 C.2.1 dX2_wonOrLost_9 (by decide) ?_
    refine lv_goto (tgt := 27) C.1 C.2.1 dX2_wonOrLost_10 (by decide) ?_
    exact bX2_wonOrLost_27 C k_x0 hkm hW hZ _ (lv_sub hl [0] rfl) hE
set_option maxRecDepth 100000 in
theorem ms_21 : Cond.selects RX2 yX2_wonOrLost yX2_wonOrLost ∈ W0 := w0_in (List.mem_append_left _ (List.mem_of_getElem? (i := 21) rfl)) rfl
set_option maxRecDepth 100000 in
theorem ms_20 : Cond.selects RX2 yX2_takeHill yX2_takeHill ∈ W0 := w0_in (List.mem_append_left _ (List.mem_of_getElem? (i := 20) rfl)) rfl
set_option maxRecDepth 100000 in
theorem ms_19 : Cond.selects RX2 yX2_takeChecks yX2_takeChecks ∈ W0 := w0_in (List.mem_append_left _ (List.mem_of_getElem? (i := 19) rfl)) rfl
set_option maxRecDepth 100000 in
theorem ms_18 : Cond.selects RX2 yX2_takeBlast yX2_takeBlast ∈ W0 := w0_in (List.mem_append_left _ (List.mem_of_getElem? (i := 18) rfl)) rfl
set_option maxRecDepth 100000 in
theorem ms_17 : Cond.selects RX2 yX2_takeCastle yX2_takeCastle ∈ W0 := w0_in (List.mem_append_left _ (List.mem_of_getElem? (i := 17) rfl)) rfl
set_option maxRecDepth 100000 in
theorem ms_16 : Cond.selects RX2 yX2_takeRoyal yX2_takeRoyal ∈ W0 := w0_in (List.mem_append_left _ (List.mem_of_getElem? (i := 16) rfl)) rfl
set_option maxRecDepth 100000 in
theorem m_104 : Cond.fieldLink RX2 161 (TX1 8).1 (TX1 8).2.1 (TX1 8).2.2.1 ∈ W0 := w0_in (List.mem_append_right _ (List.mem_of_getElem? (i := 104) rfl)) rfl
set_option maxRecDepth 100000 in
theorem m_107 : Cond.fieldLink RX2 163 (TX1 9).1 (TX1 9).2.1 (TX1 9).2.2.1 ∈ W0 := w0_in (List.mem_append_right _ (List.mem_of_getElem? (i := 107) rfl)) rfl
set_option maxRecDepth 100000 in
theorem m_765 : Cond.methodLink RX2 140 yX2_takeRoyal ∈ W0 := w0_in (List.mem_append_right _ (List.mem_of_getElem? (i := 765) rfl)) rfl
set_option maxRecDepth 100000 in
theorem m_767 : Cond.instanceMethod yX2_takeRoyal ∈ W0 := w0_in (List.mem_append_right _ (List.mem_of_getElem? (i := 767) rfl)) rfl
set_option maxRecDepth 100000 in
theorem m_768 : Cond.code yX2_takeRoyal cX2_takeRoyal 2 (some .boolean) ∈ W0 := w0_in (List.mem_append_right _ (List.mem_of_getElem? (i := 768) rfl)) rfl
set_option maxRecDepth 100000 in
theorem m_769 : Cond.methodLink RX2 143 yX2_takeCastle ∈ W0 := w0_in (List.mem_append_right _ (List.mem_of_getElem? (i := 769) rfl)) rfl
set_option maxRecDepth 100000 in
theorem m_771 : Cond.instanceMethod yX2_takeCastle ∈ W0 := w0_in (List.mem_append_right _ (List.mem_of_getElem? (i := 771) rfl)) rfl
set_option maxRecDepth 100000 in
theorem m_772 : Cond.code yX2_takeCastle cX2_takeCastle 2 (some .boolean) ∈ W0 := w0_in (List.mem_append_right _ (List.mem_of_getElem? (i := 772) rfl)) rfl
set_option maxRecDepth 100000 in
theorem m_773 : Cond.methodLink RX2 149 yX2_takeBlast ∈ W0 := w0_in (List.mem_append_right _ (List.mem_of_getElem? (i := 773) rfl)) rfl
set_option maxRecDepth 100000 in
theorem m_775 : Cond.instanceMethod yX2_takeBlast ∈ W0 := w0_in (List.mem_append_right _ (List.mem_of_getElem? (i := 775) rfl)) rfl
set_option maxRecDepth 100000 in
theorem m_776 : Cond.code yX2_takeBlast cX2_takeBlast 3 (some .boolean) ∈ W0 := w0_in (List.mem_append_right _ (List.mem_of_getElem? (i := 776) rfl)) rfl
set_option maxRecDepth 100000 in
theorem m_777 : Cond.methodLink RX2 152 yX2_takeChecks ∈ W0 := w0_in (List.mem_append_right _ (List.mem_of_getElem? (i := 777) rfl)) rfl
set_option maxRecDepth 100000 in
theorem m_779 : Cond.instanceMethod yX2_takeChecks ∈ W0 := w0_in (List.mem_append_right _ (List.mem_of_getElem? (i := 779) rfl)) rfl
set_option maxRecDepth 100000 in
theorem m_780 : Cond.code yX2_takeChecks cX2_takeChecks 1 (some .boolean) ∈ W0 := w0_in (List.mem_append_right _ (List.mem_of_getElem? (i := 780) rfl)) rfl
set_option maxRecDepth 100000 in
theorem m_781 : Cond.methodLink RX2 155 yX2_takeHill ∈ W0 := w0_in (List.mem_append_right _ (List.mem_of_getElem? (i := 781) rfl)) rfl
set_option maxRecDepth 100000 in
theorem m_783 : Cond.instanceMethod yX2_takeHill ∈ W0 := w0_in (List.mem_append_right _ (List.mem_of_getElem? (i := 783) rfl)) rfl
set_option maxRecDepth 100000 in
theorem m_784 : Cond.code yX2_takeHill cX2_takeHill 5 (some .boolean) ∈ W0 := w0_in (List.mem_append_right _ (List.mem_of_getElem? (i := 784) rfl)) rfl
set_option maxRecDepth 100000 in
theorem m_785 : Cond.methodLink RX2 158 yX2_wonOrLost ∈ W0 := w0_in (List.mem_append_right _ (List.mem_of_getElem? (i := 785) rfl)) rfl
set_option maxRecDepth 100000 in
theorem m_787 : Cond.instanceMethod yX2_wonOrLost ∈ W0 := w0_in (List.mem_append_right _ (List.mem_of_getElem? (i := 787) rfl)) rfl
set_option maxRecDepth 100000 in
theorem m_788 : Cond.code yX2_wonOrLost cX2_wonOrLost 2 (some .int) ∈ W0 := w0_in (List.mem_append_right _ (List.mem_of_getElem? (i := 788) rfl)) rfl
section
variable {p : Program} {l : Launch} {e : Env} {R : Room} {s : State} {m : MethodId} {args : Array Value} {below : List Frame} {meth : Method} {c : Code} {H : Heap} {locs : List Loc} {cells slots : Nat} {Q : State → Prop}
variable {cc : ByteArray} {pc : Nat} {ls : Array Slot} {rest : List Value} {X : Ec} {h h1 : Hp} {nL : Nat} {rt : Option FieldType} {mn : String}
theorem pf_X2_161 {a : Nat} {v : Int32} (C : Cx X p s m args meth c RX2 cc nL rt mn) (hW : Wx X h H) (hZ : va_S (aA (eB X)) s.heap H locs) (ha : hK h a = 1) (eh : h1 = wI h a 8 v) (hdg : decode cc pc = .ok (.putfield 161, 3)) (kk : ∀ (H1 : Heap) (locs1 : List Loc), Wx X h1 H1 → Km h h1 → va_S (aA (eB X)) s.heap H1 locs1 → W p l e R s m args below meth c H1 locs1 cells slots Q (F0 m (pc + 3) ls rest)) : W p l e R s m args below meth c H locs cells slots Q (F0 m pc ls (.int v :: .ref a :: rest)) :=
  y_puti (ty := .int) C hW hZ ha i_X1 tyX1 tyX1_ok nmX1 (by decide) rfl rfl (by decide) m_104 rfl (by decide +kernel) rfl rfl rfl eh hdg kk
theorem gf_X2_161 {a : Nat} (C : Cx X p s m args meth c RX2 cc nL rt mn) (hW : Wx X h H) (ha : hK h a = 1) (hdg : decode cc pc = .ok (.getfield 161, 3)) (kk : W p l e R s m args below meth c H locs cells slots Q (F0 m (pc + 3) ls (.int (hI h a 8) :: rest))) : W p l e R s m args below meth c H locs cells slots Q (F0 m pc ls (.ref a :: rest)) :=
  y_geti C hW ha i_X1 (by decide) rfl (by decide) m_104 rfl hdg kk
theorem pf_X2_163 {a : Nat} {v : Int32} (C : Cx X p s m args meth c RX2 cc nL rt mn) (hW : Wx X h H) (hZ : va_S (aA (eB X)) s.heap H locs) (ha : hK h a = 1) (eh : h1 = wI h a 9 v) (hdg : decode cc pc = .ok (.putfield 163, 3)) (kk : ∀ (H1 : Heap) (locs1 : List Loc), Wx X h1 H1 → Km h h1 → va_S (aA (eB X)) s.heap H1 locs1 → W p l e R s m args below meth c H1 locs1 cells slots Q (F0 m (pc + 3) ls rest)) : W p l e R s m args below meth c H locs cells slots Q (F0 m pc ls (.int v :: .ref a :: rest)) :=
  y_puti (ty := .int) C hW hZ ha i_X1 tyX1 tyX1_ok nmX1 (by decide) rfl rfl (by decide) m_107 rfl (by decide +kernel) rfl rfl rfl eh hdg kk
theorem gf_X2_163 {a : Nat} (C : Cx X p s m args meth c RX2 cc nL rt mn) (hW : Wx X h H) (ha : hK h a = 1) (hdg : decode cc pc = .ok (.getfield 163, 3)) (kk : W p l e R s m args below meth c H locs cells slots Q (F0 m (pc + 3) ls (.int (hI h a 9) :: rest))) : W p l e R s m args below meth c H locs cells slots Q (F0 m pc ls (.ref a :: rest)) :=
  y_geti C hW ha i_X1 (by decide) rfl (by decide) m_107 rfl hdg kk
end
theorem cw_X2_140 : cwd RX2 140 yX2_takeRoyal cX2_takeRoyal 2 (some .boolean) false 0 := ⟨m_768, m_765, m_5, ⟨m_767, ms_16⟩, by decide, by decide, by decide +kernel⟩
theorem cw_X2_143 : cwd RX2 143 yX2_takeCastle cX2_takeCastle 2 (some .boolean) false 0 := ⟨m_772, m_769, m_5, ⟨m_771, ms_17⟩, by decide, by decide, by decide +kernel⟩
theorem cw_X2_149 : cwd RX2 149 yX2_takeBlast cX2_takeBlast 3 (some .boolean) false 0 := ⟨m_776, m_773, m_5, ⟨m_775, ms_18⟩, by decide, by decide, by decide +kernel⟩
theorem cw_X2_152 : cwd RX2 152 yX2_takeChecks cX2_takeChecks 1 (some .boolean) false 0 := ⟨m_780, m_777, m_5, ⟨m_779, ms_19⟩, by decide, by decide, by decide +kernel⟩
theorem cw_X2_155 : cwd RX2 155 yX2_takeHill cX2_takeHill 5 (some .boolean) false 0 := ⟨m_784, m_781, m_5, ⟨m_783, ms_20⟩, by decide, by decide, by decide +kernel⟩
theorem cw_X2_158 : cwd RX2 158 yX2_wonOrLost cX2_wonOrLost 2 (some .int) false 0 := ⟨m_788, m_785, m_5, ⟨m_787, ms_21⟩, by decide, by decide, by decide +kernel⟩
theorem dX2_takeOnce_0 : decode cX2_takeOnce 0 = .ok (.iload_n 1, 1) := by decide +kernel
theorem dX2_takeOnce_1 : decode cX2_takeOnce 1 = .ok (.lookupswitch 180 #[(1, 83), (2, 88), (4, 93), (8, 108), (16, 123), (32, 138), (64, 143), (128, 148), (256, 153)], 83) := by decide +kernel
theorem dX2_takeOnce_84 : decode cX2_takeOnce 84 = .ok (.aload_n 0, 1) := by decide +kernel
theorem dX2_takeOnce_85 : decode cX2_takeOnce 85 = .ok (.invokevirtual 140, 3) := by decide +kernel
theorem dX2_takeOnce_88 : decode cX2_takeOnce 88 = .ok (.ireturn, 1) := by decide +kernel
theorem dX2_takeOnce_89 : decode cX2_takeOnce 89 = .ok (.aload_n 0, 1) := by decide +kernel
theorem dX2_takeOnce_90 : decode cX2_takeOnce 90 = .ok (.invokevirtual 143, 3) := by decide +kernel
theorem dX2_takeOnce_93 : decode cX2_takeOnce 93 = .ok (.ireturn, 1) := by decide +kernel
theorem dX2_takeOnce_94 : decode cX2_takeOnce 94 = .ok (.aload_n 0, 1) := by decide +kernel
theorem dX2_takeOnce_95 : decode cX2_takeOnce 95 = .ok (.getfield 15, 3) := by decide +kernel
theorem dX2_takeOnce_98 : decode cX2_takeOnce 98 = .ok (.dup, 1) := by decide +kernel
theorem dX2_takeOnce_99 : decode cX2_takeOnce 99 = .ok (.getfield 146, 3) := by decide +kernel
theorem dX2_takeOnce_102 : decode cX2_takeOnce 102 = .ok (.iconst 1, 1) := by decide +kernel
theorem dX2_takeOnce_103 : decode cX2_takeOnce 103 = .ok (.ior, 1) := by decide +kernel
theorem dX2_takeOnce_104 : decode cX2_takeOnce 104 = .ok (.putfield 146, 3) := by decide +kernel
theorem dX2_takeOnce_107 : decode cX2_takeOnce 107 = .ok (.iconst 1, 1) := by decide +kernel
theorem dX2_takeOnce_108 : decode cX2_takeOnce 108 = .ok (.ireturn, 1) := by decide +kernel
theorem dX2_takeOnce_109 : decode cX2_takeOnce 109 = .ok (.aload_n 0, 1) := by decide +kernel
theorem dX2_takeOnce_110 : decode cX2_takeOnce 110 = .ok (.getfield 15, 3) := by decide +kernel
theorem dX2_takeOnce_113 : decode cX2_takeOnce 113 = .ok (.dup, 1) := by decide +kernel
theorem dX2_takeOnce_114 : decode cX2_takeOnce 114 = .ok (.getfield 146, 3) := by decide +kernel
theorem dX2_takeOnce_117 : decode cX2_takeOnce 117 = .ok (.iconst 2, 1) := by decide +kernel
theorem dX2_takeOnce_118 : decode cX2_takeOnce 118 = .ok (.ior, 1) := by decide +kernel
theorem dX2_takeOnce_119 : decode cX2_takeOnce 119 = .ok (.putfield 146, 3) := by decide +kernel
theorem dX2_takeOnce_122 : decode cX2_takeOnce 122 = .ok (.iconst 1, 1) := by decide +kernel
theorem dX2_takeOnce_123 : decode cX2_takeOnce 123 = .ok (.ireturn, 1) := by decide +kernel
theorem dX2_takeOnce_124 : decode cX2_takeOnce 124 = .ok (.aload_n 0, 1) := by decide +kernel
theorem dX2_takeOnce_125 : decode cX2_takeOnce 125 = .ok (.getfield 15, 3) := by decide +kernel
theorem dX2_takeOnce_128 : decode cX2_takeOnce 128 = .ok (.dup, 1) := by decide +kernel
theorem dX2_takeOnce_129 : decode cX2_takeOnce 129 = .ok (.getfield 146, 3) := by decide +kernel
theorem dX2_takeOnce_132 : decode cX2_takeOnce 132 = .ok (.iconst 4, 1) := by decide +kernel
theorem dX2_takeOnce_133 : decode cX2_takeOnce 133 = .ok (.ior, 1) := by decide +kernel
theorem dX2_takeOnce_134 : decode cX2_takeOnce 134 = .ok (.putfield 146, 3) := by decide +kernel
theorem dX2_takeOnce_137 : decode cX2_takeOnce 137 = .ok (.iconst 1, 1) := by decide +kernel
theorem dX2_takeOnce_138 : decode cX2_takeOnce 138 = .ok (.ireturn, 1) := by decide +kernel
theorem dX2_takeOnce_139 : decode cX2_takeOnce 139 = .ok (.aload_n 0, 1) := by decide +kernel
theorem dX2_takeOnce_140 : decode cX2_takeOnce 140 = .ok (.invokevirtual 149, 3) := by decide +kernel
theorem dX2_takeOnce_143 : decode cX2_takeOnce 143 = .ok (.ireturn, 1) := by decide +kernel
theorem dX2_takeOnce_144 : decode cX2_takeOnce 144 = .ok (.aload_n 0, 1) := by decide +kernel
theorem dX2_takeOnce_145 : decode cX2_takeOnce 145 = .ok (.invokevirtual 152, 3) := by decide +kernel
theorem dX2_takeOnce_148 : decode cX2_takeOnce 148 = .ok (.ireturn, 1) := by decide +kernel
theorem dX2_takeOnce_149 : decode cX2_takeOnce 149 = .ok (.aload_n 0, 1) := by decide +kernel
theorem dX2_takeOnce_150 : decode cX2_takeOnce 150 = .ok (.invokevirtual 155, 3) := by decide +kernel
theorem dX2_takeOnce_153 : decode cX2_takeOnce 153 = .ok (.ireturn, 1) := by decide +kernel
theorem dX2_takeOnce_154 : decode cX2_takeOnce 154 = .ok (.aload_n 0, 1) := by decide +kernel
theorem dX2_takeOnce_155 : decode cX2_takeOnce 155 = .ok (.getfield 15, 3) := by decide +kernel
theorem dX2_takeOnce_158 : decode cX2_takeOnce 158 = .ok (.aload_n 0, 1) := by decide +kernel
theorem dX2_takeOnce_159 : decode cX2_takeOnce 159 = .ok (.invokevirtual 158, 3) := by decide +kernel
theorem dX2_takeOnce_162 : decode cX2_takeOnce 162 = .ok (.putfield 161, 3) := by decide +kernel
theorem dX2_takeOnce_165 : decode cX2_takeOnce 165 = .ok (.aload_n 0, 1) := by decide +kernel
theorem dX2_takeOnce_166 : decode cX2_takeOnce 166 = .ok (.getfield 15, 3) := by decide +kernel
theorem dX2_takeOnce_169 : decode cX2_takeOnce 169 = .ok (.getfield 161, 3) := by decide +kernel
theorem dX2_takeOnce_172 : decode cX2_takeOnce 172 = .ok (.ifCond .eq 7, 3) := by decide +kernel
theorem dX2_takeOnce_175 : decode cX2_takeOnce 175 = .ok (.iconst 1, 1) := by decide +kernel
theorem dX2_takeOnce_176 : decode cX2_takeOnce 176 = .ok (.goto 4, 3) := by decide +kernel
theorem dX2_takeOnce_179 : decode cX2_takeOnce 179 = .ok (.iconst 0, 1) := by decide +kernel
theorem dX2_takeOnce_180 : decode cX2_takeOnce 180 = .ok (.ireturn, 1) := by decide +kernel
theorem dX2_takeOnce_181 : decode cX2_takeOnce 181 = .ok (.aload_n 0, 1) := by decide +kernel
theorem dX2_takeOnce_182 : decode cX2_takeOnce 182 = .ok (.getfield 15, 3) := by decide +kernel
theorem dX2_takeOnce_185 : decode cX2_takeOnce 185 = .ok (.aload_n 0, 1) := by decide +kernel
theorem dX2_takeOnce_186 : decode cX2_takeOnce 186 = .ok (.invokevirtual 158, 3) := by decide +kernel
theorem dX2_takeOnce_189 : decode cX2_takeOnce 189 = .ok (.putfield 163, 3) := by decide +kernel
theorem dX2_takeOnce_192 : decode cX2_takeOnce 192 = .ok (.aload_n 0, 1) := by decide +kernel
theorem dX2_takeOnce_193 : decode cX2_takeOnce 193 = .ok (.getfield 15, 3) := by decide +kernel
theorem dX2_takeOnce_196 : decode cX2_takeOnce 196 = .ok (.getfield 163, 3) := by decide +kernel
theorem dX2_takeOnce_199 : decode cX2_takeOnce 199 = .ok (.ifCond .eq 7, 3) := by decide +kernel
theorem dX2_takeOnce_202 : decode cX2_takeOnce 202 = .ok (.iconst 1, 1) := by decide +kernel
theorem dX2_takeOnce_203 : decode cX2_takeOnce 203 = .ok (.goto 4, 3) := by decide +kernel
theorem dX2_takeOnce_206 : decode cX2_takeOnce 206 = .ok (.iconst 0, 1) := by decide +kernel
theorem dX2_takeOnce_207 : decode cX2_takeOnce 207 = .ok (.ireturn, 1) := by decide +kernel
def sX2_takeOnce_207 (F : Nat) (h : Hp) (t0 : Int32) : Option (Int32 × Hp) := gd (t0 &&& 1 = t0) <| some (t0, h)
def sX2_takeOnce_180 (F : Nat) (h : Hp) (t0 : Int32) : Option (Int32 × Hp) := gd (t0 &&& 1 = t0) <| some (t0, h)
def sX2_takeOnce (F : Nat) (h : Hp) (x0 : Nat) (x1 : Int32) : Option (Int32 × Hp) := br (x1 = (1 : Int32)) (cl (sX2_takeRoyal F h x0) fun o_1 => gd (o_1.1 &&& 1 = o_1.1) <| some (o_1.1, o_1.2)) (br (x1 = (2 : Int32)) (cl (sX2_takeCastle F h x0) fun o_4 => gd (o_4.1 &&& 1 = o_4.1) <| some (o_4.1, o_4.2)) (br (x1 = (4 : Int32)) (cl (hR h x0 1) fun r_7 => nm (wI h r_7 10 ((hI h r_7 10) ||| (1 : Int32))) fun h_8 => some ((1 : Int32), h_8)) (br (x1 = (8 : Int32)) (cl (hR h x0 1) fun r_10 => nm (wI h r_10 10 ((hI h r_10 10) ||| (2 : Int32))) fun h_11 => some ((1 : Int32), h_11)) (br (x1 = (16 : Int32)) (cl (hR h x0 1) fun r_13 => nm (wI h r_13 10 ((hI h r_13 10) ||| (4 : Int32))) fun h_14 => some ((1 : Int32), h_14)) (br (x1 = (32 : Int32)) (cl (sX2_takeBlast F h x0) fun o_16 => gd (o_16.1 &&& 1 = o_16.1) <| some (o_16.1, o_16.2)) (br (x1 = (64 : Int32)) (cl (sX2_takeChecks F h x0) fun o_19 => gd (o_19.1 &&& 1 = o_19.1) <| some (o_19.1, o_19.2)) (br (x1 = (128 : Int32)) (cl (sX2_takeHill F h x0) fun o_22 => gd (o_22.1 &&& 1 = o_22.1) <| some (o_22.1, o_22.2)) (br (x1 = (256 : Int32)) (cl (hR h x0 1) fun r_25 => cl (sX2_wonOrLost F h x0) fun o_26 => nm (wI o_26.2 r_25 8 o_26.1) fun h_27 => cl (hR h_27 x0 1) fun r_28 => br ((hI h_27 r_28 8) = 0) (sX2_takeOnce_180 F h_27 (0 : Int32)) (sX2_takeOnce_180 F h_27 (1 : Int32))) (cl (hR h x0 1) fun r_31 => cl (sX2_wonOrLost F h x0) fun o_32 => nm (wI o_32.2 r_31 9 o_32.1) fun h_33 => cl (hR h_33 x0 1) fun r_34 => br ((hI h_33 r_34 9) = 0) (sX2_takeOnce_207 F h_33 (0 : Int32)) (sX2_takeOnce_207 F h_33 (1 : Int32)))))))))))
set_option maxRecDepth 20000 in
theorem moX2_takeOnce_207 {o : Int32 × Hp} {F : Nat} {h : Hp} {t0 : Int32} (hE : sX2_takeOnce_207 F h  t0 = some o) : Le h o.2 := by
  obtain ⟨g_1, hE⟩ := gd_e hE
  exact le_some2 hE
set_option maxRecDepth 20000 in
theorem moX2_takeOnce_180 {o : Int32 × Hp} {F : Nat} {h : Hp} {t0 : Int32} (hE : sX2_takeOnce_180 F h  t0 = some o) : Le h o.2 := by
  obtain ⟨g_1, hE⟩ := gd_e hE
  exact le_some2 hE
set_option maxRecDepth 20000 in
theorem moX2_takeOnce {o : Int32 × Hp} {F : Nat} {h : Hp} {x0 : Nat} {x1 : Int32} (hE : sX2_takeOnce F h x0 x1 = some o) : Le h o.2 := by
  rcases br_e hE with ⟨_, hE⟩ | ⟨_, hE⟩
  · obtain ⟨o_1, eo_1, hE⟩ := cl_e hE
    refine (moX2_takeRoyal eo_1).tr ?_
    obtain ⟨g_2, hE⟩ := gd_e hE
    exact le_some2 hE
  rcases br_e hE with ⟨_, hE⟩ | ⟨_, hE⟩
  · obtain ⟨o_4, eo_4, hE⟩ := cl_e hE
    refine (moX2_takeCastle eo_4).tr ?_
    obtain ⟨g_5, hE⟩ := gd_e hE
    exact le_some2 hE
  rcases br_e hE with ⟨_, hE⟩ | ⟨_, hE⟩
  · obtain ⟨r_7, er_7, hE⟩ := cl_e hE
    obtain ⟨h_8, eh_8, hE⟩ := nm_e2 hE
    refine (le_I eh_8).tr ?_
    exact le_some2 hE
  rcases br_e hE with ⟨_, hE⟩ | ⟨_, hE⟩
  · obtain ⟨r_10, er_10, hE⟩ := cl_e hE
    obtain ⟨h_11, eh_11, hE⟩ := nm_e2 hE
    refine (le_I eh_11).tr ?_
    exact le_some2 hE
  rcases br_e hE with ⟨_, hE⟩ | ⟨_, hE⟩
  · obtain ⟨r_13, er_13, hE⟩ := cl_e hE
    obtain ⟨h_14, eh_14, hE⟩ := nm_e2 hE
    refine (le_I eh_14).tr ?_
    exact le_some2 hE
  rcases br_e hE with ⟨_, hE⟩ | ⟨_, hE⟩
  · obtain ⟨o_16, eo_16, hE⟩ := cl_e hE
    refine (moX2_takeBlast eo_16).tr ?_
    obtain ⟨g_17, hE⟩ := gd_e hE
    exact le_some2 hE
  rcases br_e hE with ⟨_, hE⟩ | ⟨_, hE⟩
  · obtain ⟨o_19, eo_19, hE⟩ := cl_e hE
    refine (moX2_takeChecks eo_19).tr ?_
    obtain ⟨g_20, hE⟩ := gd_e hE
    exact le_some2 hE
  rcases br_e hE with ⟨_, hE⟩ | ⟨_, hE⟩
  · obtain ⟨o_22, eo_22, hE⟩ := cl_e hE
    refine (moX2_takeHill eo_22).tr ?_
    obtain ⟨g_23, hE⟩ := gd_e hE
    exact le_some2 hE
  rcases br_e hE with ⟨_, hE⟩ | ⟨_, hE⟩
  · obtain ⟨r_25, er_25, hE⟩ := cl_e hE
    obtain ⟨o_26, eo_26, hE⟩ := cl_e hE
    refine (moX2_wonOrLost eo_26).tr ?_
    obtain ⟨h_27, eh_27, hE⟩ := nm_e2 hE
    refine (le_I eh_27).tr ?_
    obtain ⟨r_28, er_28, hE⟩ := cl_e hE
    rcases br_e hE with ⟨_, hE⟩ | ⟨_, hE⟩
    · exact moX2_takeOnce_180 hE
    · exact moX2_takeOnce_180 hE
  obtain ⟨r_31, er_31, hE⟩ := cl_e hE
  obtain ⟨o_32, eo_32, hE⟩ := cl_e hE
  refine (moX2_wonOrLost eo_32).tr ?_
  obtain ⟨h_33, eh_33, hE⟩ := nm_e2 hE
  refine (le_I eh_33).tr ?_
  obtain ⟨r_34, er_34, hE⟩ := cl_e hE
  rcases br_e hE with ⟨_, hE⟩ | ⟨_, hE⟩
  · exact moX2_takeOnce_207 hE
  · exact moX2_takeOnce_207 hE
set_option maxRecDepth 20000 in
theorem bX2_takeOnce_207 {p : Program} {l : Launch} {e : Env} {s : State} {m : MethodId} {args : Array Value} {below : List Frame} {meth : Method} {c : Code} {X : Ec} {h0 : Hp} {o : Int32 × Hp} {F : Nat} (C : Cx X p s m args meth c RX2 cX2_takeOnce 2 (some .boolean) "takeOnce") {h : Hp} {t0 : Int32} {H : Heap} {locs : List Loc} (hkm : Km h0 h) (hW : Wx X h H) (hZ : va_S (aA (eB X)) s.heap H locs) (ls : Array Slot) (hl : lv_has ls 2 []) (hE : sX2_takeOnce_207 F h  t0 = some o) : W p l e (rm 6 128) s m args below meth c H locs 0 0 (MQ below (QI X h0 o.1 o.2) args s 0 0 (aA (eB X))) (F0 m 207 ls [.int t0]) := by
  obtain ⟨g_1, hE⟩ := gd_e hE
  exact x_iret C rfl (narB g_1) hW hZ hkm hE dX2_takeOnce_207
set_option maxRecDepth 20000 in
theorem bX2_takeOnce_180 {p : Program} {l : Launch} {e : Env} {s : State} {m : MethodId} {args : Array Value} {below : List Frame} {meth : Method} {c : Code} {X : Ec} {h0 : Hp} {o : Int32 × Hp} {F : Nat} (C : Cx X p s m args meth c RX2 cX2_takeOnce 2 (some .boolean) "takeOnce") {h : Hp} {t0 : Int32} {H : Heap} {locs : List Loc} (hkm : Km h0 h) (hW : Wx X h H) (hZ : va_S (aA (eB X)) s.heap H locs) (ls : Array Slot) (hl : lv_has ls 2 []) (hE : sX2_takeOnce_180 F h  t0 = some o) : W p l e (rm 6 128) s m args below meth c H locs 0 0 (MQ below (QI X h0 o.1 o.2) args s 0 0 (aA (eB X))) (F0 m 180 ls [.int t0]) := by
  obtain ⟨g_1, hE⟩ := gd_e hE
  exact x_iret C rfl (narB g_1) hW hZ hkm hE dX2_takeOnce_180
set_option maxRecDepth 20000 in
theorem ct_X2_takeOnce (l : Launch) (X : Ec) (F : Nat) {h : Hp} {x0 : Nat} {x1 : Int32} {o : Int32 × Hp} (k_x0 : hK h x0 = 2) (hE : sX2_takeOnce F h x0 x1 = some o) : MetI l yX2_takeOnce cX2_takeOnce 2 (some .boolean) 6 128 X [.ref x0, .int x1] h o := by
  refine x_met (by decide) (Nat.le_of_ble_eq_true rfl) ?_
  intro p e s m below meth c ls C hl hW hZ
  have hl : lv_has ls 2 [(0, .ref x0), (1, .int x1)] := hl
  have hkm : Km h h := Km.rf h
  refine lv_iload_n C.1 C.2.1 dX2_takeOnce_0 rfl (lv_at hl 1 rfl) ?_
  by_cases c_3 : x1 = (1 : Int32)
  · have hE := br_p hE c_3
    refine lv_lookup (off := 83) (tgt := 84) C.1 C.2.1 dX2_takeOnce_1 (by decide) (by rw [c_3]; decide) (by decide) ?_
    refine lv_aload_n C.1 C.2.1 dX2_takeOnce_84 rfl (lv_at hl 0 rfl) ?_
    obtain ⟨o_1, eo_1, hE⟩ := cl_e hE
    refine x_kI (o := o_1) (z_runV (As := []) (rest := []) C (ct_X2_takeRoyal l X F k_x0 eo_1) cw_X2_140 hW hZ k_x0 (by decide) rfl rfl rfl hl.1 (Nat.le_of_ble_eq_true rfl) rfl dX2_takeOnce_85 ⟨Nat.le_of_ble_eq_true rfl, Nat.le_of_ble_eq_true rfl⟩ ⟨Nat.le_refl _, Nat.le_refl _⟩) hZ (fun _ _ hW km hZ => ?_)
    replace hkm := hkm.tr km
    replace k_x0 := km.at k_x0 (by decide)
    obtain ⟨g_2, hE⟩ := gd_e hE
    exact x_iret C rfl (narB g_2) hW hZ hkm hE dX2_takeOnce_88
  have hE := br_n hE c_3
  by_cases c_6 : x1 = (2 : Int32)
  · have hE := br_p hE c_6
    refine lv_lookup (off := 88) (tgt := 89) C.1 C.2.1 dX2_takeOnce_1 (by decide) (by rw [c_6]; decide) (by decide) ?_
    refine lv_aload_n C.1 C.2.1 dX2_takeOnce_89 rfl (lv_at hl 0 rfl) ?_
    obtain ⟨o_4, eo_4, hE⟩ := cl_e hE
    refine x_kI (o := o_4) (z_runV (As := []) (rest := []) C (ct_X2_takeCastle l X F k_x0 eo_4) cw_X2_143 hW hZ k_x0 (by decide) rfl rfl rfl hl.1 (Nat.le_of_ble_eq_true rfl) rfl dX2_takeOnce_90 ⟨Nat.le_of_ble_eq_true rfl, Nat.le_of_ble_eq_true rfl⟩ ⟨Nat.le_refl _, Nat.le_refl _⟩) hZ (fun _ _ hW km hZ => ?_)
    replace hkm := hkm.tr km
    replace k_x0 := km.at k_x0 (by decide)
    obtain ⟨g_5, hE⟩ := gd_e hE
    exact x_iret C rfl (narB g_5) hW hZ hkm hE dX2_takeOnce_93
  have hE := br_n hE c_6
  by_cases c_9 : x1 = (4 : Int32)
  · have hE := br_p hE c_9
    refine lv_lookup (off := 93) (tgt := 94) C.1 C.2.1 dX2_takeOnce_1 (by decide) (by rw [c_9]; decide) (by decide) ?_
    refine lv_aload_n C.1 C.2.1 dX2_takeOnce_94 rfl (lv_at hl 0 rfl) ?_
    obtain ⟨r_7, er_7, hE⟩ := cl_e hE
    refine gf_X2_15 C hW k_x0 er_7 dX2_takeOnce_95 (fun k_r_7 => ?_)
    refine lv_dup C.1 C.2.1 dX2_takeOnce_98 rfl ?_
    refine gf_X2_146 C hW k_r_7 dX2_takeOnce_99 ?_
    refine lv_iconst (v := (1 : Int32)) C.1 C.2.1 dX2_takeOnce_102 (by decide) ?_
    refine lv_ior C.1 C.2.1 dX2_takeOnce_103 ?_
    obtain ⟨h_8, eh_8, hE⟩ := nm_e2 hE
    refine pf_X2_146 C hW hZ k_r_7 eh_8 dX2_takeOnce_104 (fun _ _ hW km hZ => ?_)
    replace hkm := hkm.tr km
    replace k_x0 := km.at k_x0 (by decide)
    refine lv_iconst (v := (1 : Int32)) C.1 C.2.1 dX2_takeOnce_107 (by decide) ?_
    exact x_iret C rfl (by decide) hW hZ hkm hE dX2_takeOnce_108
  have hE := br_n hE c_9
  by_cases c_12 : x1 = (8 : Int32)
  · have hE := br_p hE c_12
    refine lv_lookup (off := 108) (tgt := 109) C.1 C.2.1 dX2_takeOnce_1 (by decide) (by rw [c_12]; decide) (by decide) ?_
    refine lv_aload_n C.1 C.2.1 dX2_takeOnce_109 rfl (lv_at hl 0 rfl) ?_
    obtain ⟨r_10, er_10, hE⟩ := cl_e hE
    refine gf_X2_15 C hW k_x0 er_10 dX2_takeOnce_110 (fun k_r_10 => ?_)
    refine lv_dup C.1 C.2.1 dX2_takeOnce_113 rfl ?_
    refine gf_X2_146 C hW k_r_10 dX2_takeOnce_114 ?_
    refine lv_iconst (v := (2 : Int32)) C.1 C.2.1 dX2_takeOnce_117 (by decide) ?_
    refine lv_ior C.1 C.2.1 dX2_takeOnce_118 ?_
    obtain ⟨h_11, eh_11, hE⟩ := nm_e2 hE
    refine pf_X2_146 C hW hZ k_r_10 eh_11 dX2_takeOnce_119 (fun _ _ hW km hZ => ?_)
    replace hkm := hkm.tr km
    replace k_x0 := km.at k_x0 (by decide)
    refine lv_iconst (v := (1 : Int32)) C.1 C.2.1 dX2_takeOnce_122 (by decide) ?_
    exact x_iret C rfl (by decide) hW hZ hkm hE dX2_takeOnce_123
  have hE := br_n hE c_12
  by_cases c_15 : x1 = (16 : Int32)
  · have hE := br_p hE c_15
    refine lv_lookup (off := 123) (tgt := 124) C.1 C.2.1 dX2_takeOnce_1 (by decide) (by rw [c_15]; decide) (by decide) ?_
    refine lv_aload_n C.1 C.2.1 dX2_takeOnce_124 rfl (lv_at hl 0 rfl) ?_
    obtain ⟨r_13, er_13, hE⟩ := cl_e hE
    refine gf_X2_15 C hW k_x0 er_13 dX2_takeOnce_125 (fun k_r_13 => ?_)
    refine lv_dup C.1 C.2.1 dX2_takeOnce_128 rfl ?_
    refine gf_X2_146 C hW k_r_13 dX2_takeOnce_129 ?_
    refine lv_iconst (v := (4 : Int32)) C.1 C.2.1 dX2_takeOnce_132 (by decide) ?_
    refine lv_ior C.1 C.2.1 dX2_takeOnce_133 ?_
    obtain ⟨h_14, eh_14, hE⟩ := nm_e2 hE
    refine pf_X2_146 C hW hZ k_r_13 eh_14 dX2_takeOnce_134 (fun _ _ hW km hZ => ?_)
    replace hkm := hkm.tr km
    replace k_x0 := km.at k_x0 (by decide)
    refine lv_iconst (v := (1 : Int32)) C.1 C.2.1 dX2_takeOnce_137 (by decide) ?_
    exact x_iret C rfl (by decide) hW hZ hkm hE dX2_takeOnce_138
  have hE := br_n hE c_15
  by_cases c_18 : x1 = (32 : Int32)
  · have hE := br_p hE c_18
    refine lv_lookup (off := 138) (tgt := 139) C.1 C.2.1 dX2_takeOnce_1 (by decide) (by rw [c_18]; decide) (by decide) ?_
    refine lv_aload_n C.1 C.2.1 dX2_takeOnce_139 rfl (lv_at hl 0 rfl) ?_
    obtain ⟨o_16, eo_16, hE⟩ := cl_e hE
    refine x_kI (o := o_16) (z_runV (As := []) (rest := []) C (ct_X2_takeBlast l X F k_x0 eo_16) cw_X2_149 hW hZ k_x0 (by decide) rfl rfl rfl hl.1 (Nat.le_of_ble_eq_true rfl) rfl dX2_takeOnce_140 ⟨Nat.le_of_ble_eq_true rfl, Nat.le_of_ble_eq_true rfl⟩ ⟨Nat.le_refl _, Nat.le_refl _⟩) hZ (fun _ _ hW km hZ => ?_)
    replace hkm := hkm.tr km
    replace k_x0 := km.at k_x0 (by decide)
    obtain ⟨g_17, hE⟩ := gd_e hE
    exact x_iret C rfl (narB g_17) hW hZ hkm hE dX2_takeOnce_143
  have hE := br_n hE c_18
  by_cases c_21 : x1 = (64 : Int32)
  · have hE := br_p hE c_21
    refine lv_lookup (off := 143) (tgt := 144) C.1 C.2.1 dX2_takeOnce_1 (by decide) (by rw [c_21]; decide) (by decide) ?_
    refine lv_aload_n C.1 C.2.1 dX2_takeOnce_144 rfl (lv_at hl 0 rfl) ?_
    obtain ⟨o_19, eo_19, hE⟩ := cl_e hE
    refine x_kI (o := o_19) (z_runV (As := []) (rest := []) C (ct_X2_takeChecks l X F k_x0 eo_19) cw_X2_152 hW hZ k_x0 (by decide) rfl rfl rfl hl.1 (Nat.le_of_ble_eq_true rfl) rfl dX2_takeOnce_145 ⟨Nat.le_of_ble_eq_true rfl, Nat.le_of_ble_eq_true rfl⟩ ⟨Nat.le_refl _, Nat.le_refl _⟩) hZ (fun _ _ hW km hZ => ?_)
    replace hkm := hkm.tr km
    replace k_x0 := km.at k_x0 (by decide)
    obtain ⟨g_20, hE⟩ := gd_e hE
    exact x_iret C rfl (narB g_20) hW hZ hkm hE dX2_takeOnce_148
  have hE := br_n hE c_21
  by_cases c_24 : x1 = (128 : Int32)
  · have hE := br_p hE c_24
    refine lv_lookup (off := 148) (tgt := 149) C.1 C.2.1 dX2_takeOnce_1 (by decide) (by rw [c_24]; decide) (by decide) ?_
    refine lv_aload_n C.1 C.2.1 dX2_takeOnce_149 rfl (lv_at hl 0 rfl) ?_
    obtain ⟨o_22, eo_22, hE⟩ := cl_e hE
    refine x_kI (o := o_22) (z_runV (As := []) (rest := []) C (ct_X2_takeHill l X F k_x0 eo_22) cw_X2_155 hW hZ k_x0 (by decide) rfl rfl rfl hl.1 (Nat.le_of_ble_eq_true rfl) rfl dX2_takeOnce_150 ⟨Nat.le_of_ble_eq_true rfl, Nat.le_of_ble_eq_true rfl⟩ ⟨Nat.le_refl _, Nat.le_refl _⟩) hZ (fun _ _ hW km hZ => ?_)
    replace hkm := hkm.tr km
    replace k_x0 := km.at k_x0 (by decide)
    obtain ⟨g_23, hE⟩ := gd_e hE
    exact x_iret C rfl (narB g_23) hW hZ hkm hE dX2_takeOnce_153
  have hE := br_n hE c_24
  by_cases c_30 : x1 = (256 : Int32)
  · have hE := br_p hE c_30
    refine lv_lookup (off := 153) (tgt := 154) C.1 C.2.1 dX2_takeOnce_1 (by decide) (by rw [c_30]; decide) (by decide) ?_
    refine lv_aload_n C.1 C.2.1 dX2_takeOnce_154 rfl (lv_at hl 0 rfl) ?_
    obtain ⟨r_25, er_25, hE⟩ := cl_e hE
    refine gf_X2_15 C hW k_x0 er_25 dX2_takeOnce_155 (fun k_r_25 => ?_)
    refine lv_aload_n C.1 C.2.1 dX2_takeOnce_158 rfl (lv_at hl 0 rfl) ?_
    obtain ⟨o_26, eo_26, hE⟩ := cl_e hE
    refine x_kI (o := o_26) (z_runV (As := []) (rest := [.ref r_25]) C (ct_X2_wonOrLost l X F k_x0 eo_26) cw_X2_158 hW hZ k_x0 (by decide) rfl rfl rfl hl.1 (Nat.le_of_ble_eq_true rfl) rfl dX2_takeOnce_159 ⟨Nat.le_of_ble_eq_true rfl, Nat.le_of_ble_eq_true rfl⟩ ⟨Nat.le_refl _, Nat.le_refl _⟩) hZ (fun _ _ hW km hZ => ?_)
    replace hkm := hkm.tr km
    replace k_x0 := km.at k_x0 (by decide)
    replace k_r_25 := km.at k_r_25 (by decide)
    obtain ⟨h_27, eh_27, hE⟩ := nm_e2 hE
    refine pf_X2_161 C hW hZ k_r_25 eh_27 dX2_takeOnce_162 (fun _ _ hW km hZ => ?_)
    replace hkm := hkm.tr km
    replace k_x0 := km.at k_x0 (by decide)
    refine lv_aload_n C.1 C.2.1 dX2_takeOnce_165 rfl (lv_at hl 0 rfl) ?_
    obtain ⟨r_28, er_28, hE⟩ := cl_e hE
    refine gf_X2_15 C hW k_x0 er_28 dX2_takeOnce_166 (fun k_r_28 => ?_)
    refine gf_X2_161 C hW k_r_28 dX2_takeOnce_169 ?_
    refine lv_if_eq (tgt := 179) C.1 C.2.1 dX2_takeOnce_172 (by decide) (fun c_29 => ?_) (fun c_29 => ?_)
    · have hE := br_p hE c_29
      refine lv_iconst (v := (0 : Int32)) C.1 C.2.1 dX2_takeOnce_179 (by decide) ?_
      exact bX2_takeOnce_180 C hkm hW hZ _ (lv_sub hl [] rfl) hE
    · have hE := br_n hE c_29
      refine lv_iconst (v := (1 : Int32)) C.1 C.2.1 dX2_takeOnce_175 (by decide) ?_
      refine lv_goto (tgt := 180) C.1 C.2.1 dX2_takeOnce_176 (by decide) ?_
      exact bX2_takeOnce_180 C hkm hW hZ _ (lv_sub hl [] rfl) hE
  have hE := br_n hE c_30
  refine lv_lookup (off := 180) (tgt := 181) C.1 C.2.1 dX2_takeOnce_1 (by decide) ((lv_osw c_3 (by decide)).trans ((lv_osw c_6 (by decide)).trans ((lv_osw c_9 (by decide)).trans ((lv_osw c_12 (by decide)).trans ((lv_osw c_15 (by decide)).trans ((lv_osw c_18 (by decide)).trans ((lv_osw c_21 (by decide)).trans ((lv_osw c_24 (by decide)).trans ((lv_osw c_30 (by decide)).trans rfl))))))))) (by decide) ?_
  refine lv_aload_n C.1 C.2.1 dX2_takeOnce_181 rfl (lv_at hl 0 rfl) ?_
  obtain ⟨r_31, er_31, hE⟩ := cl_e hE
  refine gf_X2_15 C hW k_x0 er_31 dX2_takeOnce_182 (fun k_r_31 => ?_)
  refine lv_aload_n C.1 C.2.1 dX2_takeOnce_185 rfl (lv_at hl 0 rfl) ?_
  obtain ⟨o_32, eo_32, hE⟩ := cl_e hE
  refine x_kI (o := o_32) (z_runV (As := []) (rest := [.ref r_31]) C (ct_X2_wonOrLost l X F k_x0 eo_32) cw_X2_158 hW hZ k_x0 (by decide) rfl rfl rfl hl.1 (Nat.le_of_ble_eq_true rfl) rfl dX2_takeOnce_186 ⟨Nat.le_of_ble_eq_true rfl, Nat.le_of_ble_eq_true rfl⟩ ⟨Nat.le_refl _, Nat.le_refl _⟩) hZ (fun _ _ hW km hZ => ?_)
  replace hkm := hkm.tr km
  replace k_x0 := km.at k_x0 (by decide)
  replace k_r_31 := km.at k_r_31 (by decide)
  obtain ⟨h_33, eh_33, hE⟩ := nm_e2 hE
  refine pf_X2_163 C hW hZ k_r_31 eh_33 dX2_takeOnce_189 (fun _ _ hW km hZ => ?_)
  replace hkm := hkm.tr km
  replace k_x0 := km.at k_x0 (by decide)
  refine lv_aload_n C.1 C.2.1 dX2_takeOnce_192 rfl (lv_at hl 0 rfl) ?_
  obtain ⟨r_34, er_34, hE⟩ := cl_e hE
  refine gf_X2_15 C hW k_x0 er_34 dX2_takeOnce_193 (fun k_r_34 => ?_)
  refine gf_X2_163 C hW k_r_34 dX2_takeOnce_196 ?_
  refine lv_if_eq (tgt := 206) C.1 C.2.1 dX2_takeOnce_199 (by decide) (fun c_35 => ?_) (fun c_35 => ?_)
  · have hE := br_p hE c_35
    refine lv_iconst (v := (0 : Int32)) C.1 C.2.1 dX2_takeOnce_206 (by decide) ?_
    exact bX2_takeOnce_207 C hkm hW hZ _ (lv_sub hl [] rfl) hE
  · have hE := br_n hE c_35
    refine lv_iconst (v := (1 : Int32)) C.1 C.2.1 dX2_takeOnce_202 (by decide) ?_
    refine lv_goto (tgt := 207) C.1 C.2.1 dX2_takeOnce_203 (by decide) ?_
    exact bX2_takeOnce_207 C hkm hW hZ _ (lv_sub hl [] rfl) hE
set_option maxRecDepth 100000 in
theorem ms_15 : Cond.selects RX2 yX2_takeOnce yX2_takeOnce ∈ W0 := w0_in (List.mem_append_left _ (List.mem_of_getElem? (i := 15) rfl)) rfl
set_option maxRecDepth 100000 in
theorem ms_14 : Cond.selects RX2 yX2_onceWord yX2_onceWord ∈ W0 := w0_in (List.mem_append_left _ (List.mem_of_getElem? (i := 14) rfl)) rfl
set_option maxRecDepth 100000 in
theorem m_201 : Cond.fieldLink RX2 28 (TX2 6).1 (TX2 6).2.1 (TX2 6).2.2.1 ∈ W0 := w0_in (List.mem_append_right _ (List.mem_of_getElem? (i := 201) rfl)) rfl
set_option maxRecDepth 100000 in
theorem m_747 : Cond.methodLink RX2 112 yX2_onceWord ∈ W0 := w0_in (List.mem_append_right _ (List.mem_of_getElem? (i := 747) rfl)) rfl
set_option maxRecDepth 100000 in
theorem m_749 : Cond.instanceMethod yX2_onceWord ∈ W0 := w0_in (List.mem_append_right _ (List.mem_of_getElem? (i := 749) rfl)) rfl
set_option maxRecDepth 100000 in
theorem m_750 : Cond.code yX2_onceWord cX2_onceWord 1 (some .int) ∈ W0 := w0_in (List.mem_append_right _ (List.mem_of_getElem? (i := 750) rfl)) rfl
set_option maxRecDepth 100000 in
theorem m_761 : Cond.methodLink RX2 118 yX2_takeOnce ∈ W0 := w0_in (List.mem_append_right _ (List.mem_of_getElem? (i := 761) rfl)) rfl
set_option maxRecDepth 100000 in
theorem m_763 : Cond.instanceMethod yX2_takeOnce ∈ W0 := w0_in (List.mem_append_right _ (List.mem_of_getElem? (i := 763) rfl)) rfl
set_option maxRecDepth 100000 in
theorem m_764 : Cond.code yX2_takeOnce cX2_takeOnce 2 (some .boolean) ∈ W0 := w0_in (List.mem_append_right _ (List.mem_of_getElem? (i := 764) rfl)) rfl
section
variable {p : Program} {l : Launch} {e : Env} {R : Room} {s : State} {m : MethodId} {args : Array Value} {below : List Frame} {meth : Method} {c : Code} {H : Heap} {locs : List Loc} {cells slots : Nat} {Q : State → Prop}
variable {cc : ByteArray} {pc : Nat} {ls : Array Slot} {rest : List Value} {X : Ec} {h h1 : Hp} {nL : Nat} {rt : Option FieldType} {mn : String}
theorem gf_X2_28 {a : Nat} (C : Cx X p s m args meth c RX2 cc nL rt mn) (hW : Wx X h H) (ha : hK h a = 2) (hdg : decode cc pc = .ok (.getfield 28, 3)) (kk : W p l e R s m args below meth c H locs cells slots Q (F0 m (pc + 3) ls (.int (hI h a 6) :: rest))) : W p l e R s m args below meth c H locs cells slots Q (F0 m pc ls (.ref a :: rest)) :=
  y_geti C hW ha i_X2 (by decide) rfl (by decide) m_201 rfl hdg kk
theorem pf_X2_28 {a : Nat} {v : Int32} (C : Cx X p s m args meth c RX2 cc nL rt mn) (hW : Wx X h H) (hZ : va_S (aA (eB X)) s.heap H locs) (ha : hK h a = 2) (eh : h1 = wI h a 6 v) (hdg : decode cc pc = .ok (.putfield 28, 3)) (kk : ∀ (H1 : Heap) (locs1 : List Loc), Wx X h1 H1 → Km h h1 → va_S (aA (eB X)) s.heap H1 locs1 → W p l e R s m args below meth c H1 locs1 cells slots Q (F0 m (pc + 3) ls rest)) : W p l e R s m args below meth c H locs cells slots Q (F0 m pc ls (.int v :: .ref a :: rest)) :=
  y_puti (ty := .int) C hW hZ ha i_X2 tyX2 tyX2_ok nmX2 (by decide) rfl rfl (by decide) m_201 rfl (by decide +kernel) rfl rfl rfl eh hdg kk
end
theorem cw_X2_118 : cwd RX2 118 yX2_takeOnce cX2_takeOnce 2 (some .boolean) false 1 := ⟨m_764, m_761, m_5, ⟨m_763, ms_15⟩, by decide, by decide, by decide +kernel⟩
theorem cw_X2_112 : cwd RX2 112 yX2_onceWord cX2_onceWord 1 (some .int) false 0 := ⟨m_750, m_747, m_5, ⟨m_749, ms_14⟩, by decide, by decide, by decide +kernel⟩
theorem dX2_takeOther_0 : decode cX2_takeOther 0 = .ok (.aload_n 0, 1) := by decide +kernel
theorem dX2_takeOther_1 : decode cX2_takeOther 1 = .ok (.invokevirtual 112, 3) := by decide +kernel
theorem dX2_takeOther_4 : decode cX2_takeOther 4 = .ok (.istore_n 1, 1) := by decide +kernel
theorem dX2_takeOther_5 : decode cX2_takeOther 5 = .ok (.iload_n 1, 1) := by decide +kernel
theorem dX2_takeOther_6 : decode cX2_takeOther 6 = .ok (.iconst 2, 1) := by decide +kernel
theorem dX2_takeOther_7 : decode cX2_takeOther 7 = .ok (.if_icmp .ne 18, 3) := by decide +kernel
theorem dX2_takeOther_10 : decode cX2_takeOther 10 = .ok (.aload_n 0, 1) := by decide +kernel
theorem dX2_takeOther_11 : decode cX2_takeOther 11 = .ok (.getfield 15, 3) := by decide +kernel
theorem dX2_takeOther_14 : decode cX2_takeOther 14 = .ok (.getfield 115, 3) := by decide +kernel
theorem dX2_takeOther_17 : decode cX2_takeOther 17 = .ok (.iconst (-1), 1) := by decide +kernel
theorem dX2_takeOther_18 : decode cX2_takeOther 18 = .ok (.if_icmp .ne 7, 3) := by decide +kernel
theorem dX2_takeOther_21 : decode cX2_takeOther 21 = .ok (.iconst 1, 1) := by decide +kernel
theorem dX2_takeOther_22 : decode cX2_takeOther 22 = .ok (.goto 4, 3) := by decide +kernel
theorem dX2_takeOther_25 : decode cX2_takeOther 25 = .ok (.iconst 0, 1) := by decide +kernel
theorem dX2_takeOther_26 : decode cX2_takeOther 26 = .ok (.istore_n 2, 1) := by decide +kernel
theorem dX2_takeOther_27 : decode cX2_takeOther 27 = .ok (.iload_n 1, 1) := by decide +kernel
theorem dX2_takeOther_28 : decode cX2_takeOther 28 = .ok (.ifCond .eq 16, 3) := by decide +kernel
theorem dX2_takeOther_31 : decode cX2_takeOther 31 = .ok (.iload_n 2, 1) := by decide +kernel
theorem dX2_takeOther_32 : decode cX2_takeOther 32 = .ok (.ifCond .ne 12, 3) := by decide +kernel
theorem dX2_takeOther_35 : decode cX2_takeOther 35 = .ok (.aload_n 0, 1) := by decide +kernel
theorem dX2_takeOther_36 : decode cX2_takeOther 36 = .ok (.getfield 28, 3) := by decide +kernel
theorem dX2_takeOther_39 : decode cX2_takeOther 39 = .ok (.iload_n 1, 1) := by decide +kernel
theorem dX2_takeOther_40 : decode cX2_takeOther 40 = .ok (.iand, 1) := by decide +kernel
theorem dX2_takeOther_41 : decode cX2_takeOther 41 = .ok (.ifCond .eq 5, 3) := by decide +kernel
theorem dX2_takeOther_44 : decode cX2_takeOther 44 = .ok (.iconst 0, 1) := by decide +kernel
theorem dX2_takeOther_45 : decode cX2_takeOther 45 = .ok (.ireturn, 1) := by decide +kernel
theorem dX2_takeOther_46 : decode cX2_takeOther 46 = .ok (.aload_n 0, 1) := by decide +kernel
theorem dX2_takeOther_47 : decode cX2_takeOther 47 = .ok (.dup, 1) := by decide +kernel
theorem dX2_takeOther_48 : decode cX2_takeOther 48 = .ok (.getfield 28, 3) := by decide +kernel
theorem dX2_takeOther_51 : decode cX2_takeOther 51 = .ok (.iload_n 1, 1) := by decide +kernel
theorem dX2_takeOther_52 : decode cX2_takeOther 52 = .ok (.ior, 1) := by decide +kernel
theorem dX2_takeOther_53 : decode cX2_takeOther 53 = .ok (.putfield 28, 3) := by decide +kernel
theorem dX2_takeOther_56 : decode cX2_takeOther 56 = .ok (.aload_n 0, 1) := by decide +kernel
theorem dX2_takeOther_57 : decode cX2_takeOther 57 = .ok (.invokevirtual 31, 3) := by decide +kernel
theorem dX2_takeOther_60 : decode cX2_takeOther 60 = .ok (.aload_n 0, 1) := by decide +kernel
theorem dX2_takeOther_61 : decode cX2_takeOther 61 = .ok (.iload_n 1, 1) := by decide +kernel
theorem dX2_takeOther_62 : decode cX2_takeOther 62 = .ok (.invokevirtual 118, 3) := by decide +kernel
theorem dX2_takeOther_65 : decode cX2_takeOther 65 = .ok (.ireturn, 1) := by decide +kernel
def sX2_takeOther_44 (F : Nat) (h : Hp) : Option (Int32 × Hp) := some ((0 : Int32), h)
def sX2_takeOther_26 (F : Nat) (h : Hp) (x0 : Nat) (x1 : Int32) (t0 : Int32) : Option (Int32 × Hp) := br (x1 = 0) (sX2_takeOther_44 F h ) (br (t0 = 0) (br (((hI h x0 6) &&& x1) = 0) (nm (wI h x0 6 ((hI h x0 6) ||| x1)) fun h_4 => cl (sX2_advance F h_4 x0) fun o_5 => cl (sX2_takeOnce F o_5 x0 x1) fun o_6 => gd (o_6.1 &&& 1 = o_6.1) <| some (o_6.1, o_6.2)) (sX2_takeOther_44 F h )) (sX2_takeOther_44 F h ))
def sX2_takeOther_25 (F : Nat) (h : Hp) (x0 : Nat) (x1 : Int32) : Option (Int32 × Hp) := sX2_takeOther_26 F h x0 x1 (0 : Int32)
def sX2_takeOther (F : Nat) (h : Hp) (x0 : Nat) : Option (Int32 × Hp) := cl (sX2_onceWord F h x0) fun o_1 => br (o_1.1 = (2 : Int32)) (cl (hR o_1.2 x0 1) fun r_3 => br ((hI o_1.2 r_3 4) = (-1 : Int32)) (sX2_takeOther_26 F o_1.2 x0 o_1.1 (1 : Int32)) (sX2_takeOther_25 F o_1.2 x0 o_1.1)) (sX2_takeOther_25 F o_1.2 x0 o_1.1)
set_option maxRecDepth 20000 in
theorem moX2_takeOther_44 {o : Int32 × Hp} {F : Nat} {h : Hp} (hE : sX2_takeOther_44 F h  = some o) : Le h o.2 := by
  exact le_some2 hE
set_option maxRecDepth 20000 in
theorem moX2_takeOther_26 {o : Int32 × Hp} {F : Nat} {h : Hp} {x0 : Nat} {x1 : Int32} {t0 : Int32} (hE : sX2_takeOther_26 F h x0 x1 t0 = some o) : Le h o.2 := by
  rcases br_e hE with ⟨_, hE⟩ | ⟨_, hE⟩
  · exact moX2_takeOther_44 hE
  · rcases br_e hE with ⟨_, hE⟩ | ⟨_, hE⟩
    · rcases br_e hE with ⟨_, hE⟩ | ⟨_, hE⟩
      · obtain ⟨h_4, eh_4, hE⟩ := nm_e2 hE
        refine (le_I eh_4).tr ?_
        obtain ⟨o_5, eo_5, hE⟩ := cl_e hE
        refine (moX2_advance eo_5).tr ?_
        obtain ⟨o_6, eo_6, hE⟩ := cl_e hE
        refine (moX2_takeOnce eo_6).tr ?_
        obtain ⟨g_7, hE⟩ := gd_e hE
        exact le_some2 hE
      · exact moX2_takeOther_44 hE
    · exact moX2_takeOther_44 hE
set_option maxRecDepth 20000 in
theorem moX2_takeOther_25 {o : Int32 × Hp} {F : Nat} {h : Hp} {x0 : Nat} {x1 : Int32} (hE : sX2_takeOther_25 F h x0 x1 = some o) : Le h o.2 := by
  exact moX2_takeOther_26 hE
set_option maxRecDepth 20000 in
theorem moX2_takeOther {o : Int32 × Hp} {F : Nat} {h : Hp} {x0 : Nat} (hE : sX2_takeOther F h x0 = some o) : Le h o.2 := by
  obtain ⟨o_1, eo_1, hE⟩ := cl_e hE
  refine (moX2_onceWord eo_1).tr ?_
  rcases br_e hE with ⟨_, hE⟩ | ⟨_, hE⟩
  · obtain ⟨r_3, er_3, hE⟩ := cl_e hE
    rcases br_e hE with ⟨_, hE⟩ | ⟨_, hE⟩
    · exact moX2_takeOther_26 hE
    · exact moX2_takeOther_25 hE
  · exact moX2_takeOther_25 hE
set_option maxRecDepth 20000 in
theorem bX2_takeOther_44 {p : Program} {l : Launch} {e : Env} {s : State} {m : MethodId} {args : Array Value} {below : List Frame} {meth : Method} {c : Code} {X : Ec} {h0 : Hp} {o : Int32 × Hp} {F : Nat} (C : Cx X p s m args meth c RX2 cX2_takeOther 3 (some .boolean) "takeOther") {h : Hp} {H : Heap} {locs : List Loc} (hkm : Km h0 h) (hW : Wx X h H) (hZ : va_S (aA (eB X)) s.heap H locs) (ls : Array Slot) (hl : lv_has ls 3 []) (hE : sX2_takeOther_44 F h  = some o) : W p l e (rm 7 149) s m args below meth c H locs 0 0 (MQ below (QI X h0 o.1 o.2) args s 0 0 (aA (eB X))) (F0 m 44 ls []) := by
  refine lv_iconst (v := (0 : Int32)) C.1 C.2.1 dX2_takeOther_44 (by decide) ?_
  exact x_iret C rfl (by decide) hW hZ hkm hE dX2_takeOther_45
set_option maxRecDepth 20000 in
theorem bX2_takeOther_26 {p : Program} {l : Launch} {e : Env} {s : State} {m : MethodId} {args : Array Value} {below : List Frame} {meth : Method} {c : Code} {X : Ec} {h0 : Hp} {o : Int32 × Hp} {F : Nat} (C : Cx X p s m args meth c RX2 cX2_takeOther 3 (some .boolean) "takeOther") {h : Hp} {x0 : Nat} {x1 : Int32} {t0 : Int32} {H : Heap} {locs : List Loc} (k_x0 : hK h x0 = 2) (hkm : Km h0 h) (hW : Wx X h H) (hZ : va_S (aA (eB X)) s.heap H locs) (ls : Array Slot) (hl : lv_has ls 3 [(0, .ref x0), (1, .int x1)]) (hE : sX2_takeOther_26 F h x0 x1 t0 = some o) : W p l e (rm 7 149) s m args below meth c H locs 0 0 (MQ below (QI X h0 o.1 o.2) args s 0 0 (aA (eB X))) (F0 m 26 ls [.int t0]) := by
  refine lv_istore_n (lv' := [(2, .int t0), (0, .ref x0), (1, .int x1)]) C.1 C.2.1 dX2_takeOther_26 rfl hl (by decide) rfl (fun ls hl => ?_)
  refine lv_iload_n C.1 C.2.1 dX2_takeOther_27 rfl (lv_at hl 2 rfl) ?_
  refine lv_if_eq (tgt := 44) C.1 C.2.1 dX2_takeOther_28 (by decide) (fun c_1 => ?_) (fun c_1 => ?_)
  · have hE := br_p hE c_1
    exact bX2_takeOther_44 C hkm hW hZ _ (lv_sub hl [] rfl) hE
  · have hE := br_n hE c_1
    refine lv_iload_n C.1 C.2.1 dX2_takeOther_31 rfl (lv_at hl 0 rfl) ?_
    refine lv_if_ne (tgt := 44) C.1 C.2.1 dX2_takeOther_32 (by decide) (fun c_2 => ?_) (fun c_2 => ?_)
    · have hE := br_n hE c_2
      exact bX2_takeOther_44 C hkm hW hZ _ (lv_sub hl [] rfl) hE
    · have hE := br_p hE c_2
      refine lv_aload_n C.1 C.2.1 dX2_takeOther_35 rfl (lv_at hl 1 rfl) ?_
      refine gf_X2_28 C hW k_x0 dX2_takeOther_36 ?_
      refine lv_iload_n C.1 C.2.1 dX2_takeOther_39 rfl (lv_at hl 2 rfl) ?_
      refine lv_iand C.1 C.2.1 dX2_takeOther_40 ?_
      refine lv_if_eq (tgt := 46) C.1 C.2.1 dX2_takeOther_41 (by decide) (fun c_3 => ?_) (fun c_3 => ?_)
      · have hE := br_p hE c_3
        refine lv_aload_n C.1 C.2.1 dX2_takeOther_46 rfl (lv_at hl 1 rfl) ?_
        refine lv_dup C.1 C.2.1 dX2_takeOther_47 rfl ?_
        refine gf_X2_28 C hW k_x0 dX2_takeOther_48 ?_
        refine lv_iload_n C.1 C.2.1 dX2_takeOther_51 rfl (lv_at hl 2 rfl) ?_
        refine lv_ior C.1 C.2.1 dX2_takeOther_52 ?_
        obtain ⟨h_4, eh_4, hE⟩ := nm_e2 hE
        refine pf_X2_28 C hW hZ k_x0 eh_4 dX2_takeOther_53 (fun _ _ hW km hZ => ?_)
        replace hkm := hkm.tr km
        replace k_x0 := km.at k_x0 (by decide)
        refine lv_aload_n C.1 C.2.1 dX2_takeOther_56 rfl (lv_at hl 1 rfl) ?_
        obtain ⟨o_5, eo_5, hE⟩ := cl_e hE
        refine x_kV (o := o_5) (z_runV (As := []) (rest := []) C (ct_X2_advance l X F k_x0 eo_5) cw_X2_31 hW hZ k_x0 (by decide) rfl rfl rfl hl.1 (Nat.le_of_ble_eq_true rfl) rfl dX2_takeOther_57 ⟨Nat.le_of_ble_eq_true rfl, Nat.le_of_ble_eq_true rfl⟩ ⟨Nat.le_refl _, Nat.le_refl _⟩) hZ (fun _ _ hW km hZ => ?_)
        replace hkm := hkm.tr km
        replace k_x0 := km.at k_x0 (by decide)
        refine lv_aload_n C.1 C.2.1 dX2_takeOther_60 rfl (lv_at hl 1 rfl) ?_
        refine lv_iload_n C.1 C.2.1 dX2_takeOther_61 rfl (lv_at hl 2 rfl) ?_
        obtain ⟨o_6, eo_6, hE⟩ := cl_e hE
        refine x_kI (o := o_6) (z_runV (As := [.int x1]) (rest := []) C (ct_X2_takeOnce l X F k_x0 eo_6) cw_X2_118 hW hZ k_x0 (by decide) rfl rfl rfl hl.1 (Nat.le_of_ble_eq_true rfl) rfl dX2_takeOther_62 ⟨Nat.le_of_ble_eq_true rfl, Nat.le_of_ble_eq_true rfl⟩ ⟨Nat.le_refl _, Nat.le_refl _⟩) hZ (fun _ _ hW km hZ => ?_)
        replace hkm := hkm.tr km
        replace k_x0 := km.at k_x0 (by decide)
        obtain ⟨g_7, hE⟩ := gd_e hE
        exact x_iret C rfl (narB g_7) hW hZ hkm hE dX2_takeOther_65
      · have hE := br_n hE c_3
        exact bX2_takeOther_44 C hkm hW hZ _ (lv_sub hl [] rfl) hE
set_option maxRecDepth 20000 in
theorem bX2_takeOther_25 {p : Program} {l : Launch} {e : Env} {s : State} {m : MethodId} {args : Array Value} {below : List Frame} {meth : Method} {c : Code} {X : Ec} {h0 : Hp} {o : Int32 × Hp} {F : Nat} (C : Cx X p s m args meth c RX2 cX2_takeOther 3 (some .boolean) "takeOther") {h : Hp} {x0 : Nat} {x1 : Int32} {H : Heap} {locs : List Loc} (k_x0 : hK h x0 = 2) (hkm : Km h0 h) (hW : Wx X h H) (hZ : va_S (aA (eB X)) s.heap H locs) (ls : Array Slot) (hl : lv_has ls 3 [(0, .ref x0), (1, .int x1)]) (hE : sX2_takeOther_25 F h x0 x1 = some o) : W p l e (rm 7 149) s m args below meth c H locs 0 0 (MQ below (QI X h0 o.1 o.2) args s 0 0 (aA (eB X))) (F0 m 25 ls []) := by
  refine lv_iconst (v := (0 : Int32)) C.1 C.2.1 dX2_takeOther_25 (by decide) ?_
  exact bX2_takeOther_26 C k_x0 hkm hW hZ _ (lv_sub hl [0, 1] rfl) hE
set_option maxRecDepth 20000 in
theorem ct_X2_takeOther (l : Launch) (X : Ec) (F : Nat) {h : Hp} {x0 : Nat} {o : Int32 × Hp} (k_x0 : hK h x0 = 2) (hE : sX2_takeOther F h x0 = some o) : MetI l yX2_takeOther cX2_takeOther 3 (some .boolean) 7 149 X [.ref x0] h o := by
  refine x_met (by decide) (Nat.le_of_ble_eq_true rfl) ?_
  intro p e s m below meth c ls C hl hW hZ
  have hl : lv_has ls 3 [(0, .ref x0)] := hl
  have hkm : Km h h := Km.rf h
  refine lv_aload_n C.1 C.2.1 dX2_takeOther_0 rfl (lv_at hl 0 rfl) ?_
  obtain ⟨o_1, eo_1, hE⟩ := cl_e hE
  refine x_kI (o := o_1) (z_runV (As := []) (rest := []) C (ct_X2_onceWord l X F k_x0 eo_1) cw_X2_112 hW hZ k_x0 (by decide) rfl rfl rfl hl.1 (Nat.le_of_ble_eq_true rfl) rfl dX2_takeOther_1 ⟨Nat.le_of_ble_eq_true rfl, Nat.le_of_ble_eq_true rfl⟩ ⟨Nat.le_refl _, Nat.le_refl _⟩) hZ (fun _ _ hW km hZ => ?_)
  replace hkm := hkm.tr km
  replace k_x0 := km.at k_x0 (by decide)
  refine lv_istore_n (lv' := [(1, .int o_1.1), (0, .ref x0)]) C.1 C.2.1 dX2_takeOther_4 rfl hl (by decide) rfl (fun ls hl => ?_)
  refine lv_iload_n C.1 C.2.1 dX2_takeOther_5 rfl (lv_at hl 0 rfl) ?_
  refine lv_iconst (v := (2 : Int32)) C.1 C.2.1 dX2_takeOther_6 (by decide) ?_
  refine lv_icmp_ne (tgt := 25) C.1 C.2.1 dX2_takeOther_7 (by decide) (fun c_2 => ?_) (fun c_2 => ?_)
  · have hE := br_n hE c_2
    exact bX2_takeOther_25 C k_x0 hkm hW hZ _ (lv_sub hl [1, 0] rfl) hE
  · have hE := br_p hE c_2
    refine lv_aload_n C.1 C.2.1 dX2_takeOther_10 rfl (lv_at hl 1 rfl) ?_
    obtain ⟨r_3, er_3, hE⟩ := cl_e hE
    refine gf_X2_15 C hW k_x0 er_3 dX2_takeOther_11 (fun k_r_3 => ?_)
    refine gf_X2_115 C hW k_r_3 dX2_takeOther_14 ?_
    refine lv_iconst (v := (-1 : Int32)) C.1 C.2.1 dX2_takeOther_17 (by decide) ?_
    refine lv_icmp_ne (tgt := 25) C.1 C.2.1 dX2_takeOther_18 (by decide) (fun c_4 => ?_) (fun c_4 => ?_)
    · have hE := br_n hE c_4
      exact bX2_takeOther_25 C k_x0 hkm hW hZ _ (lv_sub hl [1, 0] rfl) hE
    · have hE := br_p hE c_4
      refine lv_iconst (v := (1 : Int32)) C.1 C.2.1 dX2_takeOther_21 (by decide) ?_
      refine lv_goto (tgt := 26) C.1 C.2.1 dX2_takeOther_22 (by decide) ?_
      exact bX2_takeOther_26 C k_x0 hkm hW hZ _ (lv_sub hl [1, 0] rfl) hE
set_option maxRecDepth 100000 in
theorem ms_13 : Cond.selects RX2 yX2_takeOther yX2_takeOther ∈ W0 := w0_in (List.mem_append_left _ (List.mem_of_getElem? (i := 13) rfl)) rfl
set_option maxRecDepth 100000 in
theorem ms_11 : Cond.selects RX2 yX2_takeBecomes yX2_takeBecomes ∈ W0 := w0_in (List.mem_append_left _ (List.mem_of_getElem? (i := 11) rfl)) rfl
set_option maxRecDepth 100000 in
theorem ms_6 : Cond.selects RX2 yX2_takeMan yX2_takeMan ∈ W0 := w0_in (List.mem_append_left _ (List.mem_of_getElem? (i := 6) rfl)) rfl
set_option maxRecDepth 100000 in
theorem ms_2 : Cond.selects RX2 yX2_takeBoard yX2_takeBoard ∈ W0 := w0_in (List.mem_append_left _ (List.mem_of_getElem? (i := 2) rfl)) rfl
set_option maxRecDepth 100000 in
theorem m_648 : Cond.methodLink RX2 19 yX1_clear ∈ W0 := w0_in (List.mem_append_right _ (List.mem_of_getElem? (i := 648) rfl)) rfl
set_option maxRecDepth 100000 in
theorem m_649 : Cond.instanceMethod yX1_clear ∈ W0 := w0_in (List.mem_append_right _ (List.mem_of_getElem? (i := 649) rfl)) rfl
set_option maxRecDepth 100000 in
theorem m_650 : Cond.selects RX1 yX1_clear yX1_clear ∈ W0 := w0_in (List.mem_append_right _ (List.mem_of_getElem? (i := 650) rfl)) rfl
set_option maxRecDepth 100000 in
theorem m_651 : Cond.code yX1_clear cX1_clear 1 none ∈ W0 := w0_in (List.mem_append_right _ (List.mem_of_getElem? (i := 651) rfl)) rfl
set_option maxRecDepth 100000 in
theorem m_671 : Cond.methodLink RX2 34 yX2_takeBoard ∈ W0 := w0_in (List.mem_append_right _ (List.mem_of_getElem? (i := 671) rfl)) rfl
set_option maxRecDepth 100000 in
theorem m_673 : Cond.instanceMethod yX2_takeBoard ∈ W0 := w0_in (List.mem_append_right _ (List.mem_of_getElem? (i := 673) rfl)) rfl
set_option maxRecDepth 100000 in
theorem m_674 : Cond.code yX2_takeBoard cX2_takeBoard 2 (some .boolean) ∈ W0 := w0_in (List.mem_append_right _ (List.mem_of_getElem? (i := 674) rfl)) rfl
set_option maxRecDepth 100000 in
theorem m_695 : Cond.methodLink RX2 47 yX2_takeMan ∈ W0 := w0_in (List.mem_append_right _ (List.mem_of_getElem? (i := 695) rfl)) rfl
set_option maxRecDepth 100000 in
theorem m_697 : Cond.instanceMethod yX2_takeMan ∈ W0 := w0_in (List.mem_append_right _ (List.mem_of_getElem? (i := 697) rfl)) rfl
set_option maxRecDepth 100000 in
theorem m_698 : Cond.code yX2_takeMan cX2_takeMan 4 (some .boolean) ∈ W0 := w0_in (List.mem_append_right _ (List.mem_of_getElem? (i := 698) rfl)) rfl
set_option maxRecDepth 100000 in
theorem m_731 : Cond.methodLink RX2 52 yX2_takeBecomes ∈ W0 := w0_in (List.mem_append_right _ (List.mem_of_getElem? (i := 731) rfl)) rfl
set_option maxRecDepth 100000 in
theorem m_733 : Cond.instanceMethod yX2_takeBecomes ∈ W0 := w0_in (List.mem_append_right _ (List.mem_of_getElem? (i := 733) rfl)) rfl
set_option maxRecDepth 100000 in
theorem m_734 : Cond.code yX2_takeBecomes cX2_takeBecomes 5 (some .boolean) ∈ W0 := w0_in (List.mem_append_right _ (List.mem_of_getElem? (i := 734) rfl)) rfl
set_option maxRecDepth 100000 in
theorem m_743 : Cond.methodLink RX2 55 yX2_takeOther ∈ W0 := w0_in (List.mem_append_right _ (List.mem_of_getElem? (i := 743) rfl)) rfl
set_option maxRecDepth 100000 in
theorem m_745 : Cond.instanceMethod yX2_takeOther ∈ W0 := w0_in (List.mem_append_right _ (List.mem_of_getElem? (i := 745) rfl)) rfl
set_option maxRecDepth 100000 in
theorem m_746 : Cond.code yX2_takeOther cX2_takeOther 3 (some .boolean) ∈ W0 := w0_in (List.mem_append_right _ (List.mem_of_getElem? (i := 746) rfl)) rfl
section
variable {p : Program} {l : Launch} {e : Env} {R : Room} {s : State} {m : MethodId} {args : Array Value} {below : List Frame} {meth : Method} {c : Code} {H : Heap} {locs : List Loc} {cells slots : Nat} {Q : State → Prop}
variable {cc : ByteArray} {pc : Nat} {ls : Array Slot} {rest : List Value} {X : Ec} {h h1 : Hp} {nL : Nat} {rt : Option FieldType} {mn : String}
theorem pf_X2_9 {a r : Nat} (C : Cx X p s m args meth c RX2 cc nL rt mn) (hW : Wx X h H) (hZ : va_S (aA (eB X)) s.heap H locs) (ha : hK h a = 2) (hr : hK h r = 9) (eh : h1 = wR h a 0 (some r)) (hdg : decode cc pc = .ok (.putfield 9, 3)) (kk : ∀ (H1 : Heap) (locs1 : List Loc), Wx X h1 H1 → Km h h1 → va_S (aA (eB X)) s.heap H1 locs1 → W p l e R s m args below meth c H1 locs1 cells slots Q (F0 m (pc + 3) ls rest)) : W p l e R s m args below meth c H locs cells slots Q (F0 m pc ls (.ref r :: .ref a :: rest)) :=
  y_putr (ty := .object "GameRules$Text") C hW hZ ha i_X2 tyX2 tyX2_ok nmX2 (by decide) rfl rfl (by decide) m_195 rfl (by decide +kernel) rfl rfl rfl hr rfl (by decide) eh hdg kk
theorem pf_X2_15 {a r : Nat} (C : Cx X p s m args meth c RX2 cc nL rt mn) (hW : Wx X h H) (hZ : va_S (aA (eB X)) s.heap H locs) (ha : hK h a = 2) (hr : hK h r = 1) (eh : h1 = wR h a 1 (some r)) (hdg : decode cc pc = .ok (.putfield 15, 3)) (kk : ∀ (H1 : Heap) (locs1 : List Loc), Wx X h1 H1 → Km h h1 → va_S (aA (eB X)) s.heap H1 locs1 → W p l e R s m args below meth c H1 locs1 cells slots Q (F0 m (pc + 3) ls rest)) : W p l e R s m args below meth c H locs cells slots Q (F0 m pc ls (.ref r :: .ref a :: rest)) :=
  y_putr (ty := .object "GameRules$Law") C hW hZ ha i_X2 tyX2 tyX2_ok nmX2 (by decide) rfl rfl (by decide) m_196 rfl (by decide +kernel) rfl rfl rfl hr rfl (by decide) eh hdg kk
end
theorem cw_X2_55 : cwd RX2 55 yX2_takeOther cX2_takeOther 3 (some .boolean) false 0 := ⟨m_746, m_743, m_5, ⟨m_745, ms_13⟩, by decide, by decide, by decide +kernel⟩
theorem cw_X2_52 : cwd RX2 52 yX2_takeBecomes cX2_takeBecomes 5 (some .boolean) false 0 := ⟨m_734, m_731, m_5, ⟨m_733, ms_11⟩, by decide, by decide, by decide +kernel⟩
theorem cw_X2_47 : cwd RX2 47 yX2_takeMan cX2_takeMan 4 (some .boolean) false 0 := ⟨m_698, m_695, m_5, ⟨m_697, ms_6⟩, by decide, by decide, by decide +kernel⟩
theorem cw_X2_19 : cwd RX2 19 yX1_clear cX1_clear 1 none false 0 := ⟨m_651, m_648, m_4, ⟨m_649, m_650⟩, by decide, by decide, by decide +kernel⟩
theorem cw_X2_34 : cwd RX2 34 yX2_takeBoard cX2_takeBoard 2 (some .boolean) false 0 := ⟨m_674, m_671, m_5, ⟨m_673, ms_2⟩, by decide, by decide, by decide +kernel⟩
theorem dX2_read_0 : decode cX2_read 0 = .ok (.aload_n 0, 1) := by decide +kernel
theorem dX2_read_1 : decode cX2_read 1 = .ok (.aload_n 1, 1) := by decide +kernel
theorem dX2_read_2 : decode cX2_read 2 = .ok (.putfield 9, 3) := by decide +kernel
theorem dX2_read_5 : decode cX2_read 5 = .ok (.aload_n 0, 1) := by decide +kernel
theorem dX2_read_6 : decode cX2_read 6 = .ok (.aload_n 2, 1) := by decide +kernel
theorem dX2_read_7 : decode cX2_read 7 = .ok (.putfield 15, 3) := by decide +kernel
theorem dX2_read_10 : decode cX2_read 10 = .ok (.aload_n 0, 1) := by decide +kernel
theorem dX2_read_11 : decode cX2_read 11 = .ok (.getfield 15, 3) := by decide +kernel
theorem dX2_read_14 : decode cX2_read 14 = .ok (.invokevirtual 19, 3) := by decide +kernel
theorem dX2_read_17 : decode cX2_read 17 = .ok (.aload_n 0, 1) := by decide +kernel
theorem dX2_read_18 : decode cX2_read 18 = .ok (.iconst 0, 1) := by decide +kernel
theorem dX2_read_19 : decode cX2_read 19 = .ok (.putfield 24, 3) := by decide +kernel
theorem dX2_read_22 : decode cX2_read 22 = .ok (.aload_n 0, 1) := by decide +kernel
theorem dX2_read_23 : decode cX2_read 23 = .ok (.iconst 0, 1) := by decide +kernel
theorem dX2_read_24 : decode cX2_read 24 = .ok (.putfield 28, 3) := by decide +kernel
theorem dX2_read_27 : decode cX2_read 27 = .ok (.aload_n 0, 1) := by decide +kernel
theorem dX2_read_28 : decode cX2_read 28 = .ok (.invokevirtual 31, 3) := by decide +kernel
theorem dX2_read_31 : decode cX2_read 31 = .ok (.aload_n 0, 1) := by decide +kernel
theorem dX2_read_32 : decode cX2_read 32 = .ok (.invokevirtual 34, 3) := by decide +kernel
theorem dX2_read_35 : decode cX2_read 35 = .ok (.istore_n 3, 1) := by decide +kernel
theorem dX2_read_36 : decode cX2_read 36 = .ok (.iconst 0, 1) := by decide +kernel
theorem dX2_read_37 : decode cX2_read 37 = .ok (.istore 4, 2) := by decide +kernel
theorem dX2_read_39 : decode cX2_read 39 = .ok (.iload 4, 2) := by decide +kernel
theorem dX2_read_41 : decode cX2_read 41 = .ok (.sipush 1200, 3) := by decide +kernel
theorem dX2_read_44 : decode cX2_read 44 = .ok (.if_icmp .ge 74, 3) := by decide +kernel
theorem dX2_read_47 : decode cX2_read 47 = .ok (.iload_n 3, 1) := by decide +kernel
theorem dX2_read_48 : decode cX2_read 48 = .ok (.ifCond .eq 70, 3) := by decide +kernel
theorem dX2_read_51 : decode cX2_read 51 = .ok (.aload_n 0, 1) := by decide +kernel
theorem dX2_read_52 : decode cX2_read 52 = .ok (.getfield 38, 3) := by decide +kernel
theorem dX2_read_55 : decode cX2_read 55 = .ok (.ifCond .eq 63, 3) := by decide +kernel
theorem dX2_read_58 : decode cX2_read 58 = .ok (.aload_n 0, 1) := by decide +kernel
theorem dX2_read_59 : decode cX2_read 59 = .ok (.ldc 41, 2) := by decide +kernel
theorem dX2_read_61 : decode cX2_read 61 = .ok (.invokevirtual 43, 3) := by decide +kernel
theorem dX2_read_64 : decode cX2_read 64 = .ok (.ifCond .eq 10, 3) := by decide +kernel
theorem dX2_read_67 : decode cX2_read 67 = .ok (.aload_n 0, 1) := by decide +kernel
theorem dX2_read_68 : decode cX2_read 68 = .ok (.invokevirtual 47, 3) := by decide +kernel
theorem dX2_read_71 : decode cX2_read 71 = .ok (.goto 23, 3) := by decide +kernel
theorem dX2_read_74 : decode cX2_read 74 = .ok (.aload_n 0, 1) := by decide +kernel
theorem dX2_read_75 : decode cX2_read 75 = .ok (.ldc 50, 2) := by decide +kernel
theorem dX2_read_77 : decode cX2_read 77 = .ok (.invokevirtual 43, 3) := by decide +kernel
theorem dX2_read_80 : decode cX2_read 80 = .ok (.ifCond .eq 10, 3) := by decide +kernel
theorem dX2_read_83 : decode cX2_read 83 = .ok (.aload_n 0, 1) := by decide +kernel
theorem dX2_read_84 : decode cX2_read 84 = .ok (.invokevirtual 52, 3) := by decide +kernel
theorem dX2_read_87 : decode cX2_read 87 = .ok (.goto 7, 3) := by decide +kernel
theorem dX2_read_90 : decode cX2_read 90 = .ok (.aload_n 0, 1) := by decide +kernel
theorem dX2_read_91 : decode cX2_read 91 = .ok (.invokevirtual 55, 3) := by decide +kernel
theorem dX2_read_94 : decode cX2_read 94 = .ok (.istore_n 3, 1) := by decide +kernel
theorem dX2_read_95 : decode cX2_read 95 = .ok (.iload_n 3, 1) := by decide +kernel
theorem dX2_read_96 : decode cX2_read 96 = .ok (.ifCond .eq 14, 3) := by decide +kernel
theorem dX2_read_99 : decode cX2_read 99 = .ok (.aload_n 0, 1) := by decide +kernel
theorem dX2_read_100 : decode cX2_read 100 = .ok (.invokevirtual 58, 3) := by decide +kernel
theorem dX2_read_103 : decode cX2_read 103 = .ok (.ifCond .eq 7, 3) := by decide +kernel
theorem dX2_read_106 : decode cX2_read 106 = .ok (.iconst 1, 1) := by decide +kernel
theorem dX2_read_107 : decode cX2_read 107 = .ok (.goto 4, 3) := by decide +kernel
theorem dX2_read_110 : decode cX2_read 110 = .ok (.iconst 0, 1) := by decide +kernel
theorem dX2_read_111 : decode cX2_read 111 = .ok (.istore_n 3, 1) := by decide +kernel
theorem dX2_read_112 : decode cX2_read 112 = .ok (.iinc 4 1, 3) := by decide +kernel
theorem dX2_read_115 : decode cX2_read 115 = .ok (.goto (-76), 3) := by decide +kernel
theorem dX2_read_118 : decode cX2_read 118 = .ok (.iload_n 3, 1) := by decide +kernel
theorem dX2_read_119 : decode cX2_read 119 = .ok (.ifCond .eq 14, 3) := by decide +kernel
theorem dX2_read_122 : decode cX2_read 122 = .ok (.aload_n 0, 1) := by decide +kernel
theorem dX2_read_123 : decode cX2_read 123 = .ok (.getfield 38, 3) := by decide +kernel
theorem dX2_read_126 : decode cX2_read 126 = .ok (.ifCond .ne 7, 3) := by decide +kernel
theorem dX2_read_129 : decode cX2_read 129 = .ok (.iconst 1, 1) := by decide +kernel
theorem dX2_read_130 : decode cX2_read 130 = .ok (.goto 4, 3) := by decide +kernel
theorem dX2_read_133 : decode cX2_read 133 = .ok (.iconst 0, 1) := by decide +kernel
theorem dX2_read_134 : decode cX2_read 134 = .ok (.ireturn, 1) := by decide +kernel
def sX2_read_134 (F : Nat) (h : Hp) (t0 : Int32) : Option (Int32 × Hp) := gd (t0 &&& 1 = t0) <| some (t0, h)
def sX2_read_133 (F : Nat) (h : Hp) : Option (Int32 × Hp) := sX2_read_134 F h (0 : Int32)
def sX2_read_118 (F : Nat) (h : Hp) (x0 : Nat) (x3 : Int32) : Option (Int32 × Hp) := br (x3 = 0) (sX2_read_133 F h ) (br ((hI h x0 4) = 0) (sX2_read_134 F h (1 : Int32)) (sX2_read_133 F h ))
def sX2_read_111 (F : Nat) (k_39 : Hp → Nat → Int32 → Int32 → Option (Int32 × Hp)) (h : Hp) (x0 : Nat) (x4 : Int32) (t0 : Int32) : Option (Int32 × Hp) := nm (x4 + (1 : Int32)) fun v_1 => k_39 h x0 t0 v_1
def sX2_read_110 (F : Nat) (k_39 : Hp → Nat → Int32 → Int32 → Option (Int32 × Hp)) (h : Hp) (x0 : Nat) (x4 : Int32) : Option (Int32 × Hp) := sX2_read_111 F k_39 h x0 x4 (0 : Int32)
def sX2_read_94 (F : Nat) (k_39 : Hp → Nat → Int32 → Int32 → Option (Int32 × Hp)) (h : Hp) (x0 : Nat) (x4 : Int32) (t0 : Int32) : Option (Int32 × Hp) := br (t0 = 0) (sX2_read_110 F k_39 h x0 x4) (cl (sX2_takeEnd F h x0) fun o_2 => br (o_2.1 = 0) (sX2_read_110 F k_39 o_2.2 x0 x4) (sX2_read_111 F k_39 o_2.2 x0 x4 (1 : Int32)))
def sX2_read_39 (F : Nat) : Nat → Hp → Nat → Int32 → Int32 → Option (Int32 × Hp)
  | 0, _, _, _, _ => none
  | f + 1, h, x0, x3, x4 => br ((1200 : Int32) ≤ x4) (sX2_read_118 F h x0 x3) (br (x3 = 0) (sX2_read_118 F h x0 x3) (br ((hI h x0 4) = 0) (sX2_read_118 F h x0 x3) (cl (sX2_isWord F h x0 4) fun o_4 => br (o_4.1 = 0) (cl (sX2_isWord F o_4.2 x0 13) fun o_6 => br (o_6.1 = 0) (cl (sX2_takeOther F o_6.2 x0) fun o_8 => sX2_read_94 F (sX2_read_39 F f) o_8.2 x0 x4 o_8.1) (cl (sX2_takeBecomes F o_6.2 x0) fun o_9 => sX2_read_94 F (sX2_read_39 F f) o_9.2 x0 x4 o_9.1)) (cl (sX2_takeMan F o_4.2 x0) fun o_10 => sX2_read_94 F (sX2_read_39 F f) o_10.2 x0 x4 o_10.1))))
def sX2_read (F : Nat) (h : Hp) (x0 : Nat) (x1 : Nat) (x2 : Nat) : Option (Int32 × Hp) := nm (wR h x0 0 (some x1)) fun h_1 => nm (wR h_1 x0 1 (some x2)) fun h_2 => cl (hR h_2 x0 1) fun r_3 => cl (sX1_clear F h_2 r_3) fun o_4 => nm (wI o_4 x0 3 (0 : Int32)) fun h_5 => nm (wI h_5 x0 6 (0 : Int32)) fun h_6 => cl (sX2_advance F h_6 x0) fun o_7 => cl (sX2_takeBoard F o_7 x0) fun o_8 => sX2_read_39 F F o_8.2 x0 o_8.1 (0 : Int32)
set_option maxRecDepth 20000 in
theorem moX2_read_134 {o : Int32 × Hp} {F : Nat} {h : Hp} {t0 : Int32} (hE : sX2_read_134 F h  t0 = some o) : Le h o.2 := by
  obtain ⟨g_1, hE⟩ := gd_e hE
  exact le_some2 hE
set_option maxRecDepth 20000 in
theorem moX2_read_133 {o : Int32 × Hp} {F : Nat} {h : Hp} (hE : sX2_read_133 F h  = some o) : Le h o.2 := by
  exact moX2_read_134 hE
set_option maxRecDepth 20000 in
theorem moX2_read_118 {o : Int32 × Hp} {F : Nat} {h : Hp} {x0 : Nat} {x3 : Int32} (hE : sX2_read_118 F h x0 x3 = some o) : Le h o.2 := by
  rcases br_e hE with ⟨_, hE⟩ | ⟨_, hE⟩
  · exact moX2_read_133 hE
  · rcases br_e hE with ⟨_, hE⟩ | ⟨_, hE⟩
    · exact moX2_read_134 hE
    · exact moX2_read_133 hE
set_option maxRecDepth 20000 in
theorem moX2_read_111 {o : Int32 × Hp} {k_39 : Hp → Nat → Int32 → Int32 → Option (Int32 × Hp)} {F : Nat} (mk_39 : ∀ (h : Hp) (x0 : Nat) (x3 : Int32) (x4 : Int32), k_39 h x0 x3 x4 = some o → Le h o.2) {h : Hp} {x0 : Nat} {x4 : Int32} {t0 : Int32} (hE : sX2_read_111 F k_39 h x0 x4 t0 = some o) : Le h o.2 := by
  obtain ⟨v_1, ev_1, hE⟩ := nm_e2 hE
  exact mk_39 _ _ _ _ hE
set_option maxRecDepth 20000 in
theorem moX2_read_110 {o : Int32 × Hp} {k_39 : Hp → Nat → Int32 → Int32 → Option (Int32 × Hp)} {F : Nat} (mk_39 : ∀ (h : Hp) (x0 : Nat) (x3 : Int32) (x4 : Int32), k_39 h x0 x3 x4 = some o → Le h o.2) {h : Hp} {x0 : Nat} {x4 : Int32} (hE : sX2_read_110 F k_39 h x0 x4 = some o) : Le h o.2 := by
  exact moX2_read_111 mk_39 hE
set_option maxRecDepth 20000 in
theorem moX2_read_94 {o : Int32 × Hp} {k_39 : Hp → Nat → Int32 → Int32 → Option (Int32 × Hp)} {F : Nat} (mk_39 : ∀ (h : Hp) (x0 : Nat) (x3 : Int32) (x4 : Int32), k_39 h x0 x3 x4 = some o → Le h o.2) {h : Hp} {x0 : Nat} {x4 : Int32} {t0 : Int32} (hE : sX2_read_94 F k_39 h x0 x4 t0 = some o) : Le h o.2 := by
  rcases br_e hE with ⟨_, hE⟩ | ⟨_, hE⟩
  · exact moX2_read_110 mk_39 hE
  · obtain ⟨o_2, eo_2, hE⟩ := cl_e hE
    refine (moX2_takeEnd eo_2).tr ?_
    rcases br_e hE with ⟨_, hE⟩ | ⟨_, hE⟩
    · exact moX2_read_110 mk_39 hE
    · exact moX2_read_111 mk_39 hE
set_option maxRecDepth 20000 in
theorem moX2_read_39 {o : Int32 × Hp} {F : Nat} : ∀ (f : Nat) {h : Hp} {x0 : Nat} {x3 : Int32} {x4 : Int32}, sX2_read_39 F f h x0 x3 x4 = some o → Le h o.2 := by
  intro f
  induction f with
  | zero =>
    intro h x0 x3 x4 hE
    rw [sX2_read_39] at hE
    cases hE
  | succ f ih =>
    intro h x0 x3 x4 hE
    rw [sX2_read_39] at hE
    have mk_39 : ∀ (h : Hp) (x0 : Nat) (x3 : Int32) (x4 : Int32), sX2_read_39 F f h x0 x3 x4 = some o → Le h o.2 := fun h x0 x3 x4 hE => ih hE
    rcases br_e hE with ⟨_, hE⟩ | ⟨_, hE⟩
    · exact moX2_read_118 hE
    · rcases br_e hE with ⟨_, hE⟩ | ⟨_, hE⟩
      · exact moX2_read_118 hE
      · rcases br_e hE with ⟨_, hE⟩ | ⟨_, hE⟩
        · exact moX2_read_118 hE
        · obtain ⟨o_4, eo_4, hE⟩ := cl_e hE
          refine (moX2_isWord eo_4).tr ?_
          rcases br_e hE with ⟨_, hE⟩ | ⟨_, hE⟩
          · obtain ⟨o_6, eo_6, hE⟩ := cl_e hE
            refine (moX2_isWord eo_6).tr ?_
            rcases br_e hE with ⟨_, hE⟩ | ⟨_, hE⟩
            · obtain ⟨o_8, eo_8, hE⟩ := cl_e hE
              refine (moX2_takeOther eo_8).tr ?_
              exact moX2_read_94 mk_39 hE
            · obtain ⟨o_9, eo_9, hE⟩ := cl_e hE
              refine (moX2_takeBecomes eo_9).tr ?_
              exact moX2_read_94 mk_39 hE
          · obtain ⟨o_10, eo_10, hE⟩ := cl_e hE
            refine (moX2_takeMan eo_10).tr ?_
            exact moX2_read_94 mk_39 hE
set_option maxRecDepth 20000 in
theorem moX2_read {o : Int32 × Hp} {F : Nat} {h : Hp} {x0 : Nat} {x1 : Nat} {x2 : Nat} (hE : sX2_read F h x0 x1 x2 = some o) : Le h o.2 := by
  obtain ⟨h_1, eh_1, hE⟩ := nm_e2 hE
  refine (le_R eh_1).tr ?_
  obtain ⟨h_2, eh_2, hE⟩ := nm_e2 hE
  refine (le_R eh_2).tr ?_
  obtain ⟨r_3, er_3, hE⟩ := cl_e hE
  obtain ⟨o_4, eo_4, hE⟩ := cl_e hE
  refine (moX1_clear eo_4).tr ?_
  obtain ⟨h_5, eh_5, hE⟩ := nm_e2 hE
  refine (le_I eh_5).tr ?_
  obtain ⟨h_6, eh_6, hE⟩ := nm_e2 hE
  refine (le_I eh_6).tr ?_
  obtain ⟨o_7, eo_7, hE⟩ := cl_e hE
  refine (moX2_advance eo_7).tr ?_
  obtain ⟨o_8, eo_8, hE⟩ := cl_e hE
  refine (moX2_takeBoard eo_8).tr ?_
  exact moX2_read_39 _ hE
set_option maxRecDepth 20000 in
theorem bX2_read_134 {p : Program} {l : Launch} {e : Env} {s : State} {m : MethodId} {args : Array Value} {below : List Frame} {meth : Method} {c : Code} {X : Ec} {h0 : Hp} {o : Int32 × Hp} {F : Nat} (C : Cx X p s m args meth c RX2 cX2_read 5 (some .boolean) "read") {h : Hp} {t0 : Int32} {H : Heap} {locs : List Loc} (hkm : Km h0 h) (hW : Wx X h H) (hZ : va_S (aA (eB X)) s.heap H locs) (ls : Array Slot) (hl : lv_has ls 5 []) (hE : sX2_read_134 F h  t0 = some o) : W p l e (rm 8 181) s m args below meth c H locs 0 0 (MQ below (QI X h0 o.1 o.2) args s 0 0 (aA (eB X))) (F0 m 134 ls [.int t0]) := by
  obtain ⟨g_1, hE⟩ := gd_e hE
  exact x_iret C rfl (narB g_1) hW hZ hkm hE dX2_read_134
set_option maxRecDepth 20000 in
theorem bX2_read_133 {p : Program} {l : Launch} {e : Env} {s : State} {m : MethodId} {args : Array Value} {below : List Frame} {meth : Method} {c : Code} {X : Ec} {h0 : Hp} {o : Int32 × Hp} {F : Nat} (C : Cx X p s m args meth c RX2 cX2_read 5 (some .boolean) "read") {h : Hp} {H : Heap} {locs : List Loc} (hkm : Km h0 h) (hW : Wx X h H) (hZ : va_S (aA (eB X)) s.heap H locs) (ls : Array Slot) (hl : lv_has ls 5 []) (hE : sX2_read_133 F h  = some o) : W p l e (rm 8 181) s m args below meth c H locs 0 0 (MQ below (QI X h0 o.1 o.2) args s 0 0 (aA (eB X))) (F0 m 133 ls []) := by
  refine lv_iconst (v := (0 : Int32)) C.1 C.2.1 dX2_read_133 (by decide) ?_
  exact bX2_read_134 C hkm hW hZ _ (lv_sub hl [] rfl) hE
set_option maxRecDepth 20000 in
theorem bX2_read_118 {p : Program} {l : Launch} {e : Env} {s : State} {m : MethodId} {args : Array Value} {below : List Frame} {meth : Method} {c : Code} {X : Ec} {h0 : Hp} {o : Int32 × Hp} {F : Nat} (C : Cx X p s m args meth c RX2 cX2_read 5 (some .boolean) "read") {h : Hp} {x0 : Nat} {x3 : Int32} {H : Heap} {locs : List Loc} (k_x0 : hK h x0 = 2) (hkm : Km h0 h) (hW : Wx X h H) (hZ : va_S (aA (eB X)) s.heap H locs) (ls : Array Slot) (hl : lv_has ls 5 [(0, .ref x0), (3, .int x3)]) (hE : sX2_read_118 F h x0 x3 = some o) : W p l e (rm 8 181) s m args below meth c H locs 0 0 (MQ below (QI X h0 o.1 o.2) args s 0 0 (aA (eB X))) (F0 m 118 ls []) := by
  refine lv_iload_n C.1 C.2.1 dX2_read_118 rfl (lv_at hl 1 rfl) ?_
  refine lv_if_eq (tgt := 133) C.1 C.2.1 dX2_read_119 (by decide) (fun c_1 => ?_) (fun c_1 => ?_)
  · have hE := br_p hE c_1
    exact bX2_read_133 C hkm hW hZ _ (lv_sub hl [] rfl) hE
  · have hE := br_n hE c_1
    refine lv_aload_n C.1 C.2.1 dX2_read_122 rfl (lv_at hl 0 rfl) ?_
    refine gf_X2_38 C hW k_x0 dX2_read_123 ?_
    refine lv_if_ne (tgt := 133) C.1 C.2.1 dX2_read_126 (by decide) (fun c_2 => ?_) (fun c_2 => ?_)
    · have hE := br_n hE c_2
      exact bX2_read_133 C hkm hW hZ _ (lv_sub hl [] rfl) hE
    · have hE := br_p hE c_2
      refine lv_iconst (v := (1 : Int32)) C.1 C.2.1 dX2_read_129 (by decide) ?_
      refine lv_goto (tgt := 134) C.1 C.2.1 dX2_read_130 (by decide) ?_
      exact bX2_read_134 C hkm hW hZ _ (lv_sub hl [] rfl) hE
set_option maxRecDepth 20000 in
theorem bX2_read_111 {p : Program} {l : Launch} {e : Env} {s : State} {m : MethodId} {args : Array Value} {below : List Frame} {meth : Method} {c : Code} {X : Ec} {h0 : Hp} {o : Int32 × Hp} {k_39 : Hp → Nat → Int32 → Int32 → Option (Int32 × Hp)} {F : Nat} (C : Cx X p s m args meth c RX2 cX2_read 5 (some .boolean) "read") (hk_39 : ∀ (h : Hp) (x0 : Nat) (x3 : Int32) (x4 : Int32) (H : Heap) (locs : List Loc), hK h x0 = 2 → Km h0 h → Wx X h H → va_S (aA (eB X)) s.heap H locs → ∀ (ls : Array Slot), lv_has ls 5 [(0, .ref x0), (3, .int x3), (4, .int x4)] → k_39 h x0 x3 x4 = some o → W p l e (rm 8 181) s m args below meth c H locs 0 0 (MQ below (QI X h0 o.1 o.2) args s 0 0 (aA (eB X))) (F0 m 39 ls [])) {h : Hp} {x0 : Nat} {x4 : Int32} {t0 : Int32} {H : Heap} {locs : List Loc} (k_x0 : hK h x0 = 2) (hkm : Km h0 h) (hW : Wx X h H) (hZ : va_S (aA (eB X)) s.heap H locs) (ls : Array Slot) (hl : lv_has ls 5 [(0, .ref x0), (4, .int x4)]) (hE : sX2_read_111 F k_39 h x0 x4 t0 = some o) : W p l e (rm 8 181) s m args below meth c H locs 0 0 (MQ below (QI X h0 o.1 o.2) args s 0 0 (aA (eB X))) (F0 m 111 ls [.int t0]) := by
  refine lv_istore_n (lv' := [(3, .int t0), (0, .ref x0), (4, .int x4)]) C.1 C.2.1 dX2_read_111 rfl hl (by decide) rfl (fun ls hl => ?_)
  obtain ⟨v_1, ev_1, hE⟩ := nm_e2 hE
  refine lv_iinc (v := v_1) (lv' := [(4, .int v_1), (3, .int t0), (0, .ref x0)]) C.1 C.2.1 dX2_read_112 hl (k := 2) rfl (by rw [ev_1]; rfl) (by decide) rfl (fun ls hl => ?_)
  refine lv_goto (tgt := 39) C.1 C.2.1 dX2_read_115 (by decide) ?_
  exact hk_39 _ _ _ _ _ _ k_x0 hkm hW hZ _ (lv_sub hl [2, 1, 0] rfl) hE
set_option maxRecDepth 20000 in
theorem bX2_read_110 {p : Program} {l : Launch} {e : Env} {s : State} {m : MethodId} {args : Array Value} {below : List Frame} {meth : Method} {c : Code} {X : Ec} {h0 : Hp} {o : Int32 × Hp} {k_39 : Hp → Nat → Int32 → Int32 → Option (Int32 × Hp)} {F : Nat} (C : Cx X p s m args meth c RX2 cX2_read 5 (some .boolean) "read") (hk_39 : ∀ (h : Hp) (x0 : Nat) (x3 : Int32) (x4 : Int32) (H : Heap) (locs : List Loc), hK h x0 = 2 → Km h0 h → Wx X h H → va_S (aA (eB X)) s.heap H locs → ∀ (ls : Array Slot), lv_has ls 5 [(0, .ref x0), (3, .int x3), (4, .int x4)] → k_39 h x0 x3 x4 = some o → W p l e (rm 8 181) s m args below meth c H locs 0 0 (MQ below (QI X h0 o.1 o.2) args s 0 0 (aA (eB X))) (F0 m 39 ls [])) {h : Hp} {x0 : Nat} {x4 : Int32} {H : Heap} {locs : List Loc} (k_x0 : hK h x0 = 2) (hkm : Km h0 h) (hW : Wx X h H) (hZ : va_S (aA (eB X)) s.heap H locs) (ls : Array Slot) (hl : lv_has ls 5 [(0, .ref x0), (4, .int x4)]) (hE : sX2_read_110 F k_39 h x0 x4 = some o) : W p l e (rm 8 181) s m args below meth c H locs 0 0 (MQ below (QI X h0 o.1 o.2) args s 0 0 (aA (eB X))) (F0 m 110 ls []) := by
  refine lv_iconst (v := (0 : Int32)) C.1 C.2.1 dX2_read_110 (by decide) ?_
  exact bX2_read_111 C hk_39 k_x0 hkm hW hZ _ (lv_sub hl [0, 1] rfl) hE
set_option maxRecDepth 20000 in
theorem bX2_read_94 {p : Program} {l : Launch} {e : Env} {s : State} {m : MethodId} {args : Array Value} {below : List Frame} {meth : Method} {c : Code} {X : Ec} {h0 : Hp} {o : Int32 × Hp} {k_39 : Hp → Nat → Int32 → Int32 → Option (Int32 × Hp)} {F : Nat} (C : Cx X p s m args meth c RX2 cX2_read 5 (some .boolean) "read") (hk_39 : ∀ (h : Hp) (x0 : Nat) (x3 : Int32) (x4 : Int32) (H : Heap) (locs : List Loc), hK h x0 = 2 → Km h0 h → Wx X h H → va_S (aA (eB X)) s.heap H locs → ∀ (ls : Array Slot), lv_has ls 5 [(0, .ref x0), (3, .int x3), (4, .int x4)] → k_39 h x0 x3 x4 = some o → W p l e (rm 8 181) s m args below meth c H locs 0 0 (MQ below (QI X h0 o.1 o.2) args s 0 0 (aA (eB X))) (F0 m 39 ls [])) {h : Hp} {x0 : Nat} {x4 : Int32} {t0 : Int32} {H : Heap} {locs : List Loc} (k_x0 : hK h x0 = 2) (hkm : Km h0 h) (hW : Wx X h H) (hZ : va_S (aA (eB X)) s.heap H locs) (ls : Array Slot) (hl : lv_has ls 5 [(0, .ref x0), (4, .int x4)]) (hE : sX2_read_94 F k_39 h x0 x4 t0 = some o) : W p l e (rm 8 181) s m args below meth c H locs 0 0 (MQ below (QI X h0 o.1 o.2) args s 0 0 (aA (eB X))) (F0 m 94 ls [.int t0]) := by
  refine lv_istore_n (lv' := [(3, .int t0), (0, .ref x0), (4, .int x4)]) C.1 C.2.1 dX2_read_94 rfl hl (by decide) rfl (fun ls hl => ?_)
  refine lv_iload_n C.1 C.2.1 dX2_read_95 rfl (lv_at hl 0 rfl) ?_
  refine lv_if_eq (tgt := 110) C.1 C.2.1 dX2_read_96 (by decide) (fun c_1 => ?_) (fun c_1 => ?_)
  · have hE := br_p hE c_1
    exact bX2_read_110 C hk_39 k_x0 hkm hW hZ _ (lv_sub hl [1, 2] rfl) hE
  · have hE := br_n hE c_1
    refine lv_aload_n C.1 C.2.1 dX2_read_99 rfl (lv_at hl 1 rfl) ?_
    obtain ⟨o_2, eo_2, hE⟩ := cl_e hE
    refine x_kI (o := o_2) (z_runV (As := []) (rest := []) C (ct_X2_takeEnd l X F k_x0 eo_2) cw_X2_58 hW hZ k_x0 (by decide) rfl rfl rfl hl.1 (Nat.le_of_ble_eq_true rfl) rfl dX2_read_100 ⟨Nat.le_of_ble_eq_true rfl, Nat.le_of_ble_eq_true rfl⟩ ⟨Nat.le_refl _, Nat.le_refl _⟩) hZ (fun _ _ hW km hZ => ?_)
    replace hkm := hkm.tr km
    replace k_x0 := km.at k_x0 (by decide)
    refine lv_if_eq (tgt := 110) C.1 C.2.1 dX2_read_103 (by decide) (fun c_3 => ?_) (fun c_3 => ?_)
    · have hE := br_p hE c_3
      exact bX2_read_110 C hk_39 k_x0 hkm hW hZ _ (lv_sub hl [1, 2] rfl) hE
    · have hE := br_n hE c_3
      refine lv_iconst (v := (1 : Int32)) C.1 C.2.1 dX2_read_106 (by decide) ?_
      refine lv_goto (tgt := 111) C.1 C.2.1 dX2_read_107 (by decide) ?_
      exact bX2_read_111 C hk_39 k_x0 hkm hW hZ _ (lv_sub hl [1, 2] rfl) hE
set_option maxRecDepth 20000 in
theorem bX2_read_39 {p : Program} {l : Launch} {e : Env} {s : State} {m : MethodId} {args : Array Value} {below : List Frame} {meth : Method} {c : Code} {X : Ec} {h0 : Hp} {o : Int32 × Hp} {F : Nat} (C : Cx X p s m args meth c RX2 cX2_read 5 (some .boolean) "read") : ∀ (f : Nat) {h : Hp} {x0 : Nat} {x3 : Int32} {x4 : Int32} {H : Heap} {locs : List Loc} (k_x0 : hK h x0 = 2), Km h0 h → Wx X h H → va_S (aA (eB X)) s.heap H locs → ∀ (ls : Array Slot), lv_has ls 5 [(0, .ref x0), (3, .int x3), (4, .int x4)] → sX2_read_39 F f h x0 x3 x4 = some o → W p l e (rm 8 181) s m args below meth c H locs 0 0 (MQ below (QI X h0 o.1 o.2) args s 0 0 (aA (eB X))) (F0 m 39 ls []) := by
  intro f
  induction f with
  | zero =>
    intro h x0 x3 x4 H locs k_x0 hkm hW hZ ls hl hE
    rw [sX2_read_39] at hE
    cases hE
  | succ f ih =>
    intro h x0 x3 x4 H locs k_x0 hkm hW hZ ls hl hE
    rw [sX2_read_39] at hE
    have hk_39 : ∀ (h : Hp) (x0 : Nat) (x3 : Int32) (x4 : Int32) (H : Heap) (locs : List Loc), hK h x0 = 2 → Km h0 h → Wx X h H → va_S (aA (eB X)) s.heap H locs → ∀ (ls : Array Slot), lv_has ls 5 [(0, .ref x0), (3, .int x3), (4, .int x4)] → sX2_read_39 F f h x0 x3 x4 = some o → W p l e (rm 8 181) s m args below meth c H locs 0 0 (MQ below (QI X h0 o.1 o.2) args s 0 0 (aA (eB X))) (F0 m 39 ls []) := fun h x0 x3 x4 H locs k_x0 a b c ls hl hE => ih k_x0 a b c ls hl hE
    refine lv_iload C.1 C.2.1 dX2_read_39 (lv_at hl 2 rfl) ?_
    refine lv_sipush (v := (1200 : Int32)) C.1 C.2.1 dX2_read_41 (by decide) ?_
    refine lv_icmp_ge (tgt := 118) C.1 C.2.1 dX2_read_44 (by decide) (fun c_1 => ?_) (fun c_1 => ?_)
    · have hE := br_p hE c_1
      exact bX2_read_118 C k_x0 hkm hW hZ _ (lv_sub hl [0, 1] rfl) hE
    · have hE := br_n hE c_1
      refine lv_iload_n C.1 C.2.1 dX2_read_47 rfl (lv_at hl 1 rfl) ?_
      refine lv_if_eq (tgt := 118) C.1 C.2.1 dX2_read_48 (by decide) (fun c_2 => ?_) (fun c_2 => ?_)
      · have hE := br_p hE c_2
        exact bX2_read_118 C k_x0 hkm hW hZ _ (lv_sub hl [0, 1] rfl) hE
      · have hE := br_n hE c_2
        refine lv_aload_n C.1 C.2.1 dX2_read_51 rfl (lv_at hl 0 rfl) ?_
        refine gf_X2_38 C hW k_x0 dX2_read_52 ?_
        refine lv_if_eq (tgt := 118) C.1 C.2.1 dX2_read_55 (by decide) (fun c_3 => ?_) (fun c_3 => ?_)
        · have hE := br_p hE c_3
          exact bX2_read_118 C k_x0 hkm hW hZ _ (lv_sub hl [0, 1] rfl) hE
        · have hE := br_n hE c_3
          refine lv_aload_n C.1 C.2.1 dX2_read_58 rfl (lv_at hl 0 rfl) ?_
          refine va_ldcS C.1 C.2.1 C.2.2.2.1 (C.2.2.2.2.2.2.2.2.1 4 (by decide)).2 dX2_read_59 ?_
          obtain ⟨o_4, eo_4, hE⟩ := cl_e hE
          refine x_kI (o := o_4) (z_runV (As := [.ref (X.2.2.2.1 4)]) (rest := []) C (ct_X2_isWord l X F k_x0 (by decide) eo_4) cw_X2_43 hW hZ k_x0 (by decide) rfl rfl rfl hl.1 (Nat.le_of_ble_eq_true rfl) rfl dX2_read_61 ⟨Nat.le_of_ble_eq_true rfl, Nat.le_of_ble_eq_true rfl⟩ ⟨Nat.le_refl _, Nat.le_refl _⟩) hZ (fun _ _ hW km hZ => ?_)
          replace hkm := hkm.tr km
          replace k_x0 := km.at k_x0 (by decide)
          refine lv_if_eq (tgt := 74) C.1 C.2.1 dX2_read_64 (by decide) (fun c_5 => ?_) (fun c_5 => ?_)
          · have hE := br_p hE c_5
            refine lv_aload_n C.1 C.2.1 dX2_read_74 rfl (lv_at hl 0 rfl) ?_
            refine va_ldcS C.1 C.2.1 C.2.2.2.1 (C.2.2.2.2.2.2.2.2.1 13 (by decide)).2 dX2_read_75 ?_
            obtain ⟨o_6, eo_6, hE⟩ := cl_e hE
            refine x_kI (o := o_6) (z_runV (As := [.ref (X.2.2.2.1 13)]) (rest := []) C (ct_X2_isWord l X F k_x0 (by decide) eo_6) cw_X2_43 hW hZ k_x0 (by decide) rfl rfl rfl hl.1 (Nat.le_of_ble_eq_true rfl) rfl dX2_read_77 ⟨Nat.le_of_ble_eq_true rfl, Nat.le_of_ble_eq_true rfl⟩ ⟨Nat.le_refl _, Nat.le_refl _⟩) hZ (fun _ _ hW km hZ => ?_)
            replace hkm := hkm.tr km
            replace k_x0 := km.at k_x0 (by decide)
            refine lv_if_eq (tgt := 90) C.1 C.2.1 dX2_read_80 (by decide) (fun c_7 => ?_) (fun c_7 => ?_)
            · have hE := br_p hE c_7
              refine lv_aload_n C.1 C.2.1 dX2_read_90 rfl (lv_at hl 0 rfl) ?_
              obtain ⟨o_8, eo_8, hE⟩ := cl_e hE
              refine x_kI (o := o_8) (z_runV (As := []) (rest := []) C (ct_X2_takeOther l X F k_x0 eo_8) cw_X2_55 hW hZ k_x0 (by decide) rfl rfl rfl hl.1 (Nat.le_of_ble_eq_true rfl) rfl dX2_read_91 ⟨Nat.le_of_ble_eq_true rfl, Nat.le_of_ble_eq_true rfl⟩ ⟨Nat.le_refl _, Nat.le_refl _⟩) hZ (fun _ _ hW km hZ => ?_)
              replace hkm := hkm.tr km
              replace k_x0 := km.at k_x0 (by decide)
              exact bX2_read_94 C hk_39 k_x0 hkm hW hZ _ (lv_sub hl [0, 2] rfl) hE
            · have hE := br_n hE c_7
              refine lv_aload_n C.1 C.2.1 dX2_read_83 rfl (lv_at hl 0 rfl) ?_
              obtain ⟨o_9, eo_9, hE⟩ := cl_e hE
              refine x_kI (o := o_9) (z_runV (As := []) (rest := []) C (ct_X2_takeBecomes l X F k_x0 eo_9) cw_X2_52 hW hZ k_x0 (by decide) rfl rfl rfl hl.1 (Nat.le_of_ble_eq_true rfl) rfl dX2_read_84 ⟨Nat.le_of_ble_eq_true rfl, Nat.le_of_ble_eq_true rfl⟩ ⟨Nat.le_refl _, Nat.le_refl _⟩) hZ (fun _ _ hW km hZ => ?_)
              replace hkm := hkm.tr km
              replace k_x0 := km.at k_x0 (by decide)
              refine lv_goto (tgt := 94) C.1 C.2.1 dX2_read_87 (by decide) ?_
              exact bX2_read_94 C hk_39 k_x0 hkm hW hZ _ (lv_sub hl [0, 2] rfl) hE
          · have hE := br_n hE c_5
            refine lv_aload_n C.1 C.2.1 dX2_read_67 rfl (lv_at hl 0 rfl) ?_
            obtain ⟨o_10, eo_10, hE⟩ := cl_e hE
            refine x_kI (o := o_10) (z_runV (As := []) (rest := []) C (ct_X2_takeMan l X F k_x0 eo_10) cw_X2_47 hW hZ k_x0 (by decide) rfl rfl rfl hl.1 (Nat.le_of_ble_eq_true rfl) rfl dX2_read_68 ⟨Nat.le_of_ble_eq_true rfl, Nat.le_of_ble_eq_true rfl⟩ ⟨Nat.le_refl _, Nat.le_refl _⟩) hZ (fun _ _ hW km hZ => ?_)
            replace hkm := hkm.tr km
            replace k_x0 := km.at k_x0 (by decide)
            refine lv_goto (tgt := 94) C.1 C.2.1 dX2_read_71 (by decide) ?_
            exact bX2_read_94 C hk_39 k_x0 hkm hW hZ _ (lv_sub hl [0, 2] rfl) hE
set_option maxRecDepth 20000 in
theorem ct_X2_read (l : Launch) (X : Ec) (F : Nat) {h : Hp} {x0 : Nat} {x1 : Nat} {x2 : Nat} {o : Int32 × Hp} (k_x0 : hK h x0 = 2) (k_x1 : hK h x1 = 9) (k_x2 : hK h x2 = 1) (hE : sX2_read F h x0 x1 x2 = some o) : MetI l yX2_read cX2_read 5 (some .boolean) 8 181 X [.ref x0, .ref x1, .ref x2] h o := by
  refine x_met (by decide) (Nat.le_of_ble_eq_true rfl) ?_
  intro p e s m below meth c ls C hl hW hZ
  have hl : lv_has ls 5 [(0, .ref x0), (1, .ref x1), (2, .ref x2)] := hl
  have hkm : Km h h := Km.rf h
  refine lv_aload_n C.1 C.2.1 dX2_read_0 rfl (lv_at hl 0 rfl) ?_
  refine lv_aload_n C.1 C.2.1 dX2_read_1 rfl (lv_at hl 1 rfl) ?_
  obtain ⟨h_1, eh_1, hE⟩ := nm_e2 hE
  refine pf_X2_9 C hW hZ k_x0 k_x1 eh_1 dX2_read_2 (fun _ _ hW km hZ => ?_)
  replace hkm := hkm.tr km
  replace k_x0 := km.at k_x0 (by decide)
  replace k_x1 := km.at k_x1 (by decide)
  replace k_x2 := km.at k_x2 (by decide)
  refine lv_aload_n C.1 C.2.1 dX2_read_5 rfl (lv_at hl 0 rfl) ?_
  refine lv_aload_n C.1 C.2.1 dX2_read_6 rfl (lv_at hl 2 rfl) ?_
  obtain ⟨h_2, eh_2, hE⟩ := nm_e2 hE
  refine pf_X2_15 C hW hZ k_x0 k_x2 eh_2 dX2_read_7 (fun _ _ hW km hZ => ?_)
  replace hkm := hkm.tr km
  replace k_x0 := km.at k_x0 (by decide)
  replace k_x1 := km.at k_x1 (by decide)
  replace k_x2 := km.at k_x2 (by decide)
  refine lv_aload_n C.1 C.2.1 dX2_read_10 rfl (lv_at hl 0 rfl) ?_
  obtain ⟨r_3, er_3, hE⟩ := cl_e hE
  refine gf_X2_15 C hW k_x0 er_3 dX2_read_11 (fun k_r_3 => ?_)
  obtain ⟨o_4, eo_4, hE⟩ := cl_e hE
  refine x_kV (o := o_4) (z_runV (As := []) (rest := []) C (ct_X1_clear l X F k_r_3 eo_4) cw_X2_19 hW hZ k_r_3 (by decide) rfl rfl rfl hl.1 (Nat.le_of_ble_eq_true rfl) rfl dX2_read_14 ⟨Nat.le_of_ble_eq_true rfl, Nat.le_of_ble_eq_true rfl⟩ ⟨Nat.le_refl _, Nat.le_refl _⟩) hZ (fun _ _ hW km hZ => ?_)
  replace hkm := hkm.tr km
  replace k_x0 := km.at k_x0 (by decide)
  replace k_x1 := km.at k_x1 (by decide)
  replace k_x2 := km.at k_x2 (by decide)
  refine lv_aload_n C.1 C.2.1 dX2_read_17 rfl (lv_at hl 0 rfl) ?_
  refine lv_iconst (v := (0 : Int32)) C.1 C.2.1 dX2_read_18 (by decide) ?_
  obtain ⟨h_5, eh_5, hE⟩ := nm_e2 hE
  refine pf_X2_24 C hW hZ k_x0 eh_5 dX2_read_19 (fun _ _ hW km hZ => ?_)
  replace hkm := hkm.tr km
  replace k_x0 := km.at k_x0 (by decide)
  replace k_x1 := km.at k_x1 (by decide)
  replace k_x2 := km.at k_x2 (by decide)
  refine lv_aload_n C.1 C.2.1 dX2_read_22 rfl (lv_at hl 0 rfl) ?_
  refine lv_iconst (v := (0 : Int32)) C.1 C.2.1 dX2_read_23 (by decide) ?_
  obtain ⟨h_6, eh_6, hE⟩ := nm_e2 hE
  refine pf_X2_28 C hW hZ k_x0 eh_6 dX2_read_24 (fun _ _ hW km hZ => ?_)
  replace hkm := hkm.tr km
  replace k_x0 := km.at k_x0 (by decide)
  replace k_x1 := km.at k_x1 (by decide)
  replace k_x2 := km.at k_x2 (by decide)
  refine lv_aload_n C.1 C.2.1 dX2_read_27 rfl (lv_at hl 0 rfl) ?_
  obtain ⟨o_7, eo_7, hE⟩ := cl_e hE
  refine x_kV (o := o_7) (z_runV (As := []) (rest := []) C (ct_X2_advance l X F k_x0 eo_7) cw_X2_31 hW hZ k_x0 (by decide) rfl rfl rfl hl.1 (Nat.le_of_ble_eq_true rfl) rfl dX2_read_28 ⟨Nat.le_of_ble_eq_true rfl, Nat.le_of_ble_eq_true rfl⟩ ⟨Nat.le_refl _, Nat.le_refl _⟩) hZ (fun _ _ hW km hZ => ?_)
  replace hkm := hkm.tr km
  replace k_x0 := km.at k_x0 (by decide)
  replace k_x1 := km.at k_x1 (by decide)
  replace k_x2 := km.at k_x2 (by decide)
  refine lv_aload_n C.1 C.2.1 dX2_read_31 rfl (lv_at hl 0 rfl) ?_
  obtain ⟨o_8, eo_8, hE⟩ := cl_e hE
  refine x_kI (o := o_8) (z_runV (As := []) (rest := []) C (ct_X2_takeBoard l X F k_x0 eo_8) cw_X2_34 hW hZ k_x0 (by decide) rfl rfl rfl hl.1 (Nat.le_of_ble_eq_true rfl) rfl dX2_read_32 ⟨Nat.le_of_ble_eq_true rfl, Nat.le_of_ble_eq_true rfl⟩ ⟨Nat.le_refl _, Nat.le_refl _⟩) hZ (fun _ _ hW km hZ => ?_)
  replace hkm := hkm.tr km
  replace k_x0 := km.at k_x0 (by decide)
  replace k_x1 := km.at k_x1 (by decide)
  replace k_x2 := km.at k_x2 (by decide)
  refine lv_istore_n (lv' := [(3, .int o_8.1), (0, .ref x0), (1, .ref x1), (2, .ref x2)]) C.1 C.2.1 dX2_read_35 rfl hl (by decide) rfl (fun ls hl => ?_)
  refine lv_iconst (v := (0 : Int32)) C.1 C.2.1 dX2_read_36 (by decide) ?_
  refine lv_istore (lv' := [(4, .int (0 : Int32)), (3, .int o_8.1), (0, .ref x0), (1, .ref x1), (2, .ref x2)]) C.1 C.2.1 dX2_read_37 hl (by decide) rfl (fun ls hl => ?_)
  exact bX2_read_39 C F k_x0 hkm hW hZ _ (lv_sub hl [2, 1, 0] rfl) hE
