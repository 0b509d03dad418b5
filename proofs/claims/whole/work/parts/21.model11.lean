theorem dX15_fileOf_0 : decode cX15_fileOf 0 = .ok (.iload_n 1, 1) := by decide +kernel
theorem dX15_fileOf_1 : decode cX15_fileOf 1 = .ok (.aload_n 0, 1) := by decide +kernel
theorem dX15_fileOf_2 : decode cX15_fileOf 2 = .ok (.getfield 382, 3) := by decide +kernel
theorem dX15_fileOf_5 : decode cX15_fileOf 5 = .ok (.irem, 1) := by decide +kernel
theorem dX15_fileOf_6 : decode cX15_fileOf 6 = .ok (.ireturn, 1) := by decide +kernel
def sX15_fileOf (h : Hp) (x0 : Nat) (x1 : Int32) : Option (Int32 × Hp) := gd (¬ (hI h x0 11) = 0) <| some (x1 - x1 / (hI h x0 11) * (hI h x0 11), h)
set_option maxRecDepth 20000 in
theorem moX15_fileOf {o : Int32 × Hp} {h : Hp} {x0 : Nat} {x1 : Int32} (hE : sX15_fileOf h x0 x1 = some o) : Le h o.2 := by
  obtain ⟨g_1, hE⟩ := gd_e hE
  exact le_some2 hE
set_option maxRecDepth 20000 in
theorem ct_X15_fileOf (l : Launch) (X : Ec) {h : Hp} {x0 : Nat} {x1 : Int32} {o : Int32 × Hp} (k_x0 : hK h x0 = 15) (hE : sX15_fileOf h x0 x1 = some o) : MetI l yX15_fileOf cX15_fileOf 2 (some .int) 0 0 X [.ref x0, .int x1] h o := by
  refine x_met (by decide) (Nat.le_of_ble_eq_true rfl) ?_
  intro p e s m below meth c ls C hl hW hZ
  have hl : lv_has ls 2 [(0, .ref x0), (1, .int x1)] := hl
  have hkm : Km h h := Km.rf h
  refine lv_iload_n C.1 C.2.1 dX15_fileOf_0 rfl (lv_at hl 1 rfl) ?_
  refine lv_aload_n C.1 C.2.1 dX15_fileOf_1 rfl (lv_at hl 0 rfl) ?_
  refine gf_X15_382 C hW k_x0 dX15_fileOf_2 ?_
  obtain ⟨g_1, hE⟩ := gd_e hE
  refine lv_irem C.1 C.2.1 dX15_fileOf_5 g_1 ?_
  exact x_iret C rfl rfl hW hZ hkm hE dX15_fileOf_6
set_option maxRecDepth 100000 in
theorem ms_167 : Cond.selects RX15 yX15_fileOf yX15_fileOf ∈ W0 := w0_in (List.mem_append_left _ (List.mem_of_getElem? (i := 167) rfl)) rfl
set_option maxRecDepth 100000 in
theorem m_2500 : Cond.methodLink RX15 530 yX15_fileOf ∈ W0 := w0_in (List.mem_append_right _ (List.mem_of_getElem? (i := 2500) rfl)) rfl
set_option maxRecDepth 100000 in
theorem m_2502 : Cond.instanceMethod yX15_fileOf ∈ W0 := w0_in (List.mem_append_right _ (List.mem_of_getElem? (i := 2502) rfl)) rfl
set_option maxRecDepth 100000 in
theorem m_2503 : Cond.code yX15_fileOf cX15_fileOf 2 (some .int) ∈ W0 := w0_in (List.mem_append_right _ (List.mem_of_getElem? (i := 2503) rfl)) rfl
theorem cw_X15_530 : cwd RX15 530 yX15_fileOf cX15_fileOf 2 (some .int) false 1 := ⟨m_2503, m_2500, m_19, ⟨m_2502, ms_167⟩, by decide, by decide, by decide +kernel⟩
theorem dX15_saySquare_0 : decode cX15_saySquare 0 = .ok (.aload_n 0, 1) := by decide +kernel
theorem dX15_saySquare_1 : decode cX15_saySquare 1 = .ok (.bipush 97, 2) := by decide +kernel
theorem dX15_saySquare_3 : decode cX15_saySquare 3 = .ok (.aload_n 0, 1) := by decide +kernel
theorem dX15_saySquare_4 : decode cX15_saySquare 4 = .ok (.iload_n 1, 1) := by decide +kernel
theorem dX15_saySquare_5 : decode cX15_saySquare 5 = .ok (.invokevirtual 530, 3) := by decide +kernel
theorem dX15_saySquare_8 : decode cX15_saySquare 8 = .ok (.iadd, 1) := by decide +kernel
theorem dX15_saySquare_9 : decode cX15_saySquare 9 = .ok (.invokevirtual 21, 3) := by decide +kernel
theorem dX15_saySquare_12 : decode cX15_saySquare 12 = .ok (.aload_n 0, 1) := by decide +kernel
theorem dX15_saySquare_13 : decode cX15_saySquare 13 = .ok (.bipush 49, 2) := by decide +kernel
theorem dX15_saySquare_15 : decode cX15_saySquare 15 = .ok (.iload_n 1, 1) := by decide +kernel
theorem dX15_saySquare_16 : decode cX15_saySquare 16 = .ok (.aload_n 0, 1) := by decide +kernel
theorem dX15_saySquare_17 : decode cX15_saySquare 17 = .ok (.getfield 382, 3) := by decide +kernel
theorem dX15_saySquare_20 : decode cX15_saySquare 20 = .ok (.idiv, 1) := by decide +kernel
theorem dX15_saySquare_21 : decode cX15_saySquare 21 = .ok (.iadd, 1) := by decide +kernel
theorem dX15_saySquare_22 : decode cX15_saySquare 22 = .ok (.invokevirtual 21, 3) := by decide +kernel
theorem dX15_saySquare_25 : decode cX15_saySquare 25 = .ok (.return_, 1) := by decide +kernel
def sX15_saySquare (h : Hp) (x0 : Nat) (x1 : Int32) : Option (Hp) := cl (sX15_fileOf h x0 x1) fun o_1 => cl (sX15_say o_1.2 x0 ((97 : Int32) + o_1.1)) fun o_2 => gd (¬ (hI o_2 x0 11) = 0) <| cl (sX15_say o_2 x0 ((49 : Int32) + (x1 / (hI o_2 x0 11)))) fun o_4 => some o_4
set_option maxRecDepth 20000 in
theorem moX15_saySquare {o : Hp} {h : Hp} {x0 : Nat} {x1 : Int32} (hE : sX15_saySquare h x0 x1 = some o) : Le h o := by
  obtain ⟨o_1, eo_1, hE⟩ := cl_e hE
  refine (moX15_fileOf eo_1).tr ?_
  obtain ⟨o_2, eo_2, hE⟩ := cl_e hE
  refine (moX15_say eo_2).tr ?_
  obtain ⟨g_3, hE⟩ := gd_e hE
  obtain ⟨o_4, eo_4, hE⟩ := cl_e hE
  refine (moX15_say eo_4).tr ?_
  exact le_some1 hE
set_option maxRecDepth 20000 in
theorem ct_X15_saySquare (l : Launch) (X : Ec) {h : Hp} {x0 : Nat} {x1 : Int32} {o : Hp} (k_x0 : hK h x0 = 15) (hE : sX15_saySquare h x0 x1 = some o) : MetV l yX15_saySquare cX15_saySquare 2 none 1 21 X [.ref x0, .int x1] h o := by
  refine x_met (by decide) (Nat.le_of_ble_eq_true rfl) ?_
  intro p e s m below meth c ls C hl hW hZ
  have hl : lv_has ls 2 [(0, .ref x0), (1, .int x1)] := hl
  have hkm : Km h h := Km.rf h
  refine lv_aload_n C.1 C.2.1 dX15_saySquare_0 rfl (lv_at hl 0 rfl) ?_
  refine lv_bipush (v := (97 : Int32)) C.1 C.2.1 dX15_saySquare_1 (by decide) ?_
  refine lv_aload_n C.1 C.2.1 dX15_saySquare_3 rfl (lv_at hl 0 rfl) ?_
  refine lv_iload_n C.1 C.2.1 dX15_saySquare_4 rfl (lv_at hl 1 rfl) ?_
  obtain ⟨o_1, eo_1, hE⟩ := cl_e hE
  refine x_kI (o := o_1) (z_runV (As := [.int x1]) (rest := [.int (97 : Int32), .ref x0]) C (ct_X15_fileOf l X k_x0 eo_1) cw_X15_530 hW hZ k_x0 (by decide) rfl rfl rfl hl.1 (Nat.le_of_ble_eq_true rfl) rfl dX15_saySquare_5 ⟨Nat.le_of_ble_eq_true rfl, Nat.le_of_ble_eq_true rfl⟩ ⟨Nat.le_refl _, Nat.le_refl _⟩) hZ (fun _ _ hW km hZ => ?_)
  replace hkm := hkm.tr km
  replace k_x0 := km.at k_x0 (by decide)
  refine lv_iadd C.1 C.2.1 dX15_saySquare_8 ?_
  obtain ⟨o_2, eo_2, hE⟩ := cl_e hE
  refine x_kV (o := o_2) (z_runV (As := [.int ((97 : Int32) + o_1.1)]) (rest := []) C (ct_X15_say l X k_x0 eo_2) cw_X15_21 hW hZ k_x0 (by decide) rfl rfl rfl hl.1 (Nat.le_of_ble_eq_true rfl) rfl dX15_saySquare_9 ⟨Nat.le_of_ble_eq_true rfl, Nat.le_of_ble_eq_true rfl⟩ ⟨Nat.le_refl _, Nat.le_refl _⟩) hZ (fun _ _ hW km hZ => ?_)
  replace hkm := hkm.tr km
  replace k_x0 := km.at k_x0 (by decide)
  refine lv_aload_n C.1 C.2.1 dX15_saySquare_12 rfl (lv_at hl 0 rfl) ?_
  refine lv_bipush (v := (49 : Int32)) C.1 C.2.1 dX15_saySquare_13 (by decide) ?_
  refine lv_iload_n C.1 C.2.1 dX15_saySquare_15 rfl (lv_at hl 1 rfl) ?_
  refine lv_aload_n C.1 C.2.1 dX15_saySquare_16 rfl (lv_at hl 0 rfl) ?_
  refine gf_X15_382 C hW k_x0 dX15_saySquare_17 ?_
  obtain ⟨g_3, hE⟩ := gd_e hE
  refine lv_idiv C.1 C.2.1 dX15_saySquare_20 g_3 ?_
  refine lv_iadd C.1 C.2.1 dX15_saySquare_21 ?_
  obtain ⟨o_4, eo_4, hE⟩ := cl_e hE
  refine x_kV (o := o_4) (z_runV (As := [.int ((49 : Int32) + (x1 / (hI o_2 x0 11)))]) (rest := []) C (ct_X15_say l X k_x0 eo_4) cw_X15_21 hW hZ k_x0 (by decide) rfl rfl rfl hl.1 (Nat.le_of_ble_eq_true rfl) rfl dX15_saySquare_22 ⟨Nat.le_of_ble_eq_true rfl, Nat.le_of_ble_eq_true rfl⟩ ⟨Nat.le_refl _, Nat.le_refl _⟩) hZ (fun _ _ hW km hZ => ?_)
  replace hkm := hkm.tr km
  replace k_x0 := km.at k_x0 (by decide)
  exact x_vret C rfl hW hZ hkm hE dX15_saySquare_25
set_option maxRecDepth 100000 in
theorem ms_166 : Cond.selects RX15 yX15_saySquare yX15_saySquare ∈ W0 := w0_in (List.mem_append_left _ (List.mem_of_getElem? (i := 166) rfl)) rfl
set_option maxRecDepth 100000 in
theorem ms_162 : Cond.selects RX15 yX15_writeMen yX15_writeMen ∈ W0 := w0_in (List.mem_append_left _ (List.mem_of_getElem? (i := 162) rfl)) rfl
set_option maxRecDepth 100000 in
theorem m_2479 : Cond.constantLong RX15 533 (-1 : Int64) ∈ W0 := w0_in (List.mem_append_right _ (List.mem_of_getElem? (i := 2479) rfl)) rfl
set_option maxRecDepth 100000 in
theorem m_2480 : Cond.methodLink RX15 535 yX15_writeMen ∈ W0 := w0_in (List.mem_append_right _ (List.mem_of_getElem? (i := 2480) rfl)) rfl
set_option maxRecDepth 100000 in
theorem m_2482 : Cond.instanceMethod yX15_writeMen ∈ W0 := w0_in (List.mem_append_right _ (List.mem_of_getElem? (i := 2482) rfl)) rfl
set_option maxRecDepth 100000 in
theorem m_2483 : Cond.code yX15_writeMen cX15_writeMen 9 none ∈ W0 := w0_in (List.mem_append_right _ (List.mem_of_getElem? (i := 2483) rfl)) rfl
set_option maxRecDepth 100000 in
theorem m_2496 : Cond.methodLink RX15 539 yX15_saySquare ∈ W0 := w0_in (List.mem_append_right _ (List.mem_of_getElem? (i := 2496) rfl)) rfl
set_option maxRecDepth 100000 in
theorem m_2498 : Cond.instanceMethod yX15_saySquare ∈ W0 := w0_in (List.mem_append_right _ (List.mem_of_getElem? (i := 2498) rfl)) rfl
set_option maxRecDepth 100000 in
theorem m_2499 : Cond.code yX15_saySquare cX15_saySquare 2 none ∈ W0 := w0_in (List.mem_append_right _ (List.mem_of_getElem? (i := 2499) rfl)) rfl
section
variable {p : Program} {l : Launch} {e : Env} {R : Room} {s : State} {m : MethodId} {args : Array Value} {below : List Frame} {meth : Method} {c : Code} {H : Heap} {locs : List Loc} {cells slots : Nat} {Q : State → Prop}
variable {cc : ByteArray} {pc : Nat} {ls : Array Slot} {rest : List Value} {X : Ec} {h h1 : Hp} {nL : Nat} {rt : Option FieldType} {mn : String}
theorem gf_X15_449 {a : Nat} (C : Cx X p s m args meth c RX15 cc nL rt mn) (hW : Wx X h H) (ha : hK h a = 12) (hdg : decode cc pc = .ok (.getfield 449, 3)) (kk : W p l e R s m args below meth c H locs cells slots Q (F0 m (pc + 3) ls (.int (hI h a 7) :: rest))) : W p l e R s m args below meth c H locs cells slots Q (F0 m pc ls (.ref a :: rest)) :=
  y_getiN C hW ha i_X12 (by decide) rfl (by decide) n_1923 rfl hdg kk
end
theorem cw_X15_539 : cwd RX15 539 yX15_saySquare cX15_saySquare 2 none false 1 := ⟨m_2499, m_2496, m_19, ⟨m_2498, ms_166⟩, by decide, by decide, by decide +kernel⟩
theorem cw_X15_535 : cwd RX15 535 yX15_writeMen cX15_writeMen 9 none false 2 := ⟨m_2483, m_2480, m_19, ⟨m_2482, ms_162⟩, by decide, by decide, by decide +kernel⟩
theorem dX15_writeAll_0 : decode cX15_writeAll 0 = .ok (.aload_n 0, 1) := by decide +kernel
theorem dX15_writeAll_1 : decode cX15_writeAll 1 = .ok (.aload_n 1, 1) := by decide +kernel
theorem dX15_writeAll_2 : decode cX15_writeAll 2 = .ok (.ldc2_w 533, 3) := by decide +kernel
theorem dX15_writeAll_5 : decode cX15_writeAll 5 = .ok (.invokevirtual 535, 3) := by decide +kernel
theorem dX15_writeAll_8 : decode cX15_writeAll 8 = .ok (.aload_n 0, 1) := by decide +kernel
theorem dX15_writeAll_9 : decode cX15_writeAll 9 = .ok (.bipush 32, 2) := by decide +kernel
theorem dX15_writeAll_11 : decode cX15_writeAll 11 = .ok (.invokevirtual 21, 3) := by decide +kernel
theorem dX15_writeAll_14 : decode cX15_writeAll 14 = .ok (.aload_n 0, 1) := by decide +kernel
theorem dX15_writeAll_15 : decode cX15_writeAll 15 = .ok (.aload_n 1, 1) := by decide +kernel
theorem dX15_writeAll_16 : decode cX15_writeAll 16 = .ok (.getfield 452, 3) := by decide +kernel
theorem dX15_writeAll_19 : decode cX15_writeAll 19 = .ok (.ifCond .ne 8, 3) := by decide +kernel
theorem dX15_writeAll_22 : decode cX15_writeAll 22 = .ok (.bipush 119, 2) := by decide +kernel
theorem dX15_writeAll_24 : decode cX15_writeAll 24 = .ok (.goto 5, 3) := by decide +kernel
theorem dX15_writeAll_27 : decode cX15_writeAll 27 = .ok (.bipush 98, 2) := by decide +kernel
theorem dX15_writeAll_29 : decode cX15_writeAll 29 = .ok (.invokevirtual 21, 3) := by decide +kernel
theorem dX15_writeAll_32 : decode cX15_writeAll 32 = .ok (.aload_n 0, 1) := by decide +kernel
theorem dX15_writeAll_33 : decode cX15_writeAll 33 = .ok (.bipush 32, 2) := by decide +kernel
theorem dX15_writeAll_35 : decode cX15_writeAll 35 = .ok (.invokevirtual 21, 3) := by decide +kernel
theorem dX15_writeAll_38 : decode cX15_writeAll 38 = .ok (.aload_n 1, 1) := by decide +kernel
theorem dX15_writeAll_39 : decode cX15_writeAll 39 = .ok (.getfield 436, 3) := by decide +kernel
theorem dX15_writeAll_42 : decode cX15_writeAll 42 = .ok (.lconst 0, 1) := by decide +kernel
theorem dX15_writeAll_43 : decode cX15_writeAll 43 = .ok (.lcmp, 1) := by decide +kernel
theorem dX15_writeAll_44 : decode cX15_writeAll 44 = .ok (.ifCond .ne 9, 3) := by decide +kernel
theorem dX15_writeAll_47 : decode cX15_writeAll 47 = .ok (.aload_n 0, 1) := by decide +kernel
theorem dX15_writeAll_48 : decode cX15_writeAll 48 = .ok (.bipush 45, 2) := by decide +kernel
theorem dX15_writeAll_50 : decode cX15_writeAll 50 = .ok (.invokevirtual 21, 3) := by decide +kernel
theorem dX15_writeAll_53 : decode cX15_writeAll 53 = .ok (.iconst 0, 1) := by decide +kernel
theorem dX15_writeAll_54 : decode cX15_writeAll 54 = .ok (.istore_n 2, 1) := by decide +kernel
theorem dX15_writeAll_55 : decode cX15_writeAll 55 = .ok (.iload_n 2, 1) := by decide +kernel
theorem dX15_writeAll_56 : decode cX15_writeAll 56 = .ok (.aload_n 0, 1) := by decide +kernel
theorem dX15_writeAll_57 : decode cX15_writeAll 57 = .ok (.getfield 384, 3) := by decide +kernel
theorem dX15_writeAll_60 : decode cX15_writeAll 60 = .ok (.if_icmp .ge 27, 3) := by decide +kernel
theorem dX15_writeAll_63 : decode cX15_writeAll 63 = .ok (.aload_n 1, 1) := by decide +kernel
theorem dX15_writeAll_64 : decode cX15_writeAll 64 = .ok (.getfield 436, 3) := by decide +kernel
theorem dX15_writeAll_67 : decode cX15_writeAll 67 = .ok (.iload_n 2, 1) := by decide +kernel
theorem dX15_writeAll_68 : decode cX15_writeAll 68 = .ok (.lshr, 1) := by decide +kernel
theorem dX15_writeAll_69 : decode cX15_writeAll 69 = .ok (.lconst 1, 1) := by decide +kernel
theorem dX15_writeAll_70 : decode cX15_writeAll 70 = .ok (.land, 1) := by decide +kernel
theorem dX15_writeAll_71 : decode cX15_writeAll 71 = .ok (.lconst 1, 1) := by decide +kernel
theorem dX15_writeAll_72 : decode cX15_writeAll 72 = .ok (.lcmp, 1) := by decide +kernel
theorem dX15_writeAll_73 : decode cX15_writeAll 73 = .ok (.ifCond .ne 8, 3) := by decide +kernel
theorem dX15_writeAll_76 : decode cX15_writeAll 76 = .ok (.aload_n 0, 1) := by decide +kernel
theorem dX15_writeAll_77 : decode cX15_writeAll 77 = .ok (.iload_n 2, 1) := by decide +kernel
theorem dX15_writeAll_78 : decode cX15_writeAll 78 = .ok (.invokevirtual 539, 3) := by decide +kernel
theorem dX15_writeAll_81 : decode cX15_writeAll 81 = .ok (.iinc 2 1, 3) := by decide +kernel
theorem dX15_writeAll_84 : decode cX15_writeAll 84 = .ok (.goto (-29), 3) := by decide +kernel
theorem dX15_writeAll_87 : decode cX15_writeAll 87 = .ok (.aload_n 0, 1) := by decide +kernel
theorem dX15_writeAll_88 : decode cX15_writeAll 88 = .ok (.bipush 32, 2) := by decide +kernel
theorem dX15_writeAll_90 : decode cX15_writeAll 90 = .ok (.invokevirtual 21, 3) := by decide +kernel
theorem dX15_writeAll_93 : decode cX15_writeAll 93 = .ok (.aload_n 1, 1) := by decide +kernel
theorem dX15_writeAll_94 : decode cX15_writeAll 94 = .ok (.getfield 441, 3) := by decide +kernel
theorem dX15_writeAll_97 : decode cX15_writeAll 97 = .ok (.ifCond .ne 9, 3) := by decide +kernel
theorem dX15_writeAll_100 : decode cX15_writeAll 100 = .ok (.aload_n 0, 1) := by decide +kernel
theorem dX15_writeAll_101 : decode cX15_writeAll 101 = .ok (.bipush 45, 2) := by decide +kernel
theorem dX15_writeAll_103 : decode cX15_writeAll 103 = .ok (.invokevirtual 21, 3) := by decide +kernel
theorem dX15_writeAll_106 : decode cX15_writeAll 106 = .ok (.iconst 0, 1) := by decide +kernel
theorem dX15_writeAll_107 : decode cX15_writeAll 107 = .ok (.istore_n 2, 1) := by decide +kernel
theorem dX15_writeAll_108 : decode cX15_writeAll 108 = .ok (.iload_n 2, 1) := by decide +kernel
theorem dX15_writeAll_109 : decode cX15_writeAll 109 = .ok (.aload_n 1, 1) := by decide +kernel
theorem dX15_writeAll_110 : decode cX15_writeAll 110 = .ok (.getfield 441, 3) := by decide +kernel
theorem dX15_writeAll_113 : decode cX15_writeAll 113 = .ok (.if_icmp .ge 19, 3) := by decide +kernel
theorem dX15_writeAll_116 : decode cX15_writeAll 116 = .ok (.aload_n 0, 1) := by decide +kernel
theorem dX15_writeAll_117 : decode cX15_writeAll 117 = .ok (.aload_n 1, 1) := by decide +kernel
theorem dX15_writeAll_118 : decode cX15_writeAll 118 = .ok (.getfield 439, 3) := by decide +kernel
theorem dX15_writeAll_121 : decode cX15_writeAll 121 = .ok (.iload_n 2, 1) := by decide +kernel
theorem dX15_writeAll_122 : decode cX15_writeAll 122 = .ok (.iaload, 1) := by decide +kernel
theorem dX15_writeAll_123 : decode cX15_writeAll 123 = .ok (.invokevirtual 539, 3) := by decide +kernel
theorem dX15_writeAll_126 : decode cX15_writeAll 126 = .ok (.iinc 2 1, 3) := by decide +kernel
theorem dX15_writeAll_129 : decode cX15_writeAll 129 = .ok (.goto (-21), 3) := by decide +kernel
theorem dX15_writeAll_132 : decode cX15_writeAll 132 = .ok (.aload_n 0, 1) := by decide +kernel
theorem dX15_writeAll_133 : decode cX15_writeAll 133 = .ok (.bipush 32, 2) := by decide +kernel
theorem dX15_writeAll_135 : decode cX15_writeAll 135 = .ok (.invokevirtual 21, 3) := by decide +kernel
theorem dX15_writeAll_138 : decode cX15_writeAll 138 = .ok (.aload_n 0, 1) := by decide +kernel
theorem dX15_writeAll_139 : decode cX15_writeAll 139 = .ok (.getfield 11, 3) := by decide +kernel
theorem dX15_writeAll_142 : decode cX15_writeAll 142 = .ok (.istore_n 2, 1) := by decide +kernel
theorem dX15_writeAll_143 : decode cX15_writeAll 143 = .ok (.iconst 0, 1) := by decide +kernel
theorem dX15_writeAll_144 : decode cX15_writeAll 144 = .ok (.istore_n 3, 1) := by decide +kernel
theorem dX15_writeAll_145 : decode cX15_writeAll 145 = .ok (.iload_n 3, 1) := by decide +kernel
theorem dX15_writeAll_146 : decode cX15_writeAll 146 = .ok (.iconst 2, 1) := by decide +kernel
theorem dX15_writeAll_147 : decode cX15_writeAll 147 = .ok (.if_icmp .ge 69, 3) := by decide +kernel
theorem dX15_writeAll_150 : decode cX15_writeAll 150 = .ok (.iconst 0, 1) := by decide +kernel
theorem dX15_writeAll_151 : decode cX15_writeAll 151 = .ok (.istore 4, 2) := by decide +kernel
theorem dX15_writeAll_153 : decode cX15_writeAll 153 = .ok (.iload 4, 2) := by decide +kernel
theorem dX15_writeAll_155 : decode cX15_writeAll 155 = .ok (.aload_n 0, 1) := by decide +kernel
theorem dX15_writeAll_156 : decode cX15_writeAll 156 = .ok (.getfield 252, 3) := by decide +kernel
theorem dX15_writeAll_159 : decode cX15_writeAll 159 = .ok (.getfield 169, 3) := by decide +kernel
theorem dX15_writeAll_162 : decode cX15_writeAll 162 = .ok (.if_icmp .ge 48, 3) := by decide +kernel
theorem dX15_writeAll_165 : decode cX15_writeAll 165 = .ok (.iconst 0, 1) := by decide +kernel
theorem dX15_writeAll_166 : decode cX15_writeAll 166 = .ok (.istore 5, 2) := by decide +kernel
theorem dX15_writeAll_168 : decode cX15_writeAll 168 = .ok (.iload 5, 2) := by decide +kernel
theorem dX15_writeAll_170 : decode cX15_writeAll 170 = .ok (.aload_n 1, 1) := by decide +kernel
theorem dX15_writeAll_171 : decode cX15_writeAll 171 = .ok (.getfield 444, 3) := by decide +kernel
theorem dX15_writeAll_174 : decode cX15_writeAll 174 = .ok (.iconst 2, 1) := by decide +kernel
theorem dX15_writeAll_175 : decode cX15_writeAll 175 = .ok (.iload 4, 2) := by decide +kernel
theorem dX15_writeAll_177 : decode cX15_writeAll 177 = .ok (.imul, 1) := by decide +kernel
theorem dX15_writeAll_178 : decode cX15_writeAll 178 = .ok (.iload_n 3, 1) := by decide +kernel
theorem dX15_writeAll_179 : decode cX15_writeAll 179 = .ok (.iadd, 1) := by decide +kernel
theorem dX15_writeAll_180 : decode cX15_writeAll 180 = .ok (.iaload, 1) := by decide +kernel
theorem dX15_writeAll_181 : decode cX15_writeAll 181 = .ok (.if_icmp .ge 23, 3) := by decide +kernel
theorem dX15_writeAll_184 : decode cX15_writeAll 184 = .ok (.aload_n 0, 1) := by decide +kernel
theorem dX15_writeAll_185 : decode cX15_writeAll 185 = .ok (.aload_n 0, 1) := by decide +kernel
theorem dX15_writeAll_186 : decode cX15_writeAll 186 = .ok (.iload 4, 2) := by decide +kernel
theorem dX15_writeAll_188 : decode cX15_writeAll 188 = .ok (.iload_n 3, 1) := by decide +kernel
theorem dX15_writeAll_189 : decode cX15_writeAll 189 = .ok (.invokestatic 398, 3) := by decide +kernel
theorem dX15_writeAll_192 : decode cX15_writeAll 192 = .ok (.invokevirtual 527, 3) := by decide +kernel
theorem dX15_writeAll_195 : decode cX15_writeAll 195 = .ok (.invokevirtual 21, 3) := by decide +kernel
theorem dX15_writeAll_198 : decode cX15_writeAll 198 = .ok (.iinc 5 1, 3) := by decide +kernel
theorem dX15_writeAll_201 : decode cX15_writeAll 201 = .ok (.goto (-33), 3) := by decide +kernel
theorem dX15_writeAll_204 : decode cX15_writeAll 204 = .ok (.iinc 4 1, 3) := by decide +kernel
theorem dX15_writeAll_207 : decode cX15_writeAll 207 = .ok (.goto (-54), 3) := by decide +kernel
theorem dX15_writeAll_210 : decode cX15_writeAll 210 = .ok (.iinc 3 1, 3) := by decide +kernel
theorem dX15_writeAll_213 : decode cX15_writeAll 213 = .ok (.goto (-68), 3) := by decide +kernel
theorem dX15_writeAll_216 : decode cX15_writeAll 216 = .ok (.aload_n 0, 1) := by decide +kernel
theorem dX15_writeAll_217 : decode cX15_writeAll 217 = .ok (.getfield 11, 3) := by decide +kernel
theorem dX15_writeAll_220 : decode cX15_writeAll 220 = .ok (.iload_n 2, 1) := by decide +kernel
theorem dX15_writeAll_221 : decode cX15_writeAll 221 = .ok (.if_icmp .ne 9, 3) := by decide +kernel
theorem dX15_writeAll_224 : decode cX15_writeAll 224 = .ok (.aload_n 0, 1) := by decide +kernel
theorem dX15_writeAll_225 : decode cX15_writeAll 225 = .ok (.bipush 45, 2) := by decide +kernel
theorem dX15_writeAll_227 : decode cX15_writeAll 227 = .ok (.invokevirtual 21, 3) := by decide +kernel
theorem dX15_writeAll_230 : decode cX15_writeAll 230 = .ok (.aload_n 0, 1) := by decide +kernel
theorem dX15_writeAll_231 : decode cX15_writeAll 231 = .ok (.bipush 32, 2) := by decide +kernel
theorem dX15_writeAll_233 : decode cX15_writeAll 233 = .ok (.invokevirtual 21, 3) := by decide +kernel
theorem dX15_writeAll_236 : decode cX15_writeAll 236 = .ok (.aload_n 0, 1) := by decide +kernel
theorem dX15_writeAll_237 : decode cX15_writeAll 237 = .ok (.bipush 48, 2) := by decide +kernel
theorem dX15_writeAll_239 : decode cX15_writeAll 239 = .ok (.aload_n 1, 1) := by decide +kernel
theorem dX15_writeAll_240 : decode cX15_writeAll 240 = .ok (.getfield 447, 3) := by decide +kernel
theorem dX15_writeAll_243 : decode cX15_writeAll 243 = .ok (.iconst 0, 1) := by decide +kernel
theorem dX15_writeAll_244 : decode cX15_writeAll 244 = .ok (.iaload, 1) := by decide +kernel
theorem dX15_writeAll_245 : decode cX15_writeAll 245 = .ok (.iadd, 1) := by decide +kernel
theorem dX15_writeAll_246 : decode cX15_writeAll 246 = .ok (.invokevirtual 21, 3) := by decide +kernel
theorem dX15_writeAll_249 : decode cX15_writeAll 249 = .ok (.aload_n 0, 1) := by decide +kernel
theorem dX15_writeAll_250 : decode cX15_writeAll 250 = .ok (.bipush 48, 2) := by decide +kernel
theorem dX15_writeAll_252 : decode cX15_writeAll 252 = .ok (.aload_n 1, 1) := by decide +kernel
theorem dX15_writeAll_253 : decode cX15_writeAll 253 = .ok (.getfield 447, 3) := by decide +kernel
theorem dX15_writeAll_256 : decode cX15_writeAll 256 = .ok (.iconst 1, 1) := by decide +kernel
theorem dX15_writeAll_257 : decode cX15_writeAll 257 = .ok (.iaload, 1) := by decide +kernel
theorem dX15_writeAll_258 : decode cX15_writeAll 258 = .ok (.iadd, 1) := by decide +kernel
theorem dX15_writeAll_259 : decode cX15_writeAll 259 = .ok (.invokevirtual 21, 3) := by decide +kernel
theorem dX15_writeAll_262 : decode cX15_writeAll 262 = .ok (.aload_n 0, 1) := by decide +kernel
theorem dX15_writeAll_263 : decode cX15_writeAll 263 = .ok (.bipush 32, 2) := by decide +kernel
theorem dX15_writeAll_265 : decode cX15_writeAll 265 = .ok (.invokevirtual 21, 3) := by decide +kernel
theorem dX15_writeAll_268 : decode cX15_writeAll 268 = .ok (.aload_n 0, 1) := by decide +kernel
theorem dX15_writeAll_269 : decode cX15_writeAll 269 = .ok (.aload_n 1, 1) := by decide +kernel
theorem dX15_writeAll_270 : decode cX15_writeAll 270 = .ok (.getfield 449, 3) := by decide +kernel
theorem dX15_writeAll_273 : decode cX15_writeAll 273 = .ok (.invokevirtual 17, 3) := by decide +kernel
theorem dX15_writeAll_276 : decode cX15_writeAll 276 = .ok (.return_, 1) := by decide +kernel
def sX15_writeAll_230 (F : Nat) (h : Hp) (x0 : Nat) (x1 : Nat) : Option (Hp) := cl (sX15_say h x0 (32 : Int32)) fun o_1 => cl (hR o_1 x1 6) fun r_2 => gd (inB (0 : Int32) (hN o_1 r_2)) <| cl (sX15_say o_1 x0 ((48 : Int32) + (hI o_1 r_2 (0 : Int32).toNatClampNeg))) fun o_4 => cl (hR o_4 x1 6) fun r_5 => gd (inB (1 : Int32) (hN o_4 r_5)) <| cl (sX15_say o_4 x0 ((48 : Int32) + (hI o_4 r_5 (1 : Int32).toNatClampNeg))) fun o_7 => cl (sX15_say o_7 x0 (32 : Int32)) fun o_8 => cl (sX15_sayNumber F o_8 x0 (hI o_8 x1 7)) fun o_9 => some o_9
def sX15_writeAll_168 (F : Nat) (k_145 : Hp → Nat → Nat → Int32 → Int32 → Option (Hp)) (k_153 : Hp → Nat → Nat → Int32 → Int32 → Int32 → Option (Hp)) : Nat → Hp → Nat → Nat → Int32 → Int32 → Int32 → Int32 → Option (Hp)
  | 0, _, _, _, _, _, _, _ => none
  | f + 1, h, x0, x1, x2, x3, x4, x5 => cl (hR h x1 5) fun r_1 => gd (inB (((2 : Int32) * x4) + x3) (hN h r_1)) <| br ((hI h r_1 (((2 : Int32) * x4) + x3).toNatClampNeg) ≤ x5) (nm (x4 + (1 : Int32)) fun v_4 => k_153 h x0 x1 x2 x3 v_4) (cl (sX15_valueOf h x4 x3) fun o_5 => cl (sX15_letterOf o_5.2 x0 o_5.1) fun o_6 => cl (sX15_say o_6.2 x0 o_6.1) fun o_7 => nm (x5 + (1 : Int32)) fun v_8 => sX15_writeAll_168 F k_145 k_153 f o_7 x0 x1 x2 x3 x4 v_8)
def sX15_writeAll_153 (F : Nat) (k_145 : Hp → Nat → Nat → Int32 → Int32 → Option (Hp)) : Nat → Hp → Nat → Nat → Int32 → Int32 → Int32 → Option (Hp)
  | 0, _, _, _, _, _, _ => none
  | f + 1, h, x0, x1, x2, x3, x4 => cl (hR h x0 4) fun r_1 => br ((hI h r_1 2) ≤ x4) (nm (x3 + (1 : Int32)) fun v_3 => k_145 h x0 x1 x2 v_3) (sX15_writeAll_168 F k_145 (sX15_writeAll_153 F k_145 f) F h x0 x1 x2 x3 x4 (0 : Int32))
def sX15_writeAll_145 (F : Nat) : Nat → Hp → Nat → Nat → Int32 → Int32 → Option (Hp)
  | 0, _, _, _, _, _ => none
  | f + 1, h, x0, x1, x2, x3 => br ((2 : Int32) ≤ x3) (br ((hI h x0 3) = x2) (cl (sX15_say h x0 (45 : Int32)) fun o_3 => sX15_writeAll_230 F o_3 x0 x1) (sX15_writeAll_230 F h x0 x1)) (sX15_writeAll_153 F (sX15_writeAll_145 F f) F h x0 x1 x2 x3 (0 : Int32))
def sX15_writeAll_108 (F : Nat) : Nat → Hp → Nat → Nat → Int32 → Option (Hp)
  | 0, _, _, _, _ => none
  | f + 1, h, x0, x1, x2 => br ((hI h x1 3) ≤ x2) (cl (sX15_say h x0 (32 : Int32)) fun o_2 => nm (hI o_2 x0 3) fun v_3 => sX15_writeAll_145 F F o_2 x0 x1 v_3 (0 : Int32)) (cl (hR h x1 4) fun r_4 => gd (inB x2 (hN h r_4)) <| cl (sX15_saySquare h x0 (hI h r_4 x2.toNatClampNeg)) fun o_6 => nm (x2 + (1 : Int32)) fun v_7 => sX15_writeAll_108 F f o_6 x0 x1 v_7)
def sX15_writeAll_106 (F : Nat) (h : Hp) (x0 : Nat) (x1 : Nat) : Option (Hp) := sX15_writeAll_108 F F h x0 x1 (0 : Int32)
def sX15_writeAll_81 (F : Nat) (k_55 : Hp → Nat → Nat → Int32 → Option (Hp)) (h : Hp) (x0 : Nat) (x1 : Nat) (x2 : Int32) : Option (Hp) := nm (x2 + (1 : Int32)) fun v_1 => k_55 h x0 x1 v_1
def sX15_writeAll_55 (F : Nat) : Nat → Hp → Nat → Nat → Int32 → Option (Hp)
  | 0, _, _, _, _ => none
  | f + 1, h, x0, x1, x2 => br ((hI h x0 13) ≤ x2) (cl (sX15_say h x0 (32 : Int32)) fun o_2 => br ((hI o_2 x1 3) = 0) (cl (sX15_say o_2 x0 (45 : Int32)) fun o_4 => sX15_writeAll_106 F o_4 x0 x1) (sX15_writeAll_106 F o_2 x0 x1)) (br ((lg_cmp (((hJ h x1 2) >>> (x2.toInt64 &&& 63)) &&& (1 : Int64)) (1 : Int64)) = 0) (cl (sX15_saySquare h x0 x2) fun o_6 => sX15_writeAll_81 F (sX15_writeAll_55 F f) o_6 x0 x1 x2) (sX15_writeAll_81 F (sX15_writeAll_55 F f) h x0 x1 x2))
def sX15_writeAll_53 (F : Nat) (h : Hp) (x0 : Nat) (x1 : Nat) : Option (Hp) := sX15_writeAll_55 F F h x0 x1 (0 : Int32)
def sX15_writeAll_29 (F : Nat) (h : Hp) (x0 : Nat) (x1 : Nat) (t0 : Int32) (t1 : Nat) : Option (Hp) := cl (sX15_say h t1 t0) fun o_1 => cl (sX15_say o_1 x0 (32 : Int32)) fun o_2 => br ((lg_cmp (hJ o_2 x1 2) (0 : Int64)) = 0) (cl (sX15_say o_2 x0 (45 : Int32)) fun o_4 => sX15_writeAll_53 F o_4 x0 x1) (sX15_writeAll_53 F o_2 x0 x1)
def sX15_writeAll (F : Nat) (h : Hp) (x0 : Nat) (x1 : Nat) : Option (Hp) := cl (sX15_writeMen F h x0 x1 (-1 : Int64)) fun o_1 => cl (sX15_say o_1 x0 (32 : Int32)) fun o_2 => br ((hI o_2 x1 1) = 0) (sX15_writeAll_29 F o_2 x0 x1 (119 : Int32) x0) (sX15_writeAll_29 F o_2 x0 x1 (98 : Int32) x0)
set_option maxRecDepth 20000 in
theorem moX15_writeAll_230 {o : Hp} {F : Nat} {h : Hp} {x0 : Nat} {x1 : Nat} (hE : sX15_writeAll_230 F h x0 x1 = some o) : Le h o := by
  obtain ⟨o_1, eo_1, hE⟩ := cl_e hE
  refine (moX15_say eo_1).tr ?_
  obtain ⟨r_2, er_2, hE⟩ := cl_e hE
  obtain ⟨g_3, hE⟩ := gd_e hE
  obtain ⟨o_4, eo_4, hE⟩ := cl_e hE
  refine (moX15_say eo_4).tr ?_
  obtain ⟨r_5, er_5, hE⟩ := cl_e hE
  obtain ⟨g_6, hE⟩ := gd_e hE
  obtain ⟨o_7, eo_7, hE⟩ := cl_e hE
  refine (moX15_say eo_7).tr ?_
  obtain ⟨o_8, eo_8, hE⟩ := cl_e hE
  refine (moX15_say eo_8).tr ?_
  obtain ⟨o_9, eo_9, hE⟩ := cl_e hE
  refine (moX15_sayNumber eo_9).tr ?_
  exact le_some1 hE
set_option maxRecDepth 20000 in
theorem moX15_writeAll_168 {o : Hp} {k_145 : Hp → Nat → Nat → Int32 → Int32 → Option (Hp)} {k_153 : Hp → Nat → Nat → Int32 → Int32 → Int32 → Option (Hp)} {F : Nat} (mk_145 : ∀ (h : Hp) (x0 : Nat) (x1 : Nat) (x2 : Int32) (x3 : Int32), k_145 h x0 x1 x2 x3 = some o → Le h o) (mk_153 : ∀ (h : Hp) (x0 : Nat) (x1 : Nat) (x2 : Int32) (x3 : Int32) (x4 : Int32), k_153 h x0 x1 x2 x3 x4 = some o → Le h o) : ∀ (f : Nat) {h : Hp} {x0 : Nat} {x1 : Nat} {x2 : Int32} {x3 : Int32} {x4 : Int32} {x5 : Int32}, sX15_writeAll_168 F k_145 k_153 f h x0 x1 x2 x3 x4 x5 = some o → Le h o := by
  intro f
  induction f with
  | zero =>
    intro h x0 x1 x2 x3 x4 x5 hE
    rw [sX15_writeAll_168] at hE
    cases hE
  | succ f ih =>
    intro h x0 x1 x2 x3 x4 x5 hE
    rw [sX15_writeAll_168] at hE
    have mk_168 : ∀ (h : Hp) (x0 : Nat) (x1 : Nat) (x2 : Int32) (x3 : Int32) (x4 : Int32) (x5 : Int32), sX15_writeAll_168 F k_145 k_153 f h x0 x1 x2 x3 x4 x5 = some o → Le h o := fun h x0 x1 x2 x3 x4 x5 hE => ih hE
    obtain ⟨r_1, er_1, hE⟩ := cl_e hE
    obtain ⟨g_2, hE⟩ := gd_e hE
    rcases br_e hE with ⟨_, hE⟩ | ⟨_, hE⟩
    · obtain ⟨v_4, ev_4, hE⟩ := nm_e2 hE
      exact mk_153 _ _ _ _ _ _ hE
    · obtain ⟨o_5, eo_5, hE⟩ := cl_e hE
      refine (moX15_valueOf eo_5).tr ?_
      obtain ⟨o_6, eo_6, hE⟩ := cl_e hE
      refine (moX15_letterOf eo_6).tr ?_
      obtain ⟨o_7, eo_7, hE⟩ := cl_e hE
      refine (moX15_say eo_7).tr ?_
      obtain ⟨v_8, ev_8, hE⟩ := nm_e2 hE
      exact mk_168 _ _ _ _ _ _ _ hE
set_option maxRecDepth 20000 in
theorem moX15_writeAll_153 {o : Hp} {k_145 : Hp → Nat → Nat → Int32 → Int32 → Option (Hp)} {F : Nat} (mk_145 : ∀ (h : Hp) (x0 : Nat) (x1 : Nat) (x2 : Int32) (x3 : Int32), k_145 h x0 x1 x2 x3 = some o → Le h o) : ∀ (f : Nat) {h : Hp} {x0 : Nat} {x1 : Nat} {x2 : Int32} {x3 : Int32} {x4 : Int32}, sX15_writeAll_153 F k_145 f h x0 x1 x2 x3 x4 = some o → Le h o := by
  intro f
  induction f with
  | zero =>
    intro h x0 x1 x2 x3 x4 hE
    rw [sX15_writeAll_153] at hE
    cases hE
  | succ f ih =>
    intro h x0 x1 x2 x3 x4 hE
    rw [sX15_writeAll_153] at hE
    have mk_153 : ∀ (h : Hp) (x0 : Nat) (x1 : Nat) (x2 : Int32) (x3 : Int32) (x4 : Int32), sX15_writeAll_153 F k_145 f h x0 x1 x2 x3 x4 = some o → Le h o := fun h x0 x1 x2 x3 x4 hE => ih hE
    obtain ⟨r_1, er_1, hE⟩ := cl_e hE
    rcases br_e hE with ⟨_, hE⟩ | ⟨_, hE⟩
    · obtain ⟨v_3, ev_3, hE⟩ := nm_e2 hE
      exact mk_145 _ _ _ _ _ hE
    · exact moX15_writeAll_168 mk_145 mk_153 _ hE
set_option maxRecDepth 20000 in
theorem moX15_writeAll_145 {o : Hp} {F : Nat} : ∀ (f : Nat) {h : Hp} {x0 : Nat} {x1 : Nat} {x2 : Int32} {x3 : Int32}, sX15_writeAll_145 F f h x0 x1 x2 x3 = some o → Le h o := by
  intro f
  induction f with
  | zero =>
    intro h x0 x1 x2 x3 hE
    rw [sX15_writeAll_145] at hE
    cases hE
  | succ f ih =>
    intro h x0 x1 x2 x3 hE
    rw [sX15_writeAll_145] at hE
    have mk_145 : ∀ (h : Hp) (x0 : Nat) (x1 : Nat) (x2 : Int32) (x3 : Int32), sX15_writeAll_145 F f h x0 x1 x2 x3 = some o → Le h o := fun h x0 x1 x2 x3 hE => ih hE
    rcases br_e hE with ⟨_, hE⟩ | ⟨_, hE⟩
    · rcases br_e hE with ⟨_, hE⟩ | ⟨_, hE⟩
      · obtain ⟨o_3, eo_3, hE⟩ := cl_e hE
        refine (moX15_say eo_3).tr ?_
        exact moX15_writeAll_230 hE
      · exact moX15_writeAll_230 hE
    · exact moX15_writeAll_153 mk_145 _ hE
set_option maxRecDepth 20000 in
theorem moX15_writeAll_108 {o : Hp} {F : Nat} : ∀ (f : Nat) {h : Hp} {x0 : Nat} {x1 : Nat} {x2 : Int32}, sX15_writeAll_108 F f h x0 x1 x2 = some o → Le h o := by
  intro f
  induction f with
  | zero =>
    intro h x0 x1 x2 hE
    rw [sX15_writeAll_108] at hE
    cases hE
  | succ f ih =>
    intro h x0 x1 x2 hE
    rw [sX15_writeAll_108] at hE
    have mk_108 : ∀ (h : Hp) (x0 : Nat) (x1 : Nat) (x2 : Int32), sX15_writeAll_108 F f h x0 x1 x2 = some o → Le h o := fun h x0 x1 x2 hE => ih hE
    rcases br_e hE with ⟨_, hE⟩ | ⟨_, hE⟩
    · obtain ⟨o_2, eo_2, hE⟩ := cl_e hE
      refine (moX15_say eo_2).tr ?_
      obtain ⟨v_3, ev_3, hE⟩ := nm_e2 hE
      exact moX15_writeAll_145 _ hE
    · obtain ⟨r_4, er_4, hE⟩ := cl_e hE
      obtain ⟨g_5, hE⟩ := gd_e hE
      obtain ⟨o_6, eo_6, hE⟩ := cl_e hE
      refine (moX15_saySquare eo_6).tr ?_
      obtain ⟨v_7, ev_7, hE⟩ := nm_e2 hE
      exact mk_108 _ _ _ _ hE
set_option maxRecDepth 20000 in
theorem moX15_writeAll_106 {o : Hp} {F : Nat} {h : Hp} {x0 : Nat} {x1 : Nat} (hE : sX15_writeAll_106 F h x0 x1 = some o) : Le h o := by
  exact moX15_writeAll_108 _ hE
set_option maxRecDepth 20000 in
theorem moX15_writeAll_81 {o : Hp} {k_55 : Hp → Nat → Nat → Int32 → Option (Hp)} {F : Nat} (mk_55 : ∀ (h : Hp) (x0 : Nat) (x1 : Nat) (x2 : Int32), k_55 h x0 x1 x2 = some o → Le h o) {h : Hp} {x0 : Nat} {x1 : Nat} {x2 : Int32} (hE : sX15_writeAll_81 F k_55 h x0 x1 x2 = some o) : Le h o := by
  obtain ⟨v_1, ev_1, hE⟩ := nm_e2 hE
  exact mk_55 _ _ _ _ hE
set_option maxRecDepth 20000 in
theorem moX15_writeAll_55 {o : Hp} {F : Nat} : ∀ (f : Nat) {h : Hp} {x0 : Nat} {x1 : Nat} {x2 : Int32}, sX15_writeAll_55 F f h x0 x1 x2 = some o → Le h o := by
  intro f
  induction f with
  | zero =>
    intro h x0 x1 x2 hE
    rw [sX15_writeAll_55] at hE
    cases hE
  | succ f ih =>
    intro h x0 x1 x2 hE
    rw [sX15_writeAll_55] at hE
    have mk_55 : ∀ (h : Hp) (x0 : Nat) (x1 : Nat) (x2 : Int32), sX15_writeAll_55 F f h x0 x1 x2 = some o → Le h o := fun h x0 x1 x2 hE => ih hE
    rcases br_e hE with ⟨_, hE⟩ | ⟨_, hE⟩
    · obtain ⟨o_2, eo_2, hE⟩ := cl_e hE
      refine (moX15_say eo_2).tr ?_
      rcases br_e hE with ⟨_, hE⟩ | ⟨_, hE⟩
      · obtain ⟨o_4, eo_4, hE⟩ := cl_e hE
        refine (moX15_say eo_4).tr ?_
        exact moX15_writeAll_106 hE
      · exact moX15_writeAll_106 hE
    · rcases br_e hE with ⟨_, hE⟩ | ⟨_, hE⟩
      · obtain ⟨o_6, eo_6, hE⟩ := cl_e hE
        refine (moX15_saySquare eo_6).tr ?_
        exact moX15_writeAll_81 mk_55 hE
      · exact moX15_writeAll_81 mk_55 hE
set_option maxRecDepth 20000 in
theorem moX15_writeAll_53 {o : Hp} {F : Nat} {h : Hp} {x0 : Nat} {x1 : Nat} (hE : sX15_writeAll_53 F h x0 x1 = some o) : Le h o := by
  exact moX15_writeAll_55 _ hE
set_option maxRecDepth 20000 in
theorem moX15_writeAll_29 {o : Hp} {F : Nat} {h : Hp} {x0 : Nat} {x1 : Nat} {t0 : Int32} {t1 : Nat} (hE : sX15_writeAll_29 F h x0 x1 t0 t1 = some o) : Le h o := by
  obtain ⟨o_1, eo_1, hE⟩ := cl_e hE
  refine (moX15_say eo_1).tr ?_
  obtain ⟨o_2, eo_2, hE⟩ := cl_e hE
  refine (moX15_say eo_2).tr ?_
  rcases br_e hE with ⟨_, hE⟩ | ⟨_, hE⟩
  · obtain ⟨o_4, eo_4, hE⟩ := cl_e hE
    refine (moX15_say eo_4).tr ?_
    exact moX15_writeAll_53 hE
  · exact moX15_writeAll_53 hE
set_option maxRecDepth 20000 in
theorem moX15_writeAll {o : Hp} {F : Nat} {h : Hp} {x0 : Nat} {x1 : Nat} (hE : sX15_writeAll F h x0 x1 = some o) : Le h o := by
  obtain ⟨o_1, eo_1, hE⟩ := cl_e hE
  refine (moX15_writeMen eo_1).tr ?_
  obtain ⟨o_2, eo_2, hE⟩ := cl_e hE
  refine (moX15_say eo_2).tr ?_
  rcases br_e hE with ⟨_, hE⟩ | ⟨_, hE⟩
  · exact moX15_writeAll_29 hE
  · exact moX15_writeAll_29 hE
set_option maxRecDepth 20000 in
theorem bX15_writeAll_230 {p : Program} {l : Launch} {e : Env} {s : State} {m : MethodId} {args : Array Value} {below : List Frame} {meth : Method} {c : Code} {X : Ec} {h0 : Hp} {o : Hp} {F : Nat} (C : Cx X p s m args meth c RX15 cX15_writeAll 6 none "writeAll") {h : Hp} {x0 : Nat} {x1 : Nat} {H : Heap} {locs : List Loc} (k_x0 : hK h x0 = 15) (k_x1 : hK h x1 = 12) (hkm : Km h0 h) (hW : Wx X h H) (hZ : va_S (aA (eB X)) s.heap H locs) (ls : Array Slot) (hl : lv_has ls 6 [(0, .ref x0), (1, .ref x1)]) (hE : sX15_writeAll_230 F h x0 x1 = some o) : W p l e (rm 16 322) s m args below meth c H locs 0 0 (MQ below (QV X h0 o) args s 0 0 (aA (eB X))) (F0 m 230 ls []) := by
  refine lv_aload_n C.1 C.2.1 dX15_writeAll_230 rfl (lv_at hl 0 rfl) ?_
  refine lv_bipush (v := (32 : Int32)) C.1 C.2.1 dX15_writeAll_231 (by decide) ?_
  obtain ⟨o_1, eo_1, hE⟩ := cl_e hE
  refine x_kV (o := o_1) (z_runV (As := [.int (32 : Int32)]) (rest := []) C (ct_X15_say l X k_x0 eo_1) cw_X15_21 hW hZ k_x0 (by decide) rfl rfl rfl hl.1 (Nat.le_of_ble_eq_true rfl) rfl dX15_writeAll_233 ⟨Nat.le_of_ble_eq_true rfl, Nat.le_of_ble_eq_true rfl⟩ ⟨Nat.le_refl _, Nat.le_refl _⟩) hZ (fun _ _ hW km hZ => ?_)
  replace hkm := hkm.tr km
  replace k_x0 := km.at k_x0 (by decide)
  replace k_x1 := km.at k_x1 (by decide)
  refine lv_aload_n C.1 C.2.1 dX15_writeAll_236 rfl (lv_at hl 0 rfl) ?_
  refine lv_bipush (v := (48 : Int32)) C.1 C.2.1 dX15_writeAll_237 (by decide) ?_
  refine lv_aload_n C.1 C.2.1 dX15_writeAll_239 rfl (lv_at hl 1 rfl) ?_
  obtain ⟨r_2, er_2, hE⟩ := cl_e hE
  refine gf_X15_447 C hW k_x1 er_2 dX15_writeAll_240 (fun k_r_2 => ?_)
  refine lv_iconst (v := (0 : Int32)) C.1 C.2.1 dX15_writeAll_243 (by decide) ?_
  obtain ⟨g_3, hE⟩ := gd_e hE
  refine y_iald C hW k_r_2 g_3 dX15_writeAll_244 ?_
  refine lv_iadd C.1 C.2.1 dX15_writeAll_245 ?_
  obtain ⟨o_4, eo_4, hE⟩ := cl_e hE
  refine x_kV (o := o_4) (z_runV (As := [.int ((48 : Int32) + (hI o_1 r_2 (0 : Int32).toNatClampNeg))]) (rest := []) C (ct_X15_say l X k_x0 eo_4) cw_X15_21 hW hZ k_x0 (by decide) rfl rfl rfl hl.1 (Nat.le_of_ble_eq_true rfl) rfl dX15_writeAll_246 ⟨Nat.le_of_ble_eq_true rfl, Nat.le_of_ble_eq_true rfl⟩ ⟨Nat.le_refl _, Nat.le_refl _⟩) hZ (fun _ _ hW km hZ => ?_)
  replace hkm := hkm.tr km
  replace k_x0 := km.at k_x0 (by decide)
  replace k_x1 := km.at k_x1 (by decide)
  refine lv_aload_n C.1 C.2.1 dX15_writeAll_249 rfl (lv_at hl 0 rfl) ?_
  refine lv_bipush (v := (48 : Int32)) C.1 C.2.1 dX15_writeAll_250 (by decide) ?_
  refine lv_aload_n C.1 C.2.1 dX15_writeAll_252 rfl (lv_at hl 1 rfl) ?_
  obtain ⟨r_5, er_5, hE⟩ := cl_e hE
  refine gf_X15_447 C hW k_x1 er_5 dX15_writeAll_253 (fun k_r_5 => ?_)
  refine lv_iconst (v := (1 : Int32)) C.1 C.2.1 dX15_writeAll_256 (by decide) ?_
  obtain ⟨g_6, hE⟩ := gd_e hE
  refine y_iald C hW k_r_5 g_6 dX15_writeAll_257 ?_
  refine lv_iadd C.1 C.2.1 dX15_writeAll_258 ?_
  obtain ⟨o_7, eo_7, hE⟩ := cl_e hE
  refine x_kV (o := o_7) (z_runV (As := [.int ((48 : Int32) + (hI o_4 r_5 (1 : Int32).toNatClampNeg))]) (rest := []) C (ct_X15_say l X k_x0 eo_7) cw_X15_21 hW hZ k_x0 (by decide) rfl rfl rfl hl.1 (Nat.le_of_ble_eq_true rfl) rfl dX15_writeAll_259 ⟨Nat.le_of_ble_eq_true rfl, Nat.le_of_ble_eq_true rfl⟩ ⟨Nat.le_refl _, Nat.le_refl _⟩) hZ (fun _ _ hW km hZ => ?_)
  replace hkm := hkm.tr km
  replace k_x0 := km.at k_x0 (by decide)
  replace k_x1 := km.at k_x1 (by decide)
  refine lv_aload_n C.1 C.2.1 dX15_writeAll_262 rfl (lv_at hl 0 rfl) ?_
  refine lv_bipush (v := (32 : Int32)) C.1 C.2.1 dX15_writeAll_263 (by decide) ?_
  obtain ⟨o_8, eo_8, hE⟩ := cl_e hE
  refine x_kV (o := o_8) (z_runV (As := [.int (32 : Int32)]) (rest := []) C (ct_X15_say l X k_x0 eo_8) cw_X15_21 hW hZ k_x0 (by decide) rfl rfl rfl hl.1 (Nat.le_of_ble_eq_true rfl) rfl dX15_writeAll_265 ⟨Nat.le_of_ble_eq_true rfl, Nat.le_of_ble_eq_true rfl⟩ ⟨Nat.le_refl _, Nat.le_refl _⟩) hZ (fun _ _ hW km hZ => ?_)
  replace hkm := hkm.tr km
  replace k_x0 := km.at k_x0 (by decide)
  replace k_x1 := km.at k_x1 (by decide)
  refine lv_aload_n C.1 C.2.1 dX15_writeAll_268 rfl (lv_at hl 0 rfl) ?_
  refine lv_aload_n C.1 C.2.1 dX15_writeAll_269 rfl (lv_at hl 1 rfl) ?_
  refine gf_X15_449 C hW k_x1 dX15_writeAll_270 ?_
  obtain ⟨o_9, eo_9, hE⟩ := cl_e hE
  refine x_kV (o := o_9) (z_runV (As := [.int (hI o_8 x1 7)]) (rest := []) C (ct_X15_sayNumber l X F k_x0 eo_9) cw_X15_17 hW hZ k_x0 (by decide) rfl rfl rfl hl.1 (Nat.le_of_ble_eq_true rfl) rfl dX15_writeAll_273 ⟨Nat.le_of_ble_eq_true rfl, Nat.le_of_ble_eq_true rfl⟩ ⟨Nat.le_refl _, Nat.le_refl _⟩) hZ (fun _ _ hW km hZ => ?_)
  replace hkm := hkm.tr km
  replace k_x0 := km.at k_x0 (by decide)
  replace k_x1 := km.at k_x1 (by decide)
  exact x_vret C rfl hW hZ hkm hE dX15_writeAll_276
set_option maxRecDepth 20000 in
theorem bX15_writeAll_168 {p : Program} {l : Launch} {e : Env} {s : State} {m : MethodId} {args : Array Value} {below : List Frame} {meth : Method} {c : Code} {X : Ec} {h0 : Hp} {o : Hp} {k_145 : Hp → Nat → Nat → Int32 → Int32 → Option (Hp)} {k_153 : Hp → Nat → Nat → Int32 → Int32 → Int32 → Option (Hp)} {F : Nat} (C : Cx X p s m args meth c RX15 cX15_writeAll 6 none "writeAll") (hk_145 : ∀ (h : Hp) (x0 : Nat) (x1 : Nat) (x2 : Int32) (x3 : Int32) (H : Heap) (locs : List Loc), hK h x0 = 15 → hK h x1 = 12 → Km h0 h → Wx X h H → va_S (aA (eB X)) s.heap H locs → ∀ (ls : Array Slot), lv_has ls 6 [(0, .ref x0), (1, .ref x1), (2, .int x2), (3, .int x3)] → k_145 h x0 x1 x2 x3 = some o → W p l e (rm 16 322) s m args below meth c H locs 0 0 (MQ below (QV X h0 o) args s 0 0 (aA (eB X))) (F0 m 145 ls [])) (hk_153 : ∀ (h : Hp) (x0 : Nat) (x1 : Nat) (x2 : Int32) (x3 : Int32) (x4 : Int32) (H : Heap) (locs : List Loc), hK h x0 = 15 → hK h x1 = 12 → Km h0 h → Wx X h H → va_S (aA (eB X)) s.heap H locs → ∀ (ls : Array Slot), lv_has ls 6 [(0, .ref x0), (1, .ref x1), (2, .int x2), (3, .int x3), (4, .int x4)] → k_153 h x0 x1 x2 x3 x4 = some o → W p l e (rm 16 322) s m args below meth c H locs 0 0 (MQ below (QV X h0 o) args s 0 0 (aA (eB X))) (F0 m 153 ls [])) : ∀ (f : Nat) {h : Hp} {x0 : Nat} {x1 : Nat} {x2 : Int32} {x3 : Int32} {x4 : Int32} {x5 : Int32} {H : Heap} {locs : List Loc} (k_x0 : hK h x0 = 15) (k_x1 : hK h x1 = 12), Km h0 h → Wx X h H → va_S (aA (eB X)) s.heap H locs → ∀ (ls : Array Slot), lv_has ls 6 [(0, .ref x0), (1, .ref x1), (2, .int x2), (3, .int x3), (4, .int x4), (5, .int x5)] → sX15_writeAll_168 F k_145 k_153 f h x0 x1 x2 x3 x4 x5 = some o → W p l e (rm 16 322) s m args below meth c H locs 0 0 (MQ below (QV X h0 o) args s 0 0 (aA (eB X))) (F0 m 168 ls []) := by
  intro f
  induction f with
  | zero =>
    intro h x0 x1 x2 x3 x4 x5 H locs k_x0 k_x1 hkm hW hZ ls hl hE
    rw [sX15_writeAll_168] at hE
    cases hE
  | succ f ih =>
    intro h x0 x1 x2 x3 x4 x5 H locs k_x0 k_x1 hkm hW hZ ls hl hE
    rw [sX15_writeAll_168] at hE
    have hk_168 : ∀ (h : Hp) (x0 : Nat) (x1 : Nat) (x2 : Int32) (x3 : Int32) (x4 : Int32) (x5 : Int32) (H : Heap) (locs : List Loc), hK h x0 = 15 → hK h x1 = 12 → Km h0 h → Wx X h H → va_S (aA (eB X)) s.heap H locs → ∀ (ls : Array Slot), lv_has ls 6 [(0, .ref x0), (1, .ref x1), (2, .int x2), (3, .int x3), (4, .int x4), (5, .int x5)] → sX15_writeAll_168 F k_145 k_153 f h x0 x1 x2 x3 x4 x5 = some o → W p l e (rm 16 322) s m args below meth c H locs 0 0 (MQ below (QV X h0 o) args s 0 0 (aA (eB X))) (F0 m 168 ls []) := fun h x0 x1 x2 x3 x4 x5 H locs k_x0 k_x1 a b c ls hl hE => ih k_x0 k_x1 a b c ls hl hE
    refine lv_iload C.1 C.2.1 dX15_writeAll_168 (lv_at hl 5 rfl) ?_
    refine lv_aload_n C.1 C.2.1 dX15_writeAll_170 rfl (lv_at hl 1 rfl) ?_
    obtain ⟨r_1, er_1, hE⟩ := cl_e hE
    refine gf_X15_444 C hW k_x1 er_1 dX15_writeAll_171 (fun k_r_1 => ?_)
    refine lv_iconst (v := (2 : Int32)) C.1 C.2.1 dX15_writeAll_174 (by decide) ?_
    refine lv_iload C.1 C.2.1 dX15_writeAll_175 (lv_at hl 4 rfl) ?_
    refine lv_imul C.1 C.2.1 dX15_writeAll_177 ?_
    refine lv_iload_n C.1 C.2.1 dX15_writeAll_178 rfl (lv_at hl 3 rfl) ?_
    refine lv_iadd C.1 C.2.1 dX15_writeAll_179 ?_
    obtain ⟨g_2, hE⟩ := gd_e hE
    refine y_iald C hW k_r_1 g_2 dX15_writeAll_180 ?_
    refine lv_icmp_ge (tgt := 204) C.1 C.2.1 dX15_writeAll_181 (by decide) (fun c_3 => ?_) (fun c_3 => ?_)
    · have hE := br_p hE c_3
      obtain ⟨v_4, ev_4, hE⟩ := nm_e2 hE
      refine lv_iinc (v := v_4) (lv' := [(4, .int v_4), (0, .ref x0), (1, .ref x1), (2, .int x2), (3, .int x3), (5, .int x5)]) C.1 C.2.1 dX15_writeAll_204 hl (k := 4) rfl (by rw [ev_4]; rfl) (by decide) rfl (fun ls hl => ?_)
      refine lv_goto (tgt := 153) C.1 C.2.1 dX15_writeAll_207 (by decide) ?_
      exact hk_153 _ _ _ _ _ _ _ _ k_x0 k_x1 hkm hW hZ _ (lv_sub hl [1, 2, 3, 4, 0] rfl) hE
    · have hE := br_n hE c_3
      refine lv_aload_n C.1 C.2.1 dX15_writeAll_184 rfl (lv_at hl 0 rfl) ?_
      refine lv_aload_n C.1 C.2.1 dX15_writeAll_185 rfl (lv_at hl 0 rfl) ?_
      refine lv_iload C.1 C.2.1 dX15_writeAll_186 (lv_at hl 4 rfl) ?_
      refine lv_iload_n C.1 C.2.1 dX15_writeAll_188 rfl (lv_at hl 3 rfl) ?_
      obtain ⟨o_5, eo_5, hE⟩ := cl_e hE
      refine x_kI (o := o_5) (z_runS (As := [.int x4, .int x3]) (rest := [.ref x0, .ref x0]) C (ct_X15_valueOf l X eo_5) cw_X15_398 hW hZ rfl hl.1 (Nat.le_of_ble_eq_true rfl) rfl dX15_writeAll_189 ⟨Nat.le_of_ble_eq_true rfl, Nat.le_of_ble_eq_true rfl⟩ ⟨Nat.le_refl _, Nat.le_refl _⟩) hZ (fun _ _ hW km hZ => ?_)
      replace hkm := hkm.tr km
      replace k_x0 := km.at k_x0 (by decide)
      replace k_x1 := km.at k_x1 (by decide)
      obtain ⟨o_6, eo_6, hE⟩ := cl_e hE
      refine x_kI (o := o_6) (z_runV (As := [.int o_5.1]) (rest := [.ref x0]) C (ct_X15_letterOf l X k_x0 eo_6) cw_X15_527 hW hZ k_x0 (by decide) rfl rfl rfl hl.1 (Nat.le_of_ble_eq_true rfl) rfl dX15_writeAll_192 ⟨Nat.le_of_ble_eq_true rfl, Nat.le_of_ble_eq_true rfl⟩ ⟨Nat.le_refl _, Nat.le_refl _⟩) hZ (fun _ _ hW km hZ => ?_)
      replace hkm := hkm.tr km
      replace k_x0 := km.at k_x0 (by decide)
      replace k_x1 := km.at k_x1 (by decide)
      obtain ⟨o_7, eo_7, hE⟩ := cl_e hE
      refine x_kV (o := o_7) (z_runV (As := [.int o_6.1]) (rest := []) C (ct_X15_say l X k_x0 eo_7) cw_X15_21 hW hZ k_x0 (by decide) rfl rfl rfl hl.1 (Nat.le_of_ble_eq_true rfl) rfl dX15_writeAll_195 ⟨Nat.le_of_ble_eq_true rfl, Nat.le_of_ble_eq_true rfl⟩ ⟨Nat.le_refl _, Nat.le_refl _⟩) hZ (fun _ _ hW km hZ => ?_)
      replace hkm := hkm.tr km
      replace k_x0 := km.at k_x0 (by decide)
      replace k_x1 := km.at k_x1 (by decide)
      obtain ⟨v_8, ev_8, hE⟩ := nm_e2 hE
      refine lv_iinc (v := v_8) (lv' := [(5, .int v_8), (0, .ref x0), (1, .ref x1), (2, .int x2), (3, .int x3), (4, .int x4)]) C.1 C.2.1 dX15_writeAll_198 hl (k := 5) rfl (by rw [ev_8]; rfl) (by decide) rfl (fun ls hl => ?_)
      refine lv_goto (tgt := 168) C.1 C.2.1 dX15_writeAll_201 (by decide) ?_
      exact hk_168 _ _ _ _ _ _ _ _ _ k_x0 k_x1 hkm hW hZ _ (lv_sub hl [1, 2, 3, 4, 5, 0] rfl) hE
set_option maxRecDepth 20000 in
theorem bX15_writeAll_153 {p : Program} {l : Launch} {e : Env} {s : State} {m : MethodId} {args : Array Value} {below : List Frame} {meth : Method} {c : Code} {X : Ec} {h0 : Hp} {o : Hp} {k_145 : Hp → Nat → Nat → Int32 → Int32 → Option (Hp)} {F : Nat} (C : Cx X p s m args meth c RX15 cX15_writeAll 6 none "writeAll") (hk_145 : ∀ (h : Hp) (x0 : Nat) (x1 : Nat) (x2 : Int32) (x3 : Int32) (H : Heap) (locs : List Loc), hK h x0 = 15 → hK h x1 = 12 → Km h0 h → Wx X h H → va_S (aA (eB X)) s.heap H locs → ∀ (ls : Array Slot), lv_has ls 6 [(0, .ref x0), (1, .ref x1), (2, .int x2), (3, .int x3)] → k_145 h x0 x1 x2 x3 = some o → W p l e (rm 16 322) s m args below meth c H locs 0 0 (MQ below (QV X h0 o) args s 0 0 (aA (eB X))) (F0 m 145 ls [])) : ∀ (f : Nat) {h : Hp} {x0 : Nat} {x1 : Nat} {x2 : Int32} {x3 : Int32} {x4 : Int32} {H : Heap} {locs : List Loc} (k_x0 : hK h x0 = 15) (k_x1 : hK h x1 = 12), Km h0 h → Wx X h H → va_S (aA (eB X)) s.heap H locs → ∀ (ls : Array Slot), lv_has ls 6 [(0, .ref x0), (1, .ref x1), (2, .int x2), (3, .int x3), (4, .int x4)] → sX15_writeAll_153 F k_145 f h x0 x1 x2 x3 x4 = some o → W p l e (rm 16 322) s m args below meth c H locs 0 0 (MQ below (QV X h0 o) args s 0 0 (aA (eB X))) (F0 m 153 ls []) := by
  intro f
  induction f with
  | zero =>
    intro h x0 x1 x2 x3 x4 H locs k_x0 k_x1 hkm hW hZ ls hl hE
    rw [sX15_writeAll_153] at hE
    cases hE
  | succ f ih =>
    intro h x0 x1 x2 x3 x4 H locs k_x0 k_x1 hkm hW hZ ls hl hE
    rw [sX15_writeAll_153] at hE
    have hk_153 : ∀ (h : Hp) (x0 : Nat) (x1 : Nat) (x2 : Int32) (x3 : Int32) (x4 : Int32) (H : Heap) (locs : List Loc), hK h x0 = 15 → hK h x1 = 12 → Km h0 h → Wx X h H → va_S (aA (eB X)) s.heap H locs → ∀ (ls : Array Slot), lv_has ls 6 [(0, .ref x0), (1, .ref x1), (2, .int x2), (3, .int x3), (4, .int x4)] → sX15_writeAll_153 F k_145 f h x0 x1 x2 x3 x4 = some o → W p l e (rm 16 322) s m args below meth c H locs 0 0 (MQ below (QV X h0 o) args s 0 0 (aA (eB X))) (F0 m 153 ls []) := fun h x0 x1 x2 x3 x4 H locs k_x0 k_x1 a b c ls hl hE => ih k_x0 k_x1 a b c ls hl hE
    refine lv_iload C.1 C.2.1 dX15_writeAll_153 (lv_at hl 4 rfl) ?_
    refine lv_aload_n C.1 C.2.1 dX15_writeAll_155 rfl (lv_at hl 0 rfl) ?_
    obtain ⟨r_1, er_1, hE⟩ := cl_e hE
    refine gf_X15_252 C hW k_x0 er_1 dX15_writeAll_156 (fun k_r_1 => ?_)
    refine gf_X15_169 C hW k_r_1 dX15_writeAll_159 ?_
    refine lv_icmp_ge (tgt := 210) C.1 C.2.1 dX15_writeAll_162 (by decide) (fun c_2 => ?_) (fun c_2 => ?_)
    · have hE := br_p hE c_2
      obtain ⟨v_3, ev_3, hE⟩ := nm_e2 hE
      refine lv_iinc (v := v_3) (lv' := [(3, .int v_3), (0, .ref x0), (1, .ref x1), (2, .int x2), (4, .int x4)]) C.1 C.2.1 dX15_writeAll_210 hl (k := 3) rfl (by rw [ev_3]; rfl) (by decide) rfl (fun ls hl => ?_)
      refine lv_goto (tgt := 145) C.1 C.2.1 dX15_writeAll_213 (by decide) ?_
      exact hk_145 _ _ _ _ _ _ _ k_x0 k_x1 hkm hW hZ _ (lv_sub hl [1, 2, 3, 0] rfl) hE
    · have hE := br_n hE c_2
      refine lv_iconst (v := (0 : Int32)) C.1 C.2.1 dX15_writeAll_165 (by decide) ?_
      refine lv_istore (lv' := [(5, .int (0 : Int32)), (0, .ref x0), (1, .ref x1), (2, .int x2), (3, .int x3), (4, .int x4)]) C.1 C.2.1 dX15_writeAll_166 hl (by decide) rfl (fun ls hl => ?_)
      exact bX15_writeAll_168 C hk_145 hk_153 F k_x0 k_x1 hkm hW hZ _ (lv_sub hl [1, 2, 3, 4, 5, 0] rfl) hE
set_option maxRecDepth 20000 in
theorem bX15_writeAll_145 {p : Program} {l : Launch} {e : Env} {s : State} {m : MethodId} {args : Array Value} {below : List Frame} {meth : Method} {c : Code} {X : Ec} {h0 : Hp} {o : Hp} {F : Nat} (C : Cx X p s m args meth c RX15 cX15_writeAll 6 none "writeAll") : ∀ (f : Nat) {h : Hp} {x0 : Nat} {x1 : Nat} {x2 : Int32} {x3 : Int32} {H : Heap} {locs : List Loc} (k_x0 : hK h x0 = 15) (k_x1 : hK h x1 = 12), Km h0 h → Wx X h H → va_S (aA (eB X)) s.heap H locs → ∀ (ls : Array Slot), lv_has ls 6 [(0, .ref x0), (1, .ref x1), (2, .int x2), (3, .int x3)] → sX15_writeAll_145 F f h x0 x1 x2 x3 = some o → W p l e (rm 16 322) s m args below meth c H locs 0 0 (MQ below (QV X h0 o) args s 0 0 (aA (eB X))) (F0 m 145 ls []) := by
  intro f
  induction f with
  | zero =>
    intro h x0 x1 x2 x3 H locs k_x0 k_x1 hkm hW hZ ls hl hE
    rw [sX15_writeAll_145] at hE
    cases hE
  | succ f ih =>
    intro h x0 x1 x2 x3 H locs k_x0 k_x1 hkm hW hZ ls hl hE
    rw [sX15_writeAll_145] at hE
    have hk_145 : ∀ (h : Hp) (x0 : Nat) (x1 : Nat) (x2 : Int32) (x3 : Int32) (H : Heap) (locs : List Loc), hK h x0 = 15 → hK h x1 = 12 → Km h0 h → Wx X h H → va_S (aA (eB X)) s.heap H locs → ∀ (ls : Array Slot), lv_has ls 6 [(0, .ref x0), (1, .ref x1), (2, .int x2), (3, .int x3)] → sX15_writeAll_145 F f h x0 x1 x2 x3 = some o → W p l e (rm 16 322) s m args below meth c H locs 0 0 (MQ below (QV X h0 o) args s 0 0 (aA (eB X))) (F0 m 145 ls []) := fun h x0 x1 x2 x3 H locs k_x0 k_x1 a b c ls hl hE => ih k_x0 k_x1 a b c ls hl hE
    refine lv_iload_n C.1 C.2.1 dX15_writeAll_145 rfl (lv_at hl 3 rfl) ?_
    refine lv_iconst (v := (2 : Int32)) C.1 C.2.1 dX15_writeAll_146 (by decide) ?_
    refine lv_icmp_ge (tgt := 216) C.1 C.2.1 dX15_writeAll_147 (by decide) (fun c_1 => ?_) (fun c_1 => ?_)
    · have hE := br_p hE c_1
      refine lv_aload_n C.1 C.2.1 dX15_writeAll_216 rfl (lv_at hl 0 rfl) ?_
      refine gf_X15_11 C hW k_x0 dX15_writeAll_217 ?_
      refine lv_iload_n C.1 C.2.1 dX15_writeAll_220 rfl (lv_at hl 2 rfl) ?_
      refine lv_icmp_ne (tgt := 230) C.1 C.2.1 dX15_writeAll_221 (by decide) (fun c_2 => ?_) (fun c_2 => ?_)
      · have hE := br_n hE c_2
        exact bX15_writeAll_230 C k_x0 k_x1 hkm hW hZ _ (lv_sub hl [0, 1] rfl) hE
      · have hE := br_p hE c_2
        refine lv_aload_n C.1 C.2.1 dX15_writeAll_224 rfl (lv_at hl 0 rfl) ?_
        refine lv_bipush (v := (45 : Int32)) C.1 C.2.1 dX15_writeAll_225 (by decide) ?_
        obtain ⟨o_3, eo_3, hE⟩ := cl_e hE
        refine x_kV (o := o_3) (z_runV (As := [.int (45 : Int32)]) (rest := []) C (ct_X15_say l X k_x0 eo_3) cw_X15_21 hW hZ k_x0 (by decide) rfl rfl rfl hl.1 (Nat.le_of_ble_eq_true rfl) rfl dX15_writeAll_227 ⟨Nat.le_of_ble_eq_true rfl, Nat.le_of_ble_eq_true rfl⟩ ⟨Nat.le_refl _, Nat.le_refl _⟩) hZ (fun _ _ hW km hZ => ?_)
        replace hkm := hkm.tr km
        replace k_x0 := km.at k_x0 (by decide)
        replace k_x1 := km.at k_x1 (by decide)
        exact bX15_writeAll_230 C k_x0 k_x1 hkm hW hZ _ (lv_sub hl [0, 1] rfl) hE
    · have hE := br_n hE c_1
      refine lv_iconst (v := (0 : Int32)) C.1 C.2.1 dX15_writeAll_150 (by decide) ?_
      refine lv_istore (lv' := [(4, .int (0 : Int32)), (0, .ref x0), (1, .ref x1), (2, .int x2), (3, .int x3)]) C.1 C.2.1 dX15_writeAll_151 hl (by decide) rfl (fun ls hl => ?_)
      exact bX15_writeAll_153 C hk_145 F k_x0 k_x1 hkm hW hZ _ (lv_sub hl [1, 2, 3, 4, 0] rfl) hE
set_option maxRecDepth 20000 in
theorem bX15_writeAll_108 {p : Program} {l : Launch} {e : Env} {s : State} {m : MethodId} {args : Array Value} {below : List Frame} {meth : Method} {c : Code} {X : Ec} {h0 : Hp} {o : Hp} {F : Nat} (C : Cx X p s m args meth c RX15 cX15_writeAll 6 none "writeAll") : ∀ (f : Nat) {h : Hp} {x0 : Nat} {x1 : Nat} {x2 : Int32} {H : Heap} {locs : List Loc} (k_x0 : hK h x0 = 15) (k_x1 : hK h x1 = 12), Km h0 h → Wx X h H → va_S (aA (eB X)) s.heap H locs → ∀ (ls : Array Slot), lv_has ls 6 [(0, .ref x0), (1, .ref x1), (2, .int x2)] → sX15_writeAll_108 F f h x0 x1 x2 = some o → W p l e (rm 16 322) s m args below meth c H locs 0 0 (MQ below (QV X h0 o) args s 0 0 (aA (eB X))) (F0 m 108 ls []) := by
  intro f
  induction f with
  | zero =>
    intro h x0 x1 x2 H locs k_x0 k_x1 hkm hW hZ ls hl hE
    rw [sX15_writeAll_108] at hE
    cases hE
  | succ f ih =>
    intro h x0 x1 x2 H locs k_x0 k_x1 hkm hW hZ ls hl hE
    rw [sX15_writeAll_108] at hE
    have hk_108 : ∀ (h : Hp) (x0 : Nat) (x1 : Nat) (x2 : Int32) (H : Heap) (locs : List Loc), hK h x0 = 15 → hK h x1 = 12 → Km h0 h → Wx X h H → va_S (aA (eB X)) s.heap H locs → ∀ (ls : Array Slot), lv_has ls 6 [(0, .ref x0), (1, .ref x1), (2, .int x2)] → sX15_writeAll_108 F f h x0 x1 x2 = some o → W p l e (rm 16 322) s m args below meth c H locs 0 0 (MQ below (QV X h0 o) args s 0 0 (aA (eB X))) (F0 m 108 ls []) := fun h x0 x1 x2 H locs k_x0 k_x1 a b c ls hl hE => ih k_x0 k_x1 a b c ls hl hE
    refine lv_iload_n C.1 C.2.1 dX15_writeAll_108 rfl (lv_at hl 2 rfl) ?_
    refine lv_aload_n C.1 C.2.1 dX15_writeAll_109 rfl (lv_at hl 1 rfl) ?_
    refine gf_X15_441 C hW k_x1 dX15_writeAll_110 ?_
    refine lv_icmp_ge (tgt := 132) C.1 C.2.1 dX15_writeAll_113 (by decide) (fun c_1 => ?_) (fun c_1 => ?_)
    · have hE := br_p hE c_1
      refine lv_aload_n C.1 C.2.1 dX15_writeAll_132 rfl (lv_at hl 0 rfl) ?_
      refine lv_bipush (v := (32 : Int32)) C.1 C.2.1 dX15_writeAll_133 (by decide) ?_
      obtain ⟨o_2, eo_2, hE⟩ := cl_e hE
      refine x_kV (o := o_2) (z_runV (As := [.int (32 : Int32)]) (rest := []) C (ct_X15_say l X k_x0 eo_2) cw_X15_21 hW hZ k_x0 (by decide) rfl rfl rfl hl.1 (Nat.le_of_ble_eq_true rfl) rfl dX15_writeAll_135 ⟨Nat.le_of_ble_eq_true rfl, Nat.le_of_ble_eq_true rfl⟩ ⟨Nat.le_refl _, Nat.le_refl _⟩) hZ (fun _ _ hW km hZ => ?_)
      replace hkm := hkm.tr km
      replace k_x0 := km.at k_x0 (by decide)
      replace k_x1 := km.at k_x1 (by decide)
      refine lv_aload_n C.1 C.2.1 dX15_writeAll_138 rfl (lv_at hl 0 rfl) ?_
      refine gf_X15_11 C hW k_x0 dX15_writeAll_139 ?_
      obtain ⟨v_3, ev_3, hE⟩ := nm_e2 hE
      refine x_nmI ev_3 ?_
      refine lv_istore_n (lv' := [(2, .int v_3), (0, .ref x0), (1, .ref x1)]) C.1 C.2.1 dX15_writeAll_142 rfl hl (by decide) rfl (fun ls hl => ?_)
      refine lv_iconst (v := (0 : Int32)) C.1 C.2.1 dX15_writeAll_143 (by decide) ?_
      refine lv_istore_n (lv' := [(3, .int (0 : Int32)), (2, .int v_3), (0, .ref x0), (1, .ref x1)]) C.1 C.2.1 dX15_writeAll_144 rfl hl (by decide) rfl (fun ls hl => ?_)
      exact bX15_writeAll_145 C F k_x0 k_x1 hkm hW hZ _ (lv_sub hl [2, 3, 1, 0] rfl) hE
    · have hE := br_n hE c_1
      refine lv_aload_n C.1 C.2.1 dX15_writeAll_116 rfl (lv_at hl 0 rfl) ?_
      refine lv_aload_n C.1 C.2.1 dX15_writeAll_117 rfl (lv_at hl 1 rfl) ?_
      obtain ⟨r_4, er_4, hE⟩ := cl_e hE
      refine gf_X15_439 C hW k_x1 er_4 dX15_writeAll_118 (fun k_r_4 => ?_)
      refine lv_iload_n C.1 C.2.1 dX15_writeAll_121 rfl (lv_at hl 2 rfl) ?_
      obtain ⟨g_5, hE⟩ := gd_e hE
      refine y_iald C hW k_r_4 g_5 dX15_writeAll_122 ?_
      obtain ⟨o_6, eo_6, hE⟩ := cl_e hE
      refine x_kV (o := o_6) (z_runV (As := [.int (hI h r_4 x2.toNatClampNeg)]) (rest := []) C (ct_X15_saySquare l X k_x0 eo_6) cw_X15_539 hW hZ k_x0 (by decide) rfl rfl rfl hl.1 (Nat.le_of_ble_eq_true rfl) rfl dX15_writeAll_123 ⟨Nat.le_of_ble_eq_true rfl, Nat.le_of_ble_eq_true rfl⟩ ⟨Nat.le_refl _, Nat.le_refl _⟩) hZ (fun _ _ hW km hZ => ?_)
      replace hkm := hkm.tr km
      replace k_x0 := km.at k_x0 (by decide)
      replace k_x1 := km.at k_x1 (by decide)
      obtain ⟨v_7, ev_7, hE⟩ := nm_e2 hE
      refine lv_iinc (v := v_7) (lv' := [(2, .int v_7), (0, .ref x0), (1, .ref x1)]) C.1 C.2.1 dX15_writeAll_126 hl (k := 2) rfl (by rw [ev_7]; rfl) (by decide) rfl (fun ls hl => ?_)
      refine lv_goto (tgt := 108) C.1 C.2.1 dX15_writeAll_129 (by decide) ?_
      exact hk_108 _ _ _ _ _ _ k_x0 k_x1 hkm hW hZ _ (lv_sub hl [1, 2, 0] rfl) hE
set_option maxRecDepth 20000 in
theorem bX15_writeAll_106 {p : Program} {l : Launch} {e : Env} {s : State} {m : MethodId} {args : Array Value} {below : List Frame} {meth : Method} {c : Code} {X : Ec} {h0 : Hp} {o : Hp} {F : Nat} (C : Cx X p s m args meth c RX15 cX15_writeAll 6 none "writeAll") {h : Hp} {x0 : Nat} {x1 : Nat} {H : Heap} {locs : List Loc} (k_x0 : hK h x0 = 15) (k_x1 : hK h x1 = 12) (hkm : Km h0 h) (hW : Wx X h H) (hZ : va_S (aA (eB X)) s.heap H locs) (ls : Array Slot) (hl : lv_has ls 6 [(0, .ref x0), (1, .ref x1)]) (hE : sX15_writeAll_106 F h x0 x1 = some o) : W p l e (rm 16 322) s m args below meth c H locs 0 0 (MQ below (QV X h0 o) args s 0 0 (aA (eB X))) (F0 m 106 ls []) := by
  refine lv_iconst (v := (0 : Int32)) C.1 C.2.1 dX15_writeAll_106 (by decide) ?_
  refine lv_istore_n (lv' := [(2, .int (0 : Int32)), (0, .ref x0), (1, .ref x1)]) C.1 C.2.1 dX15_writeAll_107 rfl hl (by decide) rfl (fun ls hl => ?_)
  exact bX15_writeAll_108 C F k_x0 k_x1 hkm hW hZ _ (lv_sub hl [1, 2, 0] rfl) hE
set_option maxRecDepth 20000 in
theorem bX15_writeAll_81 {p : Program} {l : Launch} {e : Env} {s : State} {m : MethodId} {args : Array Value} {below : List Frame} {meth : Method} {c : Code} {X : Ec} {h0 : Hp} {o : Hp} {k_55 : Hp → Nat → Nat → Int32 → Option (Hp)} {F : Nat} (C : Cx X p s m args meth c RX15 cX15_writeAll 6 none "writeAll") (hk_55 : ∀ (h : Hp) (x0 : Nat) (x1 : Nat) (x2 : Int32) (H : Heap) (locs : List Loc), hK h x0 = 15 → hK h x1 = 12 → Km h0 h → Wx X h H → va_S (aA (eB X)) s.heap H locs → ∀ (ls : Array Slot), lv_has ls 6 [(0, .ref x0), (1, .ref x1), (2, .int x2)] → k_55 h x0 x1 x2 = some o → W p l e (rm 16 322) s m args below meth c H locs 0 0 (MQ below (QV X h0 o) args s 0 0 (aA (eB X))) (F0 m 55 ls [])) {h : Hp} {x0 : Nat} {x1 : Nat} {x2 : Int32} {H : Heap} {locs : List Loc} (k_x0 : hK h x0 = 15) (k_x1 : hK h x1 = 12) (hkm : Km h0 h) (hW : Wx X h H) (hZ : va_S (aA (eB X)) s.heap H locs) (ls : Array Slot) (hl : lv_has ls 6 [(0, .ref x0), (1, .ref x1), (2, .int x2)]) (hE : sX15_writeAll_81 F k_55 h x0 x1 x2 = some o) : W p l e (rm 16 322) s m args below meth c H locs 0 0 (MQ below (QV X h0 o) args s 0 0 (aA (eB X))) (F0 m 81 ls []) := by
  obtain ⟨v_1, ev_1, hE⟩ := nm_e2 hE
  refine lv_iinc (v := v_1) (lv' := [(2, .int v_1), (0, .ref x0), (1, .ref x1)]) C.1 C.2.1 dX15_writeAll_81 hl (k := 2) rfl (by rw [ev_1]; rfl) (by decide) rfl (fun ls hl => ?_)
  refine lv_goto (tgt := 55) C.1 C.2.1 dX15_writeAll_84 (by decide) ?_
  exact hk_55 _ _ _ _ _ _ k_x0 k_x1 hkm hW hZ _ (lv_sub hl [1, 2, 0] rfl) hE
set_option maxRecDepth 20000 in
theorem bX15_writeAll_55 {p : Program} {l : Launch} {e : Env} {s : State} {m : MethodId} {args : Array Value} {below : List Frame} {meth : Method} {c : Code} {X : Ec} {h0 : Hp} {o : Hp} {F : Nat} (C : Cx X p s m args meth c RX15 cX15_writeAll 6 none "writeAll") : ∀ (f : Nat) {h : Hp} {x0 : Nat} {x1 : Nat} {x2 : Int32} {H : Heap} {locs : List Loc} (k_x0 : hK h x0 = 15) (k_x1 : hK h x1 = 12), Km h0 h → Wx X h H → va_S (aA (eB X)) s.heap H locs → ∀ (ls : Array Slot), lv_has ls 6 [(0, .ref x0), (1, .ref x1), (2, .int x2)] → sX15_writeAll_55 F f h x0 x1 x2 = some o → W p l e (rm 16 322) s m args below meth c H locs 0 0 (MQ below (QV X h0 o) args s 0 0 (aA (eB X))) (F0 m 55 ls []) := by
  intro f
  induction f with
  | zero =>
    intro h x0 x1 x2 H locs k_x0 k_x1 hkm hW hZ ls hl hE
    rw [sX15_writeAll_55] at hE
    cases hE
  | succ f ih =>
    intro h x0 x1 x2 H locs k_x0 k_x1 hkm hW hZ ls hl hE
    rw [sX15_writeAll_55] at hE
    have hk_55 : ∀ (h : Hp) (x0 : Nat) (x1 : Nat) (x2 : Int32) (H : Heap) (locs : List Loc), hK h x0 = 15 → hK h x1 = 12 → Km h0 h → Wx X h H → va_S (aA (eB X)) s.heap H locs → ∀ (ls : Array Slot), lv_has ls 6 [(0, .ref x0), (1, .ref x1), (2, .int x2)] → sX15_writeAll_55 F f h x0 x1 x2 = some o → W p l e (rm 16 322) s m args below meth c H locs 0 0 (MQ below (QV X h0 o) args s 0 0 (aA (eB X))) (F0 m 55 ls []) := fun h x0 x1 x2 H locs k_x0 k_x1 a b c ls hl hE => ih k_x0 k_x1 a b c ls hl hE
    refine lv_iload_n C.1 C.2.1 dX15_writeAll_55 rfl (lv_at hl 2 rfl) ?_
    refine lv_aload_n C.1 C.2.1 dX15_writeAll_56 rfl (lv_at hl 0 rfl) ?_
    refine gf_X15_384 C hW k_x0 dX15_writeAll_57 ?_
    refine lv_icmp_ge (tgt := 87) C.1 C.2.1 dX15_writeAll_60 (by decide) (fun c_1 => ?_) (fun c_1 => ?_)
    · have hE := br_p hE c_1
      refine lv_aload_n C.1 C.2.1 dX15_writeAll_87 rfl (lv_at hl 0 rfl) ?_
      refine lv_bipush (v := (32 : Int32)) C.1 C.2.1 dX15_writeAll_88 (by decide) ?_
      obtain ⟨o_2, eo_2, hE⟩ := cl_e hE
      refine x_kV (o := o_2) (z_runV (As := [.int (32 : Int32)]) (rest := []) C (ct_X15_say l X k_x0 eo_2) cw_X15_21 hW hZ k_x0 (by decide) rfl rfl rfl hl.1 (Nat.le_of_ble_eq_true rfl) rfl dX15_writeAll_90 ⟨Nat.le_of_ble_eq_true rfl, Nat.le_of_ble_eq_true rfl⟩ ⟨Nat.le_refl _, Nat.le_refl _⟩) hZ (fun _ _ hW km hZ => ?_)
      replace hkm := hkm.tr km
      replace k_x0 := km.at k_x0 (by decide)
      replace k_x1 := km.at k_x1 (by decide)
      refine lv_aload_n C.1 C.2.1 dX15_writeAll_93 rfl (lv_at hl 1 rfl) ?_
      refine gf_X15_441 C hW k_x1 dX15_writeAll_94 ?_
      refine lv_if_ne (tgt := 106) C.1 C.2.1 dX15_writeAll_97 (by decide) (fun c_3 => ?_) (fun c_3 => ?_)
      · have hE := br_n hE c_3
        exact bX15_writeAll_106 C k_x0 k_x1 hkm hW hZ _ (lv_sub hl [0, 1] rfl) hE
      · have hE := br_p hE c_3
        refine lv_aload_n C.1 C.2.1 dX15_writeAll_100 rfl (lv_at hl 0 rfl) ?_
        refine lv_bipush (v := (45 : Int32)) C.1 C.2.1 dX15_writeAll_101 (by decide) ?_
        obtain ⟨o_4, eo_4, hE⟩ := cl_e hE
        refine x_kV (o := o_4) (z_runV (As := [.int (45 : Int32)]) (rest := []) C (ct_X15_say l X k_x0 eo_4) cw_X15_21 hW hZ k_x0 (by decide) rfl rfl rfl hl.1 (Nat.le_of_ble_eq_true rfl) rfl dX15_writeAll_103 ⟨Nat.le_of_ble_eq_true rfl, Nat.le_of_ble_eq_true rfl⟩ ⟨Nat.le_refl _, Nat.le_refl _⟩) hZ (fun _ _ hW km hZ => ?_)
        replace hkm := hkm.tr km
        replace k_x0 := km.at k_x0 (by decide)
        replace k_x1 := km.at k_x1 (by decide)
        exact bX15_writeAll_106 C k_x0 k_x1 hkm hW hZ _ (lv_sub hl [0, 1] rfl) hE
    · have hE := br_n hE c_1
      refine lv_aload_n C.1 C.2.1 dX15_writeAll_63 rfl (lv_at hl 1 rfl) ?_
      refine gf_X15_436 C hW k_x1 dX15_writeAll_64 ?_
      refine lv_iload_n C.1 C.2.1 dX15_writeAll_67 rfl (lv_at hl 2 rfl) ?_
      refine lv_lshr C.1 C.2.1 dX15_writeAll_68 rfl ?_
      refine lv_lconst (v := (1 : Int64)) C.1 C.2.1 dX15_writeAll_69 (by decide) ?_
      refine lv_land C.1 C.2.1 dX15_writeAll_70 ?_
      refine lv_lconst (v := (1 : Int64)) C.1 C.2.1 dX15_writeAll_71 (by decide) ?_
      refine W.lcmp C.1 C.2.1 dX15_writeAll_72 ?_
      refine lv_if_ne (tgt := 81) C.1 C.2.1 dX15_writeAll_73 (by decide) (fun c_5 => ?_) (fun c_5 => ?_)
      · have hE := br_n hE c_5
        exact bX15_writeAll_81 C hk_55 k_x0 k_x1 hkm hW hZ _ (lv_sub hl [0, 1, 2] rfl) hE
      · have hE := br_p hE c_5
        refine lv_aload_n C.1 C.2.1 dX15_writeAll_76 rfl (lv_at hl 0 rfl) ?_
        refine lv_iload_n C.1 C.2.1 dX15_writeAll_77 rfl (lv_at hl 2 rfl) ?_
        obtain ⟨o_6, eo_6, hE⟩ := cl_e hE
        refine x_kV (o := o_6) (z_runV (As := [.int x2]) (rest := []) C (ct_X15_saySquare l X k_x0 eo_6) cw_X15_539 hW hZ k_x0 (by decide) rfl rfl rfl hl.1 (Nat.le_of_ble_eq_true rfl) rfl dX15_writeAll_78 ⟨Nat.le_of_ble_eq_true rfl, Nat.le_of_ble_eq_true rfl⟩ ⟨Nat.le_refl _, Nat.le_refl _⟩) hZ (fun _ _ hW km hZ => ?_)
        replace hkm := hkm.tr km
        replace k_x0 := km.at k_x0 (by decide)
        replace k_x1 := km.at k_x1 (by decide)
        exact bX15_writeAll_81 C hk_55 k_x0 k_x1 hkm hW hZ _ (lv_sub hl [0, 1, 2] rfl) hE
set_option maxRecDepth 20000 in
theorem bX15_writeAll_53 {p : Program} {l : Launch} {e : Env} {s : State} {m : MethodId} {args : Array Value} {below : List Frame} {meth : Method} {c : Code} {X : Ec} {h0 : Hp} {o : Hp} {F : Nat} (C : Cx X p s m args meth c RX15 cX15_writeAll 6 none "writeAll") {h : Hp} {x0 : Nat} {x1 : Nat} {H : Heap} {locs : List Loc} (k_x0 : hK h x0 = 15) (k_x1 : hK h x1 = 12) (hkm : Km h0 h) (hW : Wx X h H) (hZ : va_S (aA (eB X)) s.heap H locs) (ls : Array Slot) (hl : lv_has ls 6 [(0, .ref x0), (1, .ref x1)]) (hE : sX15_writeAll_53 F h x0 x1 = some o) : W p l e (rm 16 322) s m args below meth c H locs 0 0 (MQ below (QV X h0 o) args s 0 0 (aA (eB X))) (F0 m 53 ls []) := by
  refine lv_iconst (v := (0 : Int32)) C.1 C.2.1 dX15_writeAll_53 (by decide) ?_
  refine lv_istore_n (lv' := [(2, .int (0 : Int32)), (0, .ref x0), (1, .ref x1)]) C.1 C.2.1 dX15_writeAll_54 rfl hl (by decide) rfl (fun ls hl => ?_)
  exact bX15_writeAll_55 C F k_x0 k_x1 hkm hW hZ _ (lv_sub hl [1, 2, 0] rfl) hE
set_option maxRecDepth 20000 in
theorem bX15_writeAll_29 {p : Program} {l : Launch} {e : Env} {s : State} {m : MethodId} {args : Array Value} {below : List Frame} {meth : Method} {c : Code} {X : Ec} {h0 : Hp} {o : Hp} {F : Nat} (C : Cx X p s m args meth c RX15 cX15_writeAll 6 none "writeAll") {h : Hp} {x0 : Nat} {x1 : Nat} {t0 : Int32} {t1 : Nat} {H : Heap} {locs : List Loc} (k_x0 : hK h x0 = 15) (k_x1 : hK h x1 = 12) (k_t1 : hK h t1 = 15) (hkm : Km h0 h) (hW : Wx X h H) (hZ : va_S (aA (eB X)) s.heap H locs) (ls : Array Slot) (hl : lv_has ls 6 [(0, .ref x0), (1, .ref x1)]) (hE : sX15_writeAll_29 F h x0 x1 t0 t1 = some o) : W p l e (rm 16 322) s m args below meth c H locs 0 0 (MQ below (QV X h0 o) args s 0 0 (aA (eB X))) (F0 m 29 ls [.int t0, .ref t1]) := by
  obtain ⟨o_1, eo_1, hE⟩ := cl_e hE
  refine x_kV (o := o_1) (z_runV (As := [.int t0]) (rest := []) C (ct_X15_say l X k_t1 eo_1) cw_X15_21 hW hZ k_t1 (by decide) rfl rfl rfl hl.1 (Nat.le_of_ble_eq_true rfl) rfl dX15_writeAll_29 ⟨Nat.le_of_ble_eq_true rfl, Nat.le_of_ble_eq_true rfl⟩ ⟨Nat.le_refl _, Nat.le_refl _⟩) hZ (fun _ _ hW km hZ => ?_)
  replace hkm := hkm.tr km
  replace k_x0 := km.at k_x0 (by decide)
  replace k_x1 := km.at k_x1 (by decide)
  refine lv_aload_n C.1 C.2.1 dX15_writeAll_32 rfl (lv_at hl 0 rfl) ?_
  refine lv_bipush (v := (32 : Int32)) C.1 C.2.1 dX15_writeAll_33 (by decide) ?_
  obtain ⟨o_2, eo_2, hE⟩ := cl_e hE
  refine x_kV (o := o_2) (z_runV (As := [.int (32 : Int32)]) (rest := []) C (ct_X15_say l X k_x0 eo_2) cw_X15_21 hW hZ k_x0 (by decide) rfl rfl rfl hl.1 (Nat.le_of_ble_eq_true rfl) rfl dX15_writeAll_35 ⟨Nat.le_of_ble_eq_true rfl, Nat.le_of_ble_eq_true rfl⟩ ⟨Nat.le_refl _, Nat.le_refl _⟩) hZ (fun _ _ hW km hZ => ?_)
  replace hkm := hkm.tr km
  replace k_x0 := km.at k_x0 (by decide)
  replace k_x1 := km.at k_x1 (by decide)
  refine lv_aload_n C.1 C.2.1 dX15_writeAll_38 rfl (lv_at hl 1 rfl) ?_
  refine gf_X15_436 C hW k_x1 dX15_writeAll_39 ?_
  refine lv_lconst (v := (0 : Int64)) C.1 C.2.1 dX15_writeAll_42 (by decide) ?_
  refine W.lcmp C.1 C.2.1 dX15_writeAll_43 ?_
  refine lv_if_ne (tgt := 53) C.1 C.2.1 dX15_writeAll_44 (by decide) (fun c_3 => ?_) (fun c_3 => ?_)
  · have hE := br_n hE c_3
    exact bX15_writeAll_53 C k_x0 k_x1 hkm hW hZ _ (lv_sub hl [0, 1] rfl) hE
  · have hE := br_p hE c_3
    refine lv_aload_n C.1 C.2.1 dX15_writeAll_47 rfl (lv_at hl 0 rfl) ?_
    refine lv_bipush (v := (45 : Int32)) C.1 C.2.1 dX15_writeAll_48 (by decide) ?_
    obtain ⟨o_4, eo_4, hE⟩ := cl_e hE
    refine x_kV (o := o_4) (z_runV (As := [.int (45 : Int32)]) (rest := []) C (ct_X15_say l X k_x0 eo_4) cw_X15_21 hW hZ k_x0 (by decide) rfl rfl rfl hl.1 (Nat.le_of_ble_eq_true rfl) rfl dX15_writeAll_50 ⟨Nat.le_of_ble_eq_true rfl, Nat.le_of_ble_eq_true rfl⟩ ⟨Nat.le_refl _, Nat.le_refl _⟩) hZ (fun _ _ hW km hZ => ?_)
    replace hkm := hkm.tr km
    replace k_x0 := km.at k_x0 (by decide)
    replace k_x1 := km.at k_x1 (by decide)
    exact bX15_writeAll_53 C k_x0 k_x1 hkm hW hZ _ (lv_sub hl [0, 1] rfl) hE
set_option maxRecDepth 20000 in
theorem ct_X15_writeAll (l : Launch) (X : Ec) (F : Nat) {h : Hp} {x0 : Nat} {x1 : Nat} {o : Hp} (k_x0 : hK h x0 = 15) (k_x1 : hK h x1 = 12) (hE : sX15_writeAll F h x0 x1 = some o) : MetV l yX15_writeAll cX15_writeAll 6 none 16 322 X [.ref x0, .ref x1] h o := by
  refine x_met (by decide) (Nat.le_of_ble_eq_true rfl) ?_
  intro p e s m below meth c ls C hl hW hZ
  have hl : lv_has ls 6 [(0, .ref x0), (1, .ref x1)] := hl
  have hkm : Km h h := Km.rf h
  refine lv_aload_n C.1 C.2.1 dX15_writeAll_0 rfl (lv_at hl 0 rfl) ?_
  refine lv_aload_n C.1 C.2.1 dX15_writeAll_1 rfl (lv_at hl 1 rfl) ?_
  refine lv_ldc2 (v := (-1 : Int64)) C.1 C.2.1 C.2.2.2.1 (C.2.2.2.2.1 _ m_2479) dX15_writeAll_2 ?_
  obtain ⟨o_1, eo_1, hE⟩ := cl_e hE
  refine x_kV (o := o_1) (z_runV (As := [.ref x1, .long (-1 : Int64)]) (rest := []) C (ct_X15_writeMen l X F k_x0 k_x1 eo_1) cw_X15_535 hW hZ k_x0 (by decide) rfl rfl rfl hl.1 (Nat.le_of_ble_eq_true rfl) rfl dX15_writeAll_5 ⟨Nat.le_of_ble_eq_true rfl, Nat.le_of_ble_eq_true rfl⟩ ⟨Nat.le_refl _, Nat.le_refl _⟩) hZ (fun _ _ hW km hZ => ?_)
  replace hkm := hkm.tr km
  replace k_x0 := km.at k_x0 (by decide)
  replace k_x1 := km.at k_x1 (by decide)
  refine lv_aload_n C.1 C.2.1 dX15_writeAll_8 rfl (lv_at hl 0 rfl) ?_
  refine lv_bipush (v := (32 : Int32)) C.1 C.2.1 dX15_writeAll_9 (by decide) ?_
  obtain ⟨o_2, eo_2, hE⟩ := cl_e hE
  refine x_kV (o := o_2) (z_runV (As := [.int (32 : Int32)]) (rest := []) C (ct_X15_say l X k_x0 eo_2) cw_X15_21 hW hZ k_x0 (by decide) rfl rfl rfl hl.1 (Nat.le_of_ble_eq_true rfl) rfl dX15_writeAll_11 ⟨Nat.le_of_ble_eq_true rfl, Nat.le_of_ble_eq_true rfl⟩ ⟨Nat.le_refl _, Nat.le_refl _⟩) hZ (fun _ _ hW km hZ => ?_)
  replace hkm := hkm.tr km
  replace k_x0 := km.at k_x0 (by decide)
  replace k_x1 := km.at k_x1 (by decide)
  refine lv_aload_n C.1 C.2.1 dX15_writeAll_14 rfl (lv_at hl 0 rfl) ?_
  refine lv_aload_n C.1 C.2.1 dX15_writeAll_15 rfl (lv_at hl 1 rfl) ?_
  refine gf_X15_452 C hW k_x1 dX15_writeAll_16 ?_
  refine lv_if_ne (tgt := 27) C.1 C.2.1 dX15_writeAll_19 (by decide) (fun c_3 => ?_) (fun c_3 => ?_)
  · have hE := br_n hE c_3
    refine lv_bipush (v := (98 : Int32)) C.1 C.2.1 dX15_writeAll_27 (by decide) ?_
    exact bX15_writeAll_29 C k_x0 k_x1 k_x0 hkm hW hZ _ (lv_sub hl [0, 1] rfl) hE
  · have hE := br_p hE c_3
    refine lv_bipush (v := (119 : Int32)) C.1 C.2.1 dX15_writeAll_22 (by decide) ?_
    refine lv_goto (tgt := 29) C.1 C.2.1 dX15_writeAll_24 (by decide) ?_
    exact bX15_writeAll_29 C k_x0 k_x1 k_x0 hkm hW hZ _ (lv_sub hl [0, 1] rfl) hE
set_option maxRecDepth 100000 in
theorem ms_161 : Cond.selects RX15 yX15_writeAll yX15_writeAll ∈ W0 := w0_in (List.mem_append_left _ (List.mem_of_getElem? (i := 161) rfl)) rfl
set_option maxRecDepth 100000 in
theorem m_2475 : Cond.methodLink RX15 542 yX15_writeAll ∈ W0 := w0_in (List.mem_append_right _ (List.mem_of_getElem? (i := 2475) rfl)) rfl
set_option maxRecDepth 100000 in
theorem m_2477 : Cond.instanceMethod yX15_writeAll ∈ W0 := w0_in (List.mem_append_right _ (List.mem_of_getElem? (i := 2477) rfl)) rfl
set_option maxRecDepth 100000 in
theorem m_2478 : Cond.code yX15_writeAll cX15_writeAll 6 none ∈ W0 := w0_in (List.mem_append_right _ (List.mem_of_getElem? (i := 2478) rfl)) rfl
theorem cw_X15_542 : cwd RX15 542 yX15_writeAll cX15_writeAll 6 none false 1 := ⟨m_2478, m_2475, m_19, ⟨m_2477, ms_161⟩, by decide, by decide, by decide +kernel⟩
theorem dX15_write_0 : decode cX15_write 0 = .ok (.aload_n 0, 1) := by decide +kernel
theorem dX15_write_1 : decode cX15_write 1 = .ok (.iload_n 1, 1) := by decide +kernel
theorem dX15_write_2 : decode cX15_write 2 = .ok (.invokevirtual 486, 3) := by decide +kernel
theorem dX15_write_5 : decode cX15_write 5 = .ok (.ifCond .ne 6, 3) := by decide +kernel
theorem dX15_write_8 : decode cX15_write 8 = .ok (.bipush (-102), 2) := by decide +kernel
theorem dX15_write_10 : decode cX15_write 10 = .ok (.ireturn, 1) := by decide +kernel
theorem dX15_write_11 : decode cX15_write 11 = .ok (.aload_n 0, 1) := by decide +kernel
theorem dX15_write_12 : decode cX15_write 12 = .ok (.iconst 0, 1) := by decide +kernel
theorem dX15_write_13 : decode cX15_write 13 = .ok (.putfield 11, 3) := by decide +kernel
theorem dX15_write_16 : decode cX15_write 16 = .ok (.aload_n 0, 1) := by decide +kernel
theorem dX15_write_17 : decode cX15_write 17 = .ok (.aload_n 0, 1) := by decide +kernel
theorem dX15_write_18 : decode cX15_write 18 = .ok (.getfield 257, 3) := by decide +kernel
theorem dX15_write_21 : decode cX15_write 21 = .ok (.iload_n 1, 1) := by decide +kernel
theorem dX15_write_22 : decode cX15_write 22 = .ok (.aaload, 1) := by decide +kernel
theorem dX15_write_23 : decode cX15_write 23 = .ok (.invokevirtual 542, 3) := by decide +kernel
theorem dX15_write_26 : decode cX15_write 26 = .ok (.aload_n 0, 1) := by decide +kernel
theorem dX15_write_27 : decode cX15_write 27 = .ok (.getfield 11, 3) := by decide +kernel
theorem dX15_write_30 : decode cX15_write 30 = .ok (.ireturn, 1) := by decide +kernel
def sX15_write (F : Nat) (h : Hp) (x0 : Nat) (x1 : Int32) : Option (Int32 × Hp) := cl (sX15_has h x0 x1) fun o_1 => br (o_1.1 = 0) (some ((-102 : Int32), o_1.2)) (nm (wI o_1.2 x0 3 (0 : Int32)) fun h_3 => cl (hR h_3 x0 14) fun r_4 => gd (inB x1 (hN h_3 r_4)) <| cl (hR h_3 r_4 x1.toNatClampNeg) fun r_6 => cl (sX15_writeAll F h_3 x0 r_6) fun o_7 => some (hI o_7 x0 3, o_7))
set_option maxRecDepth 20000 in
theorem moX15_write {o : Int32 × Hp} {F : Nat} {h : Hp} {x0 : Nat} {x1 : Int32} (hE : sX15_write F h x0 x1 = some o) : Le h o.2 := by
  obtain ⟨o_1, eo_1, hE⟩ := cl_e hE
  refine (moX15_has eo_1).tr ?_
  rcases br_e hE with ⟨_, hE⟩ | ⟨_, hE⟩
  · exact le_some2 hE
  · obtain ⟨h_3, eh_3, hE⟩ := nm_e2 hE
    refine (le_I eh_3).tr ?_
    obtain ⟨r_4, er_4, hE⟩ := cl_e hE
    obtain ⟨g_5, hE⟩ := gd_e hE
    obtain ⟨r_6, er_6, hE⟩ := cl_e hE
    obtain ⟨o_7, eo_7, hE⟩ := cl_e hE
    refine (moX15_writeAll eo_7).tr ?_
    exact le_some2 hE
set_option maxRecDepth 20000 in
theorem ct_X15_write (l : Launch) (X : Ec) (F : Nat) {h : Hp} {x0 : Nat} {x1 : Int32} {o : Int32 × Hp} (k_x0 : hK h x0 = 15) (hE : sX15_write F h x0 x1 = some o) : MetI l yX15_write cX15_write 2 (some .int) 17 347 X [.ref x0, .int x1] h o := by
  refine x_met (by decide) (Nat.le_of_ble_eq_true rfl) ?_
  intro p e s m below meth c ls C hl hW hZ
  have hl : lv_has ls 2 [(0, .ref x0), (1, .int x1)] := hl
  have hkm : Km h h := Km.rf h
  refine lv_aload_n C.1 C.2.1 dX15_write_0 rfl (lv_at hl 0 rfl) ?_
  refine lv_iload_n C.1 C.2.1 dX15_write_1 rfl (lv_at hl 1 rfl) ?_
  obtain ⟨o_1, eo_1, hE⟩ := cl_e hE
  refine x_kI (o := o_1) (z_runV (As := [.int x1]) (rest := []) C (ct_X15_has l X k_x0 eo_1) cw_X15_486 hW hZ k_x0 (by decide) rfl rfl rfl hl.1 (Nat.le_of_ble_eq_true rfl) rfl dX15_write_2 ⟨Nat.le_of_ble_eq_true rfl, Nat.le_of_ble_eq_true rfl⟩ ⟨Nat.le_refl _, Nat.le_refl _⟩) hZ (fun _ _ hW km hZ => ?_)
  replace hkm := hkm.tr km
  replace k_x0 := km.at k_x0 (by decide)
  refine lv_if_ne (tgt := 11) C.1 C.2.1 dX15_write_5 (by decide) (fun c_2 => ?_) (fun c_2 => ?_)
  · have hE := br_n hE c_2
    refine lv_aload_n C.1 C.2.1 dX15_write_11 rfl (lv_at hl 0 rfl) ?_
    refine lv_iconst (v := (0 : Int32)) C.1 C.2.1 dX15_write_12 (by decide) ?_
    obtain ⟨h_3, eh_3, hE⟩ := nm_e2 hE
    refine pf_X15_11 C hW hZ k_x0 eh_3 dX15_write_13 (fun _ _ hW km hZ => ?_)
    replace hkm := hkm.tr km
    replace k_x0 := km.at k_x0 (by decide)
    refine lv_aload_n C.1 C.2.1 dX15_write_16 rfl (lv_at hl 0 rfl) ?_
    refine lv_aload_n C.1 C.2.1 dX15_write_17 rfl (lv_at hl 0 rfl) ?_
    obtain ⟨r_4, er_4, hE⟩ := cl_e hE
    refine gf_X15_257 C hW k_x0 er_4 dX15_write_18 (fun k_r_4 => ?_)
    refine lv_iload_n C.1 C.2.1 dX15_write_21 rfl (lv_at hl 1 rfl) ?_
    obtain ⟨g_5, hE⟩ := gd_e hE
    obtain ⟨r_6, er_6, hE⟩ := cl_e hE
    refine y_aald (t0 := 5) C hW k_r_4 (by decide) (by decide) rfl rfl rfl (fun _ => rfl) g_5 er_6 dX15_write_22 (fun k_r_6 => ?_)
    obtain ⟨o_7, eo_7, hE⟩ := cl_e hE
    refine x_kV (o := o_7) (z_runV (As := [.ref r_6]) (rest := []) C (ct_X15_writeAll l X F k_x0 k_r_6 eo_7) cw_X15_542 hW hZ k_x0 (by decide) rfl rfl rfl hl.1 (Nat.le_of_ble_eq_true rfl) rfl dX15_write_23 ⟨Nat.le_of_ble_eq_true rfl, Nat.le_of_ble_eq_true rfl⟩ ⟨Nat.le_refl _, Nat.le_refl _⟩) hZ (fun _ _ hW km hZ => ?_)
    replace hkm := hkm.tr km
    replace k_x0 := km.at k_x0 (by decide)
    refine lv_aload_n C.1 C.2.1 dX15_write_26 rfl (lv_at hl 0 rfl) ?_
    refine gf_X15_11 C hW k_x0 dX15_write_27 ?_
    exact x_iret C rfl rfl hW hZ hkm hE dX15_write_30
  · have hE := br_p hE c_2
    refine lv_bipush (v := (-102 : Int32)) C.1 C.2.1 dX15_write_8 (by decide) ?_
    exact x_iret C rfl rfl hW hZ hkm hE dX15_write_10
theorem dX15_hasMen_0 : decode cX15_hasMen 0 = .ok (.iconst 0, 1) := by decide +kernel
theorem dX15_hasMen_1 : decode cX15_hasMen 1 = .ok (.istore_n 3, 1) := by decide +kernel
theorem dX15_hasMen_2 : decode cX15_hasMen 2 = .ok (.iload_n 3, 1) := by decide +kernel
theorem dX15_hasMen_3 : decode cX15_hasMen 3 = .ok (.aload_n 0, 1) := by decide +kernel
theorem dX15_hasMen_4 : decode cX15_hasMen 4 = .ok (.getfield 384, 3) := by decide +kernel
theorem dX15_hasMen_7 : decode cX15_hasMen 7 = .ok (.if_icmp .ge 33, 3) := by decide +kernel
theorem dX15_hasMen_10 : decode cX15_hasMen 10 = .ok (.aload_n 1, 1) := by decide +kernel
theorem dX15_hasMen_11 : decode cX15_hasMen 11 = .ok (.getfield 396, 3) := by decide +kernel
theorem dX15_hasMen_14 : decode cX15_hasMen 14 = .ok (.iload_n 3, 1) := by decide +kernel
theorem dX15_hasMen_15 : decode cX15_hasMen 15 = .ok (.iaload, 1) := by decide +kernel
theorem dX15_hasMen_16 : decode cX15_hasMen 16 = .ok (.ifCond .le 18, 3) := by decide +kernel
theorem dX15_hasMen_19 : decode cX15_hasMen 19 = .ok (.aload_n 1, 1) := by decide +kernel
theorem dX15_hasMen_20 : decode cX15_hasMen 20 = .ok (.getfield 396, 3) := by decide +kernel
theorem dX15_hasMen_23 : decode cX15_hasMen 23 = .ok (.iload_n 3, 1) := by decide +kernel
theorem dX15_hasMen_24 : decode cX15_hasMen 24 = .ok (.iaload, 1) := by decide +kernel
theorem dX15_hasMen_25 : decode cX15_hasMen 25 = .ok (.invokestatic 489, 3) := by decide +kernel
theorem dX15_hasMen_28 : decode cX15_hasMen 28 = .ok (.iload_n 2, 1) := by decide +kernel
theorem dX15_hasMen_29 : decode cX15_hasMen 29 = .ok (.if_icmp .ne 5, 3) := by decide +kernel
theorem dX15_hasMen_32 : decode cX15_hasMen 32 = .ok (.iconst 1, 1) := by decide +kernel
theorem dX15_hasMen_33 : decode cX15_hasMen 33 = .ok (.ireturn, 1) := by decide +kernel
theorem dX15_hasMen_34 : decode cX15_hasMen 34 = .ok (.iinc 3 1, 3) := by decide +kernel
theorem dX15_hasMen_37 : decode cX15_hasMen 37 = .ok (.goto (-35), 3) := by decide +kernel
theorem dX15_hasMen_40 : decode cX15_hasMen 40 = .ok (.iconst 0, 1) := by decide +kernel
theorem dX15_hasMen_41 : decode cX15_hasMen 41 = .ok (.istore_n 3, 1) := by decide +kernel
theorem dX15_hasMen_42 : decode cX15_hasMen 42 = .ok (.iload_n 3, 1) := by decide +kernel
theorem dX15_hasMen_43 : decode cX15_hasMen 43 = .ok (.aload_n 0, 1) := by decide +kernel
theorem dX15_hasMen_44 : decode cX15_hasMen 44 = .ok (.getfield 252, 3) := by decide +kernel
theorem dX15_hasMen_47 : decode cX15_hasMen 47 = .ok (.getfield 169, 3) := by decide +kernel
theorem dX15_hasMen_50 : decode cX15_hasMen 50 = .ok (.if_icmp .ge 24, 3) := by decide +kernel
theorem dX15_hasMen_53 : decode cX15_hasMen 53 = .ok (.aload_n 1, 1) := by decide +kernel
theorem dX15_hasMen_54 : decode cX15_hasMen 54 = .ok (.getfield 444, 3) := by decide +kernel
theorem dX15_hasMen_57 : decode cX15_hasMen 57 = .ok (.iconst 2, 1) := by decide +kernel
theorem dX15_hasMen_58 : decode cX15_hasMen 58 = .ok (.iload_n 3, 1) := by decide +kernel
theorem dX15_hasMen_59 : decode cX15_hasMen 59 = .ok (.imul, 1) := by decide +kernel
theorem dX15_hasMen_60 : decode cX15_hasMen 60 = .ok (.iload_n 2, 1) := by decide +kernel
theorem dX15_hasMen_61 : decode cX15_hasMen 61 = .ok (.iadd, 1) := by decide +kernel
theorem dX15_hasMen_62 : decode cX15_hasMen 62 = .ok (.iaload, 1) := by decide +kernel
theorem dX15_hasMen_63 : decode cX15_hasMen 63 = .ok (.ifCond .le 5, 3) := by decide +kernel
theorem dX15_hasMen_66 : decode cX15_hasMen 66 = .ok (.iconst 1, 1) := by decide +kernel
theorem dX15_hasMen_67 : decode cX15_hasMen 67 = .ok (.ireturn, 1) := by decide +kernel
theorem dX15_hasMen_68 : decode cX15_hasMen 68 = .ok (.iinc 3 1, 3) := by decide +kernel
theorem dX15_hasMen_71 : decode cX15_hasMen 71 = .ok (.goto (-29), 3) := by decide +kernel
theorem dX15_hasMen_74 : decode cX15_hasMen 74 = .ok (.iconst 0, 1) := by decide +kernel
theorem dX15_hasMen_75 : decode cX15_hasMen 75 = .ok (.ireturn, 1) := by decide +kernel
def sX15_hasMen_42 (F : Nat) : Nat → Hp → Nat → Nat → Int32 → Int32 → Option (Int32 × Hp)
  | 0, _, _, _, _, _ => none
  | f + 1, h, x0, x1, x2, x3 => cl (hR h x0 4) fun r_1 => br ((hI h r_1 2) ≤ x3) (some ((0 : Int32), h)) (cl (hR h x1 5) fun r_3 => gd (inB (((2 : Int32) * x3) + x2) (hN h r_3)) <| br ((hI h r_3 (((2 : Int32) * x3) + x2).toNatClampNeg) ≤ 0) (nm (x3 + (1 : Int32)) fun v_6 => sX15_hasMen_42 F f h x0 x1 x2 v_6) (some ((1 : Int32), h)))
def sX15_hasMen_34 (F : Nat) (k_2 : Hp → Nat → Nat → Int32 → Int32 → Option (Int32 × Hp)) (h : Hp) (x0 : Nat) (x1 : Nat) (x2 : Int32) (x3 : Int32) : Option (Int32 × Hp) := nm (x3 + (1 : Int32)) fun v_1 => k_2 h x0 x1 x2 v_1
def sX15_hasMen_2 (F : Nat) : Nat → Hp → Nat → Nat → Int32 → Int32 → Option (Int32 × Hp)
  | 0, _, _, _, _, _ => none
  | f + 1, h, x0, x1, x2, x3 => br ((hI h x0 13) ≤ x3) (sX15_hasMen_42 F F h x0 x1 x2 (0 : Int32)) (cl (hR h x1 0) fun r_2 => gd (inB x3 (hN h r_2)) <| br ((hI h r_2 x3.toNatClampNeg) ≤ 0) (sX15_hasMen_34 F (sX15_hasMen_2 F f) h x0 x1 x2 x3) (cl (hR h x1 0) fun r_5 => gd (inB x3 (hN h r_5)) <| cl (sX15_sideOf h (hI h r_5 x3.toNatClampNeg)) fun o_7 => br (o_7.1 = x2) (some ((1 : Int32), o_7.2)) (sX15_hasMen_34 F (sX15_hasMen_2 F f) o_7.2 x0 x1 x2 x3)))
def sX15_hasMen (F : Nat) (h : Hp) (x0 : Nat) (x1 : Nat) (x2 : Int32) : Option (Int32 × Hp) := sX15_hasMen_2 F F h x0 x1 x2 (0 : Int32)
set_option maxRecDepth 20000 in
theorem moX15_hasMen_42 {o : Int32 × Hp} {F : Nat} : ∀ (f : Nat) {h : Hp} {x0 : Nat} {x1 : Nat} {x2 : Int32} {x3 : Int32}, sX15_hasMen_42 F f h x0 x1 x2 x3 = some o → Le h o.2 := by
  intro f
  induction f with
  | zero =>
    intro h x0 x1 x2 x3 hE
    rw [sX15_hasMen_42] at hE
    cases hE
  | succ f ih =>
    intro h x0 x1 x2 x3 hE
    rw [sX15_hasMen_42] at hE
    have mk_42 : ∀ (h : Hp) (x0 : Nat) (x1 : Nat) (x2 : Int32) (x3 : Int32), sX15_hasMen_42 F f h x0 x1 x2 x3 = some o → Le h o.2 := fun h x0 x1 x2 x3 hE => ih hE
    obtain ⟨r_1, er_1, hE⟩ := cl_e hE
    rcases br_e hE with ⟨_, hE⟩ | ⟨_, hE⟩
    · exact le_some2 hE
    · obtain ⟨r_3, er_3, hE⟩ := cl_e hE
      obtain ⟨g_4, hE⟩ := gd_e hE
      rcases br_e hE with ⟨_, hE⟩ | ⟨_, hE⟩
      · obtain ⟨v_6, ev_6, hE⟩ := nm_e2 hE
        exact mk_42 _ _ _ _ _ hE
      · exact le_some2 hE
set_option maxRecDepth 20000 in
theorem moX15_hasMen_34 {o : Int32 × Hp} {k_2 : Hp → Nat → Nat → Int32 → Int32 → Option (Int32 × Hp)} {F : Nat} (mk_2 : ∀ (h : Hp) (x0 : Nat) (x1 : Nat) (x2 : Int32) (x3 : Int32), k_2 h x0 x1 x2 x3 = some o → Le h o.2) {h : Hp} {x0 : Nat} {x1 : Nat} {x2 : Int32} {x3 : Int32} (hE : sX15_hasMen_34 F k_2 h x0 x1 x2 x3 = some o) : Le h o.2 := by
  obtain ⟨v_1, ev_1, hE⟩ := nm_e2 hE
  exact mk_2 _ _ _ _ _ hE
set_option maxRecDepth 20000 in
theorem moX15_hasMen_2 {o : Int32 × Hp} {F : Nat} : ∀ (f : Nat) {h : Hp} {x0 : Nat} {x1 : Nat} {x2 : Int32} {x3 : Int32}, sX15_hasMen_2 F f h x0 x1 x2 x3 = some o → Le h o.2 := by
  intro f
  induction f with
  | zero =>
    intro h x0 x1 x2 x3 hE
    rw [sX15_hasMen_2] at hE
    cases hE
  | succ f ih =>
    intro h x0 x1 x2 x3 hE
    rw [sX15_hasMen_2] at hE
    have mk_2 : ∀ (h : Hp) (x0 : Nat) (x1 : Nat) (x2 : Int32) (x3 : Int32), sX15_hasMen_2 F f h x0 x1 x2 x3 = some o → Le h o.2 := fun h x0 x1 x2 x3 hE => ih hE
    rcases br_e hE with ⟨_, hE⟩ | ⟨_, hE⟩
    · exact moX15_hasMen_42 _ hE
    · obtain ⟨r_2, er_2, hE⟩ := cl_e hE
      obtain ⟨g_3, hE⟩ := gd_e hE
      rcases br_e hE with ⟨_, hE⟩ | ⟨_, hE⟩
      · exact moX15_hasMen_34 mk_2 hE
      · obtain ⟨r_5, er_5, hE⟩ := cl_e hE
        obtain ⟨g_6, hE⟩ := gd_e hE
        obtain ⟨o_7, eo_7, hE⟩ := cl_e hE
        refine (moX15_sideOf eo_7).tr ?_
        rcases br_e hE with ⟨_, hE⟩ | ⟨_, hE⟩
        · exact le_some2 hE
        · exact moX15_hasMen_34 mk_2 hE
set_option maxRecDepth 20000 in
theorem moX15_hasMen {o : Int32 × Hp} {F : Nat} {h : Hp} {x0 : Nat} {x1 : Nat} {x2 : Int32} (hE : sX15_hasMen F h x0 x1 x2 = some o) : Le h o.2 := by
  exact moX15_hasMen_2 _ hE
set_option maxRecDepth 20000 in
theorem bX15_hasMen_42 {p : Program} {l : Launch} {e : Env} {s : State} {m : MethodId} {args : Array Value} {below : List Frame} {meth : Method} {c : Code} {X : Ec} {h0 : Hp} {o : Int32 × Hp} {F : Nat} (C : Cx X p s m args meth c RX15 cX15_hasMen 4 (some .boolean) "hasMen") : ∀ (f : Nat) {h : Hp} {x0 : Nat} {x1 : Nat} {x2 : Int32} {x3 : Int32} {H : Heap} {locs : List Loc} (k_x0 : hK h x0 = 15) (k_x1 : hK h x1 = 12), Km h0 h → Wx X h H → va_S (aA (eB X)) s.heap H locs → ∀ (ls : Array Slot), lv_has ls 4 [(0, .ref x0), (1, .ref x1), (2, .int x2), (3, .int x3)] → sX15_hasMen_42 F f h x0 x1 x2 x3 = some o → W p l e (rm 1 20) s m args below meth c H locs 0 0 (MQ below (QI X h0 o.1 o.2) args s 0 0 (aA (eB X))) (F0 m 42 ls []) := by
  intro f
  induction f with
  | zero =>
    intro h x0 x1 x2 x3 H locs k_x0 k_x1 hkm hW hZ ls hl hE
    rw [sX15_hasMen_42] at hE
    cases hE
  | succ f ih =>
    intro h x0 x1 x2 x3 H locs k_x0 k_x1 hkm hW hZ ls hl hE
    rw [sX15_hasMen_42] at hE
    have hk_42 : ∀ (h : Hp) (x0 : Nat) (x1 : Nat) (x2 : Int32) (x3 : Int32) (H : Heap) (locs : List Loc), hK h x0 = 15 → hK h x1 = 12 → Km h0 h → Wx X h H → va_S (aA (eB X)) s.heap H locs → ∀ (ls : Array Slot), lv_has ls 4 [(0, .ref x0), (1, .ref x1), (2, .int x2), (3, .int x3)] → sX15_hasMen_42 F f h x0 x1 x2 x3 = some o → W p l e (rm 1 20) s m args below meth c H locs 0 0 (MQ below (QI X h0 o.1 o.2) args s 0 0 (aA (eB X))) (F0 m 42 ls []) := fun h x0 x1 x2 x3 H locs k_x0 k_x1 a b c ls hl hE => ih k_x0 k_x1 a b c ls hl hE
    refine lv_iload_n C.1 C.2.1 dX15_hasMen_42 rfl (lv_at hl 3 rfl) ?_
    refine lv_aload_n C.1 C.2.1 dX15_hasMen_43 rfl (lv_at hl 0 rfl) ?_
    obtain ⟨r_1, er_1, hE⟩ := cl_e hE
    refine gf_X15_252 C hW k_x0 er_1 dX15_hasMen_44 (fun k_r_1 => ?_)
    refine gf_X15_169 C hW k_r_1 dX15_hasMen_47 ?_
    refine lv_icmp_ge (tgt := 74) C.1 C.2.1 dX15_hasMen_50 (by decide) (fun c_2 => ?_) (fun c_2 => ?_)
    · have hE := br_p hE c_2
      refine lv_iconst (v := (0 : Int32)) C.1 C.2.1 dX15_hasMen_74 (by decide) ?_
      exact x_iret C rfl (by decide) hW hZ hkm hE dX15_hasMen_75
    · have hE := br_n hE c_2
      refine lv_aload_n C.1 C.2.1 dX15_hasMen_53 rfl (lv_at hl 1 rfl) ?_
      obtain ⟨r_3, er_3, hE⟩ := cl_e hE
      refine gf_X15_444 C hW k_x1 er_3 dX15_hasMen_54 (fun k_r_3 => ?_)
      refine lv_iconst (v := (2 : Int32)) C.1 C.2.1 dX15_hasMen_57 (by decide) ?_
      refine lv_iload_n C.1 C.2.1 dX15_hasMen_58 rfl (lv_at hl 3 rfl) ?_
      refine lv_imul C.1 C.2.1 dX15_hasMen_59 ?_
      refine lv_iload_n C.1 C.2.1 dX15_hasMen_60 rfl (lv_at hl 2 rfl) ?_
      refine lv_iadd C.1 C.2.1 dX15_hasMen_61 ?_
      obtain ⟨g_4, hE⟩ := gd_e hE
      refine y_iald C hW k_r_3 g_4 dX15_hasMen_62 ?_
      refine lv_if_le (tgt := 68) C.1 C.2.1 dX15_hasMen_63 (by decide) (fun c_5 => ?_) (fun c_5 => ?_)
      · have hE := br_p hE c_5
        obtain ⟨v_6, ev_6, hE⟩ := nm_e2 hE
        refine lv_iinc (v := v_6) (lv' := [(3, .int v_6), (0, .ref x0), (1, .ref x1), (2, .int x2)]) C.1 C.2.1 dX15_hasMen_68 hl (k := 3) rfl (by rw [ev_6]; rfl) (by decide) rfl (fun ls hl => ?_)
        refine lv_goto (tgt := 42) C.1 C.2.1 dX15_hasMen_71 (by decide) ?_
        exact hk_42 _ _ _ _ _ _ _ k_x0 k_x1 hkm hW hZ _ (lv_sub hl [1, 2, 3, 0] rfl) hE
      · have hE := br_n hE c_5
        refine lv_iconst (v := (1 : Int32)) C.1 C.2.1 dX15_hasMen_66 (by decide) ?_
        exact x_iret C rfl (by decide) hW hZ hkm hE dX15_hasMen_67
set_option maxRecDepth 20000 in
theorem bX15_hasMen_34 {p : Program} {l : Launch} {e : Env} {s : State} {m : MethodId} {args : Array Value} {below : List Frame} {meth : Method} {c : Code} {X : Ec} {h0 : Hp} {o : Int32 × Hp} {k_2 : Hp → Nat → Nat → Int32 → Int32 → Option (Int32 × Hp)} {F : Nat} (C : Cx X p s m args meth c RX15 cX15_hasMen 4 (some .boolean) "hasMen") (hk_2 : ∀ (h : Hp) (x0 : Nat) (x1 : Nat) (x2 : Int32) (x3 : Int32) (H : Heap) (locs : List Loc), hK h x0 = 15 → hK h x1 = 12 → Km h0 h → Wx X h H → va_S (aA (eB X)) s.heap H locs → ∀ (ls : Array Slot), lv_has ls 4 [(0, .ref x0), (1, .ref x1), (2, .int x2), (3, .int x3)] → k_2 h x0 x1 x2 x3 = some o → W p l e (rm 1 20) s m args below meth c H locs 0 0 (MQ below (QI X h0 o.1 o.2) args s 0 0 (aA (eB X))) (F0 m 2 ls [])) {h : Hp} {x0 : Nat} {x1 : Nat} {x2 : Int32} {x3 : Int32} {H : Heap} {locs : List Loc} (k_x0 : hK h x0 = 15) (k_x1 : hK h x1 = 12) (hkm : Km h0 h) (hW : Wx X h H) (hZ : va_S (aA (eB X)) s.heap H locs) (ls : Array Slot) (hl : lv_has ls 4 [(0, .ref x0), (1, .ref x1), (2, .int x2), (3, .int x3)]) (hE : sX15_hasMen_34 F k_2 h x0 x1 x2 x3 = some o) : W p l e (rm 1 20) s m args below meth c H locs 0 0 (MQ below (QI X h0 o.1 o.2) args s 0 0 (aA (eB X))) (F0 m 34 ls []) := by
  obtain ⟨v_1, ev_1, hE⟩ := nm_e2 hE
  refine lv_iinc (v := v_1) (lv' := [(3, .int v_1), (0, .ref x0), (1, .ref x1), (2, .int x2)]) C.1 C.2.1 dX15_hasMen_34 hl (k := 3) rfl (by rw [ev_1]; rfl) (by decide) rfl (fun ls hl => ?_)
  refine lv_goto (tgt := 2) C.1 C.2.1 dX15_hasMen_37 (by decide) ?_
  exact hk_2 _ _ _ _ _ _ _ k_x0 k_x1 hkm hW hZ _ (lv_sub hl [1, 2, 3, 0] rfl) hE
set_option maxRecDepth 20000 in
theorem bX15_hasMen_2 {p : Program} {l : Launch} {e : Env} {s : State} {m : MethodId} {args : Array Value} {below : List Frame} {meth : Method} {c : Code} {X : Ec} {h0 : Hp} {o : Int32 × Hp} {F : Nat} (C : Cx X p s m args meth c RX15 cX15_hasMen 4 (some .boolean) "hasMen") : ∀ (f : Nat) {h : Hp} {x0 : Nat} {x1 : Nat} {x2 : Int32} {x3 : Int32} {H : Heap} {locs : List Loc} (k_x0 : hK h x0 = 15) (k_x1 : hK h x1 = 12), Km h0 h → Wx X h H → va_S (aA (eB X)) s.heap H locs → ∀ (ls : Array Slot), lv_has ls 4 [(0, .ref x0), (1, .ref x1), (2, .int x2), (3, .int x3)] → sX15_hasMen_2 F f h x0 x1 x2 x3 = some o → W p l e (rm 1 20) s m args below meth c H locs 0 0 (MQ below (QI X h0 o.1 o.2) args s 0 0 (aA (eB X))) (F0 m 2 ls []) := by
  intro f
  induction f with
  | zero =>
    intro h x0 x1 x2 x3 H locs k_x0 k_x1 hkm hW hZ ls hl hE
    rw [sX15_hasMen_2] at hE
    cases hE
  | succ f ih =>
    intro h x0 x1 x2 x3 H locs k_x0 k_x1 hkm hW hZ ls hl hE
    rw [sX15_hasMen_2] at hE
    have hk_2 : ∀ (h : Hp) (x0 : Nat) (x1 : Nat) (x2 : Int32) (x3 : Int32) (H : Heap) (locs : List Loc), hK h x0 = 15 → hK h x1 = 12 → Km h0 h → Wx X h H → va_S (aA (eB X)) s.heap H locs → ∀ (ls : Array Slot), lv_has ls 4 [(0, .ref x0), (1, .ref x1), (2, .int x2), (3, .int x3)] → sX15_hasMen_2 F f h x0 x1 x2 x3 = some o → W p l e (rm 1 20) s m args below meth c H locs 0 0 (MQ below (QI X h0 o.1 o.2) args s 0 0 (aA (eB X))) (F0 m 2 ls []) := fun h x0 x1 x2 x3 H locs k_x0 k_x1 a b c ls hl hE => ih k_x0 k_x1 a b c ls hl hE
    refine lv_iload_n C.1 C.2.1 dX15_hasMen_2 rfl (lv_at hl 3 rfl) ?_
    refine lv_aload_n C.1 C.2.1 dX15_hasMen_3 rfl (lv_at hl 0 rfl) ?_
    refine gf_X15_384 C hW k_x0 dX15_hasMen_4 ?_
    refine lv_icmp_ge (tgt := 40) C.1 C.2.1 dX15_hasMen_7 (by decide) (fun c_1 => ?_) (fun c_1 => ?_)
    · have hE := br_p hE c_1
      refine lv_iconst (v := (0 : Int32)) C.1 C.2.1 dX15_hasMen_40 (by decide) ?_
      refine lv_istore_n (lv' := [(3, .int (0 : Int32)), (0, .ref x0), (1, .ref x1), (2, .int x2)]) C.1 C.2.1 dX15_hasMen_41 rfl hl (by decide) rfl (fun ls hl => ?_)
      exact bX15_hasMen_42 C F k_x0 k_x1 hkm hW hZ _ (lv_sub hl [1, 2, 3, 0] rfl) hE
    · have hE := br_n hE c_1
      refine lv_aload_n C.1 C.2.1 dX15_hasMen_10 rfl (lv_at hl 1 rfl) ?_
      obtain ⟨r_2, er_2, hE⟩ := cl_e hE
      refine gf_X15_396 C hW k_x1 er_2 dX15_hasMen_11 (fun k_r_2 => ?_)
      refine lv_iload_n C.1 C.2.1 dX15_hasMen_14 rfl (lv_at hl 3 rfl) ?_
      obtain ⟨g_3, hE⟩ := gd_e hE
      refine y_iald C hW k_r_2 g_3 dX15_hasMen_15 ?_
      refine lv_if_le (tgt := 34) C.1 C.2.1 dX15_hasMen_16 (by decide) (fun c_4 => ?_) (fun c_4 => ?_)
      · have hE := br_p hE c_4
        exact bX15_hasMen_34 C hk_2 k_x0 k_x1 hkm hW hZ _ (lv_sub hl [0, 1, 2, 3] rfl) hE
      · have hE := br_n hE c_4
        refine lv_aload_n C.1 C.2.1 dX15_hasMen_19 rfl (lv_at hl 1 rfl) ?_
        obtain ⟨r_5, er_5, hE⟩ := cl_e hE
        refine gf_X15_396 C hW k_x1 er_5 dX15_hasMen_20 (fun k_r_5 => ?_)
        refine lv_iload_n C.1 C.2.1 dX15_hasMen_23 rfl (lv_at hl 3 rfl) ?_
        obtain ⟨g_6, hE⟩ := gd_e hE
        refine y_iald C hW k_r_5 g_6 dX15_hasMen_24 ?_
        obtain ⟨o_7, eo_7, hE⟩ := cl_e hE
        refine x_kI (o := o_7) (z_runS (As := [.int (hI h r_5 x3.toNatClampNeg)]) (rest := []) C (ct_X15_sideOf l X eo_7) cw_X15_489 hW hZ rfl hl.1 (Nat.le_of_ble_eq_true rfl) rfl dX15_hasMen_25 ⟨Nat.le_of_ble_eq_true rfl, Nat.le_of_ble_eq_true rfl⟩ ⟨Nat.le_refl _, Nat.le_refl _⟩) hZ (fun _ _ hW km hZ => ?_)
        replace hkm := hkm.tr km
        replace k_x0 := km.at k_x0 (by decide)
        replace k_x1 := km.at k_x1 (by decide)
        refine lv_iload_n C.1 C.2.1 dX15_hasMen_28 rfl (lv_at hl 2 rfl) ?_
        refine lv_icmp_ne (tgt := 34) C.1 C.2.1 dX15_hasMen_29 (by decide) (fun c_8 => ?_) (fun c_8 => ?_)
        · have hE := br_n hE c_8
          exact bX15_hasMen_34 C hk_2 k_x0 k_x1 hkm hW hZ _ (lv_sub hl [0, 1, 2, 3] rfl) hE
        · have hE := br_p hE c_8
          refine lv_iconst (v := (1 : Int32)) C.1 C.2.1 dX15_hasMen_32 (by decide) ?_
          exact x_iret C rfl (by decide) hW hZ hkm hE dX15_hasMen_33
set_option maxRecDepth 20000 in
theorem ct_X15_hasMen (l : Launch) (X : Ec) (F : Nat) {h : Hp} {x0 : Nat} {x1 : Nat} {x2 : Int32} {o : Int32 × Hp} (k_x0 : hK h x0 = 15) (k_x1 : hK h x1 = 12) (hE : sX15_hasMen F h x0 x1 x2 = some o) : MetI l yX15_hasMen cX15_hasMen 4 (some .boolean) 1 20 X [.ref x0, .ref x1, .int x2] h o := by
  refine x_met (by decide) (Nat.le_of_ble_eq_true rfl) ?_
  intro p e s m below meth c ls C hl hW hZ
  have hl : lv_has ls 4 [(0, .ref x0), (1, .ref x1), (2, .int x2)] := hl
  have hkm : Km h h := Km.rf h
  refine lv_iconst (v := (0 : Int32)) C.1 C.2.1 dX15_hasMen_0 (by decide) ?_
  refine lv_istore_n (lv' := [(3, .int (0 : Int32)), (0, .ref x0), (1, .ref x1), (2, .int x2)]) C.1 C.2.1 dX15_hasMen_1 rfl hl (by decide) rfl (fun ls hl => ?_)
  exact bX15_hasMen_2 C F k_x0 k_x1 hkm hW hZ _ (lv_sub hl [1, 2, 3, 0] rfl) hE
set_option maxRecDepth 100000 in
theorem ms_172 : Cond.selects RX15 yX15_hasMen yX15_hasMen ∈ W0 := w0_in (List.mem_append_left _ (List.mem_of_getElem? (i := 172) rfl)) rfl
set_option maxRecDepth 100000 in
theorem m_2140 : Cond.fieldLink RX15 646 (TX15 29).1 (TX15 29).2.1 (TX15 29).2.2.1 ∈ W0 := w0_in (List.mem_append_right _ (List.mem_of_getElem? (i := 2140) rfl)) rfl
set_option maxRecDepth 100000 in
theorem m_2524 : Cond.methodLink RX15 649 yX15_hasMen ∈ W0 := w0_in (List.mem_append_right _ (List.mem_of_getElem? (i := 2524) rfl)) rfl
set_option maxRecDepth 100000 in
theorem m_2526 : Cond.instanceMethod yX15_hasMen ∈ W0 := w0_in (List.mem_append_right _ (List.mem_of_getElem? (i := 2526) rfl)) rfl
set_option maxRecDepth 100000 in
theorem m_2527 : Cond.code yX15_hasMen cX15_hasMen 4 (some .boolean) ∈ W0 := w0_in (List.mem_append_right _ (List.mem_of_getElem? (i := 2527) rfl)) rfl
section
variable {p : Program} {l : Launch} {e : Env} {R : Room} {s : State} {m : MethodId} {args : Array Value} {below : List Frame} {meth : Method} {c : Code} {H : Heap} {locs : List Loc} {cells slots : Nat} {Q : State → Prop}
variable {cc : ByteArray} {pc : Nat} {ls : Array Slot} {rest : List Value} {X : Ec} {h h1 : Hp} {nL : Nat} {rt : Option FieldType} {mn : String}
theorem pf_X15_646 {a : Nat} {v : Int32} (C : Cx X p s m args meth c RX15 cc nL rt mn) (hW : Wx X h H) (hZ : va_S (aA (eB X)) s.heap H locs) (ha : hK h a = 15) (eh : h1 = wI h a 29 v) (hdg : decode cc pc = .ok (.putfield 646, 3)) (kk : ∀ (H1 : Heap) (locs1 : List Loc), Wx X h1 H1 → Km h h1 → va_S (aA (eB X)) s.heap H1 locs1 → W p l e R s m args below meth c H1 locs1 cells slots Q (F0 m (pc + 3) ls rest)) : W p l e R s m args below meth c H locs cells slots Q (F0 m pc ls (.int v :: .ref a :: rest)) :=
  y_puti (ty := .int) C hW hZ ha i_X15 tyX15 tyX15_ok nmX15 (by decide) rfl rfl (by decide) m_2140 rfl (by decide +kernel) rfl rfl rfl eh hdg kk
theorem gf_X15_244 {a : Nat} (C : Cx X p s m args meth c RX15 cc nL rt mn) (hW : Wx X h H) (ha : hK h a = 14) (hdg : decode cc pc = .ok (.getfield 244, 3)) (kk : W p l e R s m args below meth c H locs cells slots Q (F0 m (pc + 3) ls (.int (hI h a 23) :: rest))) : W p l e R s m args below meth c H locs cells slots Q (F0 m pc ls (.ref a :: rest)) :=
  y_getiN C hW ha i_X14 (by decide) rfl (by decide) n_1851 rfl hdg kk
end
theorem cw_X15_649 : cwd RX15 649 yX15_hasMen cX15_hasMen 4 (some .boolean) false 2 := ⟨m_2527, m_2524, m_19, ⟨m_2526, ms_172⟩, by decide, by decide, by decide +kernel⟩
theorem dX15_early_0 : decode cX15_early 0 = .ok (.iconst 0, 1) := by decide +kernel
theorem dX15_early_1 : decode cX15_early 1 = .ok (.istore_n 2, 1) := by decide +kernel
theorem dX15_early_2 : decode cX15_early 2 = .ok (.iload_n 2, 1) := by decide +kernel
theorem dX15_early_3 : decode cX15_early 3 = .ok (.iconst 2, 1) := by decide +kernel
theorem dX15_early_4 : decode cX15_early 4 = .ok (.if_icmp .ge 67, 3) := by decide +kernel
theorem dX15_early_7 : decode cX15_early 7 = .ok (.aload_n 0, 1) := by decide +kernel
theorem dX15_early_8 : decode cX15_early 8 = .ok (.getfield 252, 3) := by decide +kernel
theorem dX15_early_11 : decode cX15_early 11 = .ok (.getfield 142, 3) := by decide +kernel
theorem dX15_early_14 : decode cX15_early 14 = .ok (.ifCond .eq 57, 3) := by decide +kernel
theorem dX15_early_17 : decode cX15_early 17 = .ok (.aload_n 0, 1) := by decide +kernel
theorem dX15_early_18 : decode cX15_early 18 = .ok (.getfield 252, 3) := by decide +kernel
theorem dX15_early_21 : decode cX15_early 21 = .ok (.getfield 221, 3) := by decide +kernel
theorem dX15_early_24 : decode cX15_early 24 = .ok (.iconst (-1), 1) := by decide +kernel
theorem dX15_early_25 : decode cX15_early 25 = .ok (.if_icmp .eq 46, 3) := by decide +kernel
theorem dX15_early_28 : decode cX15_early 28 = .ok (.iload_n 2, 1) := by decide +kernel
theorem dX15_early_29 : decode cX15_early 29 = .ok (.ifCond .ne 10, 3) := by decide +kernel
theorem dX15_early_32 : decode cX15_early 32 = .ok (.aload_n 1, 1) := by decide +kernel
theorem dX15_early_33 : decode cX15_early 33 = .ok (.getfield 452, 3) := by decide +kernel
theorem dX15_early_36 : decode cX15_early 36 = .ok (.goto 9, 3) := by decide +kernel
theorem dX15_early_39 : decode cX15_early 39 = .ok (.iconst 1, 1) := by decide +kernel
theorem dX15_early_40 : decode cX15_early 40 = .ok (.aload_n 1, 1) := by decide +kernel
theorem dX15_early_41 : decode cX15_early 41 = .ok (.getfield 452, 3) := by decide +kernel
theorem dX15_early_44 : decode cX15_early 44 = .ok (.isub, 1) := by decide +kernel
theorem dX15_early_45 : decode cX15_early 45 = .ok (.istore_n 3, 1) := by decide +kernel
theorem dX15_early_46 : decode cX15_early 46 = .ok (.aload_n 0, 1) := by decide +kernel
theorem dX15_early_47 : decode cX15_early 47 = .ok (.aload_n 1, 1) := by decide +kernel
theorem dX15_early_48 : decode cX15_early 48 = .ok (.iload_n 3, 1) := by decide +kernel
theorem dX15_early_49 : decode cX15_early 49 = .ok (.invokevirtual 508, 3) := by decide +kernel
theorem dX15_early_52 : decode cX15_early 52 = .ok (.iconst (-1), 1) := by decide +kernel
theorem dX15_early_53 : decode cX15_early 53 = .ok (.if_icmp .ne 12, 3) := by decide +kernel
theorem dX15_early_56 : decode cX15_early 56 = .ok (.aload_n 0, 1) := by decide +kernel
theorem dX15_early_57 : decode cX15_early 57 = .ok (.iconst 1, 1) := by decide +kernel
theorem dX15_early_58 : decode cX15_early 58 = .ok (.iload_n 3, 1) := by decide +kernel
theorem dX15_early_59 : decode cX15_early 59 = .ok (.isub, 1) := by decide +kernel
theorem dX15_early_60 : decode cX15_early 60 = .ok (.putfield 646, 3) := by decide +kernel
theorem dX15_early_63 : decode cX15_early 63 = .ok (.iconst 1, 1) := by decide +kernel
theorem dX15_early_64 : decode cX15_early 64 = .ok (.ireturn, 1) := by decide +kernel
theorem dX15_early_65 : decode cX15_early 65 = .ok (.iinc 2 1, 3) := by decide +kernel
theorem dX15_early_68 : decode cX15_early 68 = .ok (.goto (-66), 3) := by decide +kernel
theorem dX15_early_71 : decode cX15_early 71 = .ok (.iconst 0, 1) := by decide +kernel
theorem dX15_early_72 : decode cX15_early 72 = .ok (.istore_n 2, 1) := by decide +kernel
theorem dX15_early_73 : decode cX15_early 73 = .ok (.iload_n 2, 1) := by decide +kernel
theorem dX15_early_74 : decode cX15_early 74 = .ok (.iconst 2, 1) := by decide +kernel
theorem dX15_early_75 : decode cX15_early 75 = .ok (.if_icmp .ge 77, 3) := by decide +kernel
theorem dX15_early_78 : decode cX15_early 78 = .ok (.aload_n 0, 1) := by decide +kernel
theorem dX15_early_79 : decode cX15_early 79 = .ok (.getfield 252, 3) := by decide +kernel
theorem dX15_early_82 : decode cX15_early 82 = .ok (.getfield 235, 3) := by decide +kernel
theorem dX15_early_85 : decode cX15_early 85 = .ok (.lconst 0, 1) := by decide +kernel
theorem dX15_early_86 : decode cX15_early 86 = .ok (.lcmp, 1) := by decide +kernel
theorem dX15_early_87 : decode cX15_early 87 = .ok (.ifCond .eq 65, 3) := by decide +kernel
theorem dX15_early_90 : decode cX15_early 90 = .ok (.iload_n 2, 1) := by decide +kernel
theorem dX15_early_91 : decode cX15_early 91 = .ok (.ifCond .ne 12, 3) := by decide +kernel
theorem dX15_early_94 : decode cX15_early 94 = .ok (.iconst 1, 1) := by decide +kernel
theorem dX15_early_95 : decode cX15_early 95 = .ok (.aload_n 1, 1) := by decide +kernel
theorem dX15_early_96 : decode cX15_early 96 = .ok (.getfield 452, 3) := by decide +kernel
theorem dX15_early_99 : decode cX15_early 99 = .ok (.isub, 1) := by decide +kernel
theorem dX15_early_100 : decode cX15_early 100 = .ok (.goto 7, 3) := by decide +kernel
theorem dX15_early_103 : decode cX15_early 103 = .ok (.aload_n 1, 1) := by decide +kernel
theorem dX15_early_104 : decode cX15_early 104 = .ok (.getfield 452, 3) := by decide +kernel
theorem dX15_early_107 : decode cX15_early 107 = .ok (.istore_n 3, 1) := by decide +kernel
theorem dX15_early_108 : decode cX15_early 108 = .ok (.aload_n 0, 1) := by decide +kernel
theorem dX15_early_109 : decode cX15_early 109 = .ok (.aload_n 1, 1) := by decide +kernel
theorem dX15_early_110 : decode cX15_early 110 = .ok (.iload_n 3, 1) := by decide +kernel
theorem dX15_early_111 : decode cX15_early 111 = .ok (.invokevirtual 508, 3) := by decide +kernel
theorem dX15_early_114 : decode cX15_early 114 = .ok (.istore 4, 2) := by decide +kernel
theorem dX15_early_116 : decode cX15_early 116 = .ok (.iload 4, 2) := by decide +kernel
theorem dX15_early_118 : decode cX15_early 118 = .ok (.iconst (-1), 1) := by decide +kernel
theorem dX15_early_119 : decode cX15_early 119 = .ok (.if_icmp .eq 27, 3) := by decide +kernel
theorem dX15_early_122 : decode cX15_early 122 = .ok (.aload_n 0, 1) := by decide +kernel
theorem dX15_early_123 : decode cX15_early 123 = .ok (.getfield 252, 3) := by decide +kernel
theorem dX15_early_126 : decode cX15_early 126 = .ok (.getfield 235, 3) := by decide +kernel
theorem dX15_early_129 : decode cX15_early 129 = .ok (.iload 4, 2) := by decide +kernel
theorem dX15_early_131 : decode cX15_early 131 = .ok (.lshr, 1) := by decide +kernel
theorem dX15_early_132 : decode cX15_early 132 = .ok (.lconst 1, 1) := by decide +kernel
theorem dX15_early_133 : decode cX15_early 133 = .ok (.land, 1) := by decide +kernel
theorem dX15_early_134 : decode cX15_early 134 = .ok (.lconst 1, 1) := by decide +kernel
theorem dX15_early_135 : decode cX15_early 135 = .ok (.lcmp, 1) := by decide +kernel
theorem dX15_early_136 : decode cX15_early 136 = .ok (.ifCond .ne 10, 3) := by decide +kernel
theorem dX15_early_139 : decode cX15_early 139 = .ok (.aload_n 0, 1) := by decide +kernel
theorem dX15_early_140 : decode cX15_early 140 = .ok (.iload_n 3, 1) := by decide +kernel
theorem dX15_early_141 : decode cX15_early 141 = .ok (.putfield 646, 3) := by decide +kernel
theorem dX15_early_144 : decode cX15_early 144 = .ok (.iconst 2, 1) := by decide +kernel
theorem dX15_early_145 : decode cX15_early 145 = .ok (.ireturn, 1) := by decide +kernel
theorem dX15_early_146 : decode cX15_early 146 = .ok (.iinc 2 1, 3) := by decide +kernel
theorem dX15_early_149 : decode cX15_early 149 = .ok (.goto (-76), 3) := by decide +kernel
theorem dX15_early_152 : decode cX15_early 152 = .ok (.iconst 0, 1) := by decide +kernel
theorem dX15_early_153 : decode cX15_early 153 = .ok (.istore_n 2, 1) := by decide +kernel
theorem dX15_early_154 : decode cX15_early 154 = .ok (.iload_n 2, 1) := by decide +kernel
theorem dX15_early_155 : decode cX15_early 155 = .ok (.iconst 2, 1) := by decide +kernel
theorem dX15_early_156 : decode cX15_early 156 = .ok (.if_icmp .ge 60, 3) := by decide +kernel
theorem dX15_early_159 : decode cX15_early 159 = .ok (.aload_n 0, 1) := by decide +kernel
theorem dX15_early_160 : decode cX15_early 160 = .ok (.getfield 252, 3) := by decide +kernel
theorem dX15_early_163 : decode cX15_early 163 = .ok (.getfield 233, 3) := by decide +kernel
theorem dX15_early_166 : decode cX15_early 166 = .ok (.ifCond .le 50, 3) := by decide +kernel
theorem dX15_early_169 : decode cX15_early 169 = .ok (.iload_n 2, 1) := by decide +kernel
theorem dX15_early_170 : decode cX15_early 170 = .ok (.ifCond .ne 12, 3) := by decide +kernel
theorem dX15_early_173 : decode cX15_early 173 = .ok (.iconst 1, 1) := by decide +kernel
theorem dX15_early_174 : decode cX15_early 174 = .ok (.aload_n 1, 1) := by decide +kernel
theorem dX15_early_175 : decode cX15_early 175 = .ok (.getfield 452, 3) := by decide +kernel
theorem dX15_early_178 : decode cX15_early 178 = .ok (.isub, 1) := by decide +kernel
theorem dX15_early_179 : decode cX15_early 179 = .ok (.goto 7, 3) := by decide +kernel
theorem dX15_early_182 : decode cX15_early 182 = .ok (.aload_n 1, 1) := by decide +kernel
theorem dX15_early_183 : decode cX15_early 183 = .ok (.getfield 452, 3) := by decide +kernel
theorem dX15_early_186 : decode cX15_early 186 = .ok (.istore_n 3, 1) := by decide +kernel
theorem dX15_early_187 : decode cX15_early 187 = .ok (.aload_n 1, 1) := by decide +kernel
theorem dX15_early_188 : decode cX15_early 188 = .ok (.getfield 447, 3) := by decide +kernel
theorem dX15_early_191 : decode cX15_early 191 = .ok (.iload_n 3, 1) := by decide +kernel
theorem dX15_early_192 : decode cX15_early 192 = .ok (.iaload, 1) := by decide +kernel
theorem dX15_early_193 : decode cX15_early 193 = .ok (.aload_n 0, 1) := by decide +kernel
theorem dX15_early_194 : decode cX15_early 194 = .ok (.getfield 252, 3) := by decide +kernel
theorem dX15_early_197 : decode cX15_early 197 = .ok (.getfield 233, 3) := by decide +kernel
theorem dX15_early_200 : decode cX15_early 200 = .ok (.if_icmp .lt 10, 3) := by decide +kernel
theorem dX15_early_203 : decode cX15_early 203 = .ok (.aload_n 0, 1) := by decide +kernel
theorem dX15_early_204 : decode cX15_early 204 = .ok (.iload_n 3, 1) := by decide +kernel
theorem dX15_early_205 : decode cX15_early 205 = .ok (.putfield 646, 3) := by decide +kernel
theorem dX15_early_208 : decode cX15_early 208 = .ok (.iconst 3, 1) := by decide +kernel
theorem dX15_early_209 : decode cX15_early 209 = .ok (.ireturn, 1) := by decide +kernel
theorem dX15_early_210 : decode cX15_early 210 = .ok (.iinc 2 1, 3) := by decide +kernel
theorem dX15_early_213 : decode cX15_early 213 = .ok (.goto (-59), 3) := by decide +kernel
theorem dX15_early_216 : decode cX15_early 216 = .ok (.iconst 0, 1) := by decide +kernel
theorem dX15_early_217 : decode cX15_early 217 = .ok (.istore_n 2, 1) := by decide +kernel
theorem dX15_early_218 : decode cX15_early 218 = .ok (.iload_n 2, 1) := by decide +kernel
theorem dX15_early_219 : decode cX15_early 219 = .ok (.iconst 2, 1) := by decide +kernel
theorem dX15_early_220 : decode cX15_early 220 = .ok (.if_icmp .ge 60, 3) := by decide +kernel
theorem dX15_early_223 : decode cX15_early 223 = .ok (.iload_n 2, 1) := by decide +kernel
theorem dX15_early_224 : decode cX15_early 224 = .ok (.ifCond .ne 10, 3) := by decide +kernel
theorem dX15_early_227 : decode cX15_early 227 = .ok (.aload_n 1, 1) := by decide +kernel
theorem dX15_early_228 : decode cX15_early 228 = .ok (.getfield 452, 3) := by decide +kernel
theorem dX15_early_231 : decode cX15_early 231 = .ok (.goto 9, 3) := by decide +kernel
theorem dX15_early_234 : decode cX15_early 234 = .ok (.iconst 1, 1) := by decide +kernel
theorem dX15_early_235 : decode cX15_early 235 = .ok (.aload_n 1, 1) := by decide +kernel
theorem dX15_early_236 : decode cX15_early 236 = .ok (.getfield 452, 3) := by decide +kernel
theorem dX15_early_239 : decode cX15_early 239 = .ok (.isub, 1) := by decide +kernel
theorem dX15_early_240 : decode cX15_early 240 = .ok (.istore_n 3, 1) := by decide +kernel
theorem dX15_early_241 : decode cX15_early 241 = .ok (.aload_n 0, 1) := by decide +kernel
theorem dX15_early_242 : decode cX15_early 242 = .ok (.aload_n 1, 1) := by decide +kernel
theorem dX15_early_243 : decode cX15_early 243 = .ok (.iload_n 3, 1) := by decide +kernel
theorem dX15_early_244 : decode cX15_early 244 = .ok (.invokevirtual 649, 3) := by decide +kernel
theorem dX15_early_247 : decode cX15_early 247 = .ok (.ifCond .ne 27, 3) := by decide +kernel
theorem dX15_early_250 : decode cX15_early 250 = .ok (.aload_n 0, 1) := by decide +kernel
theorem dX15_early_251 : decode cX15_early 251 = .ok (.aload_n 0, 1) := by decide +kernel
theorem dX15_early_252 : decode cX15_early 252 = .ok (.getfield 252, 3) := by decide +kernel
theorem dX15_early_255 : decode cX15_early 255 = .ok (.getfield 244, 3) := by decide +kernel
theorem dX15_early_258 : decode cX15_early 258 = .ok (.iconst 1, 1) := by decide +kernel
theorem dX15_early_259 : decode cX15_early 259 = .ok (.if_icmp .ne 7, 3) := by decide +kernel
theorem dX15_early_262 : decode cX15_early 262 = .ok (.iload_n 3, 1) := by decide +kernel
theorem dX15_early_263 : decode cX15_early 263 = .ok (.goto 6, 3) := by decide +kernel
theorem dX15_early_266 : decode cX15_early 266 = .ok (.iconst 1, 1) := by decide +kernel
theorem dX15_early_267 : decode cX15_early 267 = .ok (.iload_n 3, 1) := by decide +kernel
theorem dX15_early_268 : decode cX15_early 268 = .ok (.isub, 1) := by decide +kernel
theorem dX15_early_269 : decode cX15_early 269 = .ok (.putfield 646, 3) := by decide +kernel
theorem dX15_early_272 : decode cX15_early 272 = .ok (.iconst 4, 1) := by decide +kernel
theorem dX15_early_273 : decode cX15_early 273 = .ok (.ireturn, 1) := by decide +kernel
theorem dX15_early_274 : decode cX15_early 274 = .ok (.iinc 2 1, 3) := by decide +kernel
theorem dX15_early_277 : decode cX15_early 277 = .ok (.goto (-59), 3) := by decide +kernel
theorem dX15_early_280 : decode cX15_early 280 = .ok (.iconst 0, 1) := by decide +kernel
theorem dX15_early_281 : decode cX15_early 281 = .ok (.ireturn, 1) := by decide +kernel
def sX15_early_269 (F : Nat) (h : Hp) (t0 : Int32) (t1 : Nat) : Option (Int32 × Hp) := nm (wI h t1 29 t0) fun h_1 => some ((4 : Int32), h_1)
def sX15_early_240 (F : Nat) (k_218 : Hp → Nat → Nat → Int32 → Option (Int32 × Hp)) (h : Hp) (x0 : Nat) (x1 : Nat) (x2 : Int32) (t0 : Int32) : Option (Int32 × Hp) := cl (sX15_hasMen F h x0 x1 t0) fun o_1 => br (o_1.1 = 0) (cl (hR o_1.2 x0 4) fun r_4 => br ((hI o_1.2 r_4 23) = (1 : Int32)) (sX15_early_269 F o_1.2 t0 x0) (sX15_early_269 F o_1.2 ((1 : Int32) - t0) x0)) (nm (x2 + (1 : Int32)) fun v_3 => k_218 o_1.2 x0 x1 v_3)
def sX15_early_218 (F : Nat) : Nat → Hp → Nat → Nat → Int32 → Option (Int32 × Hp)
  | 0, _, _, _, _ => none
  | f + 1, h, x0, x1, x2 => br ((2 : Int32) ≤ x2) (some ((0 : Int32), h)) (br (x2 = 0) (sX15_early_240 F (sX15_early_218 F f) h x0 x1 x2 (hI h x1 1)) (sX15_early_240 F (sX15_early_218 F f) h x0 x1 x2 ((1 : Int32) - (hI h x1 1))))
def sX15_early_216 (F : Nat) (h : Hp) (x0 : Nat) (x1 : Nat) : Option (Int32 × Hp) := sX15_early_218 F F h x0 x1 (0 : Int32)
def sX15_early_186 (F : Nat) (k_154 : Hp → Nat → Nat → Int32 → Option (Int32 × Hp)) (h : Hp) (x0 : Nat) (x1 : Nat) (x2 : Int32) (t0 : Int32) : Option (Int32 × Hp) := cl (hR h x1 6) fun r_1 => gd (inB t0 (hN h r_1)) <| cl (hR h x0 4) fun r_3 => br ((hI h r_1 t0.toNatClampNeg) < (hI h r_3 20)) (nm (x2 + (1 : Int32)) fun v_5 => k_154 h x0 x1 v_5) (nm (wI h x0 29 t0) fun h_6 => some ((3 : Int32), h_6))
def sX15_early_154 (F : Nat) : Nat → Hp → Nat → Nat → Int32 → Option (Int32 × Hp)
  | 0, _, _, _, _ => none
  | f + 1, h, x0, x1, x2 => br ((2 : Int32) ≤ x2) (sX15_early_216 F h x0 x1) (cl (hR h x0 4) fun r_2 => br ((hI h r_2 20) ≤ 0) (sX15_early_216 F h x0 x1) (br (x2 = 0) (sX15_early_186 F (sX15_early_154 F f) h x0 x1 x2 ((1 : Int32) - (hI h x1 1))) (sX15_early_186 F (sX15_early_154 F f) h x0 x1 x2 (hI h x1 1))))
def sX15_early_152 (F : Nat) (h : Hp) (x0 : Nat) (x1 : Nat) : Option (Int32 × Hp) := sX15_early_154 F F h x0 x1 (0 : Int32)
def sX15_early_146 (F : Nat) (k_73 : Hp → Nat → Nat → Int32 → Option (Int32 × Hp)) (h : Hp) (x0 : Nat) (x1 : Nat) (x2 : Int32) : Option (Int32 × Hp) := nm (x2 + (1 : Int32)) fun v_1 => k_73 h x0 x1 v_1
def sX15_early_107 (F : Nat) (k_73 : Hp → Nat → Nat → Int32 → Option (Int32 × Hp)) (h : Hp) (x0 : Nat) (x1 : Nat) (x2 : Int32) (t0 : Int32) : Option (Int32 × Hp) := cl (sX15_royalOf F h x0 x1 t0) fun o_1 => br (o_1.1 = (-1 : Int32)) (sX15_early_146 F k_73 o_1.2 x0 x1 x2) (cl (hR o_1.2 x0 4) fun r_3 => br ((lg_cmp (((hJ o_1.2 r_3 21) >>> (o_1.1.toInt64 &&& 63)) &&& (1 : Int64)) (1 : Int64)) = 0) (nm (wI o_1.2 x0 29 t0) fun h_5 => some ((2 : Int32), h_5)) (sX15_early_146 F k_73 o_1.2 x0 x1 x2))
def sX15_early_73 (F : Nat) : Nat → Hp → Nat → Nat → Int32 → Option (Int32 × Hp)
  | 0, _, _, _, _ => none
  | f + 1, h, x0, x1, x2 => br ((2 : Int32) ≤ x2) (sX15_early_152 F h x0 x1) (cl (hR h x0 4) fun r_2 => br ((lg_cmp (hJ h r_2 21) (0 : Int64)) = 0) (sX15_early_152 F h x0 x1) (br (x2 = 0) (sX15_early_107 F (sX15_early_73 F f) h x0 x1 x2 ((1 : Int32) - (hI h x1 1))) (sX15_early_107 F (sX15_early_73 F f) h x0 x1 x2 (hI h x1 1))))
def sX15_early_71 (F : Nat) (h : Hp) (x0 : Nat) (x1 : Nat) : Option (Int32 × Hp) := sX15_early_73 F F h x0 x1 (0 : Int32)
def sX15_early_45 (F : Nat) (k_2 : Hp → Nat → Nat → Int32 → Option (Int32 × Hp)) (h : Hp) (x0 : Nat) (x1 : Nat) (x2 : Int32) (t0 : Int32) : Option (Int32 × Hp) := cl (sX15_royalOf F h x0 x1 t0) fun o_1 => br (o_1.1 = (-1 : Int32)) (nm (wI o_1.2 x0 29 ((1 : Int32) - t0)) fun h_4 => some ((1 : Int32), h_4)) (nm (x2 + (1 : Int32)) fun v_3 => k_2 o_1.2 x0 x1 v_3)
def sX15_early_2 (F : Nat) : Nat → Hp → Nat → Nat → Int32 → Option (Int32 × Hp)
  | 0, _, _, _, _ => none
  | f + 1, h, x0, x1, x2 => br ((2 : Int32) ≤ x2) (sX15_early_71 F h x0 x1) (cl (hR h x0 4) fun r_2 => br ((hI h r_2 18) = 0) (sX15_early_71 F h x0 x1) (cl (hR h x0 4) fun r_4 => br ((hI h r_4 10) = (-1 : Int32)) (sX15_early_71 F h x0 x1) (br (x2 = 0) (sX15_early_45 F (sX15_early_2 F f) h x0 x1 x2 (hI h x1 1)) (sX15_early_45 F (sX15_early_2 F f) h x0 x1 x2 ((1 : Int32) - (hI h x1 1))))))
def sX15_early (F : Nat) (h : Hp) (x0 : Nat) (x1 : Nat) : Option (Int32 × Hp) := sX15_early_2 F F h x0 x1 (0 : Int32)
set_option maxRecDepth 20000 in
theorem moX15_early_269 {o : Int32 × Hp} {F : Nat} {h : Hp} {t0 : Int32} {t1 : Nat} (hE : sX15_early_269 F h  t0 t1 = some o) : Le h o.2 := by
  obtain ⟨h_1, eh_1, hE⟩ := nm_e2 hE
  refine (le_I eh_1).tr ?_
  exact le_some2 hE
set_option maxRecDepth 20000 in
theorem moX15_early_240 {o : Int32 × Hp} {k_218 : Hp → Nat → Nat → Int32 → Option (Int32 × Hp)} {F : Nat} (mk_218 : ∀ (h : Hp) (x0 : Nat) (x1 : Nat) (x2 : Int32), k_218 h x0 x1 x2 = some o → Le h o.2) {h : Hp} {x0 : Nat} {x1 : Nat} {x2 : Int32} {t0 : Int32} (hE : sX15_early_240 F k_218 h x0 x1 x2 t0 = some o) : Le h o.2 := by
  obtain ⟨o_1, eo_1, hE⟩ := cl_e hE
  refine (moX15_hasMen eo_1).tr ?_
  rcases br_e hE with ⟨_, hE⟩ | ⟨_, hE⟩
  · obtain ⟨r_4, er_4, hE⟩ := cl_e hE
    rcases br_e hE with ⟨_, hE⟩ | ⟨_, hE⟩
    · exact moX15_early_269 hE
    · exact moX15_early_269 hE
  · obtain ⟨v_3, ev_3, hE⟩ := nm_e2 hE
    exact mk_218 _ _ _ _ hE
set_option maxRecDepth 20000 in
theorem moX15_early_218 {o : Int32 × Hp} {F : Nat} : ∀ (f : Nat) {h : Hp} {x0 : Nat} {x1 : Nat} {x2 : Int32}, sX15_early_218 F f h x0 x1 x2 = some o → Le h o.2 := by
  intro f
  induction f with
  | zero =>
    intro h x0 x1 x2 hE
    rw [sX15_early_218] at hE
    cases hE
  | succ f ih =>
    intro h x0 x1 x2 hE
    rw [sX15_early_218] at hE
    have mk_218 : ∀ (h : Hp) (x0 : Nat) (x1 : Nat) (x2 : Int32), sX15_early_218 F f h x0 x1 x2 = some o → Le h o.2 := fun h x0 x1 x2 hE => ih hE
    rcases br_e hE with ⟨_, hE⟩ | ⟨_, hE⟩
    · exact le_some2 hE
    · rcases br_e hE with ⟨_, hE⟩ | ⟨_, hE⟩
      · exact moX15_early_240 mk_218 hE
      · exact moX15_early_240 mk_218 hE
set_option maxRecDepth 20000 in
theorem moX15_early_216 {o : Int32 × Hp} {F : Nat} {h : Hp} {x0 : Nat} {x1 : Nat} (hE : sX15_early_216 F h x0 x1 = some o) : Le h o.2 := by
  exact moX15_early_218 _ hE
set_option maxRecDepth 20000 in
theorem moX15_early_186 {o : Int32 × Hp} {k_154 : Hp → Nat → Nat → Int32 → Option (Int32 × Hp)} {F : Nat} (mk_154 : ∀ (h : Hp) (x0 : Nat) (x1 : Nat) (x2 : Int32), k_154 h x0 x1 x2 = some o → Le h o.2) {h : Hp} {x0 : Nat} {x1 : Nat} {x2 : Int32} {t0 : Int32} (hE : sX15_early_186 F k_154 h x0 x1 x2 t0 = some o) : Le h o.2 := by
  obtain ⟨r_1, er_1, hE⟩ := cl_e hE
  obtain ⟨g_2, hE⟩ := gd_e hE
  obtain ⟨r_3, er_3, hE⟩ := cl_e hE
  rcases br_e hE with ⟨_, hE⟩ | ⟨_, hE⟩
  · obtain ⟨v_5, ev_5, hE⟩ := nm_e2 hE
    exact mk_154 _ _ _ _ hE
  · obtain ⟨h_6, eh_6, hE⟩ := nm_e2 hE
    refine (le_I eh_6).tr ?_
    exact le_some2 hE
set_option maxRecDepth 20000 in
theorem moX15_early_154 {o : Int32 × Hp} {F : Nat} : ∀ (f : Nat) {h : Hp} {x0 : Nat} {x1 : Nat} {x2 : Int32}, sX15_early_154 F f h x0 x1 x2 = some o → Le h o.2 := by
  intro f
  induction f with
  | zero =>
    intro h x0 x1 x2 hE
    rw [sX15_early_154] at hE
    cases hE
  | succ f ih =>
    intro h x0 x1 x2 hE
    rw [sX15_early_154] at hE
    have mk_154 : ∀ (h : Hp) (x0 : Nat) (x1 : Nat) (x2 : Int32), sX15_early_154 F f h x0 x1 x2 = some o → Le h o.2 := fun h x0 x1 x2 hE => ih hE
    rcases br_e hE with ⟨_, hE⟩ | ⟨_, hE⟩
    · exact moX15_early_216 hE
    · obtain ⟨r_2, er_2, hE⟩ := cl_e hE
      rcases br_e hE with ⟨_, hE⟩ | ⟨_, hE⟩
      · exact moX15_early_216 hE
      · rcases br_e hE with ⟨_, hE⟩ | ⟨_, hE⟩
        · exact moX15_early_186 mk_154 hE
        · exact moX15_early_186 mk_154 hE
set_option maxRecDepth 20000 in
theorem moX15_early_152 {o : Int32 × Hp} {F : Nat} {h : Hp} {x0 : Nat} {x1 : Nat} (hE : sX15_early_152 F h x0 x1 = some o) : Le h o.2 := by
  exact moX15_early_154 _ hE
set_option maxRecDepth 20000 in
theorem moX15_early_146 {o : Int32 × Hp} {k_73 : Hp → Nat → Nat → Int32 → Option (Int32 × Hp)} {F : Nat} (mk_73 : ∀ (h : Hp) (x0 : Nat) (x1 : Nat) (x2 : Int32), k_73 h x0 x1 x2 = some o → Le h o.2) {h : Hp} {x0 : Nat} {x1 : Nat} {x2 : Int32} (hE : sX15_early_146 F k_73 h x0 x1 x2 = some o) : Le h o.2 := by
  obtain ⟨v_1, ev_1, hE⟩ := nm_e2 hE
  exact mk_73 _ _ _ _ hE
set_option maxRecDepth 20000 in
theorem moX15_early_107 {o : Int32 × Hp} {k_73 : Hp → Nat → Nat → Int32 → Option (Int32 × Hp)} {F : Nat} (mk_73 : ∀ (h : Hp) (x0 : Nat) (x1 : Nat) (x2 : Int32), k_73 h x0 x1 x2 = some o → Le h o.2) {h : Hp} {x0 : Nat} {x1 : Nat} {x2 : Int32} {t0 : Int32} (hE : sX15_early_107 F k_73 h x0 x1 x2 t0 = some o) : Le h o.2 := by
  obtain ⟨o_1, eo_1, hE⟩ := cl_e hE
  refine (moX15_royalOf eo_1).tr ?_
  rcases br_e hE with ⟨_, hE⟩ | ⟨_, hE⟩
  · exact moX15_early_146 mk_73 hE
  · obtain ⟨r_3, er_3, hE⟩ := cl_e hE
    rcases br_e hE with ⟨_, hE⟩ | ⟨_, hE⟩
    · obtain ⟨h_5, eh_5, hE⟩ := nm_e2 hE
      refine (le_I eh_5).tr ?_
      exact le_some2 hE
    · exact moX15_early_146 mk_73 hE
set_option maxRecDepth 20000 in
theorem moX15_early_73 {o : Int32 × Hp} {F : Nat} : ∀ (f : Nat) {h : Hp} {x0 : Nat} {x1 : Nat} {x2 : Int32}, sX15_early_73 F f h x0 x1 x2 = some o → Le h o.2 := by
  intro f
  induction f with
  | zero =>
    intro h x0 x1 x2 hE
    rw [sX15_early_73] at hE
    cases hE
  | succ f ih =>
    intro h x0 x1 x2 hE
    rw [sX15_early_73] at hE
    have mk_73 : ∀ (h : Hp) (x0 : Nat) (x1 : Nat) (x2 : Int32), sX15_early_73 F f h x0 x1 x2 = some o → Le h o.2 := fun h x0 x1 x2 hE => ih hE
    rcases br_e hE with ⟨_, hE⟩ | ⟨_, hE⟩
    · exact moX15_early_152 hE
    · obtain ⟨r_2, er_2, hE⟩ := cl_e hE
      rcases br_e hE with ⟨_, hE⟩ | ⟨_, hE⟩
      · exact moX15_early_152 hE
      · rcases br_e hE with ⟨_, hE⟩ | ⟨_, hE⟩
        · exact moX15_early_107 mk_73 hE
        · exact moX15_early_107 mk_73 hE
set_option maxRecDepth 20000 in
theorem moX15_early_71 {o : Int32 × Hp} {F : Nat} {h : Hp} {x0 : Nat} {x1 : Nat} (hE : sX15_early_71 F h x0 x1 = some o) : Le h o.2 := by
  exact moX15_early_73 _ hE
set_option maxRecDepth 20000 in
theorem moX15_early_45 {o : Int32 × Hp} {k_2 : Hp → Nat → Nat → Int32 → Option (Int32 × Hp)} {F : Nat} (mk_2 : ∀ (h : Hp) (x0 : Nat) (x1 : Nat) (x2 : Int32), k_2 h x0 x1 x2 = some o → Le h o.2) {h : Hp} {x0 : Nat} {x1 : Nat} {x2 : Int32} {t0 : Int32} (hE : sX15_early_45 F k_2 h x0 x1 x2 t0 = some o) : Le h o.2 := by
  obtain ⟨o_1, eo_1, hE⟩ := cl_e hE
  refine (moX15_royalOf eo_1).tr ?_
  rcases br_e hE with ⟨_, hE⟩ | ⟨_, hE⟩
  · obtain ⟨h_4, eh_4, hE⟩ := nm_e2 hE
    refine (le_I eh_4).tr ?_
    exact le_some2 hE
  · obtain ⟨v_3, ev_3, hE⟩ := nm_e2 hE
    exact mk_2 _ _ _ _ hE
set_option maxRecDepth 20000 in
theorem moX15_early_2 {o : Int32 × Hp} {F : Nat} : ∀ (f : Nat) {h : Hp} {x0 : Nat} {x1 : Nat} {x2 : Int32}, sX15_early_2 F f h x0 x1 x2 = some o → Le h o.2 := by
  intro f
  induction f with
  | zero =>
    intro h x0 x1 x2 hE
    rw [sX15_early_2] at hE
    cases hE
  | succ f ih =>
    intro h x0 x1 x2 hE
    rw [sX15_early_2] at hE
    have mk_2 : ∀ (h : Hp) (x0 : Nat) (x1 : Nat) (x2 : Int32), sX15_early_2 F f h x0 x1 x2 = some o → Le h o.2 := fun h x0 x1 x2 hE => ih hE
    rcases br_e hE with ⟨_, hE⟩ | ⟨_, hE⟩
    · exact moX15_early_71 hE
    · obtain ⟨r_2, er_2, hE⟩ := cl_e hE
      rcases br_e hE with ⟨_, hE⟩ | ⟨_, hE⟩
      · exact moX15_early_71 hE
      · obtain ⟨r_4, er_4, hE⟩ := cl_e hE
        rcases br_e hE with ⟨_, hE⟩ | ⟨_, hE⟩
        · exact moX15_early_71 hE
        · rcases br_e hE with ⟨_, hE⟩ | ⟨_, hE⟩
          · exact moX15_early_45 mk_2 hE
          · exact moX15_early_45 mk_2 hE
set_option maxRecDepth 20000 in
theorem moX15_early {o : Int32 × Hp} {F : Nat} {h : Hp} {x0 : Nat} {x1 : Nat} (hE : sX15_early F h x0 x1 = some o) : Le h o.2 := by
  exact moX15_early_2 _ hE
set_option maxRecDepth 20000 in
theorem bX15_early_269 {p : Program} {l : Launch} {e : Env} {s : State} {m : MethodId} {args : Array Value} {below : List Frame} {meth : Method} {c : Code} {X : Ec} {h0 : Hp} {o : Int32 × Hp} {F : Nat} (C : Cx X p s m args meth c RX15 cX15_early 5 (some .int) "early") {h : Hp} {t0 : Int32} {t1 : Nat} {H : Heap} {locs : List Loc} (k_t1 : hK h t1 = 15) (hkm : Km h0 h) (hW : Wx X h H) (hZ : va_S (aA (eB X)) s.heap H locs) (ls : Array Slot) (hl : lv_has ls 5 []) (hE : sX15_early_269 F h  t0 t1 = some o) : W p l e (rm 2 44) s m args below meth c H locs 0 0 (MQ below (QI X h0 o.1 o.2) args s 0 0 (aA (eB X))) (F0 m 269 ls [.int t0, .ref t1]) := by
  obtain ⟨h_1, eh_1, hE⟩ := nm_e2 hE
  refine pf_X15_646 C hW hZ k_t1 eh_1 dX15_early_269 (fun _ _ hW km hZ => ?_)
  replace hkm := hkm.tr km
  refine lv_iconst (v := (4 : Int32)) C.1 C.2.1 dX15_early_272 (by decide) ?_
  exact x_iret C rfl rfl hW hZ hkm hE dX15_early_273
set_option maxRecDepth 20000 in
theorem bX15_early_240 {p : Program} {l : Launch} {e : Env} {s : State} {m : MethodId} {args : Array Value} {below : List Frame} {meth : Method} {c : Code} {X : Ec} {h0 : Hp} {o : Int32 × Hp} {k_218 : Hp → Nat → Nat → Int32 → Option (Int32 × Hp)} {F : Nat} (C : Cx X p s m args meth c RX15 cX15_early 5 (some .int) "early") (hk_218 : ∀ (h : Hp) (x0 : Nat) (x1 : Nat) (x2 : Int32) (H : Heap) (locs : List Loc), hK h x0 = 15 → hK h x1 = 12 → Km h0 h → Wx X h H → va_S (aA (eB X)) s.heap H locs → ∀ (ls : Array Slot), lv_has ls 5 [(0, .ref x0), (1, .ref x1), (2, .int x2)] → k_218 h x0 x1 x2 = some o → W p l e (rm 2 44) s m args below meth c H locs 0 0 (MQ below (QI X h0 o.1 o.2) args s 0 0 (aA (eB X))) (F0 m 218 ls [])) {h : Hp} {x0 : Nat} {x1 : Nat} {x2 : Int32} {t0 : Int32} {H : Heap} {locs : List Loc} (k_x0 : hK h x0 = 15) (k_x1 : hK h x1 = 12) (hkm : Km h0 h) (hW : Wx X h H) (hZ : va_S (aA (eB X)) s.heap H locs) (ls : Array Slot) (hl : lv_has ls 5 [(0, .ref x0), (1, .ref x1), (2, .int x2)]) (hE : sX15_early_240 F k_218 h x0 x1 x2 t0 = some o) : W p l e (rm 2 44) s m args below meth c H locs 0 0 (MQ below (QI X h0 o.1 o.2) args s 0 0 (aA (eB X))) (F0 m 240 ls [.int t0]) := by
  refine lv_istore_n (lv' := [(3, .int t0), (0, .ref x0), (1, .ref x1), (2, .int x2)]) C.1 C.2.1 dX15_early_240 rfl hl (by decide) rfl (fun ls hl => ?_)
  refine lv_aload_n C.1 C.2.1 dX15_early_241 rfl (lv_at hl 1 rfl) ?_
  refine lv_aload_n C.1 C.2.1 dX15_early_242 rfl (lv_at hl 2 rfl) ?_
  refine lv_iload_n C.1 C.2.1 dX15_early_243 rfl (lv_at hl 0 rfl) ?_
  obtain ⟨o_1, eo_1, hE⟩ := cl_e hE
  refine x_kI (o := o_1) (z_runV (As := [.ref x1, .int t0]) (rest := []) C (ct_X15_hasMen l X F k_x0 k_x1 eo_1) cw_X15_649 hW hZ k_x0 (by decide) rfl rfl rfl hl.1 (Nat.le_of_ble_eq_true rfl) rfl dX15_early_244 ⟨Nat.le_of_ble_eq_true rfl, Nat.le_of_ble_eq_true rfl⟩ ⟨Nat.le_refl _, Nat.le_refl _⟩) hZ (fun _ _ hW km hZ => ?_)
  replace hkm := hkm.tr km
  replace k_x0 := km.at k_x0 (by decide)
  replace k_x1 := km.at k_x1 (by decide)
  refine lv_if_ne (tgt := 274) C.1 C.2.1 dX15_early_247 (by decide) (fun c_2 => ?_) (fun c_2 => ?_)
  · have hE := br_n hE c_2
    obtain ⟨v_3, ev_3, hE⟩ := nm_e2 hE
    refine lv_iinc (v := v_3) (lv' := [(2, .int v_3), (3, .int t0), (0, .ref x0), (1, .ref x1)]) C.1 C.2.1 dX15_early_274 hl (k := 3) rfl (by rw [ev_3]; rfl) (by decide) rfl (fun ls hl => ?_)
    refine lv_goto (tgt := 218) C.1 C.2.1 dX15_early_277 (by decide) ?_
    exact hk_218 _ _ _ _ _ _ k_x0 k_x1 hkm hW hZ _ (lv_sub hl [2, 3, 0] rfl) hE
  · have hE := br_p hE c_2
    refine lv_aload_n C.1 C.2.1 dX15_early_250 rfl (lv_at hl 1 rfl) ?_
    refine lv_aload_n C.1 C.2.1 dX15_early_251 rfl (lv_at hl 1 rfl) ?_
    obtain ⟨r_4, er_4, hE⟩ := cl_e hE
    refine gf_X15_252 C hW k_x0 er_4 dX15_early_252 (fun k_r_4 => ?_)
    refine gf_X15_244 C hW k_r_4 dX15_early_255 ?_
    refine lv_iconst (v := (1 : Int32)) C.1 C.2.1 dX15_early_258 (by decide) ?_
    refine lv_icmp_ne (tgt := 266) C.1 C.2.1 dX15_early_259 (by decide) (fun c_5 => ?_) (fun c_5 => ?_)
    · have hE := br_n hE c_5
      refine lv_iconst (v := (1 : Int32)) C.1 C.2.1 dX15_early_266 (by decide) ?_
      refine lv_iload_n C.1 C.2.1 dX15_early_267 rfl (lv_at hl 0 rfl) ?_
      refine lv_isub C.1 C.2.1 dX15_early_268 ?_
      exact bX15_early_269 C k_x0 hkm hW hZ _ (lv_sub hl [] rfl) hE
    · have hE := br_p hE c_5
      refine lv_iload_n C.1 C.2.1 dX15_early_262 rfl (lv_at hl 0 rfl) ?_
      refine lv_goto (tgt := 269) C.1 C.2.1 dX15_early_263 (by decide) ?_
      exact bX15_early_269 C k_x0 hkm hW hZ _ (lv_sub hl [] rfl) hE
set_option maxRecDepth 20000 in
theorem bX15_early_218 {p : Program} {l : Launch} {e : Env} {s : State} {m : MethodId} {args : Array Value} {below : List Frame} {meth : Method} {c : Code} {X : Ec} {h0 : Hp} {o : Int32 × Hp} {F : Nat} (C : Cx X p s m args meth c RX15 cX15_early 5 (some .int) "early") : ∀ (f : Nat) {h : Hp} {x0 : Nat} {x1 : Nat} {x2 : Int32} {H : Heap} {locs : List Loc} (k_x0 : hK h x0 = 15) (k_x1 : hK h x1 = 12), Km h0 h → Wx X h H → va_S (aA (eB X)) s.heap H locs → ∀ (ls : Array Slot), lv_has ls 5 [(0, .ref x0), (1, .ref x1), (2, .int x2)] → sX15_early_218 F f h x0 x1 x2 = some o → W p l e (rm 2 44) s m args below meth c H locs 0 0 (MQ below (QI X h0 o.1 o.2) args s 0 0 (aA (eB X))) (F0 m 218 ls []) := by
  intro f
  induction f with
  | zero =>
    intro h x0 x1 x2 H locs k_x0 k_x1 hkm hW hZ ls hl hE
    rw [sX15_early_218] at hE
    cases hE
  | succ f ih =>
    intro h x0 x1 x2 H locs k_x0 k_x1 hkm hW hZ ls hl hE
    rw [sX15_early_218] at hE
    have hk_218 : ∀ (h : Hp) (x0 : Nat) (x1 : Nat) (x2 : Int32) (H : Heap) (locs : List Loc), hK h x0 = 15 → hK h x1 = 12 → Km h0 h → Wx X h H → va_S (aA (eB X)) s.heap H locs → ∀ (ls : Array Slot), lv_has ls 5 [(0, .ref x0), (1, .ref x1), (2, .int x2)] → sX15_early_218 F f h x0 x1 x2 = some o → W p l e (rm 2 44) s m args below meth c H locs 0 0 (MQ below (QI X h0 o.1 o.2) args s 0 0 (aA (eB X))) (F0 m 218 ls []) := fun h x0 x1 x2 H locs k_x0 k_x1 a b c ls hl hE => ih k_x0 k_x1 a b c ls hl hE
    refine lv_iload_n C.1 C.2.1 dX15_early_218 rfl (lv_at hl 2 rfl) ?_
    refine lv_iconst (v := (2 : Int32)) C.1 C.2.1 dX15_early_219 (by decide) ?_
    refine lv_icmp_ge (tgt := 280) C.1 C.2.1 dX15_early_220 (by decide) (fun c_1 => ?_) (fun c_1 => ?_)
    · have hE := br_p hE c_1
      refine lv_iconst (v := (0 : Int32)) C.1 C.2.1 dX15_early_280 (by decide) ?_
      exact x_iret C rfl rfl hW hZ hkm hE dX15_early_281
    · have hE := br_n hE c_1
      refine lv_iload_n C.1 C.2.1 dX15_early_223 rfl (lv_at hl 2 rfl) ?_
      refine lv_if_ne (tgt := 234) C.1 C.2.1 dX15_early_224 (by decide) (fun c_2 => ?_) (fun c_2 => ?_)
      · have hE := br_n hE c_2
        refine lv_iconst (v := (1 : Int32)) C.1 C.2.1 dX15_early_234 (by decide) ?_
        refine lv_aload_n C.1 C.2.1 dX15_early_235 rfl (lv_at hl 1 rfl) ?_
        refine gf_X15_452 C hW k_x1 dX15_early_236 ?_
        refine lv_isub C.1 C.2.1 dX15_early_239 ?_
        exact bX15_early_240 C hk_218 k_x0 k_x1 hkm hW hZ _ (lv_sub hl [0, 1, 2] rfl) hE
      · have hE := br_p hE c_2
        refine lv_aload_n C.1 C.2.1 dX15_early_227 rfl (lv_at hl 1 rfl) ?_
        refine gf_X15_452 C hW k_x1 dX15_early_228 ?_
        refine lv_goto (tgt := 240) C.1 C.2.1 dX15_early_231 (by decide) ?_
        exact bX15_early_240 C hk_218 k_x0 k_x1 hkm hW hZ _ (lv_sub hl [0, 1, 2] rfl) hE
set_option maxRecDepth 20000 in
theorem bX15_early_216 {p : Program} {l : Launch} {e : Env} {s : State} {m : MethodId} {args : Array Value} {below : List Frame} {meth : Method} {c : Code} {X : Ec} {h0 : Hp} {o : Int32 × Hp} {F : Nat} (C : Cx X p s m args meth c RX15 cX15_early 5 (some .int) "early") {h : Hp} {x0 : Nat} {x1 : Nat} {H : Heap} {locs : List Loc} (k_x0 : hK h x0 = 15) (k_x1 : hK h x1 = 12) (hkm : Km h0 h) (hW : Wx X h H) (hZ : va_S (aA (eB X)) s.heap H locs) (ls : Array Slot) (hl : lv_has ls 5 [(0, .ref x0), (1, .ref x1)]) (hE : sX15_early_216 F h x0 x1 = some o) : W p l e (rm 2 44) s m args below meth c H locs 0 0 (MQ below (QI X h0 o.1 o.2) args s 0 0 (aA (eB X))) (F0 m 216 ls []) := by
  refine lv_iconst (v := (0 : Int32)) C.1 C.2.1 dX15_early_216 (by decide) ?_
  refine lv_istore_n (lv' := [(2, .int (0 : Int32)), (0, .ref x0), (1, .ref x1)]) C.1 C.2.1 dX15_early_217 rfl hl (by decide) rfl (fun ls hl => ?_)
  exact bX15_early_218 C F k_x0 k_x1 hkm hW hZ _ (lv_sub hl [1, 2, 0] rfl) hE
set_option maxRecDepth 20000 in
theorem bX15_early_186 {p : Program} {l : Launch} {e : Env} {s : State} {m : MethodId} {args : Array Value} {below : List Frame} {meth : Method} {c : Code} {X : Ec} {h0 : Hp} {o : Int32 × Hp} {k_154 : Hp → Nat → Nat → Int32 → Option (Int32 × Hp)} {F : Nat} (C : Cx X p s m args meth c RX15 cX15_early 5 (some .int) "early") (hk_154 : ∀ (h : Hp) (x0 : Nat) (x1 : Nat) (x2 : Int32) (H : Heap) (locs : List Loc), hK h x0 = 15 → hK h x1 = 12 → Km h0 h → Wx X h H → va_S (aA (eB X)) s.heap H locs → ∀ (ls : Array Slot), lv_has ls 5 [(0, .ref x0), (1, .ref x1), (2, .int x2)] → k_154 h x0 x1 x2 = some o → W p l e (rm 2 44) s m args below meth c H locs 0 0 (MQ below (QI X h0 o.1 o.2) args s 0 0 (aA (eB X))) (F0 m 154 ls [])) {h : Hp} {x0 : Nat} {x1 : Nat} {x2 : Int32} {t0 : Int32} {H : Heap} {locs : List Loc} (k_x0 : hK h x0 = 15) (k_x1 : hK h x1 = 12) (hkm : Km h0 h) (hW : Wx X h H) (hZ : va_S (aA (eB X)) s.heap H locs) (ls : Array Slot) (hl : lv_has ls 5 [(0, .ref x0), (1, .ref x1), (2, .int x2)]) (hE : sX15_early_186 F k_154 h x0 x1 x2 t0 = some o) : W p l e (rm 2 44) s m args below meth c H locs 0 0 (MQ below (QI X h0 o.1 o.2) args s 0 0 (aA (eB X))) (F0 m 186 ls [.int t0]) := by
  refine lv_istore_n (lv' := [(3, .int t0), (0, .ref x0), (1, .ref x1), (2, .int x2)]) C.1 C.2.1 dX15_early_186 rfl hl (by decide) rfl (fun ls hl => ?_)
  refine lv_aload_n C.1 C.2.1 dX15_early_187 rfl (lv_at hl 2 rfl) ?_
  obtain ⟨r_1, er_1, hE⟩ := cl_e hE
  refine gf_X15_447 C hW k_x1 er_1 dX15_early_188 (fun k_r_1 => ?_)
  refine lv_iload_n C.1 C.2.1 dX15_early_191 rfl (lv_at hl 0 rfl) ?_
  obtain ⟨g_2, hE⟩ := gd_e hE
  refine y_iald C hW k_r_1 g_2 dX15_early_192 ?_
  refine lv_aload_n C.1 C.2.1 dX15_early_193 rfl (lv_at hl 1 rfl) ?_
  obtain ⟨r_3, er_3, hE⟩ := cl_e hE
  refine gf_X15_252 C hW k_x0 er_3 dX15_early_194 (fun k_r_3 => ?_)
  refine gf_X15_233 C hW k_r_3 dX15_early_197 ?_
  refine lv_icmp_lt (tgt := 210) C.1 C.2.1 dX15_early_200 (by decide) (fun c_4 => ?_) (fun c_4 => ?_)
  · have hE := br_p hE c_4
    obtain ⟨v_5, ev_5, hE⟩ := nm_e2 hE
    refine lv_iinc (v := v_5) (lv' := [(2, .int v_5), (3, .int t0), (0, .ref x0), (1, .ref x1)]) C.1 C.2.1 dX15_early_210 hl (k := 3) rfl (by rw [ev_5]; rfl) (by decide) rfl (fun ls hl => ?_)
    refine lv_goto (tgt := 154) C.1 C.2.1 dX15_early_213 (by decide) ?_
    exact hk_154 _ _ _ _ _ _ k_x0 k_x1 hkm hW hZ _ (lv_sub hl [2, 3, 0] rfl) hE
  · have hE := br_n hE c_4
    refine lv_aload_n C.1 C.2.1 dX15_early_203 rfl (lv_at hl 1 rfl) ?_
    refine lv_iload_n C.1 C.2.1 dX15_early_204 rfl (lv_at hl 0 rfl) ?_
    obtain ⟨h_6, eh_6, hE⟩ := nm_e2 hE
    refine pf_X15_646 C hW hZ k_x0 eh_6 dX15_early_205 (fun _ _ hW km hZ => ?_)
    replace hkm := hkm.tr km
    replace k_x0 := km.at k_x0 (by decide)
    replace k_x1 := km.at k_x1 (by decide)
    refine lv_iconst (v := (3 : Int32)) C.1 C.2.1 dX15_early_208 (by decide) ?_
    exact x_iret C rfl rfl hW hZ hkm hE dX15_early_209
set_option maxRecDepth 20000 in
theorem bX15_early_154 {p : Program} {l : Launch} {e : Env} {s : State} {m : MethodId} {args : Array Value} {below : List Frame} {meth : Method} {c : Code} {X : Ec} {h0 : Hp} {o : Int32 × Hp} {F : Nat} (C : Cx X p s m args meth c RX15 cX15_early 5 (some .int) "early") : ∀ (f : Nat) {h : Hp} {x0 : Nat} {x1 : Nat} {x2 : Int32} {H : Heap} {locs : List Loc} (k_x0 : hK h x0 = 15) (k_x1 : hK h x1 = 12), Km h0 h → Wx X h H → va_S (aA (eB X)) s.heap H locs → ∀ (ls : Array Slot), lv_has ls 5 [(0, .ref x0), (1, .ref x1), (2, .int x2)] → sX15_early_154 F f h x0 x1 x2 = some o → W p l e (rm 2 44) s m args below meth c H locs 0 0 (MQ below (QI X h0 o.1 o.2) args s 0 0 (aA (eB X))) (F0 m 154 ls []) := by
  intro f
  induction f with
  | zero =>
    intro h x0 x1 x2 H locs k_x0 k_x1 hkm hW hZ ls hl hE
    rw [sX15_early_154] at hE
    cases hE
  | succ f ih =>
    intro h x0 x1 x2 H locs k_x0 k_x1 hkm hW hZ ls hl hE
    rw [sX15_early_154] at hE
    have hk_154 : ∀ (h : Hp) (x0 : Nat) (x1 : Nat) (x2 : Int32) (H : Heap) (locs : List Loc), hK h x0 = 15 → hK h x1 = 12 → Km h0 h → Wx X h H → va_S (aA (eB X)) s.heap H locs → ∀ (ls : Array Slot), lv_has ls 5 [(0, .ref x0), (1, .ref x1), (2, .int x2)] → sX15_early_154 F f h x0 x1 x2 = some o → W p l e (rm 2 44) s m args below meth c H locs 0 0 (MQ below (QI X h0 o.1 o.2) args s 0 0 (aA (eB X))) (F0 m 154 ls []) := fun h x0 x1 x2 H locs k_x0 k_x1 a b c ls hl hE => ih k_x0 k_x1 a b c ls hl hE
    refine lv_iload_n C.1 C.2.1 dX15_early_154 rfl (lv_at hl 2 rfl) ?_
    refine lv_iconst (v := (2 : Int32)) C.1 C.2.1 dX15_early_155 (by decide) ?_
    refine lv_icmp_ge (tgt := 216) C.1 C.2.1 dX15_early_156 (by decide) (fun c_1 => ?_) (fun c_1 => ?_)
    · have hE := br_p hE c_1
      exact bX15_early_216 C k_x0 k_x1 hkm hW hZ _ (lv_sub hl [0, 1] rfl) hE
    · have hE := br_n hE c_1
      refine lv_aload_n C.1 C.2.1 dX15_early_159 rfl (lv_at hl 0 rfl) ?_
      obtain ⟨r_2, er_2, hE⟩ := cl_e hE
      refine gf_X15_252 C hW k_x0 er_2 dX15_early_160 (fun k_r_2 => ?_)
      refine gf_X15_233 C hW k_r_2 dX15_early_163 ?_
      refine lv_if_le (tgt := 216) C.1 C.2.1 dX15_early_166 (by decide) (fun c_3 => ?_) (fun c_3 => ?_)
      · have hE := br_p hE c_3
        exact bX15_early_216 C k_x0 k_x1 hkm hW hZ _ (lv_sub hl [0, 1] rfl) hE
      · have hE := br_n hE c_3
        refine lv_iload_n C.1 C.2.1 dX15_early_169 rfl (lv_at hl 2 rfl) ?_
        refine lv_if_ne (tgt := 182) C.1 C.2.1 dX15_early_170 (by decide) (fun c_4 => ?_) (fun c_4 => ?_)
        · have hE := br_n hE c_4
          refine lv_aload_n C.1 C.2.1 dX15_early_182 rfl (lv_at hl 1 rfl) ?_
          refine gf_X15_452 C hW k_x1 dX15_early_183 ?_
          exact bX15_early_186 C hk_154 k_x0 k_x1 hkm hW hZ _ (lv_sub hl [0, 1, 2] rfl) hE
        · have hE := br_p hE c_4
          refine lv_iconst (v := (1 : Int32)) C.1 C.2.1 dX15_early_173 (by decide) ?_
          refine lv_aload_n C.1 C.2.1 dX15_early_174 rfl (lv_at hl 1 rfl) ?_
          refine gf_X15_452 C hW k_x1 dX15_early_175 ?_
          refine lv_isub C.1 C.2.1 dX15_early_178 ?_
          refine lv_goto (tgt := 186) C.1 C.2.1 dX15_early_179 (by decide) ?_
          exact bX15_early_186 C hk_154 k_x0 k_x1 hkm hW hZ _ (lv_sub hl [0, 1, 2] rfl) hE
set_option maxRecDepth 20000 in
theorem bX15_early_152 {p : Program} {l : Launch} {e : Env} {s : State} {m : MethodId} {args : Array Value} {below : List Frame} {meth : Method} {c : Code} {X : Ec} {h0 : Hp} {o : Int32 × Hp} {F : Nat} (C : Cx X p s m args meth c RX15 cX15_early 5 (some .int) "early") {h : Hp} {x0 : Nat} {x1 : Nat} {H : Heap} {locs : List Loc} (k_x0 : hK h x0 = 15) (k_x1 : hK h x1 = 12) (hkm : Km h0 h) (hW : Wx X h H) (hZ : va_S (aA (eB X)) s.heap H locs) (ls : Array Slot) (hl : lv_has ls 5 [(0, .ref x0), (1, .ref x1)]) (hE : sX15_early_152 F h x0 x1 = some o) : W p l e (rm 2 44) s m args below meth c H locs 0 0 (MQ below (QI X h0 o.1 o.2) args s 0 0 (aA (eB X))) (F0 m 152 ls []) := by
  refine lv_iconst (v := (0 : Int32)) C.1 C.2.1 dX15_early_152 (by decide) ?_
  refine lv_istore_n (lv' := [(2, .int (0 : Int32)), (0, .ref x0), (1, .ref x1)]) C.1 C.2.1 dX15_early_153 rfl hl (by decide) rfl (fun ls hl => ?_)
  exact bX15_early_154 C F k_x0 k_x1 hkm hW hZ _ (lv_sub hl [1, 2, 0] rfl) hE
set_option maxRecDepth 20000 in
theorem bX15_early_146 {p : Program} {l : Launch} {e : Env} {s : State} {m : MethodId} {args : Array Value} {below : List Frame} {meth : Method} {c : Code} {X : Ec} {h0 : Hp} {o : Int32 × Hp} {k_73 : Hp → Nat → Nat → Int32 → Option (Int32 × Hp)} {F : Nat} (C : Cx X p s m args meth c RX15 cX15_early 5 (some .int) "early") (hk_73 : ∀ (h : Hp) (x0 : Nat) (x1 : Nat) (x2 : Int32) (H : Heap) (locs : List Loc), hK h x0 = 15 → hK h x1 = 12 → Km h0 h → Wx X h H → va_S (aA (eB X)) s.heap H locs → ∀ (ls : Array Slot), lv_has ls 5 [(0, .ref x0), (1, .ref x1), (2, .int x2)] → k_73 h x0 x1 x2 = some o → W p l e (rm 2 44) s m args below meth c H locs 0 0 (MQ below (QI X h0 o.1 o.2) args s 0 0 (aA (eB X))) (F0 m 73 ls [])) {h : Hp} {x0 : Nat} {x1 : Nat} {x2 : Int32} {H : Heap} {locs : List Loc} (k_x0 : hK h x0 = 15) (k_x1 : hK h x1 = 12) (hkm : Km h0 h) (hW : Wx X h H) (hZ : va_S (aA (eB X)) s.heap H locs) (ls : Array Slot) (hl : lv_has ls 5 [(0, .ref x0), (1, .ref x1), (2, .int x2)]) (hE : sX15_early_146 F k_73 h x0 x1 x2 = some o) : W p l e (rm 2 44) s m args below meth c H locs 0 0 (MQ below (QI X h0 o.1 o.2) args s 0 0 (aA (eB X))) (F0 m 146 ls []) := by
  obtain ⟨v_1, ev_1, hE⟩ := nm_e2 hE
  refine lv_iinc (v := v_1) (lv' := [(2, .int v_1), (0, .ref x0), (1, .ref x1)]) C.1 C.2.1 dX15_early_146 hl (k := 2) rfl (by rw [ev_1]; rfl) (by decide) rfl (fun ls hl => ?_)
  refine lv_goto (tgt := 73) C.1 C.2.1 dX15_early_149 (by decide) ?_
  exact hk_73 _ _ _ _ _ _ k_x0 k_x1 hkm hW hZ _ (lv_sub hl [1, 2, 0] rfl) hE
set_option maxRecDepth 20000 in
theorem bX15_early_107 {p : Program} {l : Launch} {e : Env} {s : State} {m : MethodId} {args : Array Value} {below : List Frame} {meth : Method} {c : Code} {X : Ec} {h0 : Hp} {o : Int32 × Hp} {k_73 : Hp → Nat → Nat → Int32 → Option (Int32 × Hp)} {F : Nat} (C : Cx X p s m args meth c RX15 cX15_early 5 (some .int) "early") (hk_73 : ∀ (h : Hp) (x0 : Nat) (x1 : Nat) (x2 : Int32) (H : Heap) (locs : List Loc), hK h x0 = 15 → hK h x1 = 12 → Km h0 h → Wx X h H → va_S (aA (eB X)) s.heap H locs → ∀ (ls : Array Slot), lv_has ls 5 [(0, .ref x0), (1, .ref x1), (2, .int x2)] → k_73 h x0 x1 x2 = some o → W p l e (rm 2 44) s m args below meth c H locs 0 0 (MQ below (QI X h0 o.1 o.2) args s 0 0 (aA (eB X))) (F0 m 73 ls [])) {h : Hp} {x0 : Nat} {x1 : Nat} {x2 : Int32} {t0 : Int32} {H : Heap} {locs : List Loc} (k_x0 : hK h x0 = 15) (k_x1 : hK h x1 = 12) (hkm : Km h0 h) (hW : Wx X h H) (hZ : va_S (aA (eB X)) s.heap H locs) (ls : Array Slot) (hl : lv_has ls 5 [(0, .ref x0), (1, .ref x1), (2, .int x2)]) (hE : sX15_early_107 F k_73 h x0 x1 x2 t0 = some o) : W p l e (rm 2 44) s m args below meth c H locs 0 0 (MQ below (QI X h0 o.1 o.2) args s 0 0 (aA (eB X))) (F0 m 107 ls [.int t0]) := by
  refine lv_istore_n (lv' := [(3, .int t0), (0, .ref x0), (1, .ref x1), (2, .int x2)]) C.1 C.2.1 dX15_early_107 rfl hl (by decide) rfl (fun ls hl => ?_)
  refine lv_aload_n C.1 C.2.1 dX15_early_108 rfl (lv_at hl 1 rfl) ?_
  refine lv_aload_n C.1 C.2.1 dX15_early_109 rfl (lv_at hl 2 rfl) ?_
  refine lv_iload_n C.1 C.2.1 dX15_early_110 rfl (lv_at hl 0 rfl) ?_
  obtain ⟨o_1, eo_1, hE⟩ := cl_e hE
  refine x_kI (o := o_1) (z_runV (As := [.ref x1, .int t0]) (rest := []) C (ct_X15_royalOf l X F k_x0 k_x1 eo_1) cw_X15_508 hW hZ k_x0 (by decide) rfl rfl rfl hl.1 (Nat.le_of_ble_eq_true rfl) rfl dX15_early_111 ⟨Nat.le_of_ble_eq_true rfl, Nat.le_of_ble_eq_true rfl⟩ ⟨Nat.le_refl _, Nat.le_refl _⟩) hZ (fun _ _ hW km hZ => ?_)
  replace hkm := hkm.tr km
  replace k_x0 := km.at k_x0 (by decide)
  replace k_x1 := km.at k_x1 (by decide)
  refine lv_istore (lv' := [(4, .int o_1.1), (3, .int t0), (0, .ref x0), (1, .ref x1), (2, .int x2)]) C.1 C.2.1 dX15_early_114 hl (by decide) rfl (fun ls hl => ?_)
  refine lv_iload C.1 C.2.1 dX15_early_116 (lv_at hl 0 rfl) ?_
  refine lv_iconst (v := (-1 : Int32)) C.1 C.2.1 dX15_early_118 (by decide) ?_
  refine lv_icmp_eq (tgt := 146) C.1 C.2.1 dX15_early_119 (by decide) (fun c_2 => ?_) (fun c_2 => ?_)
  · have hE := br_p hE c_2
    exact bX15_early_146 C hk_73 k_x0 k_x1 hkm hW hZ _ (lv_sub hl [2, 3, 4] rfl) hE
  · have hE := br_n hE c_2
    refine lv_aload_n C.1 C.2.1 dX15_early_122 rfl (lv_at hl 2 rfl) ?_
    obtain ⟨r_3, er_3, hE⟩ := cl_e hE
    refine gf_X15_252 C hW k_x0 er_3 dX15_early_123 (fun k_r_3 => ?_)
    refine gf_X15_235 C hW k_r_3 dX15_early_126 ?_
    refine lv_iload C.1 C.2.1 dX15_early_129 (lv_at hl 0 rfl) ?_
    refine lv_lshr C.1 C.2.1 dX15_early_131 rfl ?_
    refine lv_lconst (v := (1 : Int64)) C.1 C.2.1 dX15_early_132 (by decide) ?_
    refine lv_land C.1 C.2.1 dX15_early_133 ?_
    refine lv_lconst (v := (1 : Int64)) C.1 C.2.1 dX15_early_134 (by decide) ?_
    refine W.lcmp C.1 C.2.1 dX15_early_135 ?_
    refine lv_if_ne (tgt := 146) C.1 C.2.1 dX15_early_136 (by decide) (fun c_4 => ?_) (fun c_4 => ?_)
    · have hE := br_n hE c_4
      exact bX15_early_146 C hk_73 k_x0 k_x1 hkm hW hZ _ (lv_sub hl [2, 3, 4] rfl) hE
    · have hE := br_p hE c_4
      refine lv_aload_n C.1 C.2.1 dX15_early_139 rfl (lv_at hl 2 rfl) ?_
      refine lv_iload_n C.1 C.2.1 dX15_early_140 rfl (lv_at hl 1 rfl) ?_
      obtain ⟨h_5, eh_5, hE⟩ := nm_e2 hE
      refine pf_X15_646 C hW hZ k_x0 eh_5 dX15_early_141 (fun _ _ hW km hZ => ?_)
      replace hkm := hkm.tr km
      replace k_x0 := km.at k_x0 (by decide)
      replace k_x1 := km.at k_x1 (by decide)
      refine lv_iconst (v := (2 : Int32)) C.1 C.2.1 dX15_early_144 (by decide) ?_
      exact x_iret C rfl rfl hW hZ hkm hE dX15_early_145
set_option maxRecDepth 20000 in
theorem bX15_early_73 {p : Program} {l : Launch} {e : Env} {s : State} {m : MethodId} {args : Array Value} {below : List Frame} {meth : Method} {c : Code} {X : Ec} {h0 : Hp} {o : Int32 × Hp} {F : Nat} (C : Cx X p s m args meth c RX15 cX15_early 5 (some .int) "early") : ∀ (f : Nat) {h : Hp} {x0 : Nat} {x1 : Nat} {x2 : Int32} {H : Heap} {locs : List Loc} (k_x0 : hK h x0 = 15) (k_x1 : hK h x1 = 12), Km h0 h → Wx X h H → va_S (aA (eB X)) s.heap H locs → ∀ (ls : Array Slot), lv_has ls 5 [(0, .ref x0), (1, .ref x1), (2, .int x2)] → sX15_early_73 F f h x0 x1 x2 = some o → W p l e (rm 2 44) s m args below meth c H locs 0 0 (MQ below (QI X h0 o.1 o.2) args s 0 0 (aA (eB X))) (F0 m 73 ls []) := by
  intro f
  induction f with
  | zero =>
    intro h x0 x1 x2 H locs k_x0 k_x1 hkm hW hZ ls hl hE
    rw [sX15_early_73] at hE
    cases hE
  | succ f ih =>
    intro h x0 x1 x2 H locs k_x0 k_x1 hkm hW hZ ls hl hE
    rw [sX15_early_73] at hE
    have hk_73 : ∀ (h : Hp) (x0 : Nat) (x1 : Nat) (x2 : Int32) (H : Heap) (locs : List Loc), hK h x0 = 15 → hK h x1 = 12 → Km h0 h → Wx X h H → va_S (aA (eB X)) s.heap H locs → ∀ (ls : Array Slot), lv_has ls 5 [(0, .ref x0), (1, .ref x1), (2, .int x2)] → sX15_early_73 F f h x0 x1 x2 = some o → W p l e (rm 2 44) s m args below meth c H locs 0 0 (MQ below (QI X h0 o.1 o.2) args s 0 0 (aA (eB X))) (F0 m 73 ls []) := fun h x0 x1 x2 H locs k_x0 k_x1 a b c ls hl hE => ih k_x0 k_x1 a b c ls hl hE
    refine lv_iload_n C.1 C.2.1 dX15_early_73 rfl (lv_at hl 2 rfl) ?_
    refine lv_iconst (v := (2 : Int32)) C.1 C.2.1 dX15_early_74 (by decide) ?_
    refine lv_icmp_ge (tgt := 152) C.1 C.2.1 dX15_early_75 (by decide) (fun c_1 => ?_) (fun c_1 => ?_)
    · have hE := br_p hE c_1
      exact bX15_early_152 C k_x0 k_x1 hkm hW hZ _ (lv_sub hl [0, 1] rfl) hE
    · have hE := br_n hE c_1
      refine lv_aload_n C.1 C.2.1 dX15_early_78 rfl (lv_at hl 0 rfl) ?_
      obtain ⟨r_2, er_2, hE⟩ := cl_e hE
      refine gf_X15_252 C hW k_x0 er_2 dX15_early_79 (fun k_r_2 => ?_)
      refine gf_X15_235 C hW k_r_2 dX15_early_82 ?_
      refine lv_lconst (v := (0 : Int64)) C.1 C.2.1 dX15_early_85 (by decide) ?_
      refine W.lcmp C.1 C.2.1 dX15_early_86 ?_
      refine lv_if_eq (tgt := 152) C.1 C.2.1 dX15_early_87 (by decide) (fun c_3 => ?_) (fun c_3 => ?_)
      · have hE := br_p hE c_3
        exact bX15_early_152 C k_x0 k_x1 hkm hW hZ _ (lv_sub hl [0, 1] rfl) hE
      · have hE := br_n hE c_3
        refine lv_iload_n C.1 C.2.1 dX15_early_90 rfl (lv_at hl 2 rfl) ?_
        refine lv_if_ne (tgt := 103) C.1 C.2.1 dX15_early_91 (by decide) (fun c_4 => ?_) (fun c_4 => ?_)
        · have hE := br_n hE c_4
          refine lv_aload_n C.1 C.2.1 dX15_early_103 rfl (lv_at hl 1 rfl) ?_
          refine gf_X15_452 C hW k_x1 dX15_early_104 ?_
          exact bX15_early_107 C hk_73 k_x0 k_x1 hkm hW hZ _ (lv_sub hl [0, 1, 2] rfl) hE
        · have hE := br_p hE c_4
          refine lv_iconst (v := (1 : Int32)) C.1 C.2.1 dX15_early_94 (by decide) ?_
          refine lv_aload_n C.1 C.2.1 dX15_early_95 rfl (lv_at hl 1 rfl) ?_
          refine gf_X15_452 C hW k_x1 dX15_early_96 ?_
          refine lv_isub C.1 C.2.1 dX15_early_99 ?_
          refine lv_goto (tgt := 107) C.1 C.2.1 dX15_early_100 (by decide) ?_
          exact bX15_early_107 C hk_73 k_x0 k_x1 hkm hW hZ _ (lv_sub hl [0, 1, 2] rfl) hE
set_option maxRecDepth 20000 in
theorem bX15_early_71 {p : Program} {l : Launch} {e : Env} {s : State} {m : MethodId} {args : Array Value} {below : List Frame} {meth : Method} {c : Code} {X : Ec} {h0 : Hp} {o : Int32 × Hp} {F : Nat} (C : Cx X p s m args meth c RX15 cX15_early 5 (some .int) "early") {h : Hp} {x0 : Nat} {x1 : Nat} {H : Heap} {locs : List Loc} (k_x0 : hK h x0 = 15) (k_x1 : hK h x1 = 12) (hkm : Km h0 h) (hW : Wx X h H) (hZ : va_S (aA (eB X)) s.heap H locs) (ls : Array Slot) (hl : lv_has ls 5 [(0, .ref x0), (1, .ref x1)]) (hE : sX15_early_71 F h x0 x1 = some o) : W p l e (rm 2 44) s m args below meth c H locs 0 0 (MQ below (QI X h0 o.1 o.2) args s 0 0 (aA (eB X))) (F0 m 71 ls []) := by
  refine lv_iconst (v := (0 : Int32)) C.1 C.2.1 dX15_early_71 (by decide) ?_
  refine lv_istore_n (lv' := [(2, .int (0 : Int32)), (0, .ref x0), (1, .ref x1)]) C.1 C.2.1 dX15_early_72 rfl hl (by decide) rfl (fun ls hl => ?_)
  exact bX15_early_73 C F k_x0 k_x1 hkm hW hZ _ (lv_sub hl [1, 2, 0] rfl) hE
set_option maxRecDepth 20000 in
theorem bX15_early_45 {p : Program} {l : Launch} {e : Env} {s : State} {m : MethodId} {args : Array Value} {below : List Frame} {meth : Method} {c : Code} {X : Ec} {h0 : Hp} {o : Int32 × Hp} {k_2 : Hp → Nat → Nat → Int32 → Option (Int32 × Hp)} {F : Nat} (C : Cx X p s m args meth c RX15 cX15_early 5 (some .int) "early") (hk_2 : ∀ (h : Hp) (x0 : Nat) (x1 : Nat) (x2 : Int32) (H : Heap) (locs : List Loc), hK h x0 = 15 → hK h x1 = 12 → Km h0 h → Wx X h H → va_S (aA (eB X)) s.heap H locs → ∀ (ls : Array Slot), lv_has ls 5 [(0, .ref x0), (1, .ref x1), (2, .int x2)] → k_2 h x0 x1 x2 = some o → W p l e (rm 2 44) s m args below meth c H locs 0 0 (MQ below (QI X h0 o.1 o.2) args s 0 0 (aA (eB X))) (F0 m 2 ls [])) {h : Hp} {x0 : Nat} {x1 : Nat} {x2 : Int32} {t0 : Int32} {H : Heap} {locs : List Loc} (k_x0 : hK h x0 = 15) (k_x1 : hK h x1 = 12) (hkm : Km h0 h) (hW : Wx X h H) (hZ : va_S (aA (eB X)) s.heap H locs) (ls : Array Slot) (hl : lv_has ls 5 [(0, .ref x0), (1, .ref x1), (2, .int x2)]) (hE : sX15_early_45 F k_2 h x0 x1 x2 t0 = some o) : W p l e (rm 2 44) s m args below meth c H locs 0 0 (MQ below (QI X h0 o.1 o.2) args s 0 0 (aA (eB X))) (F0 m 45 ls [.int t0]) := by
  refine lv_istore_n (lv' := [(3, .int t0), (0, .ref x0), (1, .ref x1), (2, .int x2)]) C.1 C.2.1 dX15_early_45 rfl hl (by decide) rfl (fun ls hl => ?_)
  refine lv_aload_n C.1 C.2.1 dX15_early_46 rfl (lv_at hl 1 rfl) ?_
  refine lv_aload_n C.1 C.2.1 dX15_early_47 rfl (lv_at hl 2 rfl) ?_
  refine lv_iload_n C.1 C.2.1 dX15_early_48 rfl (lv_at hl 0 rfl) ?_
  obtain ⟨o_1, eo_1, hE⟩ := cl_e hE
  refine x_kI (o := o_1) (z_runV (As := [.ref x1, .int t0]) (rest := []) C (ct_X15_royalOf l X F k_x0 k_x1 eo_1) cw_X15_508 hW hZ k_x0 (by decide) rfl rfl rfl hl.1 (Nat.le_of_ble_eq_true rfl) rfl dX15_early_49 ⟨Nat.le_of_ble_eq_true rfl, Nat.le_of_ble_eq_true rfl⟩ ⟨Nat.le_refl _, Nat.le_refl _⟩) hZ (fun _ _ hW km hZ => ?_)
  replace hkm := hkm.tr km
  replace k_x0 := km.at k_x0 (by decide)
  replace k_x1 := km.at k_x1 (by decide)
  refine lv_iconst (v := (-1 : Int32)) C.1 C.2.1 dX15_early_52 (by decide) ?_
  refine lv_icmp_ne (tgt := 65) C.1 C.2.1 dX15_early_53 (by decide) (fun c_2 => ?_) (fun c_2 => ?_)
  · have hE := br_n hE c_2
    obtain ⟨v_3, ev_3, hE⟩ := nm_e2 hE
    refine lv_iinc (v := v_3) (lv' := [(2, .int v_3), (3, .int t0), (0, .ref x0), (1, .ref x1)]) C.1 C.2.1 dX15_early_65 hl (k := 3) rfl (by rw [ev_3]; rfl) (by decide) rfl (fun ls hl => ?_)
    refine lv_goto (tgt := 2) C.1 C.2.1 dX15_early_68 (by decide) ?_
    exact hk_2 _ _ _ _ _ _ k_x0 k_x1 hkm hW hZ _ (lv_sub hl [2, 3, 0] rfl) hE
  · have hE := br_p hE c_2
    refine lv_aload_n C.1 C.2.1 dX15_early_56 rfl (lv_at hl 1 rfl) ?_
    refine lv_iconst (v := (1 : Int32)) C.1 C.2.1 dX15_early_57 (by decide) ?_
    refine lv_iload_n C.1 C.2.1 dX15_early_58 rfl (lv_at hl 0 rfl) ?_
    refine lv_isub C.1 C.2.1 dX15_early_59 ?_
    obtain ⟨h_4, eh_4, hE⟩ := nm_e2 hE
    refine pf_X15_646 C hW hZ k_x0 eh_4 dX15_early_60 (fun _ _ hW km hZ => ?_)
    replace hkm := hkm.tr km
    replace k_x0 := km.at k_x0 (by decide)
    replace k_x1 := km.at k_x1 (by decide)
    refine lv_iconst (v := (1 : Int32)) C.1 C.2.1 dX15_early_63 (by decide) ?_
    exact x_iret C rfl rfl hW hZ hkm hE dX15_early_64
set_option maxRecDepth 20000 in
theorem bX15_early_2 {p : Program} {l : Launch} {e : Env} {s : State} {m : MethodId} {args : Array Value} {below : List Frame} {meth : Method} {c : Code} {X : Ec} {h0 : Hp} {o : Int32 × Hp} {F : Nat} (C : Cx X p s m args meth c RX15 cX15_early 5 (some .int) "early") : ∀ (f : Nat) {h : Hp} {x0 : Nat} {x1 : Nat} {x2 : Int32} {H : Heap} {locs : List Loc} (k_x0 : hK h x0 = 15) (k_x1 : hK h x1 = 12), Km h0 h → Wx X h H → va_S (aA (eB X)) s.heap H locs → ∀ (ls : Array Slot), lv_has ls 5 [(0, .ref x0), (1, .ref x1), (2, .int x2)] → sX15_early_2 F f h x0 x1 x2 = some o → W p l e (rm 2 44) s m args below meth c H locs 0 0 (MQ below (QI X h0 o.1 o.2) args s 0 0 (aA (eB X))) (F0 m 2 ls []) := by
  intro f
  induction f with
  | zero =>
    intro h x0 x1 x2 H locs k_x0 k_x1 hkm hW hZ ls hl hE
    rw [sX15_early_2] at hE
    cases hE
  | succ f ih =>
    intro h x0 x1 x2 H locs k_x0 k_x1 hkm hW hZ ls hl hE
    rw [sX15_early_2] at hE
    have hk_2 : ∀ (h : Hp) (x0 : Nat) (x1 : Nat) (x2 : Int32) (H : Heap) (locs : List Loc), hK h x0 = 15 → hK h x1 = 12 → Km h0 h → Wx X h H → va_S (aA (eB X)) s.heap H locs → ∀ (ls : Array Slot), lv_has ls 5 [(0, .ref x0), (1, .ref x1), (2, .int x2)] → sX15_early_2 F f h x0 x1 x2 = some o → W p l e (rm 2 44) s m args below meth c H locs 0 0 (MQ below (QI X h0 o.1 o.2) args s 0 0 (aA (eB X))) (F0 m 2 ls []) := fun h x0 x1 x2 H locs k_x0 k_x1 a b c ls hl hE => ih k_x0 k_x1 a b c ls hl hE
    refine lv_iload_n C.1 C.2.1 dX15_early_2 rfl (lv_at hl 2 rfl) ?_
    refine lv_iconst (v := (2 : Int32)) C.1 C.2.1 dX15_early_3 (by decide) ?_
    refine lv_icmp_ge (tgt := 71) C.1 C.2.1 dX15_early_4 (by decide) (fun c_1 => ?_) (fun c_1 => ?_)
    · have hE := br_p hE c_1
      exact bX15_early_71 C k_x0 k_x1 hkm hW hZ _ (lv_sub hl [0, 1] rfl) hE
    · have hE := br_n hE c_1
      refine lv_aload_n C.1 C.2.1 dX15_early_7 rfl (lv_at hl 0 rfl) ?_
      obtain ⟨r_2, er_2, hE⟩ := cl_e hE
      refine gf_X15_252 C hW k_x0 er_2 dX15_early_8 (fun k_r_2 => ?_)
      refine gf_X15_142 C hW k_r_2 dX15_early_11 ?_
      refine lv_if_eq (tgt := 71) C.1 C.2.1 dX15_early_14 (by decide) (fun c_3 => ?_) (fun c_3 => ?_)
      · have hE := br_p hE c_3
        exact bX15_early_71 C k_x0 k_x1 hkm hW hZ _ (lv_sub hl [0, 1] rfl) hE
      · have hE := br_n hE c_3
        refine lv_aload_n C.1 C.2.1 dX15_early_17 rfl (lv_at hl 0 rfl) ?_
        obtain ⟨r_4, er_4, hE⟩ := cl_e hE
        refine gf_X15_252 C hW k_x0 er_4 dX15_early_18 (fun k_r_4 => ?_)
        refine gf_X15_221 C hW k_r_4 dX15_early_21 ?_
        refine lv_iconst (v := (-1 : Int32)) C.1 C.2.1 dX15_early_24 (by decide) ?_
        refine lv_icmp_eq (tgt := 71) C.1 C.2.1 dX15_early_25 (by decide) (fun c_5 => ?_) (fun c_5 => ?_)
        · have hE := br_p hE c_5
          exact bX15_early_71 C k_x0 k_x1 hkm hW hZ _ (lv_sub hl [0, 1] rfl) hE
        · have hE := br_n hE c_5
          refine lv_iload_n C.1 C.2.1 dX15_early_28 rfl (lv_at hl 2 rfl) ?_
          refine lv_if_ne (tgt := 39) C.1 C.2.1 dX15_early_29 (by decide) (fun c_6 => ?_) (fun c_6 => ?_)
          · have hE := br_n hE c_6
            refine lv_iconst (v := (1 : Int32)) C.1 C.2.1 dX15_early_39 (by decide) ?_
            refine lv_aload_n C.1 C.2.1 dX15_early_40 rfl (lv_at hl 1 rfl) ?_
            refine gf_X15_452 C hW k_x1 dX15_early_41 ?_
            refine lv_isub C.1 C.2.1 dX15_early_44 ?_
            exact bX15_early_45 C hk_2 k_x0 k_x1 hkm hW hZ _ (lv_sub hl [0, 1, 2] rfl) hE
          · have hE := br_p hE c_6
            refine lv_aload_n C.1 C.2.1 dX15_early_32 rfl (lv_at hl 1 rfl) ?_
            refine gf_X15_452 C hW k_x1 dX15_early_33 ?_
            refine lv_goto (tgt := 45) C.1 C.2.1 dX15_early_36 (by decide) ?_
            exact bX15_early_45 C hk_2 k_x0 k_x1 hkm hW hZ _ (lv_sub hl [0, 1, 2] rfl) hE
set_option maxRecDepth 20000 in
theorem ct_X15_early (l : Launch) (X : Ec) (F : Nat) {h : Hp} {x0 : Nat} {x1 : Nat} {o : Int32 × Hp} (k_x0 : hK h x0 = 15) (k_x1 : hK h x1 = 12) (hE : sX15_early F h x0 x1 = some o) : MetI l yX15_early cX15_early 5 (some .int) 2 44 X [.ref x0, .ref x1] h o := by
  refine x_met (by decide) (Nat.le_of_ble_eq_true rfl) ?_
  intro p e s m below meth c ls C hl hW hZ
  have hl : lv_has ls 5 [(0, .ref x0), (1, .ref x1)] := hl
  have hkm : Km h h := Km.rf h
  refine lv_iconst (v := (0 : Int32)) C.1 C.2.1 dX15_early_0 (by decide) ?_
  refine lv_istore_n (lv' := [(2, .int (0 : Int32)), (0, .ref x0), (1, .ref x1)]) C.1 C.2.1 dX15_early_1 rfl hl (by decide) rfl (fun ls hl => ?_)
  exact bX15_early_2 C F k_x0 k_x1 hkm hW hZ _ (lv_sub hl [1, 2, 0] rfl) hE
