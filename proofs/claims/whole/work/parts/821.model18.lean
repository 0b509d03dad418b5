set_option maxRecDepth 100000 in
theorem ms_189 : Cond.selects RX15 yX15_sayMove yX15_sayMove ∈ W0 := w0_in (List.mem_append_left _ (List.mem_of_getElem? (i := 189) rfl)) rfl
set_option maxRecDepth 100000 in
theorem m_2647 : Cond.methodLink RX15 694 yX15_sayMove ∈ W0 := w0_in (List.mem_append_right _ (List.mem_of_getElem? (i := 2647) rfl)) rfl
set_option maxRecDepth 100000 in
theorem m_2649 : Cond.instanceMethod yX15_sayMove ∈ W0 := w0_in (List.mem_append_right _ (List.mem_of_getElem? (i := 2649) rfl)) rfl
set_option maxRecDepth 100000 in
theorem m_2650 : Cond.code yX15_sayMove cX15_sayMove 6 none ∈ W0 := w0_in (List.mem_append_right _ (List.mem_of_getElem? (i := 2650) rfl)) rfl
theorem cw_X15_694 : cwd RX15 694 yX15_sayMove cX15_sayMove 6 none false 2 := ⟨m_2650, m_2647, m_19, ⟨m_2649, ms_189⟩, by decide, by decide, by decide +kernel⟩
theorem dX15_say__0 : decode cX15_say_ 0 = .ok (.aload_n 0, 1) := by decide +kernel
theorem dX15_say__1 : decode cX15_say_ 1 = .ok (.iload_n 1, 1) := by decide +kernel
theorem dX15_say__2 : decode cX15_say_ 2 = .ok (.invokevirtual 668, 3) := by decide +kernel
theorem dX15_say__5 : decode cX15_say_ 5 = .ok (.bipush (-102), 2) := by decide +kernel
theorem dX15_say__7 : decode cX15_say_ 7 = .ok (.if_icmp .eq 18, 3) := by decide +kernel
theorem dX15_say__10 : decode cX15_say_ 10 = .ok (.iload_n 2, 1) := by decide +kernel
theorem dX15_say__11 : decode cX15_say_ 11 = .ok (.ifCond .lt 14, 3) := by decide +kernel
theorem dX15_say__14 : decode cX15_say_ 14 = .ok (.iload_n 2, 1) := by decide +kernel
theorem dX15_say__15 : decode cX15_say_ 15 = .ok (.aload_n 0, 1) := by decide +kernel
theorem dX15_say__16 : decode cX15_say_ 16 = .ok (.getfield 288, 3) := by decide +kernel
theorem dX15_say__19 : decode cX15_say_ 19 = .ok (.getfield 575, 3) := by decide +kernel
theorem dX15_say__22 : decode cX15_say_ 22 = .ok (.if_icmp .lt 6, 3) := by decide +kernel
theorem dX15_say__25 : decode cX15_say_ 25 = .ok (.bipush (-102), 2) := by decide +kernel
theorem dX15_say__27 : decode cX15_say_ 27 = .ok (.ireturn, 1) := by decide +kernel
theorem dX15_say__28 : decode cX15_say_ 28 = .ok (.aload_n 0, 1) := by decide +kernel
theorem dX15_say__29 : decode cX15_say_ 29 = .ok (.aload_n 0, 1) := by decide +kernel
theorem dX15_say__30 : decode cX15_say_ 30 = .ok (.getfield 257, 3) := by decide +kernel
theorem dX15_say__33 : decode cX15_say_ 33 = .ok (.iload_n 1, 1) := by decide +kernel
theorem dX15_say__34 : decode cX15_say_ 34 = .ok (.aaload, 1) := by decide +kernel
theorem dX15_say__35 : decode cX15_say_ 35 = .ok (.iload_n 2, 1) := by decide +kernel
theorem dX15_say__36 : decode cX15_say_ 36 = .ok (.invokevirtual 694, 3) := by decide +kernel
theorem dX15_say__39 : decode cX15_say_ 39 = .ok (.aload_n 0, 1) := by decide +kernel
theorem dX15_say__40 : decode cX15_say_ 40 = .ok (.getfield 11, 3) := by decide +kernel
theorem dX15_say__43 : decode cX15_say_ 43 = .ok (.ireturn, 1) := by decide +kernel
set_option maxRecDepth 20000 in
theorem moX15_say__25 {o : Int32 × Hp} {F : Nat} {h : Hp} (hE : sX15_say__25 F h  = some o) : Le h o.2 := by
  exact le_some2 hE
set_option maxRecDepth 20000 in
theorem moX15_say_ {o : Int32 × Hp} {F : Nat} {h : Hp} {x0 : Nat} {x1 : Int32} {x2 : Int32} (hE : sX15_say_ F h x0 x1 x2 = some o) : Le h o.2 := by
  obtain ⟨o_1, eo_1, hE⟩ := cl_e hE
  refine (moX15_moves eo_1).tr ?_
  rcases br_e hE with ⟨_, hE⟩ | ⟨_, hE⟩
  · exact moX15_say__25 hE
  · rcases br_e hE with ⟨_, hE⟩ | ⟨_, hE⟩
    · exact moX15_say__25 hE
    · obtain ⟨r_4, er_4, hE⟩ := cl_e hE
      rcases br_e hE with ⟨_, hE⟩ | ⟨_, hE⟩
      · obtain ⟨r_6, er_6, hE⟩ := cl_e hE
        obtain ⟨g_7, hE⟩ := gd_e hE
        obtain ⟨r_8, er_8, hE⟩ := cl_e hE
        obtain ⟨o_9, eo_9, hE⟩ := cl_e hE
        refine (moX15_sayMove eo_9).tr ?_
        exact le_some2 hE
      · exact moX15_say__25 hE
set_option maxRecDepth 20000 in
theorem bX15_say__25 {p : Program} {l : Launch} {e : Env} {s : State} {m : MethodId} {args : Array Value} {below : List Frame} {meth : Method} {c : Code} {X : Ec} {h0 : Hp} {o : Int32 × Hp} {F : Nat} (C : Cx X p s m args meth c RX15 cX15_say_ 3 (some .int) "say") {h : Hp} {H : Heap} {locs : List Loc} (hkm : Km h0 h) (hW : Wx X h H) (hZ : va_S (aA (eB X)) s.heap H locs) (ls : Array Slot) (hl : lv_has ls 3 []) (hE : sX15_say__25 F h  = some o) : W p l e (rm 8 216) s m args below meth c H locs 0 0 (MQ below (QI X h0 o.1 o.2) args s 0 0 (aA (eB X))) (F0 m 25 ls []) := by
  refine lv_bipush (v := (-102 : Int32)) C.1 C.2.1 dX15_say__25 (by decide) ?_
  exact x_iret C rfl rfl hW hZ hkm hE dX15_say__27
set_option maxRecDepth 20000 in
theorem ct_X15_say_ (l : Launch) (X : Ec) (F : Nat) {h : Hp} {x0 : Nat} {x1 : Int32} {x2 : Int32} {o : Int32 × Hp} (k_x0 : hK h x0 = 15) (hE : sX15_say_ F h x0 x1 x2 = some o) : MetI l yX15_say_ cX15_say_ 3 (some .int) 8 216 X [.ref x0, .int x1, .int x2] h o := by
  refine x_met (by decide) (Nat.le_of_ble_eq_true rfl) ?_
  intro p e s m below meth c ls C hl hW hZ
  have hl : lv_has ls 3 [(0, .ref x0), (1, .int x1), (2, .int x2)] := hl
  have hkm : Km h h := Km.rf h
  refine lv_aload_n C.1 C.2.1 dX15_say__0 rfl (lv_at hl 0 rfl) ?_
  refine lv_iload_n C.1 C.2.1 dX15_say__1 rfl (lv_at hl 1 rfl) ?_
  obtain ⟨o_1, eo_1, hE⟩ := cl_e hE
  refine x_kI (o := o_1) (z_runV (As := [.int x1]) (rest := []) C (ct_X15_moves l X F k_x0 eo_1) cw_X15_668 hW hZ k_x0 (by decide) rfl rfl rfl hl.1 (Nat.le_of_ble_eq_true rfl) rfl dX15_say__2 ⟨Nat.le_of_ble_eq_true rfl, Nat.le_of_ble_eq_true rfl⟩ ⟨Nat.le_refl _, Nat.le_refl _⟩) hZ (fun _ _ hW km hZ => ?_)
  replace hkm := hkm.tr km
  replace k_x0 := km.at k_x0 (by decide)
  refine lv_bipush (v := (-102 : Int32)) C.1 C.2.1 dX15_say__5 (by decide) ?_
  refine lv_icmp_eq (tgt := 25) C.1 C.2.1 dX15_say__7 (by decide) (fun c_2 => ?_) (fun c_2 => ?_)
  · have hE := br_p hE c_2
    exact bX15_say__25 C hkm hW hZ _ (lv_sub hl [] rfl) hE
  · have hE := br_n hE c_2
    refine lv_iload_n C.1 C.2.1 dX15_say__10 rfl (lv_at hl 2 rfl) ?_
    refine lv_if_lt (tgt := 25) C.1 C.2.1 dX15_say__11 (by decide) (fun c_3 => ?_) (fun c_3 => ?_)
    · have hE := br_p hE c_3
      exact bX15_say__25 C hkm hW hZ _ (lv_sub hl [] rfl) hE
    · have hE := br_n hE c_3
      refine lv_iload_n C.1 C.2.1 dX15_say__14 rfl (lv_at hl 2 rfl) ?_
      refine lv_aload_n C.1 C.2.1 dX15_say__15 rfl (lv_at hl 0 rfl) ?_
      obtain ⟨r_4, er_4, hE⟩ := cl_e hE
      refine gf_X15_288 C hW k_x0 er_4 dX15_say__16 (fun k_r_4 => ?_)
      refine gf_X15_575 C hW k_r_4 dX15_say__19 ?_
      refine lv_icmp_lt (tgt := 28) C.1 C.2.1 dX15_say__22 (by decide) (fun c_5 => ?_) (fun c_5 => ?_)
      · have hE := br_p hE c_5
        refine lv_aload_n C.1 C.2.1 dX15_say__28 rfl (lv_at hl 0 rfl) ?_
        refine lv_aload_n C.1 C.2.1 dX15_say__29 rfl (lv_at hl 0 rfl) ?_
        obtain ⟨r_6, er_6, hE⟩ := cl_e hE
        refine gf_X15_257 C hW k_x0 er_6 dX15_say__30 (fun k_r_6 => ?_)
        refine lv_iload_n C.1 C.2.1 dX15_say__33 rfl (lv_at hl 1 rfl) ?_
        obtain ⟨g_7, hE⟩ := gd_e hE
        obtain ⟨r_8, er_8, hE⟩ := cl_e hE
        refine y_aald (t0 := 5) C hW k_r_6 (by decide) (by decide) rfl rfl rfl (fun _ => rfl) g_7 er_8 dX15_say__34 (fun k_r_8 => ?_)
        refine lv_iload_n C.1 C.2.1 dX15_say__35 rfl (lv_at hl 2 rfl) ?_
        obtain ⟨o_9, eo_9, hE⟩ := cl_e hE
        refine x_kV (o := o_9) (z_runV (As := [.ref r_8, .int x2]) (rest := []) C (ct_X15_sayMove l X F k_x0 k_r_8 eo_9) cw_X15_694 hW hZ k_x0 (by decide) rfl rfl rfl hl.1 (Nat.le_of_ble_eq_true rfl) rfl dX15_say__36 ⟨Nat.le_of_ble_eq_true rfl, Nat.le_of_ble_eq_true rfl⟩ ⟨Nat.le_refl _, Nat.le_refl _⟩) hZ (fun _ _ hW km hZ => ?_)
        replace hkm := hkm.tr km
        replace k_x0 := km.at k_x0 (by decide)
        refine lv_aload_n C.1 C.2.1 dX15_say__39 rfl (lv_at hl 0 rfl) ?_
        refine gf_X15_11 C hW k_x0 dX15_say__40 ?_
        exact x_iret C rfl rfl hW hZ hkm hE dX15_say__43
      · have hE := br_n hE c_5
        exact bX15_say__25 C hkm hW hZ _ (lv_sub hl [] rfl) hE
set_option maxRecDepth 100000 in
theorem m_2659 : Cond.methodLink RX15 697 arraycopyName ∈ W0 := w0_in (List.mem_append_right _ (List.mem_of_getElem? (i := 2659) rfl)) rfl
section
variable {p : Program} {l : Launch} {e : Env} {R : Room} {s : State} {m : MethodId} {args : Array Value} {below : List Frame} {meth : Method} {c : Code} {H : Heap} {locs : List Loc} {cells slots : Nat} {Q : State → Prop}
variable {cc : ByteArray} {pc : Nat} {ls : Array Slot} {rest : List Value} {X : Ec} {h h1 : Hp} {nL : Nat} {rt : Option FieldType} {mn : String}
theorem gf_X15_327 {a r : Nat} (C : Cx X p s m args meth c RX15 cc nL rt mn) (hW : Wx X h H) (ha : hK h a = 15) (hr : hR h a 43 = some r) (hdg : decode cc pc = .ok (.getfield 327, 3)) (kk : hK h r = 16 → W p l e R s m args below meth c H locs cells slots Q (F0 m (pc + 3) ls (.ref r :: rest))) : W p l e R s m args below meth c H locs cells slots Q (F0 m pc ls (.ref a :: rest)) :=
  y_getr C hW ha i_X15 (by decide) rfl (by decide) m_2154 rfl rfl hr hdg kk
theorem gf_X15_693 {a : Nat} (C : Cx X p s m args meth c RX15 cc nL rt mn) (hW : Wx X h H) (ha : hK h a = 15) (hdg : decode cc pc = .ok (.getfield 693, 3)) (kk : W p l e R s m args below meth c H locs cells slots Q (F0 m (pc + 3) ls (.int (hI h a 36) :: rest))) : W p l e R s m args below meth c H locs cells slots Q (F0 m pc ls (.ref a :: rest)) :=
  y_geti C hW ha i_X15 (by decide) rfl (by decide) m_2147 rfl hdg kk
end
theorem dX15_hear_0 : decode cX15_hear 0 = .ok (.aload_n 0, 1) := by decide +kernel
theorem dX15_hear_1 : decode cX15_hear 1 = .ok (.getfield 1, 3) := by decide +kernel
theorem dX15_hear_4 : decode cX15_hear 4 = .ok (.istore_n 2, 1) := by decide +kernel
theorem dX15_hear_5 : decode cX15_hear 5 = .ok (.aload_n 0, 1) := by decide +kernel
theorem dX15_hear_6 : decode cX15_hear 6 = .ok (.iconst 0, 1) := by decide +kernel
theorem dX15_hear_7 : decode cX15_hear 7 = .ok (.putfield 1, 3) := by decide +kernel
theorem dX15_hear_10 : decode cX15_hear 10 = .ok (.aload_n 0, 1) := by decide +kernel
theorem dX15_hear_11 : decode cX15_hear 11 = .ok (.iload_n 1, 1) := by decide +kernel
theorem dX15_hear_12 : decode cX15_hear 12 = .ok (.invokevirtual 668, 3) := by decide +kernel
theorem dX15_hear_15 : decode cX15_hear 15 = .ok (.bipush (-102), 2) := by decide +kernel
theorem dX15_hear_17 : decode cX15_hear 17 = .ok (.if_icmp .ne 6, 3) := by decide +kernel
theorem dX15_hear_20 : decode cX15_hear 20 = .ok (.bipush (-102), 2) := by decide +kernel
theorem dX15_hear_22 : decode cX15_hear 22 = .ok (.ireturn, 1) := by decide +kernel
theorem dX15_hear_23 : decode cX15_hear 23 = .ok (.aload_n 0, 1) := by decide +kernel
theorem dX15_hear_24 : decode cX15_hear 24 = .ok (.getfield 11, 3) := by decide +kernel
theorem dX15_hear_27 : decode cX15_hear 27 = .ok (.istore_n 3, 1) := by decide +kernel
theorem dX15_hear_28 : decode cX15_hear 28 = .ok (.aload_n 0, 1) := by decide +kernel
theorem dX15_hear_29 : decode cX15_hear 29 = .ok (.getfield 14, 3) := by decide +kernel
theorem dX15_hear_32 : decode cX15_hear 32 = .ok (.iconst 0, 1) := by decide +kernel
theorem dX15_hear_33 : decode cX15_hear 33 = .ok (.aload_n 0, 1) := by decide +kernel
theorem dX15_hear_34 : decode cX15_hear 34 = .ok (.getfield 327, 3) := by decide +kernel
theorem dX15_hear_37 : decode cX15_hear 37 = .ok (.iconst 0, 1) := by decide +kernel
theorem dX15_hear_38 : decode cX15_hear 38 = .ok (.iload_n 3, 1) := by decide +kernel
theorem dX15_hear_39 : decode cX15_hear 39 = .ok (.invokestatic 697, 3) := by decide +kernel
theorem dX15_hear_42 : decode cX15_hear 42 = .ok (.iconst (-1), 1) := by decide +kernel
theorem dX15_hear_43 : decode cX15_hear 43 = .ok (.istore 4, 2) := by decide +kernel
theorem dX15_hear_45 : decode cX15_hear 45 = .ok (.iconst 0, 1) := by decide +kernel
theorem dX15_hear_46 : decode cX15_hear 46 = .ok (.istore 5, 2) := by decide +kernel
theorem dX15_hear_48 : decode cX15_hear 48 = .ok (.iload 5, 2) := by decide +kernel
theorem dX15_hear_50 : decode cX15_hear 50 = .ok (.aload_n 0, 1) := by decide +kernel
theorem dX15_hear_51 : decode cX15_hear 51 = .ok (.getfield 288, 3) := by decide +kernel
theorem dX15_hear_54 : decode cX15_hear 54 = .ok (.getfield 575, 3) := by decide +kernel
theorem dX15_hear_57 : decode cX15_hear 57 = .ok (.if_icmp .ge 107, 3) := by decide +kernel
theorem dX15_hear_60 : decode cX15_hear 60 = .ok (.iload 4, 2) := by decide +kernel
theorem dX15_hear_62 : decode cX15_hear 62 = .ok (.iconst (-1), 1) := by decide +kernel
theorem dX15_hear_63 : decode cX15_hear 63 = .ok (.if_icmp .ne 101, 3) := by decide +kernel
theorem dX15_hear_66 : decode cX15_hear 66 = .ok (.aload_n 0, 1) := by decide +kernel
theorem dX15_hear_67 : decode cX15_hear 67 = .ok (.aload_n 0, 1) := by decide +kernel
theorem dX15_hear_68 : decode cX15_hear 68 = .ok (.getfield 257, 3) := by decide +kernel
theorem dX15_hear_71 : decode cX15_hear 71 = .ok (.iload_n 1, 1) := by decide +kernel
theorem dX15_hear_72 : decode cX15_hear 72 = .ok (.aaload, 1) := by decide +kernel
theorem dX15_hear_73 : decode cX15_hear 73 = .ok (.iload 5, 2) := by decide +kernel
theorem dX15_hear_75 : decode cX15_hear 75 = .ok (.invokevirtual 694, 3) := by decide +kernel
theorem dX15_hear_78 : decode cX15_hear 78 = .ok (.iload_n 2, 1) := by decide +kernel
theorem dX15_hear_79 : decode cX15_hear 79 = .ok (.aload_n 0, 1) := by decide +kernel
theorem dX15_hear_80 : decode cX15_hear 80 = .ok (.getfield 11, 3) := by decide +kernel
theorem dX15_hear_83 : decode cX15_hear 83 = .ok (.if_icmp .eq 11, 3) := by decide +kernel
theorem dX15_hear_86 : decode cX15_hear 86 = .ok (.iload_n 2, 1) := by decide +kernel
theorem dX15_hear_87 : decode cX15_hear 87 = .ok (.aload_n 0, 1) := by decide +kernel
theorem dX15_hear_88 : decode cX15_hear 88 = .ok (.getfield 693, 3) := by decide +kernel
theorem dX15_hear_91 : decode cX15_hear 91 = .ok (.if_icmp .ne 7, 3) := by decide +kernel
theorem dX15_hear_94 : decode cX15_hear 94 = .ok (.iconst 1, 1) := by decide +kernel
theorem dX15_hear_95 : decode cX15_hear 95 = .ok (.goto 4, 3) := by decide +kernel
theorem dX15_hear_98 : decode cX15_hear 98 = .ok (.iconst 0, 1) := by decide +kernel
theorem dX15_hear_99 : decode cX15_hear 99 = .ok (.istore 6, 2) := by decide +kernel
theorem dX15_hear_101 : decode cX15_hear 101 = .ok (.iconst 0, 1) := by decide +kernel
theorem dX15_hear_102 : decode cX15_hear 102 = .ok (.istore 7, 2) := by decide +kernel
theorem dX15_hear_104 : decode cX15_hear 104 = .ok (.iload 7, 2) := by decide +kernel
theorem dX15_hear_106 : decode cX15_hear 106 = .ok (.iload_n 2, 1) := by decide +kernel
theorem dX15_hear_107 : decode cX15_hear 107 = .ok (.if_icmp .ge 38, 3) := by decide +kernel
theorem dX15_hear_110 : decode cX15_hear 110 = .ok (.iload 6, 2) := by decide +kernel
theorem dX15_hear_112 : decode cX15_hear 112 = .ok (.ifCond .eq 33, 3) := by decide +kernel
theorem dX15_hear_115 : decode cX15_hear 115 = .ok (.aload_n 0, 1) := by decide +kernel
theorem dX15_hear_116 : decode cX15_hear 116 = .ok (.getfield 7, 3) := by decide +kernel
theorem dX15_hear_119 : decode cX15_hear 119 = .ok (.iload 7, 2) := by decide +kernel
theorem dX15_hear_121 : decode cX15_hear 121 = .ok (.baload, 1) := by decide +kernel
theorem dX15_hear_122 : decode cX15_hear 122 = .ok (.aload_n 0, 1) := by decide +kernel
theorem dX15_hear_123 : decode cX15_hear 123 = .ok (.getfield 14, 3) := by decide +kernel
theorem dX15_hear_126 : decode cX15_hear 126 = .ok (.iload 7, 2) := by decide +kernel
theorem dX15_hear_128 : decode cX15_hear 128 = .ok (.baload, 1) := by decide +kernel
theorem dX15_hear_129 : decode cX15_hear 129 = .ok (.if_icmp .ne 7, 3) := by decide +kernel
theorem dX15_hear_132 : decode cX15_hear 132 = .ok (.iconst 1, 1) := by decide +kernel
theorem dX15_hear_133 : decode cX15_hear 133 = .ok (.goto 4, 3) := by decide +kernel
theorem dX15_hear_136 : decode cX15_hear 136 = .ok (.iconst 0, 1) := by decide +kernel
theorem dX15_hear_137 : decode cX15_hear 137 = .ok (.istore 6, 2) := by decide +kernel
theorem dX15_hear_139 : decode cX15_hear 139 = .ok (.iinc 7 1, 3) := by decide +kernel
theorem dX15_hear_142 : decode cX15_hear 142 = .ok (.goto (-38), 3) := by decide +kernel
theorem dX15_hear_145 : decode cX15_hear 145 = .ok (.iload 6, 2) := by decide +kernel
theorem dX15_hear_147 : decode cX15_hear 147 = .ok (.ifCond .eq 8, 3) := by decide +kernel
theorem dX15_hear_150 : decode cX15_hear 150 = .ok (.iload 5, 2) := by decide +kernel
theorem dX15_hear_152 : decode cX15_hear 152 = .ok (.goto 4, 3) := by decide +kernel
theorem dX15_hear_155 : decode cX15_hear 155 = .ok (.iconst (-1), 1) := by decide +kernel
theorem dX15_hear_156 : decode cX15_hear 156 = .ok (.istore 4, 2) := by decide +kernel
theorem dX15_hear_158 : decode cX15_hear 158 = .ok (.iinc 5 1, 3) := by decide +kernel
theorem dX15_hear_161 : decode cX15_hear 161 = .ok (.goto (-113), 3) := by decide +kernel
theorem dX15_hear_164 : decode cX15_hear 164 = .ok (.aload_n 0, 1) := by decide +kernel
theorem dX15_hear_165 : decode cX15_hear 165 = .ok (.getfield 327, 3) := by decide +kernel
theorem dX15_hear_168 : decode cX15_hear 168 = .ok (.iconst 0, 1) := by decide +kernel
theorem dX15_hear_169 : decode cX15_hear 169 = .ok (.aload_n 0, 1) := by decide +kernel
theorem dX15_hear_170 : decode cX15_hear 170 = .ok (.getfield 14, 3) := by decide +kernel
theorem dX15_hear_173 : decode cX15_hear 173 = .ok (.iconst 0, 1) := by decide +kernel
theorem dX15_hear_174 : decode cX15_hear 174 = .ok (.iload_n 3, 1) := by decide +kernel
theorem dX15_hear_175 : decode cX15_hear 175 = .ok (.invokestatic 697, 3) := by decide +kernel
theorem dX15_hear_178 : decode cX15_hear 178 = .ok (.aload_n 0, 1) := by decide +kernel
theorem dX15_hear_179 : decode cX15_hear 179 = .ok (.iload_n 3, 1) := by decide +kernel
theorem dX15_hear_180 : decode cX15_hear 180 = .ok (.putfield 11, 3) := by decide +kernel
theorem dX15_hear_183 : decode cX15_hear 183 = .ok (.iload 4, 2) := by decide +kernel
theorem dX15_hear_185 : decode cX15_hear 185 = .ok (.ireturn, 1) := by decide +kernel
set_option maxRecDepth 20000 in
theorem moX15_hear_164 {o : Int32 × Hp} {F : Nat} {h : Hp} {x0 : Nat} {x3 : Int32} {x4 : Int32} (hE : sX15_hear_164 F h x0 x3 x4 = some o) : Le h o.2 := by
  obtain ⟨r_1, er_1, hE⟩ := cl_e hE
  obtain ⟨r_2, er_2, hE⟩ := cl_e hE
  obtain ⟨g_3, hE⟩ := gd_e hE
  obtain ⟨g_4, hE⟩ := gd_e hE
  obtain ⟨g_5, hE⟩ := gd_e hE
  obtain ⟨g_6, hE⟩ := gd_e hE
  obtain ⟨g_7, hE⟩ := gd_e hE
  obtain ⟨g_8, hE⟩ := gd_e hE
  obtain ⟨h_9, eh_9, hE⟩ := nm_e2 hE
  refine (le_cI eh_9).tr ?_
  obtain ⟨h_10, eh_10, hE⟩ := nm_e2 hE
  refine (le_I eh_10).tr ?_
  exact le_some2 hE
set_option maxRecDepth 20000 in
theorem moX15_hear_156 {o : Int32 × Hp} {k_48 : Hp → Nat → Int32 → Int32 → Int32 → Int32 → Int32 → Option (Int32 × Hp)} {F : Nat} (mk_48 : ∀ (h : Hp) (x0 : Nat) (x1 : Int32) (x2 : Int32) (x3 : Int32) (x4 : Int32) (x5 : Int32), k_48 h x0 x1 x2 x3 x4 x5 = some o → Le h o.2) {h : Hp} {x0 : Nat} {x1 : Int32} {x2 : Int32} {x3 : Int32} {x5 : Int32} {t0 : Int32} (hE : sX15_hear_156 F k_48 h x0 x1 x2 x3 x5 t0 = some o) : Le h o.2 := by
  obtain ⟨v_1, ev_1, hE⟩ := nm_e2 hE
  exact mk_48 _ _ _ _ _ _ _ hE
set_option maxRecDepth 20000 in
theorem moX15_hear_145 {o : Int32 × Hp} {k_48 : Hp → Nat → Int32 → Int32 → Int32 → Int32 → Int32 → Option (Int32 × Hp)} {F : Nat} (mk_48 : ∀ (h : Hp) (x0 : Nat) (x1 : Int32) (x2 : Int32) (x3 : Int32) (x4 : Int32) (x5 : Int32), k_48 h x0 x1 x2 x3 x4 x5 = some o → Le h o.2) {h : Hp} {x0 : Nat} {x1 : Int32} {x2 : Int32} {x3 : Int32} {x5 : Int32} {x6 : Int32} (hE : sX15_hear_145 F k_48 h x0 x1 x2 x3 x5 x6 = some o) : Le h o.2 := by
  rcases br_e hE with ⟨_, hE⟩ | ⟨_, hE⟩
  · exact moX15_hear_156 mk_48 hE
  · exact moX15_hear_156 mk_48 hE
set_option maxRecDepth 20000 in
theorem moX15_hear_137 {o : Int32 × Hp} {k_48 : Hp → Nat → Int32 → Int32 → Int32 → Int32 → Int32 → Option (Int32 × Hp)} {k_104 : Hp → Nat → Int32 → Int32 → Int32 → Int32 → Int32 → Int32 → Option (Int32 × Hp)} {F : Nat} (mk_48 : ∀ (h : Hp) (x0 : Nat) (x1 : Int32) (x2 : Int32) (x3 : Int32) (x4 : Int32) (x5 : Int32), k_48 h x0 x1 x2 x3 x4 x5 = some o → Le h o.2) (mk_104 : ∀ (h : Hp) (x0 : Nat) (x1 : Int32) (x2 : Int32) (x3 : Int32) (x5 : Int32) (x6 : Int32) (x7 : Int32), k_104 h x0 x1 x2 x3 x5 x6 x7 = some o → Le h o.2) {h : Hp} {x0 : Nat} {x1 : Int32} {x2 : Int32} {x3 : Int32} {x5 : Int32} {x7 : Int32} {t0 : Int32} (hE : sX15_hear_137 F k_48 k_104 h x0 x1 x2 x3 x5 x7 t0 = some o) : Le h o.2 := by
  obtain ⟨v_1, ev_1, hE⟩ := nm_e2 hE
  exact mk_104 _ _ _ _ _ _ _ _ hE
set_option maxRecDepth 20000 in
theorem moX15_hear_104 {o : Int32 × Hp} {k_48 : Hp → Nat → Int32 → Int32 → Int32 → Int32 → Int32 → Option (Int32 × Hp)} {F : Nat} (mk_48 : ∀ (h : Hp) (x0 : Nat) (x1 : Int32) (x2 : Int32) (x3 : Int32) (x4 : Int32) (x5 : Int32), k_48 h x0 x1 x2 x3 x4 x5 = some o → Le h o.2) : ∀ (f : Nat) {h : Hp} {x0 : Nat} {x1 : Int32} {x2 : Int32} {x3 : Int32} {x5 : Int32} {x6 : Int32} {x7 : Int32}, sX15_hear_104 F k_48 f h x0 x1 x2 x3 x5 x6 x7 = some o → Le h o.2 := by
  intro f
  induction f with
  | zero =>
    intro h x0 x1 x2 x3 x5 x6 x7 hE
    rw [sX15_hear_104] at hE
    cases hE
  | succ f ih =>
    intro h x0 x1 x2 x3 x5 x6 x7 hE
    rw [sX15_hear_104] at hE
    have mk_104 : ∀ (h : Hp) (x0 : Nat) (x1 : Int32) (x2 : Int32) (x3 : Int32) (x5 : Int32) (x6 : Int32) (x7 : Int32), sX15_hear_104 F k_48 f h x0 x1 x2 x3 x5 x6 x7 = some o → Le h o.2 := fun h x0 x1 x2 x3 x5 x6 x7 hE => ih hE
    rcases br_e hE with ⟨_, hE⟩ | ⟨_, hE⟩
    · exact moX15_hear_145 mk_48 hE
    · rcases br_e hE with ⟨_, hE⟩ | ⟨_, hE⟩
      · exact moX15_hear_145 mk_48 hE
      · obtain ⟨r_3, er_3, hE⟩ := cl_e hE
        obtain ⟨g_4, hE⟩ := gd_e hE
        obtain ⟨r_5, er_5, hE⟩ := cl_e hE
        obtain ⟨g_6, hE⟩ := gd_e hE
        rcases br_e hE with ⟨_, hE⟩ | ⟨_, hE⟩
        · exact moX15_hear_137 mk_48 mk_104 hE
        · exact moX15_hear_137 mk_48 mk_104 hE
set_option maxRecDepth 20000 in
theorem moX15_hear_99 {o : Int32 × Hp} {k_48 : Hp → Nat → Int32 → Int32 → Int32 → Int32 → Int32 → Option (Int32 × Hp)} {F : Nat} (mk_48 : ∀ (h : Hp) (x0 : Nat) (x1 : Int32) (x2 : Int32) (x3 : Int32) (x4 : Int32) (x5 : Int32), k_48 h x0 x1 x2 x3 x4 x5 = some o → Le h o.2) {h : Hp} {x0 : Nat} {x1 : Int32} {x2 : Int32} {x3 : Int32} {x5 : Int32} {t0 : Int32} (hE : sX15_hear_99 F k_48 h x0 x1 x2 x3 x5 t0 = some o) : Le h o.2 := by
  exact moX15_hear_104 mk_48 _ hE
set_option maxRecDepth 20000 in
theorem moX15_hear_94 {o : Int32 × Hp} {k_48 : Hp → Nat → Int32 → Int32 → Int32 → Int32 → Int32 → Option (Int32 × Hp)} {F : Nat} (mk_48 : ∀ (h : Hp) (x0 : Nat) (x1 : Int32) (x2 : Int32) (x3 : Int32) (x4 : Int32) (x5 : Int32), k_48 h x0 x1 x2 x3 x4 x5 = some o → Le h o.2) {h : Hp} {x0 : Nat} {x1 : Int32} {x2 : Int32} {x3 : Int32} {x5 : Int32} (hE : sX15_hear_94 F k_48 h x0 x1 x2 x3 x5 = some o) : Le h o.2 := by
  exact moX15_hear_99 mk_48 hE
set_option maxRecDepth 20000 in
theorem moX15_hear_48 {o : Int32 × Hp} {F : Nat} : ∀ (f : Nat) {h : Hp} {x0 : Nat} {x1 : Int32} {x2 : Int32} {x3 : Int32} {x4 : Int32} {x5 : Int32}, sX15_hear_48 F f h x0 x1 x2 x3 x4 x5 = some o → Le h o.2 := by
  intro f
  induction f with
  | zero =>
    intro h x0 x1 x2 x3 x4 x5 hE
    rw [sX15_hear_48] at hE
    cases hE
  | succ f ih =>
    intro h x0 x1 x2 x3 x4 x5 hE
    rw [sX15_hear_48] at hE
    have mk_48 : ∀ (h : Hp) (x0 : Nat) (x1 : Int32) (x2 : Int32) (x3 : Int32) (x4 : Int32) (x5 : Int32), sX15_hear_48 F f h x0 x1 x2 x3 x4 x5 = some o → Le h o.2 := fun h x0 x1 x2 x3 x4 x5 hE => ih hE
    obtain ⟨r_1, er_1, hE⟩ := cl_e hE
    rcases br_e hE with ⟨_, hE⟩ | ⟨_, hE⟩
    · exact moX15_hear_164 hE
    · rcases br_e hE with ⟨_, hE⟩ | ⟨_, hE⟩
      · obtain ⟨r_4, er_4, hE⟩ := cl_e hE
        obtain ⟨g_5, hE⟩ := gd_e hE
        obtain ⟨r_6, er_6, hE⟩ := cl_e hE
        obtain ⟨o_7, eo_7, hE⟩ := cl_e hE
        refine (moX15_sayMove eo_7).tr ?_
        rcases br_e hE with ⟨_, hE⟩ | ⟨_, hE⟩
        · exact moX15_hear_94 mk_48 hE
        · rcases br_e hE with ⟨_, hE⟩ | ⟨_, hE⟩
          · exact moX15_hear_94 mk_48 hE
          · exact moX15_hear_99 mk_48 hE
      · exact moX15_hear_164 hE
set_option maxRecDepth 20000 in
theorem moX15_hear {o : Int32 × Hp} {F : Nat} {h : Hp} {x0 : Nat} {x1 : Int32} (hE : sX15_hear F h x0 x1 = some o) : Le h o.2 := by
  obtain ⟨v_1, ev_1, hE⟩ := nm_e2 hE
  obtain ⟨h_2, eh_2, hE⟩ := nm_e2 hE
  refine (le_I eh_2).tr ?_
  obtain ⟨o_3, eo_3, hE⟩ := cl_e hE
  refine (moX15_moves eo_3).tr ?_
  rcases br_e hE with ⟨_, hE⟩ | ⟨_, hE⟩
  · exact le_some2 hE
  · obtain ⟨v_5, ev_5, hE⟩ := nm_e2 hE
    obtain ⟨r_6, er_6, hE⟩ := cl_e hE
    obtain ⟨r_7, er_7, hE⟩ := cl_e hE
    obtain ⟨g_8, hE⟩ := gd_e hE
    obtain ⟨g_9, hE⟩ := gd_e hE
    obtain ⟨g_10, hE⟩ := gd_e hE
    obtain ⟨g_11, hE⟩ := gd_e hE
    obtain ⟨g_12, hE⟩ := gd_e hE
    obtain ⟨g_13, hE⟩ := gd_e hE
    obtain ⟨h_14, eh_14, hE⟩ := nm_e2 hE
    refine (le_cI eh_14).tr ?_
    exact moX15_hear_48 _ hE
set_option maxRecDepth 20000 in
theorem bX15_hear_164 {p : Program} {l : Launch} {e : Env} {s : State} {m : MethodId} {args : Array Value} {below : List Frame} {meth : Method} {c : Code} {X : Ec} {h0 : Hp} {o : Int32 × Hp} {F : Nat} (C : Cx X p s m args meth c RX15 cX15_hear 8 (some .int) "hear") {h : Hp} {x0 : Nat} {x3 : Int32} {x4 : Int32} {H : Heap} {locs : List Loc} (k_x0 : hK h x0 = 15) (hkm : Km h0 h) (hW : Wx X h H) (hZ : va_S (aA (eB X)) s.heap H locs) (ls : Array Slot) (hl : lv_has ls 8 [(0, .ref x0), (3, .int x3), (4, .int x4)]) (hE : sX15_hear_164 F h x0 x3 x4 = some o) : W p l e (rm 8 216) s m args below meth c H locs 0 0 (MQ below (QI X h0 o.1 o.2) args s 0 0 (aA (eB X))) (F0 m 164 ls []) := by
  refine lv_aload_n C.1 C.2.1 dX15_hear_164 rfl (lv_at hl 0 rfl) ?_
  obtain ⟨r_1, er_1, hE⟩ := cl_e hE
  refine gf_X15_327 C hW k_x0 er_1 dX15_hear_165 (fun k_r_1 => ?_)
  refine lv_iconst (v := (0 : Int32)) C.1 C.2.1 dX15_hear_168 (by decide) ?_
  refine lv_aload_n C.1 C.2.1 dX15_hear_169 rfl (lv_at hl 0 rfl) ?_
  obtain ⟨r_2, er_2, hE⟩ := cl_e hE
  refine gf_X15_14 C hW k_x0 er_2 dX15_hear_170 (fun k_r_2 => ?_)
  refine lv_iconst (v := (0 : Int32)) C.1 C.2.1 dX15_hear_173 (by decide) ?_
  refine lv_iload_n C.1 C.2.1 dX15_hear_174 rfl (lv_at hl 1 rfl) ?_
  obtain ⟨g_3, hE⟩ := gd_e hE
  obtain ⟨g_4, hE⟩ := gd_e hE
  obtain ⟨g_5, hE⟩ := gd_e hE
  obtain ⟨g_6, hE⟩ := gd_e hE
  obtain ⟨g_7, hE⟩ := gd_e hE
  obtain ⟨g_8, hE⟩ := gd_e hE
  obtain ⟨h_9, eh_9, hE⟩ := nm_e2 hE
  refine y_cpyI (ty := .byte) C hW hZ hl.1 m_2659 m_1235 m_1234 m_23 k_r_1 k_r_2 (Or.inl ⟨rfl, rfl⟩) g_3 g_4 g_5 g_6 g_7 g_8 (Nat.le_of_ble_eq_true rfl) (Nat.le_of_ble_eq_true rfl) eh_9 dX15_hear_175 (fun _ _ hW km hZ => ?_)
  replace hkm := hkm.tr km
  replace k_x0 := km.at k_x0 (by decide)
  refine lv_aload_n C.1 C.2.1 dX15_hear_178 rfl (lv_at hl 0 rfl) ?_
  refine lv_iload_n C.1 C.2.1 dX15_hear_179 rfl (lv_at hl 1 rfl) ?_
  obtain ⟨h_10, eh_10, hE⟩ := nm_e2 hE
  refine pf_X15_11 C hW hZ k_x0 eh_10 dX15_hear_180 (fun _ _ hW km hZ => ?_)
  replace hkm := hkm.tr km
  replace k_x0 := km.at k_x0 (by decide)
  refine lv_iload C.1 C.2.1 dX15_hear_183 (lv_at hl 2 rfl) ?_
  exact x_iret C rfl rfl hW hZ hkm hE dX15_hear_185
set_option maxRecDepth 20000 in
theorem bX15_hear_156 {p : Program} {l : Launch} {e : Env} {s : State} {m : MethodId} {args : Array Value} {below : List Frame} {meth : Method} {c : Code} {X : Ec} {h0 : Hp} {o : Int32 × Hp} {k_48 : Hp → Nat → Int32 → Int32 → Int32 → Int32 → Int32 → Option (Int32 × Hp)} {F : Nat} (C : Cx X p s m args meth c RX15 cX15_hear 8 (some .int) "hear") (hk_48 : ∀ (h : Hp) (x0 : Nat) (x1 : Int32) (x2 : Int32) (x3 : Int32) (x4 : Int32) (x5 : Int32) (H : Heap) (locs : List Loc), hK h x0 = 15 → Km h0 h → Wx X h H → va_S (aA (eB X)) s.heap H locs → ∀ (ls : Array Slot), lv_has ls 8 [(0, .ref x0), (1, .int x1), (2, .int x2), (3, .int x3), (4, .int x4), (5, .int x5)] → k_48 h x0 x1 x2 x3 x4 x5 = some o → W p l e (rm 8 216) s m args below meth c H locs 0 0 (MQ below (QI X h0 o.1 o.2) args s 0 0 (aA (eB X))) (F0 m 48 ls [])) {h : Hp} {x0 : Nat} {x1 : Int32} {x2 : Int32} {x3 : Int32} {x5 : Int32} {t0 : Int32} {H : Heap} {locs : List Loc} (k_x0 : hK h x0 = 15) (hkm : Km h0 h) (hW : Wx X h H) (hZ : va_S (aA (eB X)) s.heap H locs) (ls : Array Slot) (hl : lv_has ls 8 [(0, .ref x0), (1, .int x1), (2, .int x2), (3, .int x3), (5, .int x5)]) (hE : sX15_hear_156 F k_48 h x0 x1 x2 x3 x5 t0 = some o) : W p l e (rm 8 216) s m args below meth c H locs 0 0 (MQ below (QI X h0 o.1 o.2) args s 0 0 (aA (eB X))) (F0 m 156 ls [.int t0]) := by
  refine lv_istore (lv' := [(4, .int t0), (0, .ref x0), (1, .int x1), (2, .int x2), (3, .int x3), (5, .int x5)]) C.1 C.2.1 dX15_hear_156 hl (by decide) rfl (fun ls hl => ?_)
  obtain ⟨v_1, ev_1, hE⟩ := nm_e2 hE
  refine lv_iinc (v := v_1) (lv' := [(5, .int v_1), (4, .int t0), (0, .ref x0), (1, .int x1), (2, .int x2), (3, .int x3)]) C.1 C.2.1 dX15_hear_158 hl (k := 5) rfl (by rw [ev_1]; rfl) (by decide) rfl (fun ls hl => ?_)
  refine lv_goto (tgt := 48) C.1 C.2.1 dX15_hear_161 (by decide) ?_
  exact hk_48 _ _ _ _ _ _ _ _ _ k_x0 hkm hW hZ _ (lv_sub hl [2, 3, 4, 5, 1, 0] rfl) hE
set_option maxRecDepth 20000 in
theorem bX15_hear_145 {p : Program} {l : Launch} {e : Env} {s : State} {m : MethodId} {args : Array Value} {below : List Frame} {meth : Method} {c : Code} {X : Ec} {h0 : Hp} {o : Int32 × Hp} {k_48 : Hp → Nat → Int32 → Int32 → Int32 → Int32 → Int32 → Option (Int32 × Hp)} {F : Nat} (C : Cx X p s m args meth c RX15 cX15_hear 8 (some .int) "hear") (hk_48 : ∀ (h : Hp) (x0 : Nat) (x1 : Int32) (x2 : Int32) (x3 : Int32) (x4 : Int32) (x5 : Int32) (H : Heap) (locs : List Loc), hK h x0 = 15 → Km h0 h → Wx X h H → va_S (aA (eB X)) s.heap H locs → ∀ (ls : Array Slot), lv_has ls 8 [(0, .ref x0), (1, .int x1), (2, .int x2), (3, .int x3), (4, .int x4), (5, .int x5)] → k_48 h x0 x1 x2 x3 x4 x5 = some o → W p l e (rm 8 216) s m args below meth c H locs 0 0 (MQ below (QI X h0 o.1 o.2) args s 0 0 (aA (eB X))) (F0 m 48 ls [])) {h : Hp} {x0 : Nat} {x1 : Int32} {x2 : Int32} {x3 : Int32} {x5 : Int32} {x6 : Int32} {H : Heap} {locs : List Loc} (k_x0 : hK h x0 = 15) (hkm : Km h0 h) (hW : Wx X h H) (hZ : va_S (aA (eB X)) s.heap H locs) (ls : Array Slot) (hl : lv_has ls 8 [(0, .ref x0), (1, .int x1), (2, .int x2), (3, .int x3), (5, .int x5), (6, .int x6)]) (hE : sX15_hear_145 F k_48 h x0 x1 x2 x3 x5 x6 = some o) : W p l e (rm 8 216) s m args below meth c H locs 0 0 (MQ below (QI X h0 o.1 o.2) args s 0 0 (aA (eB X))) (F0 m 145 ls []) := by
  refine lv_iload C.1 C.2.1 dX15_hear_145 (lv_at hl 5 rfl) ?_
  refine lv_if_eq (tgt := 155) C.1 C.2.1 dX15_hear_147 (by decide) (fun c_1 => ?_) (fun c_1 => ?_)
  · have hE := br_p hE c_1
    refine lv_iconst (v := (-1 : Int32)) C.1 C.2.1 dX15_hear_155 (by decide) ?_
    exact bX15_hear_156 C hk_48 k_x0 hkm hW hZ _ (lv_sub hl [0, 1, 2, 3, 4] rfl) hE
  · have hE := br_n hE c_1
    refine lv_iload C.1 C.2.1 dX15_hear_150 (lv_at hl 4 rfl) ?_
    refine lv_goto (tgt := 156) C.1 C.2.1 dX15_hear_152 (by decide) ?_
    exact bX15_hear_156 C hk_48 k_x0 hkm hW hZ _ (lv_sub hl [0, 1, 2, 3, 4] rfl) hE
set_option maxRecDepth 20000 in
theorem bX15_hear_137 {p : Program} {l : Launch} {e : Env} {s : State} {m : MethodId} {args : Array Value} {below : List Frame} {meth : Method} {c : Code} {X : Ec} {h0 : Hp} {o : Int32 × Hp} {k_48 : Hp → Nat → Int32 → Int32 → Int32 → Int32 → Int32 → Option (Int32 × Hp)} {k_104 : Hp → Nat → Int32 → Int32 → Int32 → Int32 → Int32 → Int32 → Option (Int32 × Hp)} {F : Nat} (C : Cx X p s m args meth c RX15 cX15_hear 8 (some .int) "hear") (hk_48 : ∀ (h : Hp) (x0 : Nat) (x1 : Int32) (x2 : Int32) (x3 : Int32) (x4 : Int32) (x5 : Int32) (H : Heap) (locs : List Loc), hK h x0 = 15 → Km h0 h → Wx X h H → va_S (aA (eB X)) s.heap H locs → ∀ (ls : Array Slot), lv_has ls 8 [(0, .ref x0), (1, .int x1), (2, .int x2), (3, .int x3), (4, .int x4), (5, .int x5)] → k_48 h x0 x1 x2 x3 x4 x5 = some o → W p l e (rm 8 216) s m args below meth c H locs 0 0 (MQ below (QI X h0 o.1 o.2) args s 0 0 (aA (eB X))) (F0 m 48 ls [])) (hk_104 : ∀ (h : Hp) (x0 : Nat) (x1 : Int32) (x2 : Int32) (x3 : Int32) (x5 : Int32) (x6 : Int32) (x7 : Int32) (H : Heap) (locs : List Loc), hK h x0 = 15 → Km h0 h → Wx X h H → va_S (aA (eB X)) s.heap H locs → ∀ (ls : Array Slot), lv_has ls 8 [(0, .ref x0), (1, .int x1), (2, .int x2), (3, .int x3), (5, .int x5), (6, .int x6), (7, .int x7)] → k_104 h x0 x1 x2 x3 x5 x6 x7 = some o → W p l e (rm 8 216) s m args below meth c H locs 0 0 (MQ below (QI X h0 o.1 o.2) args s 0 0 (aA (eB X))) (F0 m 104 ls [])) {h : Hp} {x0 : Nat} {x1 : Int32} {x2 : Int32} {x3 : Int32} {x5 : Int32} {x7 : Int32} {t0 : Int32} {H : Heap} {locs : List Loc} (k_x0 : hK h x0 = 15) (hkm : Km h0 h) (hW : Wx X h H) (hZ : va_S (aA (eB X)) s.heap H locs) (ls : Array Slot) (hl : lv_has ls 8 [(0, .ref x0), (1, .int x1), (2, .int x2), (3, .int x3), (5, .int x5), (7, .int x7)]) (hE : sX15_hear_137 F k_48 k_104 h x0 x1 x2 x3 x5 x7 t0 = some o) : W p l e (rm 8 216) s m args below meth c H locs 0 0 (MQ below (QI X h0 o.1 o.2) args s 0 0 (aA (eB X))) (F0 m 137 ls [.int t0]) := by
  refine lv_istore (lv' := [(6, .int t0), (0, .ref x0), (1, .int x1), (2, .int x2), (3, .int x3), (5, .int x5), (7, .int x7)]) C.1 C.2.1 dX15_hear_137 hl (by decide) rfl (fun ls hl => ?_)
  obtain ⟨v_1, ev_1, hE⟩ := nm_e2 hE
  refine lv_iinc (v := v_1) (lv' := [(7, .int v_1), (6, .int t0), (0, .ref x0), (1, .int x1), (2, .int x2), (3, .int x3), (5, .int x5)]) C.1 C.2.1 dX15_hear_139 hl (k := 6) rfl (by rw [ev_1]; rfl) (by decide) rfl (fun ls hl => ?_)
  refine lv_goto (tgt := 104) C.1 C.2.1 dX15_hear_142 (by decide) ?_
  exact hk_104 _ _ _ _ _ _ _ _ _ _ k_x0 hkm hW hZ _ (lv_sub hl [2, 3, 4, 5, 6, 1, 0] rfl) hE
set_option maxRecDepth 20000 in
theorem bX15_hear_104 {p : Program} {l : Launch} {e : Env} {s : State} {m : MethodId} {args : Array Value} {below : List Frame} {meth : Method} {c : Code} {X : Ec} {h0 : Hp} {o : Int32 × Hp} {k_48 : Hp → Nat → Int32 → Int32 → Int32 → Int32 → Int32 → Option (Int32 × Hp)} {F : Nat} (C : Cx X p s m args meth c RX15 cX15_hear 8 (some .int) "hear") (hk_48 : ∀ (h : Hp) (x0 : Nat) (x1 : Int32) (x2 : Int32) (x3 : Int32) (x4 : Int32) (x5 : Int32) (H : Heap) (locs : List Loc), hK h x0 = 15 → Km h0 h → Wx X h H → va_S (aA (eB X)) s.heap H locs → ∀ (ls : Array Slot), lv_has ls 8 [(0, .ref x0), (1, .int x1), (2, .int x2), (3, .int x3), (4, .int x4), (5, .int x5)] → k_48 h x0 x1 x2 x3 x4 x5 = some o → W p l e (rm 8 216) s m args below meth c H locs 0 0 (MQ below (QI X h0 o.1 o.2) args s 0 0 (aA (eB X))) (F0 m 48 ls [])) : ∀ (f : Nat) {h : Hp} {x0 : Nat} {x1 : Int32} {x2 : Int32} {x3 : Int32} {x5 : Int32} {x6 : Int32} {x7 : Int32} {H : Heap} {locs : List Loc} (k_x0 : hK h x0 = 15), Km h0 h → Wx X h H → va_S (aA (eB X)) s.heap H locs → ∀ (ls : Array Slot), lv_has ls 8 [(0, .ref x0), (1, .int x1), (2, .int x2), (3, .int x3), (5, .int x5), (6, .int x6), (7, .int x7)] → sX15_hear_104 F k_48 f h x0 x1 x2 x3 x5 x6 x7 = some o → W p l e (rm 8 216) s m args below meth c H locs 0 0 (MQ below (QI X h0 o.1 o.2) args s 0 0 (aA (eB X))) (F0 m 104 ls []) := by
  intro f
  induction f with
  | zero =>
    intro h x0 x1 x2 x3 x5 x6 x7 H locs k_x0 hkm hW hZ ls hl hE
    rw [sX15_hear_104] at hE
    cases hE
  | succ f ih =>
    intro h x0 x1 x2 x3 x5 x6 x7 H locs k_x0 hkm hW hZ ls hl hE
    rw [sX15_hear_104] at hE
    have hk_104 : ∀ (h : Hp) (x0 : Nat) (x1 : Int32) (x2 : Int32) (x3 : Int32) (x5 : Int32) (x6 : Int32) (x7 : Int32) (H : Heap) (locs : List Loc), hK h x0 = 15 → Km h0 h → Wx X h H → va_S (aA (eB X)) s.heap H locs → ∀ (ls : Array Slot), lv_has ls 8 [(0, .ref x0), (1, .int x1), (2, .int x2), (3, .int x3), (5, .int x5), (6, .int x6), (7, .int x7)] → sX15_hear_104 F k_48 f h x0 x1 x2 x3 x5 x6 x7 = some o → W p l e (rm 8 216) s m args below meth c H locs 0 0 (MQ below (QI X h0 o.1 o.2) args s 0 0 (aA (eB X))) (F0 m 104 ls []) := fun h x0 x1 x2 x3 x5 x6 x7 H locs k_x0 a b c ls hl hE => ih k_x0 a b c ls hl hE
    refine lv_iload C.1 C.2.1 dX15_hear_104 (lv_at hl 6 rfl) ?_
    refine lv_iload_n C.1 C.2.1 dX15_hear_106 rfl (lv_at hl 2 rfl) ?_
    refine lv_icmp_ge (tgt := 145) C.1 C.2.1 dX15_hear_107 (by decide) (fun c_1 => ?_) (fun c_1 => ?_)
    · have hE := br_p hE c_1
      exact bX15_hear_145 C hk_48 k_x0 hkm hW hZ _ (lv_sub hl [0, 1, 2, 3, 4, 5] rfl) hE
    · have hE := br_n hE c_1
      refine lv_iload C.1 C.2.1 dX15_hear_110 (lv_at hl 5 rfl) ?_
      refine lv_if_eq (tgt := 145) C.1 C.2.1 dX15_hear_112 (by decide) (fun c_2 => ?_) (fun c_2 => ?_)
      · have hE := br_p hE c_2
        exact bX15_hear_145 C hk_48 k_x0 hkm hW hZ _ (lv_sub hl [0, 1, 2, 3, 4, 5] rfl) hE
      · have hE := br_n hE c_2
        refine lv_aload_n C.1 C.2.1 dX15_hear_115 rfl (lv_at hl 0 rfl) ?_
        obtain ⟨r_3, er_3, hE⟩ := cl_e hE
        refine gf_X15_7 C hW k_x0 er_3 dX15_hear_116 (fun k_r_3 => ?_)
        refine lv_iload C.1 C.2.1 dX15_hear_119 (lv_at hl 6 rfl) ?_
        obtain ⟨g_4, hE⟩ := gd_e hE
        refine y_bald C hW k_r_3 g_4 dX15_hear_121 ?_
        refine lv_aload_n C.1 C.2.1 dX15_hear_122 rfl (lv_at hl 0 rfl) ?_
        obtain ⟨r_5, er_5, hE⟩ := cl_e hE
        refine gf_X15_14 C hW k_x0 er_5 dX15_hear_123 (fun k_r_5 => ?_)
        refine lv_iload C.1 C.2.1 dX15_hear_126 (lv_at hl 6 rfl) ?_
        obtain ⟨g_6, hE⟩ := gd_e hE
        refine y_bald C hW k_r_5 g_6 dX15_hear_128 ?_
        refine lv_icmp_ne (tgt := 136) C.1 C.2.1 dX15_hear_129 (by decide) (fun c_7 => ?_) (fun c_7 => ?_)
        · have hE := br_n hE c_7
          refine lv_iconst (v := (0 : Int32)) C.1 C.2.1 dX15_hear_136 (by decide) ?_
          exact bX15_hear_137 C hk_48 hk_104 k_x0 hkm hW hZ _ (lv_sub hl [0, 1, 2, 3, 4, 6] rfl) hE
        · have hE := br_p hE c_7
          refine lv_iconst (v := (1 : Int32)) C.1 C.2.1 dX15_hear_132 (by decide) ?_
          refine lv_goto (tgt := 137) C.1 C.2.1 dX15_hear_133 (by decide) ?_
          exact bX15_hear_137 C hk_48 hk_104 k_x0 hkm hW hZ _ (lv_sub hl [0, 1, 2, 3, 4, 6] rfl) hE
set_option maxRecDepth 20000 in
theorem bX15_hear_99 {p : Program} {l : Launch} {e : Env} {s : State} {m : MethodId} {args : Array Value} {below : List Frame} {meth : Method} {c : Code} {X : Ec} {h0 : Hp} {o : Int32 × Hp} {k_48 : Hp → Nat → Int32 → Int32 → Int32 → Int32 → Int32 → Option (Int32 × Hp)} {F : Nat} (C : Cx X p s m args meth c RX15 cX15_hear 8 (some .int) "hear") (hk_48 : ∀ (h : Hp) (x0 : Nat) (x1 : Int32) (x2 : Int32) (x3 : Int32) (x4 : Int32) (x5 : Int32) (H : Heap) (locs : List Loc), hK h x0 = 15 → Km h0 h → Wx X h H → va_S (aA (eB X)) s.heap H locs → ∀ (ls : Array Slot), lv_has ls 8 [(0, .ref x0), (1, .int x1), (2, .int x2), (3, .int x3), (4, .int x4), (5, .int x5)] → k_48 h x0 x1 x2 x3 x4 x5 = some o → W p l e (rm 8 216) s m args below meth c H locs 0 0 (MQ below (QI X h0 o.1 o.2) args s 0 0 (aA (eB X))) (F0 m 48 ls [])) {h : Hp} {x0 : Nat} {x1 : Int32} {x2 : Int32} {x3 : Int32} {x5 : Int32} {t0 : Int32} {H : Heap} {locs : List Loc} (k_x0 : hK h x0 = 15) (hkm : Km h0 h) (hW : Wx X h H) (hZ : va_S (aA (eB X)) s.heap H locs) (ls : Array Slot) (hl : lv_has ls 8 [(0, .ref x0), (1, .int x1), (2, .int x2), (3, .int x3), (5, .int x5)]) (hE : sX15_hear_99 F k_48 h x0 x1 x2 x3 x5 t0 = some o) : W p l e (rm 8 216) s m args below meth c H locs 0 0 (MQ below (QI X h0 o.1 o.2) args s 0 0 (aA (eB X))) (F0 m 99 ls [.int t0]) := by
  refine lv_istore (lv' := [(6, .int t0), (0, .ref x0), (1, .int x1), (2, .int x2), (3, .int x3), (5, .int x5)]) C.1 C.2.1 dX15_hear_99 hl (by decide) rfl (fun ls hl => ?_)
  refine lv_iconst (v := (0 : Int32)) C.1 C.2.1 dX15_hear_101 (by decide) ?_
  refine lv_istore (lv' := [(7, .int (0 : Int32)), (6, .int t0), (0, .ref x0), (1, .int x1), (2, .int x2), (3, .int x3), (5, .int x5)]) C.1 C.2.1 dX15_hear_102 hl (by decide) rfl (fun ls hl => ?_)
  exact bX15_hear_104 C hk_48 F k_x0 hkm hW hZ _ (lv_sub hl [2, 3, 4, 5, 6, 1, 0] rfl) hE
set_option maxRecDepth 20000 in
theorem bX15_hear_94 {p : Program} {l : Launch} {e : Env} {s : State} {m : MethodId} {args : Array Value} {below : List Frame} {meth : Method} {c : Code} {X : Ec} {h0 : Hp} {o : Int32 × Hp} {k_48 : Hp → Nat → Int32 → Int32 → Int32 → Int32 → Int32 → Option (Int32 × Hp)} {F : Nat} (C : Cx X p s m args meth c RX15 cX15_hear 8 (some .int) "hear") (hk_48 : ∀ (h : Hp) (x0 : Nat) (x1 : Int32) (x2 : Int32) (x3 : Int32) (x4 : Int32) (x5 : Int32) (H : Heap) (locs : List Loc), hK h x0 = 15 → Km h0 h → Wx X h H → va_S (aA (eB X)) s.heap H locs → ∀ (ls : Array Slot), lv_has ls 8 [(0, .ref x0), (1, .int x1), (2, .int x2), (3, .int x3), (4, .int x4), (5, .int x5)] → k_48 h x0 x1 x2 x3 x4 x5 = some o → W p l e (rm 8 216) s m args below meth c H locs 0 0 (MQ below (QI X h0 o.1 o.2) args s 0 0 (aA (eB X))) (F0 m 48 ls [])) {h : Hp} {x0 : Nat} {x1 : Int32} {x2 : Int32} {x3 : Int32} {x5 : Int32} {H : Heap} {locs : List Loc} (k_x0 : hK h x0 = 15) (hkm : Km h0 h) (hW : Wx X h H) (hZ : va_S (aA (eB X)) s.heap H locs) (ls : Array Slot) (hl : lv_has ls 8 [(0, .ref x0), (1, .int x1), (2, .int x2), (3, .int x3), (5, .int x5)]) (hE : sX15_hear_94 F k_48 h x0 x1 x2 x3 x5 = some o) : W p l e (rm 8 216) s m args below meth c H locs 0 0 (MQ below (QI X h0 o.1 o.2) args s 0 0 (aA (eB X))) (F0 m 94 ls []) := by
  refine lv_iconst (v := (1 : Int32)) C.1 C.2.1 dX15_hear_94 (by decide) ?_
  refine lv_goto (tgt := 99) C.1 C.2.1 dX15_hear_95 (by decide) ?_
  exact bX15_hear_99 C hk_48 k_x0 hkm hW hZ _ (lv_sub hl [0, 1, 2, 3, 4] rfl) hE
set_option maxRecDepth 20000 in
theorem bX15_hear_48 {p : Program} {l : Launch} {e : Env} {s : State} {m : MethodId} {args : Array Value} {below : List Frame} {meth : Method} {c : Code} {X : Ec} {h0 : Hp} {o : Int32 × Hp} {F : Nat} (C : Cx X p s m args meth c RX15 cX15_hear 8 (some .int) "hear") : ∀ (f : Nat) {h : Hp} {x0 : Nat} {x1 : Int32} {x2 : Int32} {x3 : Int32} {x4 : Int32} {x5 : Int32} {H : Heap} {locs : List Loc} (k_x0 : hK h x0 = 15), Km h0 h → Wx X h H → va_S (aA (eB X)) s.heap H locs → ∀ (ls : Array Slot), lv_has ls 8 [(0, .ref x0), (1, .int x1), (2, .int x2), (3, .int x3), (4, .int x4), (5, .int x5)] → sX15_hear_48 F f h x0 x1 x2 x3 x4 x5 = some o → W p l e (rm 8 216) s m args below meth c H locs 0 0 (MQ below (QI X h0 o.1 o.2) args s 0 0 (aA (eB X))) (F0 m 48 ls []) := by
  intro f
  induction f with
  | zero =>
    intro h x0 x1 x2 x3 x4 x5 H locs k_x0 hkm hW hZ ls hl hE
    rw [sX15_hear_48] at hE
    cases hE
  | succ f ih =>
    intro h x0 x1 x2 x3 x4 x5 H locs k_x0 hkm hW hZ ls hl hE
    rw [sX15_hear_48] at hE
    have hk_48 : ∀ (h : Hp) (x0 : Nat) (x1 : Int32) (x2 : Int32) (x3 : Int32) (x4 : Int32) (x5 : Int32) (H : Heap) (locs : List Loc), hK h x0 = 15 → Km h0 h → Wx X h H → va_S (aA (eB X)) s.heap H locs → ∀ (ls : Array Slot), lv_has ls 8 [(0, .ref x0), (1, .int x1), (2, .int x2), (3, .int x3), (4, .int x4), (5, .int x5)] → sX15_hear_48 F f h x0 x1 x2 x3 x4 x5 = some o → W p l e (rm 8 216) s m args below meth c H locs 0 0 (MQ below (QI X h0 o.1 o.2) args s 0 0 (aA (eB X))) (F0 m 48 ls []) := fun h x0 x1 x2 x3 x4 x5 H locs k_x0 a b c ls hl hE => ih k_x0 a b c ls hl hE
    refine lv_iload C.1 C.2.1 dX15_hear_48 (lv_at hl 5 rfl) ?_
    refine lv_aload_n C.1 C.2.1 dX15_hear_50 rfl (lv_at hl 0 rfl) ?_
    obtain ⟨r_1, er_1, hE⟩ := cl_e hE
    refine gf_X15_288 C hW k_x0 er_1 dX15_hear_51 (fun k_r_1 => ?_)
    refine gf_X15_575 C hW k_r_1 dX15_hear_54 ?_
    refine lv_icmp_ge (tgt := 164) C.1 C.2.1 dX15_hear_57 (by decide) (fun c_2 => ?_) (fun c_2 => ?_)
    · have hE := br_p hE c_2
      exact bX15_hear_164 C k_x0 hkm hW hZ _ (lv_sub hl [0, 3, 4] rfl) hE
    · have hE := br_n hE c_2
      refine lv_iload C.1 C.2.1 dX15_hear_60 (lv_at hl 4 rfl) ?_
      refine lv_iconst (v := (-1 : Int32)) C.1 C.2.1 dX15_hear_62 (by decide) ?_
      refine lv_icmp_ne (tgt := 164) C.1 C.2.1 dX15_hear_63 (by decide) (fun c_3 => ?_) (fun c_3 => ?_)
      · have hE := br_n hE c_3
        exact bX15_hear_164 C k_x0 hkm hW hZ _ (lv_sub hl [0, 3, 4] rfl) hE
      · have hE := br_p hE c_3
        refine lv_aload_n C.1 C.2.1 dX15_hear_66 rfl (lv_at hl 0 rfl) ?_
        refine lv_aload_n C.1 C.2.1 dX15_hear_67 rfl (lv_at hl 0 rfl) ?_
        obtain ⟨r_4, er_4, hE⟩ := cl_e hE
        refine gf_X15_257 C hW k_x0 er_4 dX15_hear_68 (fun k_r_4 => ?_)
        refine lv_iload_n C.1 C.2.1 dX15_hear_71 rfl (lv_at hl 1 rfl) ?_
        obtain ⟨g_5, hE⟩ := gd_e hE
        obtain ⟨r_6, er_6, hE⟩ := cl_e hE
        refine y_aald (t0 := 5) C hW k_r_4 (by decide) (by decide) rfl rfl rfl (fun _ => rfl) g_5 er_6 dX15_hear_72 (fun k_r_6 => ?_)
        refine lv_iload C.1 C.2.1 dX15_hear_73 (lv_at hl 5 rfl) ?_
        obtain ⟨o_7, eo_7, hE⟩ := cl_e hE
        refine x_kV (o := o_7) (z_runV (As := [.ref r_6, .int x5]) (rest := []) C (ct_X15_sayMove l X F k_x0 k_r_6 eo_7) cw_X15_694 hW hZ k_x0 (by decide) rfl rfl rfl hl.1 (Nat.le_of_ble_eq_true rfl) rfl dX15_hear_75 ⟨Nat.le_of_ble_eq_true rfl, Nat.le_of_ble_eq_true rfl⟩ ⟨Nat.le_refl _, Nat.le_refl _⟩) hZ (fun _ _ hW km hZ => ?_)
        replace hkm := hkm.tr km
        replace k_x0 := km.at k_x0 (by decide)
        refine lv_iload_n C.1 C.2.1 dX15_hear_78 rfl (lv_at hl 2 rfl) ?_
        refine lv_aload_n C.1 C.2.1 dX15_hear_79 rfl (lv_at hl 0 rfl) ?_
        refine gf_X15_11 C hW k_x0 dX15_hear_80 ?_
        refine lv_icmp_eq (tgt := 94) C.1 C.2.1 dX15_hear_83 (by decide) (fun c_8 => ?_) (fun c_8 => ?_)
        · have hE := br_p hE c_8
          exact bX15_hear_94 C hk_48 k_x0 hkm hW hZ _ (lv_sub hl [0, 1, 2, 3, 5] rfl) hE
        · have hE := br_n hE c_8
          refine lv_iload_n C.1 C.2.1 dX15_hear_86 rfl (lv_at hl 2 rfl) ?_
          refine lv_aload_n C.1 C.2.1 dX15_hear_87 rfl (lv_at hl 0 rfl) ?_
          refine gf_X15_693 C hW k_x0 dX15_hear_88 ?_
          refine lv_icmp_ne (tgt := 98) C.1 C.2.1 dX15_hear_91 (by decide) (fun c_9 => ?_) (fun c_9 => ?_)
          · have hE := br_n hE c_9
            refine lv_iconst (v := (0 : Int32)) C.1 C.2.1 dX15_hear_98 (by decide) ?_
            exact bX15_hear_99 C hk_48 k_x0 hkm hW hZ _ (lv_sub hl [0, 1, 2, 3, 5] rfl) hE
          · have hE := br_p hE c_9
            exact bX15_hear_94 C hk_48 k_x0 hkm hW hZ _ (lv_sub hl [0, 1, 2, 3, 5] rfl) hE
set_option maxRecDepth 20000 in
theorem ct_X15_hear (l : Launch) (X : Ec) (F : Nat) {h : Hp} {x0 : Nat} {x1 : Int32} {o : Int32 × Hp} (k_x0 : hK h x0 = 15) (hE : sX15_hear F h x0 x1 = some o) : MetI l yX15_hear cX15_hear 8 (some .int) 8 216 X [.ref x0, .int x1] h o := by
  refine x_met (by decide) (Nat.le_of_ble_eq_true rfl) ?_
  intro p e s m below meth c ls C hl hW hZ
  have hl : lv_has ls 8 [(0, .ref x0), (1, .int x1)] := hl
  have hkm : Km h h := Km.rf h
  refine lv_aload_n C.1 C.2.1 dX15_hear_0 rfl (lv_at hl 0 rfl) ?_
  refine gf_X15_1 C hW k_x0 dX15_hear_1 ?_
  obtain ⟨v_1, ev_1, hE⟩ := nm_e2 hE
  refine x_nmI ev_1 ?_
  refine lv_istore_n (lv' := [(2, .int v_1), (0, .ref x0), (1, .int x1)]) C.1 C.2.1 dX15_hear_4 rfl hl (by decide) rfl (fun ls hl => ?_)
  refine lv_aload_n C.1 C.2.1 dX15_hear_5 rfl (lv_at hl 1 rfl) ?_
  refine lv_iconst (v := (0 : Int32)) C.1 C.2.1 dX15_hear_6 (by decide) ?_
  obtain ⟨h_2, eh_2, hE⟩ := nm_e2 hE
  refine pf_X15_1 C hW hZ k_x0 eh_2 dX15_hear_7 (fun _ _ hW km hZ => ?_)
  replace hkm := hkm.tr km
  replace k_x0 := km.at k_x0 (by decide)
  refine lv_aload_n C.1 C.2.1 dX15_hear_10 rfl (lv_at hl 1 rfl) ?_
  refine lv_iload_n C.1 C.2.1 dX15_hear_11 rfl (lv_at hl 2 rfl) ?_
  obtain ⟨o_3, eo_3, hE⟩ := cl_e hE
  refine x_kI (o := o_3) (z_runV (As := [.int x1]) (rest := []) C (ct_X15_moves l X F k_x0 eo_3) cw_X15_668 hW hZ k_x0 (by decide) rfl rfl rfl hl.1 (Nat.le_of_ble_eq_true rfl) rfl dX15_hear_12 ⟨Nat.le_of_ble_eq_true rfl, Nat.le_of_ble_eq_true rfl⟩ ⟨Nat.le_refl _, Nat.le_refl _⟩) hZ (fun _ _ hW km hZ => ?_)
  replace hkm := hkm.tr km
  replace k_x0 := km.at k_x0 (by decide)
  refine lv_bipush (v := (-102 : Int32)) C.1 C.2.1 dX15_hear_15 (by decide) ?_
  refine lv_icmp_ne (tgt := 23) C.1 C.2.1 dX15_hear_17 (by decide) (fun c_4 => ?_) (fun c_4 => ?_)
  · have hE := br_n hE c_4
    refine lv_aload_n C.1 C.2.1 dX15_hear_23 rfl (lv_at hl 1 rfl) ?_
    refine gf_X15_11 C hW k_x0 dX15_hear_24 ?_
    obtain ⟨v_5, ev_5, hE⟩ := nm_e2 hE
    refine x_nmI ev_5 ?_
    refine lv_istore_n (lv' := [(3, .int v_5), (2, .int v_1), (0, .ref x0), (1, .int x1)]) C.1 C.2.1 dX15_hear_27 rfl hl (by decide) rfl (fun ls hl => ?_)
    refine lv_aload_n C.1 C.2.1 dX15_hear_28 rfl (lv_at hl 2 rfl) ?_
    obtain ⟨r_6, er_6, hE⟩ := cl_e hE
    refine gf_X15_14 C hW k_x0 er_6 dX15_hear_29 (fun k_r_6 => ?_)
    refine lv_iconst (v := (0 : Int32)) C.1 C.2.1 dX15_hear_32 (by decide) ?_
    refine lv_aload_n C.1 C.2.1 dX15_hear_33 rfl (lv_at hl 2 rfl) ?_
    obtain ⟨r_7, er_7, hE⟩ := cl_e hE
    refine gf_X15_327 C hW k_x0 er_7 dX15_hear_34 (fun k_r_7 => ?_)
    refine lv_iconst (v := (0 : Int32)) C.1 C.2.1 dX15_hear_37 (by decide) ?_
    refine lv_iload_n C.1 C.2.1 dX15_hear_38 rfl (lv_at hl 0 rfl) ?_
    obtain ⟨g_8, hE⟩ := gd_e hE
    obtain ⟨g_9, hE⟩ := gd_e hE
    obtain ⟨g_10, hE⟩ := gd_e hE
    obtain ⟨g_11, hE⟩ := gd_e hE
    obtain ⟨g_12, hE⟩ := gd_e hE
    obtain ⟨g_13, hE⟩ := gd_e hE
    obtain ⟨h_14, eh_14, hE⟩ := nm_e2 hE
    refine y_cpyI (ty := .byte) C hW hZ hl.1 m_2659 m_1235 m_1234 m_23 k_r_6 k_r_7 (Or.inl ⟨rfl, rfl⟩) g_8 g_9 g_10 g_11 g_12 g_13 (Nat.le_of_ble_eq_true rfl) (Nat.le_of_ble_eq_true rfl) eh_14 dX15_hear_39 (fun _ _ hW km hZ => ?_)
    replace hkm := hkm.tr km
    replace k_x0 := km.at k_x0 (by decide)
    refine lv_iconst (v := (-1 : Int32)) C.1 C.2.1 dX15_hear_42 (by decide) ?_
    refine lv_istore (lv' := [(4, .int (-1 : Int32)), (3, .int v_5), (2, .int v_1), (0, .ref x0), (1, .int x1)]) C.1 C.2.1 dX15_hear_43 hl (by decide) rfl (fun ls hl => ?_)
    refine lv_iconst (v := (0 : Int32)) C.1 C.2.1 dX15_hear_45 (by decide) ?_
    refine lv_istore (lv' := [(5, .int (0 : Int32)), (4, .int (-1 : Int32)), (3, .int v_5), (2, .int v_1), (0, .ref x0), (1, .int x1)]) C.1 C.2.1 dX15_hear_46 hl (by decide) rfl (fun ls hl => ?_)
    exact bX15_hear_48 C F k_x0 hkm hW hZ _ (lv_sub hl [4, 5, 3, 2, 1, 0] rfl) hE
  · have hE := br_p hE c_4
    refine lv_bipush (v := (-102 : Int32)) C.1 C.2.1 dX15_hear_20 (by decide) ?_
    exact x_iret C rfl rfl hW hZ hkm hE dX15_hear_22
theorem dX15_isGame_0 : decode cX15_isGame 0 = .ok (.iload_n 0, 1) := by decide +kernel
theorem dX15_isGame_1 : decode cX15_isGame 1 = .ok (.ifCond .lt 13, 3) := by decide +kernel
theorem dX15_isGame_4 : decode cX15_isGame 4 = .ok (.iload_n 0, 1) := by decide +kernel
theorem dX15_isGame_5 : decode cX15_isGame 5 = .ok (.bipush 8, 2) := by decide +kernel
theorem dX15_isGame_7 : decode cX15_isGame 7 = .ok (.if_icmp .ge 7, 3) := by decide +kernel
theorem dX15_isGame_10 : decode cX15_isGame 10 = .ok (.iconst 1, 1) := by decide +kernel
theorem dX15_isGame_11 : decode cX15_isGame 11 = .ok (.goto 4, 3) := by decide +kernel
theorem dX15_isGame_14 : decode cX15_isGame 14 = .ok (.iconst 0, 1) := by decide +kernel
theorem dX15_isGame_15 : decode cX15_isGame 15 = .ok (.ireturn, 1) := by decide +kernel
set_option maxRecDepth 20000 in
theorem moX15_isGame_15 {o : Int32 × Hp} {h : Hp} {t0 : Int32} (hE : sX15_isGame_15 h  t0 = some o) : Le h o.2 := by
  obtain ⟨g_1, hE⟩ := gd_e hE
  exact le_some2 hE
set_option maxRecDepth 20000 in
theorem moX15_isGame_14 {o : Int32 × Hp} {h : Hp} (hE : sX15_isGame_14 h  = some o) : Le h o.2 := by
  exact moX15_isGame_15 hE
set_option maxRecDepth 20000 in
theorem moX15_isGame {o : Int32 × Hp} {h : Hp} {x0 : Int32} (hE : sX15_isGame h x0 = some o) : Le h o.2 := by
  rcases br_e hE with ⟨_, hE⟩ | ⟨_, hE⟩
  · exact moX15_isGame_14 hE
  · rcases br_e hE with ⟨_, hE⟩ | ⟨_, hE⟩
    · exact moX15_isGame_14 hE
    · exact moX15_isGame_15 hE
set_option maxRecDepth 20000 in
theorem bX15_isGame_15 {p : Program} {l : Launch} {e : Env} {s : State} {m : MethodId} {args : Array Value} {below : List Frame} {meth : Method} {c : Code} {X : Ec} {h0 : Hp} {o : Int32 × Hp} (C : Cx X p s m args meth c RX15 cX15_isGame 1 (some .boolean) "isGame") {h : Hp} {t0 : Int32} {H : Heap} {locs : List Loc} (hkm : Km h0 h) (hW : Wx X h H) (hZ : va_S (aA (eB X)) s.heap H locs) (ls : Array Slot) (hl : lv_has ls 1 []) (hE : sX15_isGame_15 h  t0 = some o) : W p l e (rm 0 0) s m args below meth c H locs 0 0 (MQ below (QI X h0 o.1 o.2) args s 0 0 (aA (eB X))) (F0 m 15 ls [.int t0]) := by
  obtain ⟨g_1, hE⟩ := gd_e hE
  exact x_iret C rfl (narB g_1) hW hZ hkm hE dX15_isGame_15
set_option maxRecDepth 20000 in
theorem bX15_isGame_14 {p : Program} {l : Launch} {e : Env} {s : State} {m : MethodId} {args : Array Value} {below : List Frame} {meth : Method} {c : Code} {X : Ec} {h0 : Hp} {o : Int32 × Hp} (C : Cx X p s m args meth c RX15 cX15_isGame 1 (some .boolean) "isGame") {h : Hp} {H : Heap} {locs : List Loc} (hkm : Km h0 h) (hW : Wx X h H) (hZ : va_S (aA (eB X)) s.heap H locs) (ls : Array Slot) (hl : lv_has ls 1 []) (hE : sX15_isGame_14 h  = some o) : W p l e (rm 0 0) s m args below meth c H locs 0 0 (MQ below (QI X h0 o.1 o.2) args s 0 0 (aA (eB X))) (F0 m 14 ls []) := by
  refine lv_iconst (v := (0 : Int32)) C.1 C.2.1 dX15_isGame_14 (by decide) ?_
  exact bX15_isGame_15 C hkm hW hZ _ (lv_sub hl [] rfl) hE
set_option maxRecDepth 20000 in
theorem ct_X15_isGame (l : Launch) (X : Ec) {h : Hp} {x0 : Int32} {o : Int32 × Hp} (hE : sX15_isGame h x0 = some o) : MetI l yX15_isGame cX15_isGame 1 (some .boolean) 0 0 X [.int x0] h o := by
  refine x_met (by decide) (Nat.le_of_ble_eq_true rfl) ?_
  intro p e s m below meth c ls C hl hW hZ
  have hl : lv_has ls 1 [(0, .int x0)] := hl
  have hkm : Km h h := Km.rf h
  refine lv_iload_n C.1 C.2.1 dX15_isGame_0 rfl (lv_at hl 0 rfl) ?_
  refine lv_if_lt (tgt := 14) C.1 C.2.1 dX15_isGame_1 (by decide) (fun c_1 => ?_) (fun c_1 => ?_)
  · have hE := br_p hE c_1
    exact bX15_isGame_14 C hkm hW hZ _ (lv_sub hl [] rfl) hE
  · have hE := br_n hE c_1
    refine lv_iload_n C.1 C.2.1 dX15_isGame_4 rfl (lv_at hl 0 rfl) ?_
    refine lv_bipush (v := (8 : Int32)) C.1 C.2.1 dX15_isGame_5 (by decide) ?_
    refine lv_icmp_ge (tgt := 14) C.1 C.2.1 dX15_isGame_7 (by decide) (fun c_2 => ?_) (fun c_2 => ?_)
    · have hE := br_p hE c_2
      exact bX15_isGame_14 C hkm hW hZ _ (lv_sub hl [] rfl) hE
    · have hE := br_n hE c_2
      refine lv_iconst (v := (1 : Int32)) C.1 C.2.1 dX15_isGame_10 (by decide) ?_
      refine lv_goto (tgt := 15) C.1 C.2.1 dX15_isGame_11 (by decide) ?_
      exact bX15_isGame_15 C hkm hW hZ _ (lv_sub hl [] rfl) hE
section
variable {p : Program} {l : Launch} {e : Env} {R : Room} {s : State} {m : MethodId} {args : Array Value} {below : List Frame} {meth : Method} {c : Code} {H : Heap} {locs : List Loc} {cells slots : Nat} {Q : State → Prop}
variable {cc : ByteArray} {pc : Nat} {ls : Array Slot} {rest : List Value} {X : Ec} {h h1 : Hp} {nL : Nat} {rt : Option FieldType} {mn : String}
theorem gf_X15_308 {a r : Nat} (C : Cx X p s m args meth c RX15 cc nL rt mn) (hW : Wx X h H) (ha : hK h a = 15) (hr : hR h a 37 = some r) (hdg : decode cc pc = .ok (.getfield 308, 3)) (kk : hK h r = 21 → W p l e R s m args below meth c H locs cells slots Q (F0 m (pc + 3) ls (.ref r :: rest))) : W p l e R s m args below meth c H locs cells slots Q (F0 m pc ls (.ref a :: rest)) :=
  y_getr C hW ha i_X15 (by decide) rfl (by decide) m_2148 rfl rfl hr hdg kk
end
theorem dX15_gameBoard_0 : decode cX15_gameBoard 0 = .ok (.iload_n 1, 1) := by decide +kernel
theorem dX15_gameBoard_1 : decode cX15_gameBoard 1 = .ok (.sipush 301, 3) := by decide +kernel
theorem dX15_gameBoard_4 : decode cX15_gameBoard 4 = .ok (.imul, 1) := by decide +kernel
theorem dX15_gameBoard_5 : decode cX15_gameBoard 5 = .ok (.iload_n 2, 1) := by decide +kernel
theorem dX15_gameBoard_6 : decode cX15_gameBoard 6 = .ok (.iadd, 1) := by decide +kernel
theorem dX15_gameBoard_7 : decode cX15_gameBoard 7 = .ok (.istore_n 3, 1) := by decide +kernel
theorem dX15_gameBoard_8 : decode cX15_gameBoard 8 = .ok (.aload_n 0, 1) := by decide +kernel
theorem dX15_gameBoard_9 : decode cX15_gameBoard 9 = .ok (.getfield 308, 3) := by decide +kernel
theorem dX15_gameBoard_12 : decode cX15_gameBoard 12 = .ok (.iload_n 3, 1) := by decide +kernel
theorem dX15_gameBoard_13 : decode cX15_gameBoard 13 = .ok (.aaload, 1) := by decide +kernel
theorem dX15_gameBoard_14 : decode cX15_gameBoard 14 = .ok (.ifnonnull 16, 3) := by decide +kernel
theorem dX15_gameBoard_17 : decode cX15_gameBoard 17 = .ok (.aload_n 0, 1) := by decide +kernel
theorem dX15_gameBoard_18 : decode cX15_gameBoard 18 = .ok (.getfield 308, 3) := by decide +kernel
theorem dX15_gameBoard_21 : decode cX15_gameBoard 21 = .ok (.iload_n 3, 1) := by decide +kernel
theorem dX15_gameBoard_22 : decode cX15_gameBoard 22 = .ok (.new 255, 3) := by decide +kernel
theorem dX15_gameBoard_25 : decode cX15_gameBoard 25 = .ok (.dup, 1) := by decide +kernel
theorem dX15_gameBoard_26 : decode cX15_gameBoard 26 = .ok (.invokespecial 264, 3) := by decide +kernel
theorem dX15_gameBoard_29 : decode cX15_gameBoard 29 = .ok (.aastore, 1) := by decide +kernel
theorem dX15_gameBoard_30 : decode cX15_gameBoard 30 = .ok (.aload_n 0, 1) := by decide +kernel
theorem dX15_gameBoard_31 : decode cX15_gameBoard 31 = .ok (.getfield 308, 3) := by decide +kernel
theorem dX15_gameBoard_34 : decode cX15_gameBoard 34 = .ok (.iload_n 3, 1) := by decide +kernel
theorem dX15_gameBoard_35 : decode cX15_gameBoard 35 = .ok (.aaload, 1) := by decide +kernel
theorem dX15_gameBoard_36 : decode cX15_gameBoard 36 = .ok (.areturn, 1) := by decide +kernel
set_option maxRecDepth 20000 in
theorem moX15_gameBoard_30 {o : Nat × Hp} {h : Hp} {x0 : Nat} {x3 : Int32} (hE : sX15_gameBoard_30 h x0 x3 = some o) : Le h o.2 := by
  obtain ⟨r_1, er_1, hE⟩ := cl_e hE
  obtain ⟨g_2, hE⟩ := gd_e hE
  obtain ⟨r_3, er_3, hE⟩ := cl_e hE
  exact le_some2 hE
set_option maxRecDepth 20000 in
theorem moX15_gameBoard_29 {o : Nat × Hp} {h : Hp} {x0 : Nat} {x3 : Int32} {t0 : Nat} {t1 : Int32} {t2 : Nat} (hE : sX15_gameBoard_29 h x0 x3 t0 t1 t2 = some o) : Le h o.2 := by
  obtain ⟨g_1, hE⟩ := gd_e hE
  obtain ⟨h_2, eh_2, hE⟩ := nm_e2 hE
  refine (le_R eh_2).tr ?_
  exact moX15_gameBoard_30 hE
set_option maxRecDepth 20000 in
theorem moX15_gameBoard_25 {o : Nat × Hp} {h : Hp} {x0 : Nat} {x3 : Int32} {t0 : Nat} {t1 : Int32} {t2 : Nat} (hE : sX15_gameBoard_25 h x0 x3 t0 t1 t2 = some o) : Le h o.2 := by
  obtain ⟨o_1, eo_1, hE⟩ := cl_e hE
  refine (moX12_init eo_1).tr ?_
  exact moX15_gameBoard_29 hE
set_option maxRecDepth 20000 in
theorem moX15_gameBoard {o : Nat × Hp} {h : Hp} {x0 : Nat} {x1 : Int32} {x2 : Int32} (hE : sX15_gameBoard h x0 x1 x2 = some o) : Le h o.2 := by
  obtain ⟨v_1, ev_1, hE⟩ := nm_e2 hE
  obtain ⟨r_2, er_2, hE⟩ := cl_e hE
  obtain ⟨g_3, hE⟩ := gd_e hE
  rcases onr_e hE with hE | ⟨r_4, hE⟩
  · obtain ⟨r_6, er_6, hE⟩ := cl_e hE
    obtain ⟨a_7, ea_7, hE⟩ := nm_e2 hE
    obtain ⟨h_8, eh_8, hE⟩ := nm_e2 hE
    refine (le_C eh_8).tr ?_
    exact moX15_gameBoard_25 hE
  · exact moX15_gameBoard_30 hE
set_option maxRecDepth 20000 in
theorem bX15_gameBoard_30 {p : Program} {l : Launch} {e : Env} {s : State} {m : MethodId} {args : Array Value} {below : List Frame} {meth : Method} {c : Code} {X : Ec} {h0 : Hp} {o : Nat × Hp} (C : Cx X p s m args meth c RX15 cX15_gameBoard 4 (some (.object "GameRulesModel$Board")) "gameBoard") {h : Hp} {x0 : Nat} {x3 : Int32} {H : Heap} {locs : List Loc} (k_x0 : hK h x0 = 15) (hkl : Kl h0 h) (hW : Wx X h H) (hZ : va_S (aA (eB X)) s.heap H locs) (ls : Array Slot) (hl : lv_has ls 4 [(0, .ref x0), (3, .int x3)]) (hE : sX15_gameBoard_30 h x0 x3 = some o) : W p l e (rmA 2 40 h0 o.2) s m args below meth c H locs (hS h - hS h0) (hL h - hL h0) (MQ below (QRA X 12 h0 o.1 o.2) args s (hS o.2 - hS h0) (hL o.2 - hL h0) (aA (eB X))) (F0 m 30 ls []) := by
  refine lv_aload_n C.1 C.2.1 dX15_gameBoard_30 rfl (lv_at hl 0 rfl) ?_
  obtain ⟨r_1, er_1, hE⟩ := cl_e hE
  refine gf_X15_308 C hW k_x0 er_1 dX15_gameBoard_31 (fun k_r_1 => ?_)
  refine lv_iload_n C.1 C.2.1 dX15_gameBoard_34 rfl (lv_at hl 1 rfl) ?_
  obtain ⟨g_2, hE⟩ := gd_e hE
  obtain ⟨r_3, er_3, hE⟩ := cl_e hE
  refine y_aald (t0 := 5) C hW k_r_1 (by decide) (by decide) rfl rfl rfl (fun _ => rfl) g_2 er_3 dX15_gameBoard_35 (fun k_r_3 => ?_)
  exact x_aretA C rfl (by first | exact Or.inl ⟨_, rfl⟩ | exact Or.inr ⟨_, rfl⟩) hW hZ hkl k_r_3 hE dX15_gameBoard_36
set_option maxRecDepth 20000 in
theorem bX15_gameBoard_29 {p : Program} {l : Launch} {e : Env} {s : State} {m : MethodId} {args : Array Value} {below : List Frame} {meth : Method} {c : Code} {X : Ec} {h0 : Hp} {o : Nat × Hp} (C : Cx X p s m args meth c RX15 cX15_gameBoard 4 (some (.object "GameRulesModel$Board")) "gameBoard") {h : Hp} {x0 : Nat} {x3 : Int32} {t0 : Nat} {t1 : Int32} {t2 : Nat} {H : Heap} {locs : List Loc} (k_x0 : hK h x0 = 15) (k_t0 : hK h t0 = 12) (k_t2 : hK h t2 = 21) (hkl : Kl h0 h) (hW : Wx X h H) (hZ : va_S (aA (eB X)) s.heap H locs) (ls : Array Slot) (hl : lv_has ls 4 [(0, .ref x0), (3, .int x3)]) (hE : sX15_gameBoard_29 h x0 x3 t0 t1 t2 = some o) : W p l e (rmA 2 40 h0 o.2) s m args below meth c H locs (hS h - hS h0) (hL h - hL h0) (MQ below (QRA X 12 h0 o.1 o.2) args s (hS o.2 - hS h0) (hL o.2 - hL h0) (aA (eB X))) (F0 m 29 ls [.ref t0, .int t1, .ref t2]) := by
  obtain ⟨g_1, hE⟩ := gd_e hE
  obtain ⟨h_2, eh_2, hE⟩ := nm_e2 hE
  refine y_aast (t0 := 5) C hW hZ k_t2 (by decide) (by decide) rfl k_t0 (by decide) rfl (fun _ => rfl) g_1 eh_2 dX15_gameBoard_29 (fun _ _ hW km hZ => ?_)
  replace hkl := hkl.tr km.l
  refine x_wc km ?_
  replace k_x0 := km.at k_x0 (by decide)
  exact bX15_gameBoard_30 C k_x0 hkl hW hZ _ (lv_sub hl [0, 1] rfl) hE
set_option maxRecDepth 20000 in
theorem bX15_gameBoard_25 {p : Program} {l : Launch} {e : Env} {s : State} {m : MethodId} {args : Array Value} {below : List Frame} {meth : Method} {c : Code} {X : Ec} {h0 : Hp} {o : Nat × Hp} (C : Cx X p s m args meth c RX15 cX15_gameBoard 4 (some (.object "GameRulesModel$Board")) "gameBoard") {h : Hp} {x0 : Nat} {x3 : Int32} {t0 : Nat} {t1 : Int32} {t2 : Nat} {H : Heap} {locs : List Loc} (k_x0 : hK h x0 = 15) (k_t0 : hK h t0 = 12) (k_t2 : hK h t2 = 21) (hkl : Kl h0 h) (hW : Wx X h H) (hZ : va_S (aA (eB X)) s.heap H locs) (ls : Array Slot) (hl : lv_has ls 4 [(0, .ref x0), (3, .int x3)]) (hE : sX15_gameBoard_25 h x0 x3 t0 t1 t2 = some o) : W p l e (rmA 2 40 h0 o.2) s m args below meth c H locs (hS h - hS h0) (hL h - hL h0) (MQ below (QRA X 12 h0 o.1 o.2) args s (hS o.2 - hS h0) (hL o.2 - hL h0) (aA (eB X))) (F0 m 25 ls [.ref t0, .int t1, .ref t2]) := by
  refine lv_dup C.1 C.2.1 dX15_gameBoard_25 rfl ?_
  obtain ⟨o_1, eo_1, hE⟩ := cl_e hE
  have m1 := moX12_init eo_1
  have m2 := moX15_gameBoard_29 hE
  refine x_kVA (o := o_1) hkl (z_runIN (As := []) (rest := [.ref t0, .int t1, .ref t2]) C (ct_X12_init l X k_t0 eo_1) cj_X15_264 hW hZ rfl hl.1 (Nat.le_of_ble_eq_true rfl) rfl dX15_gameBoard_26 ⟨Nat.le_of_ble_eq_true rfl, Nat.le_of_ble_eq_true rfl⟩ (rm_ok hkl m1 m2)) hZ (fun _ _ hW km hZ => ?_)
  replace hkl := hkl.tr km
  replace k_x0 := km.at k_x0 (by decide)
  replace k_t0 := km.at k_t0 (by decide)
  replace k_t2 := km.at k_t2 (by decide)
  exact bX15_gameBoard_29 C k_x0 k_t0 k_t2 hkl hW hZ _ (lv_sub hl [0, 1] rfl) hE
set_option maxRecDepth 20000 in
theorem ct_X15_gameBoard (l : Launch) (X : Ec) {h : Hp} {x0 : Nat} {x1 : Int32} {x2 : Int32} {o : Nat × Hp} (k_x0 : hK h x0 = 15) (hE : sX15_gameBoard h x0 x1 x2 = some o) : MetRA 12 l yX15_gameBoard cX15_gameBoard 4 (some (.object "GameRulesModel$Board")) 2 40 X [.ref x0, .int x1, .int x2] h o := by
  refine x_metA (oh := o.2) (by decide) (Nat.le_of_ble_eq_true rfl) ?_
  intro p e s m below meth c ls C hl hW hZ
  have hl : lv_has ls 4 [(0, .ref x0), (1, .int x1), (2, .int x2)] := hl
  have hkl : Kl h h := Kl.rf h
  refine lv_iload_n C.1 C.2.1 dX15_gameBoard_0 rfl (lv_at hl 1 rfl) ?_
  refine lv_sipush (v := (301 : Int32)) C.1 C.2.1 dX15_gameBoard_1 (by decide) ?_
  refine lv_imul C.1 C.2.1 dX15_gameBoard_4 ?_
  refine lv_iload_n C.1 C.2.1 dX15_gameBoard_5 rfl (lv_at hl 2 rfl) ?_
  refine lv_iadd C.1 C.2.1 dX15_gameBoard_6 ?_
  obtain ⟨v_1, ev_1, hE⟩ := nm_e2 hE
  refine x_nmI ev_1 ?_
  refine lv_istore_n (lv' := [(3, .int v_1), (0, .ref x0), (1, .int x1), (2, .int x2)]) C.1 C.2.1 dX15_gameBoard_7 rfl hl (by decide) rfl (fun ls hl => ?_)
  refine lv_aload_n C.1 C.2.1 dX15_gameBoard_8 rfl (lv_at hl 1 rfl) ?_
  obtain ⟨r_2, er_2, hE⟩ := cl_e hE
  refine gf_X15_308 C hW k_x0 er_2 dX15_gameBoard_9 (fun k_r_2 => ?_)
  refine lv_iload_n C.1 C.2.1 dX15_gameBoard_12 rfl (lv_at hl 0 rfl) ?_
  obtain ⟨g_3, hE⟩ := gd_e hE
  rcases e_5 : hR h r_2 v_1.toNatClampNeg with _ | r_4
  · have hE := onr_n hE e_5
    refine y_aald0 (t0 := 5) C hW k_r_2 (by decide) (by decide) rfl rfl g_3 e_5 dX15_gameBoard_13 ?_
    refine lv_ifnonnullN C.1 C.2.1 dX15_gameBoard_14 ?_
    refine lv_aload_n C.1 C.2.1 dX15_gameBoard_17 rfl (lv_at hl 1 rfl) ?_
    obtain ⟨r_6, er_6, hE⟩ := cl_e hE
    refine gf_X15_308 C hW k_x0 er_6 dX15_gameBoard_18 (fun k_r_6 => ?_)
    refine lv_iload_n C.1 C.2.1 dX15_gameBoard_21 rfl (lv_at hl 0 rfl) ?_
    obtain ⟨a_7, ea_7, hE⟩ := nm_e2 hE
    obtain ⟨h_8, eh_8, hE⟩ := nm_e2 hE
    refine y_new C hW hZ hkl (moX15_gameBoard_25 hE) ⟨rfl, rfl⟩ i_X12 tyX12 tyX12_ok (by decide) rfl rfl dv_X12 m_1901 m_1903 m_21 eh_8 dX15_gameBoard_22 (fun _ hW km k_a_7 hZ => ?_)
    replace hkl := hkl.tr km
    refine x_nmA ea_7 ?_
    rw [← ea_7] at k_a_7
    replace k_x0 := km.at k_x0 (by decide)
    replace k_r_6 := km.at k_r_6 (by decide)
    exact bX15_gameBoard_25 C k_x0 k_a_7 k_r_6 hkl hW hZ _ (lv_sub hl [1, 0] rfl) hE
  · have hE := onr_s hE e_5
    refine y_aald (t0 := 5) C hW k_r_2 (by decide) (by decide) rfl rfl rfl (fun _ => rfl) g_3 e_5 dX15_gameBoard_13 (fun k_r_4 => ?_)
    refine lv_ifnonnull (tgt := 30) C.1 C.2.1 dX15_gameBoard_14 (by decide) ?_
    exact bX15_gameBoard_30 C k_x0 hkl hW hZ _ (lv_sub hl [1, 0] rfl) hE
set_option maxRecDepth 100000 in
theorem ms_191 : Cond.selects RX15 yX15_gameBoard yX15_gameBoard ∈ W0 := w0_in (List.mem_append_left _ (List.mem_of_getElem? (i := 191) rfl)) rfl
set_option maxRecDepth 100000 in
theorem m_2664 : Cond.methodLink RX15 703 yX15_isGame ∈ W0 := w0_in (List.mem_append_right _ (List.mem_of_getElem? (i := 2664) rfl)) rfl
set_option maxRecDepth 100000 in
theorem m_2665 : Cond.static yX15_isGame ∈ W0 := w0_in (List.mem_append_right _ (List.mem_of_getElem? (i := 2665) rfl)) rfl
set_option maxRecDepth 100000 in
theorem m_2666 : Cond.code yX15_isGame cX15_isGame 1 (some .boolean) ∈ W0 := w0_in (List.mem_append_right _ (List.mem_of_getElem? (i := 2666) rfl)) rfl
set_option maxRecDepth 100000 in
theorem m_2667 : Cond.methodLink RX15 706 yX15_gameBoard ∈ W0 := w0_in (List.mem_append_right _ (List.mem_of_getElem? (i := 2667) rfl)) rfl
set_option maxRecDepth 100000 in
theorem m_2669 : Cond.instanceMethod yX15_gameBoard ∈ W0 := w0_in (List.mem_append_right _ (List.mem_of_getElem? (i := 2669) rfl)) rfl
set_option maxRecDepth 100000 in
theorem m_2670 : Cond.code yX15_gameBoard cX15_gameBoard 4 (some (.object "GameRulesModel$Board")) ∈ W0 := w0_in (List.mem_append_right _ (List.mem_of_getElem? (i := 2670) rfl)) rfl
theorem cw_X15_706 : cwd RX15 706 yX15_gameBoard cX15_gameBoard 4 (some (.object "GameRulesModel$Board")) false 2 := ⟨m_2670, m_2667, m_19, ⟨m_2669, ms_191⟩, by decide, by decide, by decide +kernel⟩
theorem cw_X15_703 : cwd RX15 703 yX15_isGame cX15_isGame 1 (some .boolean) true 1 := ⟨m_2666, m_2664, m_19, m_2665, by decide, by decide, by decide +kernel⟩
theorem dX15_start_0 : decode cX15_start 0 = .ok (.iload_n 1, 1) := by decide +kernel
theorem dX15_start_1 : decode cX15_start 1 = .ok (.invokestatic 703, 3) := by decide +kernel
theorem dX15_start_4 : decode cX15_start 4 = .ok (.ifCond .ne 6, 3) := by decide +kernel
theorem dX15_start_7 : decode cX15_start 7 = .ok (.bipush (-101), 2) := by decide +kernel
theorem dX15_start_9 : decode cX15_start 9 = .ok (.ireturn, 1) := by decide +kernel
theorem dX15_start_10 : decode cX15_start 10 = .ok (.aload_n 0, 1) := by decide +kernel
theorem dX15_start_11 : decode cX15_start 11 = .ok (.iload_n 2, 1) := by decide +kernel
theorem dX15_start_12 : decode cX15_start 12 = .ok (.invokevirtual 486, 3) := by decide +kernel
theorem dX15_start_15 : decode cX15_start 15 = .ok (.ifCond .ne 6, 3) := by decide +kernel
theorem dX15_start_18 : decode cX15_start 18 = .ok (.bipush (-102), 2) := by decide +kernel
theorem dX15_start_20 : decode cX15_start 20 = .ok (.ireturn, 1) := by decide +kernel
theorem dX15_start_21 : decode cX15_start 21 = .ok (.aload_n 0, 1) := by decide +kernel
theorem dX15_start_22 : decode cX15_start 22 = .ok (.iload_n 1, 1) := by decide +kernel
theorem dX15_start_23 : decode cX15_start 23 = .ok (.iconst 0, 1) := by decide +kernel
theorem dX15_start_24 : decode cX15_start 24 = .ok (.invokevirtual 706, 3) := by decide +kernel
theorem dX15_start_27 : decode cX15_start 27 = .ok (.aload_n 0, 1) := by decide +kernel
theorem dX15_start_28 : decode cX15_start 28 = .ok (.getfield 257, 3) := by decide +kernel
theorem dX15_start_31 : decode cX15_start 31 = .ok (.iload_n 2, 1) := by decide +kernel
theorem dX15_start_32 : decode cX15_start 32 = .ok (.aaload, 1) := by decide +kernel
theorem dX15_start_33 : decode cX15_start 33 = .ok (.invokevirtual 405, 3) := by decide +kernel
theorem dX15_start_36 : decode cX15_start 36 = .ok (.aload_n 0, 1) := by decide +kernel
theorem dX15_start_37 : decode cX15_start 37 = .ok (.getfield 314, 3) := by decide +kernel
theorem dX15_start_40 : decode cX15_start 40 = .ok (.iload_n 1, 1) := by decide +kernel
theorem dX15_start_41 : decode cX15_start 41 = .ok (.iconst 0, 1) := by decide +kernel
theorem dX15_start_42 : decode cX15_start 42 = .ok (.iastore, 1) := by decide +kernel
theorem dX15_start_43 : decode cX15_start 43 = .ok (.iconst 0, 1) := by decide +kernel
theorem dX15_start_44 : decode cX15_start 44 = .ok (.ireturn, 1) := by decide +kernel
set_option maxRecDepth 20000 in
theorem moX15_start_36 {o : Int32 × Hp} {h : Hp} {x0 : Nat} {x1 : Int32} (hE : sX15_start_36 h x0 x1 = some o) : Le h o.2 := by
  obtain ⟨r_1, er_1, hE⟩ := cl_e hE
  obtain ⟨g_2, hE⟩ := gd_e hE
  obtain ⟨h_3, eh_3, hE⟩ := nm_e2 hE
  refine (le_I eh_3).tr ?_
  exact le_some2 hE
set_option maxRecDepth 20000 in
theorem moX15_start_27 {o : Int32 × Hp} {h : Hp} {x0 : Nat} {x1 : Int32} {x2 : Int32} {t0 : Nat} (hE : sX15_start_27 h x0 x1 x2 t0 = some o) : Le h o.2 := by
  obtain ⟨r_1, er_1, hE⟩ := cl_e hE
  obtain ⟨g_2, hE⟩ := gd_e hE
  obtain ⟨r_3, er_3, hE⟩ := cl_e hE
  obtain ⟨o_4, eo_4, hE⟩ := cl_e hE
  refine (moX12_copy eo_4).tr ?_
  exact moX15_start_36 hE
set_option maxRecDepth 20000 in
theorem moX15_start_15 {o : Int32 × Hp} {h : Hp} {x0 : Nat} {x1 : Int32} {x2 : Int32} {t0 : Int32} (hE : sX15_start_15 h x0 x1 x2 t0 = some o) : Le h o.2 := by
  rcases br_e hE with ⟨_, hE⟩ | ⟨_, hE⟩
  · exact le_some2 hE
  · obtain ⟨o_2, eo_2, hE⟩ := cl_e hE
    refine (moX15_gameBoard eo_2).tr ?_
    exact moX15_start_27 hE
set_option maxRecDepth 20000 in
theorem moX15_start_4 {o : Int32 × Hp} {h : Hp} {x0 : Nat} {x1 : Int32} {x2 : Int32} {t0 : Int32} (hE : sX15_start_4 h x0 x1 x2 t0 = some o) : Le h o.2 := by
  rcases br_e hE with ⟨_, hE⟩ | ⟨_, hE⟩
  · exact le_some2 hE
  · obtain ⟨o_2, eo_2, hE⟩ := cl_e hE
    refine (moX15_has eo_2).tr ?_
    exact moX15_start_15 hE
set_option maxRecDepth 20000 in
theorem moX15_start {o : Int32 × Hp} {h : Hp} {x0 : Nat} {x1 : Int32} {x2 : Int32} (hE : sX15_start h x0 x1 x2 = some o) : Le h o.2 := by
  obtain ⟨o_1, eo_1, hE⟩ := cl_e hE
  refine (moX15_isGame eo_1).tr ?_
  exact moX15_start_4 hE
set_option maxRecDepth 20000 in
theorem bX15_start_36 {p : Program} {l : Launch} {e : Env} {s : State} {m : MethodId} {args : Array Value} {below : List Frame} {meth : Method} {c : Code} {X : Ec} {h0 : Hp} {o : Int32 × Hp} (C : Cx X p s m args meth c RX15 cX15_start 3 (some .int) "start") {h : Hp} {x0 : Nat} {x1 : Int32} {H : Heap} {locs : List Loc} (k_x0 : hK h x0 = 15) (hkl : Kl h0 h) (hW : Wx X h H) (hZ : va_S (aA (eB X)) s.heap H locs) (ls : Array Slot) (hl : lv_has ls 3 [(0, .ref x0), (1, .int x1)]) (hE : sX15_start_36 h x0 x1 = some o) : W p l e (rmA 3 85 h0 o.2) s m args below meth c H locs (hS h - hS h0) (hL h - hL h0) (MQ below (QIA X h0 o.1 o.2) args s (hS o.2 - hS h0) (hL o.2 - hL h0) (aA (eB X))) (F0 m 36 ls []) := by
  refine lv_aload_n C.1 C.2.1 dX15_start_36 rfl (lv_at hl 0 rfl) ?_
  obtain ⟨r_1, er_1, hE⟩ := cl_e hE
  refine gf_X15_314 C hW k_x0 er_1 dX15_start_37 (fun k_r_1 => ?_)
  refine lv_iload_n C.1 C.2.1 dX15_start_40 rfl (lv_at hl 1 rfl) ?_
  refine lv_iconst (v := (0 : Int32)) C.1 C.2.1 dX15_start_41 (by decide) ?_
  obtain ⟨g_2, hE⟩ := gd_e hE
  obtain ⟨h_3, eh_3, hE⟩ := nm_e2 hE
  refine y_iast C hW hZ k_r_1 g_2 eh_3 dX15_start_42 (fun _ _ hW km hZ => ?_)
  replace hkl := hkl.tr km.l
  refine x_wc km ?_
  replace k_x0 := km.at k_x0 (by decide)
  refine lv_iconst (v := (0 : Int32)) C.1 C.2.1 dX15_start_43 (by decide) ?_
  exact x_iretA C rfl rfl hW hZ hkl hE dX15_start_44
set_option maxRecDepth 20000 in
theorem bX15_start_27 {p : Program} {l : Launch} {e : Env} {s : State} {m : MethodId} {args : Array Value} {below : List Frame} {meth : Method} {c : Code} {X : Ec} {h0 : Hp} {o : Int32 × Hp} (C : Cx X p s m args meth c RX15 cX15_start 3 (some .int) "start") {h : Hp} {x0 : Nat} {x1 : Int32} {x2 : Int32} {t0 : Nat} {H : Heap} {locs : List Loc} (k_x0 : hK h x0 = 15) (k_t0 : hK h t0 = 12) (hkl : Kl h0 h) (hW : Wx X h H) (hZ : va_S (aA (eB X)) s.heap H locs) (ls : Array Slot) (hl : lv_has ls 3 [(0, .ref x0), (1, .int x1), (2, .int x2)]) (hE : sX15_start_27 h x0 x1 x2 t0 = some o) : W p l e (rmA 3 85 h0 o.2) s m args below meth c H locs (hS h - hS h0) (hL h - hL h0) (MQ below (QIA X h0 o.1 o.2) args s (hS o.2 - hS h0) (hL o.2 - hL h0) (aA (eB X))) (F0 m 27 ls [.ref t0]) := by
  refine lv_aload_n C.1 C.2.1 dX15_start_27 rfl (lv_at hl 0 rfl) ?_
  obtain ⟨r_1, er_1, hE⟩ := cl_e hE
  refine gf_X15_257 C hW k_x0 er_1 dX15_start_28 (fun k_r_1 => ?_)
  refine lv_iload_n C.1 C.2.1 dX15_start_31 rfl (lv_at hl 2 rfl) ?_
  obtain ⟨g_2, hE⟩ := gd_e hE
  obtain ⟨r_3, er_3, hE⟩ := cl_e hE
  refine y_aald (t0 := 5) C hW k_r_1 (by decide) (by decide) rfl rfl rfl (fun _ => rfl) g_2 er_3 dX15_start_32 (fun k_r_3 => ?_)
  obtain ⟨o_4, eo_4, hE⟩ := cl_e hE
  have m1 := moX12_copy eo_4
  have m2 := moX15_start_36 hE
  refine x_kV (o := o_4) (z_runV (As := [.ref r_3]) (rest := []) C (ct_X12_copy l X k_t0 k_r_3 eo_4) cw_X15_405 hW hZ k_t0 (by decide) rfl rfl rfl hl.1 (Nat.le_of_ble_eq_true rfl) rfl dX15_start_33 ⟨Nat.le_of_ble_eq_true rfl, Nat.le_of_ble_eq_true rfl⟩ (rm_ok0 hkl m1 m2)) hZ (fun _ _ hW km hZ => ?_)
  replace hkl := hkl.tr km.l
  refine x_wc km ?_
  replace k_x0 := km.at k_x0 (by decide)
  exact bX15_start_36 C k_x0 hkl hW hZ _ (lv_sub hl [0, 1] rfl) hE
set_option maxRecDepth 20000 in
theorem bX15_start_15 {p : Program} {l : Launch} {e : Env} {s : State} {m : MethodId} {args : Array Value} {below : List Frame} {meth : Method} {c : Code} {X : Ec} {h0 : Hp} {o : Int32 × Hp} (C : Cx X p s m args meth c RX15 cX15_start 3 (some .int) "start") {h : Hp} {x0 : Nat} {x1 : Int32} {x2 : Int32} {t0 : Int32} {H : Heap} {locs : List Loc} (k_x0 : hK h x0 = 15) (hkl : Kl h0 h) (hW : Wx X h H) (hZ : va_S (aA (eB X)) s.heap H locs) (ls : Array Slot) (hl : lv_has ls 3 [(0, .ref x0), (1, .int x1), (2, .int x2)]) (hE : sX15_start_15 h x0 x1 x2 t0 = some o) : W p l e (rmA 3 85 h0 o.2) s m args below meth c H locs (hS h - hS h0) (hL h - hL h0) (MQ below (QIA X h0 o.1 o.2) args s (hS o.2 - hS h0) (hL o.2 - hL h0) (aA (eB X))) (F0 m 15 ls [.int t0]) := by
  refine lv_if_ne (tgt := 21) C.1 C.2.1 dX15_start_15 (by decide) (fun c_1 => ?_) (fun c_1 => ?_)
  · have hE := br_n hE c_1
    refine lv_aload_n C.1 C.2.1 dX15_start_21 rfl (lv_at hl 0 rfl) ?_
    refine lv_iload_n C.1 C.2.1 dX15_start_22 rfl (lv_at hl 1 rfl) ?_
    refine lv_iconst (v := (0 : Int32)) C.1 C.2.1 dX15_start_23 (by decide) ?_
    obtain ⟨o_2, eo_2, hE⟩ := cl_e hE
    have m1 := moX15_gameBoard eo_2
    have m2 := moX15_start_27 hE
    refine x_kRA (o := o_2) hkl (z_runV (As := [.int x1, .int (0 : Int32)]) (rest := []) C (ct_X15_gameBoard l X k_x0 eo_2) cw_X15_706 hW hZ k_x0 (by decide) rfl rfl rfl hl.1 (Nat.le_of_ble_eq_true rfl) rfl dX15_start_24 ⟨Nat.le_of_ble_eq_true rfl, Nat.le_of_ble_eq_true rfl⟩ (rm_ok hkl m1 m2)) hZ (fun _ _ hW km k_o_2_1 hZ => ?_)
    replace hkl := hkl.tr km
    replace k_x0 := km.at k_x0 (by decide)
    exact bX15_start_27 C k_x0 k_o_2_1 hkl hW hZ _ (lv_sub hl [0, 1, 2] rfl) hE
  · have hE := br_p hE c_1
    refine lv_bipush (v := (-102 : Int32)) C.1 C.2.1 dX15_start_18 (by decide) ?_
    exact x_iretA C rfl rfl hW hZ hkl hE dX15_start_20
set_option maxRecDepth 20000 in
theorem bX15_start_4 {p : Program} {l : Launch} {e : Env} {s : State} {m : MethodId} {args : Array Value} {below : List Frame} {meth : Method} {c : Code} {X : Ec} {h0 : Hp} {o : Int32 × Hp} (C : Cx X p s m args meth c RX15 cX15_start 3 (some .int) "start") {h : Hp} {x0 : Nat} {x1 : Int32} {x2 : Int32} {t0 : Int32} {H : Heap} {locs : List Loc} (k_x0 : hK h x0 = 15) (hkl : Kl h0 h) (hW : Wx X h H) (hZ : va_S (aA (eB X)) s.heap H locs) (ls : Array Slot) (hl : lv_has ls 3 [(0, .ref x0), (1, .int x1), (2, .int x2)]) (hE : sX15_start_4 h x0 x1 x2 t0 = some o) : W p l e (rmA 3 85 h0 o.2) s m args below meth c H locs (hS h - hS h0) (hL h - hL h0) (MQ below (QIA X h0 o.1 o.2) args s (hS o.2 - hS h0) (hL o.2 - hL h0) (aA (eB X))) (F0 m 4 ls [.int t0]) := by
  refine lv_if_ne (tgt := 10) C.1 C.2.1 dX15_start_4 (by decide) (fun c_1 => ?_) (fun c_1 => ?_)
  · have hE := br_n hE c_1
    refine lv_aload_n C.1 C.2.1 dX15_start_10 rfl (lv_at hl 0 rfl) ?_
    refine lv_iload_n C.1 C.2.1 dX15_start_11 rfl (lv_at hl 2 rfl) ?_
    obtain ⟨o_2, eo_2, hE⟩ := cl_e hE
    have m1 := moX15_has eo_2
    have m2 := moX15_start_15 hE
    refine x_kI (o := o_2) (z_runV (As := [.int x2]) (rest := []) C (ct_X15_has l X k_x0 eo_2) cw_X15_486 hW hZ k_x0 (by decide) rfl rfl rfl hl.1 (Nat.le_of_ble_eq_true rfl) rfl dX15_start_12 ⟨Nat.le_of_ble_eq_true rfl, Nat.le_of_ble_eq_true rfl⟩ (rm_ok0 hkl m1 m2)) hZ (fun _ _ hW km hZ => ?_)
    replace hkl := hkl.tr km.l
    refine x_wc km ?_
    replace k_x0 := km.at k_x0 (by decide)
    exact bX15_start_15 C k_x0 hkl hW hZ _ (lv_sub hl [0, 1, 2] rfl) hE
  · have hE := br_p hE c_1
    refine lv_bipush (v := (-101 : Int32)) C.1 C.2.1 dX15_start_7 (by decide) ?_
    exact x_iretA C rfl rfl hW hZ hkl hE dX15_start_9
set_option maxRecDepth 20000 in
theorem ct_X15_start (l : Launch) (X : Ec) {h : Hp} {x0 : Nat} {x1 : Int32} {x2 : Int32} {o : Int32 × Hp} (k_x0 : hK h x0 = 15) (hE : sX15_start h x0 x1 x2 = some o) : MetIA l yX15_start cX15_start 3 (some .int) 3 85 X [.ref x0, .int x1, .int x2] h o := by
  refine x_metA (oh := o.2) (by decide) (Nat.le_of_ble_eq_true rfl) ?_
  intro p e s m below meth c ls C hl hW hZ
  have hl : lv_has ls 3 [(0, .ref x0), (1, .int x1), (2, .int x2)] := hl
  have hkl : Kl h h := Kl.rf h
  refine lv_iload_n C.1 C.2.1 dX15_start_0 rfl (lv_at hl 1 rfl) ?_
  obtain ⟨o_1, eo_1, hE⟩ := cl_e hE
  have m1 := moX15_isGame eo_1
  have m2 := moX15_start_4 hE
  refine x_kI (o := o_1) (z_runS (As := [.int x1]) (rest := []) C (ct_X15_isGame l X eo_1) cw_X15_703 hW hZ rfl hl.1 (Nat.le_of_ble_eq_true rfl) rfl dX15_start_1 ⟨Nat.le_of_ble_eq_true rfl, Nat.le_of_ble_eq_true rfl⟩ (rm_ok0 hkl m1 m2)) hZ (fun _ _ hW km hZ => ?_)
  replace hkl := hkl.tr km.l
  refine x_wc km ?_
  replace k_x0 := km.at k_x0 (by decide)
  exact bX15_start_4 C k_x0 hkl hW hZ _ (lv_sub hl [0, 1, 2] rfl) hE
section
variable {p : Program} {l : Launch} {e : Env} {R : Room} {s : State} {m : MethodId} {args : Array Value} {below : List Frame} {meth : Method} {c : Code} {H : Heap} {locs : List Loc} {cells slots : Nat} {Q : State → Prop}
variable {cc : ByteArray} {pc : Nat} {ls : Array Slot} {rest : List Value} {X : Ec} {h h1 : Hp} {nL : Nat} {rt : Option FieldType} {mn : String}
theorem gf_X15_311 {a r : Nat} (C : Cx X p s m args meth c RX15 cc nL rt mn) (hW : Wx X h H) (ha : hK h a = 15) (hr : hR h a 38 = some r) (hdg : decode cc pc = .ok (.getfield 311, 3)) (kk : hK h r = 17 → W p l e R s m args below meth c H locs cells slots Q (F0 m (pc + 3) ls (.ref r :: rest))) : W p l e R s m args below meth c H locs cells slots Q (F0 m pc ls (.ref a :: rest)) :=
  y_getr C hW ha i_X15 (by decide) rfl (by decide) m_2149 rfl rfl hr hdg kk
end
theorem dX15_add_0 : decode cX15_add 0 = .ok (.iload_n 1, 1) := by decide +kernel
theorem dX15_add_1 : decode cX15_add 1 = .ok (.invokestatic 703, 3) := by decide +kernel
theorem dX15_add_4 : decode cX15_add 4 = .ok (.ifCond .ne 6, 3) := by decide +kernel
theorem dX15_add_7 : decode cX15_add 7 = .ok (.bipush (-101), 2) := by decide +kernel
theorem dX15_add_9 : decode cX15_add 9 = .ok (.ireturn, 1) := by decide +kernel
theorem dX15_add_10 : decode cX15_add 10 = .ok (.aload_n 0, 1) := by decide +kernel
theorem dX15_add_11 : decode cX15_add 11 = .ok (.getfield 314, 3) := by decide +kernel
theorem dX15_add_14 : decode cX15_add 14 = .ok (.iload_n 1, 1) := by decide +kernel
theorem dX15_add_15 : decode cX15_add 15 = .ok (.iaload, 1) := by decide +kernel
theorem dX15_add_16 : decode cX15_add 16 = .ok (.iconst (-1), 1) := by decide +kernel
theorem dX15_add_17 : decode cX15_add 17 = .ok (.if_icmp .ne 6, 3) := by decide +kernel
theorem dX15_add_20 : decode cX15_add 20 = .ok (.bipush (-102), 2) := by decide +kernel
theorem dX15_add_22 : decode cX15_add 22 = .ok (.ireturn, 1) := by decide +kernel
theorem dX15_add_23 : decode cX15_add 23 = .ok (.aload_n 0, 1) := by decide +kernel
theorem dX15_add_24 : decode cX15_add 24 = .ok (.iload_n 1, 1) := by decide +kernel
theorem dX15_add_25 : decode cX15_add 25 = .ok (.aload_n 0, 1) := by decide +kernel
theorem dX15_add_26 : decode cX15_add 26 = .ok (.getfield 314, 3) := by decide +kernel
theorem dX15_add_29 : decode cX15_add 29 = .ok (.iload_n 1, 1) := by decide +kernel
theorem dX15_add_30 : decode cX15_add 30 = .ok (.iaload, 1) := by decide +kernel
theorem dX15_add_31 : decode cX15_add 31 = .ok (.invokevirtual 706, 3) := by decide +kernel
theorem dX15_add_34 : decode cX15_add 34 = .ok (.astore_n 3, 1) := by decide +kernel
theorem dX15_add_35 : decode cX15_add 35 = .ok (.aload_n 0, 1) := by decide +kernel
theorem dX15_add_36 : decode cX15_add 36 = .ok (.aload_n 3, 1) := by decide +kernel
theorem dX15_add_37 : decode cX15_add 37 = .ok (.aload_n 0, 1) := by decide +kernel
theorem dX15_add_38 : decode cX15_add 38 = .ok (.getfield 288, 3) := by decide +kernel
theorem dX15_add_41 : decode cX15_add 41 = .ok (.invokevirtual 652, 3) := by decide +kernel
theorem dX15_add_44 : decode cX15_add 44 = .ok (.iload_n 2, 1) := by decide +kernel
theorem dX15_add_45 : decode cX15_add 45 = .ok (.ifCond .lt 14, 3) := by decide +kernel
theorem dX15_add_48 : decode cX15_add 48 = .ok (.iload_n 2, 1) := by decide +kernel
theorem dX15_add_49 : decode cX15_add 49 = .ok (.aload_n 0, 1) := by decide +kernel
theorem dX15_add_50 : decode cX15_add 50 = .ok (.getfield 288, 3) := by decide +kernel
theorem dX15_add_53 : decode cX15_add 53 = .ok (.getfield 575, 3) := by decide +kernel
theorem dX15_add_56 : decode cX15_add 56 = .ok (.if_icmp .lt 6, 3) := by decide +kernel
theorem dX15_add_59 : decode cX15_add 59 = .ok (.bipush (-102), 2) := by decide +kernel
theorem dX15_add_61 : decode cX15_add 61 = .ok (.ireturn, 1) := by decide +kernel
theorem dX15_add_62 : decode cX15_add 62 = .ok (.aload_n 0, 1) := by decide +kernel
theorem dX15_add_63 : decode cX15_add 63 = .ok (.getfield 314, 3) := by decide +kernel
theorem dX15_add_66 : decode cX15_add 66 = .ok (.iload_n 1, 1) := by decide +kernel
theorem dX15_add_67 : decode cX15_add 67 = .ok (.iaload, 1) := by decide +kernel
theorem dX15_add_68 : decode cX15_add 68 = .ok (.sipush 300, 3) := by decide +kernel
theorem dX15_add_71 : decode cX15_add 71 = .ok (.if_icmp .ne 6, 3) := by decide +kernel
theorem dX15_add_74 : decode cX15_add 74 = .ok (.bipush (-104), 2) := by decide +kernel
theorem dX15_add_76 : decode cX15_add 76 = .ok (.ireturn, 1) := by decide +kernel
theorem dX15_add_77 : decode cX15_add 77 = .ok (.aload_n 0, 1) := by decide +kernel
theorem dX15_add_78 : decode cX15_add 78 = .ok (.aload_n 3, 1) := by decide +kernel
theorem dX15_add_79 : decode cX15_add 79 = .ok (.aload_n 0, 1) := by decide +kernel
theorem dX15_add_80 : decode cX15_add 80 = .ok (.getfield 288, 3) := by decide +kernel
theorem dX15_add_83 : decode cX15_add 83 = .ok (.iload_n 2, 1) := by decide +kernel
theorem dX15_add_84 : decode cX15_add 84 = .ok (.aload_n 0, 1) := by decide +kernel
theorem dX15_add_85 : decode cX15_add 85 = .ok (.iload_n 1, 1) := by decide +kernel
theorem dX15_add_86 : decode cX15_add 86 = .ok (.aload_n 0, 1) := by decide +kernel
theorem dX15_add_87 : decode cX15_add 87 = .ok (.getfield 314, 3) := by decide +kernel
theorem dX15_add_90 : decode cX15_add 90 = .ok (.iload_n 1, 1) := by decide +kernel
theorem dX15_add_91 : decode cX15_add 91 = .ok (.iaload, 1) := by decide +kernel
theorem dX15_add_92 : decode cX15_add 92 = .ok (.iconst 1, 1) := by decide +kernel
theorem dX15_add_93 : decode cX15_add 93 = .ok (.iadd, 1) := by decide +kernel
theorem dX15_add_94 : decode cX15_add 94 = .ok (.invokevirtual 706, 3) := by decide +kernel
theorem dX15_add_97 : decode cX15_add 97 = .ok (.invokevirtual 627, 3) := by decide +kernel
theorem dX15_add_100 : decode cX15_add 100 = .ok (.aload_n 0, 1) := by decide +kernel
theorem dX15_add_101 : decode cX15_add 101 = .ok (.getfield 311, 3) := by decide +kernel
theorem dX15_add_104 : decode cX15_add 104 = .ok (.iload_n 1, 1) := by decide +kernel
theorem dX15_add_105 : decode cX15_add 105 = .ok (.sipush 301, 3) := by decide +kernel
theorem dX15_add_108 : decode cX15_add 108 = .ok (.imul, 1) := by decide +kernel
theorem dX15_add_109 : decode cX15_add 109 = .ok (.aload_n 0, 1) := by decide +kernel
theorem dX15_add_110 : decode cX15_add 110 = .ok (.getfield 314, 3) := by decide +kernel
theorem dX15_add_113 : decode cX15_add 113 = .ok (.iload_n 1, 1) := by decide +kernel
theorem dX15_add_114 : decode cX15_add 114 = .ok (.iaload, 1) := by decide +kernel
theorem dX15_add_115 : decode cX15_add 115 = .ok (.iadd, 1) := by decide +kernel
theorem dX15_add_116 : decode cX15_add 116 = .ok (.iload_n 2, 1) := by decide +kernel
theorem dX15_add_117 : decode cX15_add 117 = .ok (.iastore, 1) := by decide +kernel
theorem dX15_add_118 : decode cX15_add 118 = .ok (.aload_n 0, 1) := by decide +kernel
theorem dX15_add_119 : decode cX15_add 119 = .ok (.getfield 314, 3) := by decide +kernel
theorem dX15_add_122 : decode cX15_add 122 = .ok (.iload_n 1, 1) := by decide +kernel
theorem dX15_add_123 : decode cX15_add 123 = .ok (.dup2, 1) := by decide +kernel
theorem dX15_add_124 : decode cX15_add 124 = .ok (.iaload, 1) := by decide +kernel
theorem dX15_add_125 : decode cX15_add 125 = .ok (.iconst 1, 1) := by decide +kernel
theorem dX15_add_126 : decode cX15_add 126 = .ok (.iadd, 1) := by decide +kernel
theorem dX15_add_127 : decode cX15_add 127 = .ok (.iastore, 1) := by decide +kernel
theorem dX15_add_128 : decode cX15_add 128 = .ok (.aload_n 0, 1) := by decide +kernel
theorem dX15_add_129 : decode cX15_add 129 = .ok (.getfield 314, 3) := by decide +kernel
theorem dX15_add_132 : decode cX15_add 132 = .ok (.iload_n 1, 1) := by decide +kernel
theorem dX15_add_133 : decode cX15_add 133 = .ok (.iaload, 1) := by decide +kernel
theorem dX15_add_134 : decode cX15_add 134 = .ok (.ireturn, 1) := by decide +kernel
set_option maxRecDepth 20000 in
theorem moX15_add_59 {o : Int32 × Hp} {F : Nat} {h : Hp} (hE : sX15_add_59 F h  = some o) : Le h o.2 := by
  exact le_some2 hE
set_option maxRecDepth 20000 in
theorem moX15_add_100 {o : Int32 × Hp} {F : Nat} {h : Hp} {x0 : Nat} {x1 : Int32} {x2 : Int32} (hE : sX15_add_100 F h x0 x1 x2 = some o) : Le h o.2 := by
  obtain ⟨r_1, er_1, hE⟩ := cl_e hE
  obtain ⟨r_2, er_2, hE⟩ := cl_e hE
  obtain ⟨g_3, hE⟩ := gd_e hE
  obtain ⟨g_4, hE⟩ := gd_e hE
  obtain ⟨h_5, eh_5, hE⟩ := nm_e2 hE
  refine (le_I eh_5).tr ?_
  obtain ⟨r_6, er_6, hE⟩ := cl_e hE
  obtain ⟨g_7, hE⟩ := gd_e hE
  obtain ⟨g_8, hE⟩ := gd_e hE
  obtain ⟨h_9, eh_9, hE⟩ := nm_e2 hE
  refine (le_I eh_9).tr ?_
  obtain ⟨r_10, er_10, hE⟩ := cl_e hE
  obtain ⟨g_11, hE⟩ := gd_e hE
  exact le_some2 hE
set_option maxRecDepth 20000 in
theorem moX15_add_97 {o : Int32 × Hp} {F : Nat} {h : Hp} {x0 : Nat} {x1 : Int32} {x2 : Int32} {t0 : Nat} {t1 : Int32} {t2 : Nat} {t3 : Nat} {t4 : Nat} (hE : sX15_add_97 F h x0 x1 x2 t0 t1 t2 t3 t4 = some o) : Le h o.2 := by
  obtain ⟨o_1, eo_1, hE⟩ := cl_e hE
  refine (moX15_make eo_1).tr ?_
  exact moX15_add_100 hE
set_option maxRecDepth 20000 in
theorem moX15_add_44 {o : Int32 × Hp} {F : Nat} {h : Hp} {x0 : Nat} {x1 : Int32} {x2 : Int32} {x3 : Nat} (hE : sX15_add_44 F h x0 x1 x2 x3 = some o) : Le h o.2 := by
  rcases br_e hE with ⟨_, hE⟩ | ⟨_, hE⟩
  · exact moX15_add_59 hE
  · obtain ⟨r_2, er_2, hE⟩ := cl_e hE
    rcases br_e hE with ⟨_, hE⟩ | ⟨_, hE⟩
    · obtain ⟨r_4, er_4, hE⟩ := cl_e hE
      obtain ⟨g_5, hE⟩ := gd_e hE
      rcases br_e hE with ⟨_, hE⟩ | ⟨_, hE⟩
      · exact le_some2 hE
      · obtain ⟨r_7, er_7, hE⟩ := cl_e hE
        obtain ⟨r_8, er_8, hE⟩ := cl_e hE
        obtain ⟨g_9, hE⟩ := gd_e hE
        obtain ⟨o_10, eo_10, hE⟩ := cl_e hE
        refine (moX15_gameBoard eo_10).tr ?_
        exact moX15_add_97 hE
    · exact moX15_add_59 hE
set_option maxRecDepth 20000 in
theorem moX15_add_34 {o : Int32 × Hp} {F : Nat} {h : Hp} {x0 : Nat} {x1 : Int32} {x2 : Int32} {t0 : Nat} (hE : sX15_add_34 F h x0 x1 x2 t0 = some o) : Le h o.2 := by
  obtain ⟨r_1, er_1, hE⟩ := cl_e hE
  obtain ⟨o_2, eo_2, hE⟩ := cl_e hE
  refine (moX15_legal eo_2).tr ?_
  exact moX15_add_44 hE
set_option maxRecDepth 20000 in
theorem moX15_add_4 {o : Int32 × Hp} {F : Nat} {h : Hp} {x0 : Nat} {x1 : Int32} {x2 : Int32} {t0 : Int32} (hE : sX15_add_4 F h x0 x1 x2 t0 = some o) : Le h o.2 := by
  rcases br_e hE with ⟨_, hE⟩ | ⟨_, hE⟩
  · exact le_some2 hE
  · obtain ⟨r_2, er_2, hE⟩ := cl_e hE
    obtain ⟨g_3, hE⟩ := gd_e hE
    rcases br_e hE with ⟨_, hE⟩ | ⟨_, hE⟩
    · exact le_some2 hE
    · obtain ⟨r_5, er_5, hE⟩ := cl_e hE
      obtain ⟨g_6, hE⟩ := gd_e hE
      obtain ⟨o_7, eo_7, hE⟩ := cl_e hE
      refine (moX15_gameBoard eo_7).tr ?_
      exact moX15_add_34 hE
set_option maxRecDepth 20000 in
theorem moX15_add {o : Int32 × Hp} {F : Nat} {h : Hp} {x0 : Nat} {x1 : Int32} {x2 : Int32} (hE : sX15_add F h x0 x1 x2 = some o) : Le h o.2 := by
  obtain ⟨o_1, eo_1, hE⟩ := cl_e hE
  refine (moX15_isGame eo_1).tr ?_
  exact moX15_add_4 hE
set_option maxRecDepth 20000 in
theorem bX15_add_59 {p : Program} {l : Launch} {e : Env} {s : State} {m : MethodId} {args : Array Value} {below : List Frame} {meth : Method} {c : Code} {X : Ec} {h0 : Hp} {o : Int32 × Hp} {F : Nat} (C : Cx X p s m args meth c RX15 cX15_add 4 (some .int) "add") {h : Hp} {H : Heap} {locs : List Loc} (hkl : Kl h0 h) (hW : Wx X h H) (hZ : va_S (aA (eB X)) s.heap H locs) (ls : Array Slot) (hl : lv_has ls 4 []) (hE : sX15_add_59 F h  = some o) : W p l e (rmA 7 191 h0 o.2) s m args below meth c H locs (hS h - hS h0) (hL h - hL h0) (MQ below (QIA X h0 o.1 o.2) args s (hS o.2 - hS h0) (hL o.2 - hL h0) (aA (eB X))) (F0 m 59 ls []) := by
  refine lv_bipush (v := (-102 : Int32)) C.1 C.2.1 dX15_add_59 (by decide) ?_
  exact x_iretA C rfl rfl hW hZ hkl hE dX15_add_61
set_option maxRecDepth 20000 in
theorem bX15_add_100 {p : Program} {l : Launch} {e : Env} {s : State} {m : MethodId} {args : Array Value} {below : List Frame} {meth : Method} {c : Code} {X : Ec} {h0 : Hp} {o : Int32 × Hp} {F : Nat} (C : Cx X p s m args meth c RX15 cX15_add 4 (some .int) "add") {h : Hp} {x0 : Nat} {x1 : Int32} {x2 : Int32} {H : Heap} {locs : List Loc} (k_x0 : hK h x0 = 15) (hkl : Kl h0 h) (hW : Wx X h H) (hZ : va_S (aA (eB X)) s.heap H locs) (ls : Array Slot) (hl : lv_has ls 4 [(0, .ref x0), (1, .int x1), (2, .int x2)]) (hE : sX15_add_100 F h x0 x1 x2 = some o) : W p l e (rmA 7 191 h0 o.2) s m args below meth c H locs (hS h - hS h0) (hL h - hL h0) (MQ below (QIA X h0 o.1 o.2) args s (hS o.2 - hS h0) (hL o.2 - hL h0) (aA (eB X))) (F0 m 100 ls []) := by
  refine lv_aload_n C.1 C.2.1 dX15_add_100 rfl (lv_at hl 0 rfl) ?_
  obtain ⟨r_1, er_1, hE⟩ := cl_e hE
  refine gf_X15_311 C hW k_x0 er_1 dX15_add_101 (fun k_r_1 => ?_)
  refine lv_iload_n C.1 C.2.1 dX15_add_104 rfl (lv_at hl 1 rfl) ?_
  refine lv_sipush (v := (301 : Int32)) C.1 C.2.1 dX15_add_105 (by decide) ?_
  refine lv_imul C.1 C.2.1 dX15_add_108 ?_
  refine lv_aload_n C.1 C.2.1 dX15_add_109 rfl (lv_at hl 0 rfl) ?_
  obtain ⟨r_2, er_2, hE⟩ := cl_e hE
  refine gf_X15_314 C hW k_x0 er_2 dX15_add_110 (fun k_r_2 => ?_)
  refine lv_iload_n C.1 C.2.1 dX15_add_113 rfl (lv_at hl 1 rfl) ?_
  obtain ⟨g_3, hE⟩ := gd_e hE
  refine y_iald C hW k_r_2 g_3 dX15_add_114 ?_
  refine lv_iadd C.1 C.2.1 dX15_add_115 ?_
  refine lv_iload_n C.1 C.2.1 dX15_add_116 rfl (lv_at hl 2 rfl) ?_
  obtain ⟨g_4, hE⟩ := gd_e hE
  obtain ⟨h_5, eh_5, hE⟩ := nm_e2 hE
  refine y_iast C hW hZ k_r_1 g_4 eh_5 dX15_add_117 (fun _ _ hW km hZ => ?_)
  replace hkl := hkl.tr km.l
  refine x_wc km ?_
  replace k_x0 := km.at k_x0 (by decide)
  refine lv_aload_n C.1 C.2.1 dX15_add_118 rfl (lv_at hl 0 rfl) ?_
  obtain ⟨r_6, er_6, hE⟩ := cl_e hE
  refine gf_X15_314 C hW k_x0 er_6 dX15_add_119 (fun k_r_6 => ?_)
  refine lv_iload_n C.1 C.2.1 dX15_add_122 rfl (lv_at hl 1 rfl) ?_
  refine lv_dup2_11 C.1 C.2.1 dX15_add_123 rfl rfl ?_
  obtain ⟨g_7, hE⟩ := gd_e hE
  refine y_iald C hW k_r_6 g_7 dX15_add_124 ?_
  refine lv_iconst (v := (1 : Int32)) C.1 C.2.1 dX15_add_125 (by decide) ?_
  refine lv_iadd C.1 C.2.1 dX15_add_126 ?_
  obtain ⟨g_8, hE⟩ := gd_e hE
  obtain ⟨h_9, eh_9, hE⟩ := nm_e2 hE
  refine y_iast C hW hZ k_r_6 g_8 eh_9 dX15_add_127 (fun _ _ hW km hZ => ?_)
  replace hkl := hkl.tr km.l
  refine x_wc km ?_
  replace k_x0 := km.at k_x0 (by decide)
  refine lv_aload_n C.1 C.2.1 dX15_add_128 rfl (lv_at hl 0 rfl) ?_
  obtain ⟨r_10, er_10, hE⟩ := cl_e hE
  refine gf_X15_314 C hW k_x0 er_10 dX15_add_129 (fun k_r_10 => ?_)
  refine lv_iload_n C.1 C.2.1 dX15_add_132 rfl (lv_at hl 1 rfl) ?_
  obtain ⟨g_11, hE⟩ := gd_e hE
  refine y_iald C hW k_r_10 g_11 dX15_add_133 ?_
  exact x_iretA C rfl rfl hW hZ hkl hE dX15_add_134
set_option maxRecDepth 20000 in
theorem bX15_add_97 {p : Program} {l : Launch} {e : Env} {s : State} {m : MethodId} {args : Array Value} {below : List Frame} {meth : Method} {c : Code} {X : Ec} {h0 : Hp} {o : Int32 × Hp} {F : Nat} (C : Cx X p s m args meth c RX15 cX15_add 4 (some .int) "add") {h : Hp} {x0 : Nat} {x1 : Int32} {x2 : Int32} {t0 : Nat} {t1 : Int32} {t2 : Nat} {t3 : Nat} {t4 : Nat} {H : Heap} {locs : List Loc} (k_x0 : hK h x0 = 15) (k_t0 : hK h t0 = 12) (k_t2 : hK h t2 = 13) (k_t3 : hK h t3 = 12) (k_t4 : hK h t4 = 15) (hkl : Kl h0 h) (hW : Wx X h H) (hZ : va_S (aA (eB X)) s.heap H locs) (ls : Array Slot) (hl : lv_has ls 4 [(0, .ref x0), (1, .int x1), (2, .int x2)]) (hE : sX15_add_97 F h x0 x1 x2 t0 t1 t2 t3 t4 = some o) : W p l e (rmA 7 191 h0 o.2) s m args below meth c H locs (hS h - hS h0) (hL h - hL h0) (MQ below (QIA X h0 o.1 o.2) args s (hS o.2 - hS h0) (hL o.2 - hL h0) (aA (eB X))) (F0 m 97 ls [.ref t0, .int t1, .ref t2, .ref t3, .ref t4]) := by
  obtain ⟨o_1, eo_1, hE⟩ := cl_e hE
  have m1 := moX15_make eo_1
  have m2 := moX15_add_100 hE
  refine x_kV (o := o_1) (z_runV (As := [.ref t3, .ref t2, .int t1, .ref t0]) (rest := []) C (ct_X15_make l X F k_t4 k_t3 k_t2 k_t0 eo_1) cw_X15_627 hW hZ k_t4 (by decide) rfl rfl rfl hl.1 (Nat.le_of_ble_eq_true rfl) rfl dX15_add_97 ⟨Nat.le_of_ble_eq_true rfl, Nat.le_of_ble_eq_true rfl⟩ (rm_ok0 hkl m1 m2)) hZ (fun _ _ hW km hZ => ?_)
  replace hkl := hkl.tr km.l
  refine x_wc km ?_
  replace k_x0 := km.at k_x0 (by decide)
  exact bX15_add_100 C k_x0 hkl hW hZ _ (lv_sub hl [0, 1, 2] rfl) hE
set_option maxRecDepth 20000 in
theorem bX15_add_44 {p : Program} {l : Launch} {e : Env} {s : State} {m : MethodId} {args : Array Value} {below : List Frame} {meth : Method} {c : Code} {X : Ec} {h0 : Hp} {o : Int32 × Hp} {F : Nat} (C : Cx X p s m args meth c RX15 cX15_add 4 (some .int) "add") {h : Hp} {x0 : Nat} {x1 : Int32} {x2 : Int32} {x3 : Nat} {H : Heap} {locs : List Loc} (k_x0 : hK h x0 = 15) (k_x3 : hK h x3 = 12) (hkl : Kl h0 h) (hW : Wx X h H) (hZ : va_S (aA (eB X)) s.heap H locs) (ls : Array Slot) (hl : lv_has ls 4 [(0, .ref x0), (1, .int x1), (2, .int x2), (3, .ref x3)]) (hE : sX15_add_44 F h x0 x1 x2 x3 = some o) : W p l e (rmA 7 191 h0 o.2) s m args below meth c H locs (hS h - hS h0) (hL h - hL h0) (MQ below (QIA X h0 o.1 o.2) args s (hS o.2 - hS h0) (hL o.2 - hL h0) (aA (eB X))) (F0 m 44 ls []) := by
  refine lv_iload_n C.1 C.2.1 dX15_add_44 rfl (lv_at hl 2 rfl) ?_
  refine lv_if_lt (tgt := 59) C.1 C.2.1 dX15_add_45 (by decide) (fun c_1 => ?_) (fun c_1 => ?_)
  · have hE := br_p hE c_1
    exact bX15_add_59 C hkl hW hZ _ (lv_sub hl [] rfl) hE
  · have hE := br_n hE c_1
    refine lv_iload_n C.1 C.2.1 dX15_add_48 rfl (lv_at hl 2 rfl) ?_
    refine lv_aload_n C.1 C.2.1 dX15_add_49 rfl (lv_at hl 0 rfl) ?_
    obtain ⟨r_2, er_2, hE⟩ := cl_e hE
    refine gf_X15_288 C hW k_x0 er_2 dX15_add_50 (fun k_r_2 => ?_)
    refine gf_X15_575 C hW k_r_2 dX15_add_53 ?_
    refine lv_icmp_lt (tgt := 62) C.1 C.2.1 dX15_add_56 (by decide) (fun c_3 => ?_) (fun c_3 => ?_)
    · have hE := br_p hE c_3
      refine lv_aload_n C.1 C.2.1 dX15_add_62 rfl (lv_at hl 0 rfl) ?_
      obtain ⟨r_4, er_4, hE⟩ := cl_e hE
      refine gf_X15_314 C hW k_x0 er_4 dX15_add_63 (fun k_r_4 => ?_)
      refine lv_iload_n C.1 C.2.1 dX15_add_66 rfl (lv_at hl 1 rfl) ?_
      obtain ⟨g_5, hE⟩ := gd_e hE
      refine y_iald C hW k_r_4 g_5 dX15_add_67 ?_
      refine lv_sipush (v := (300 : Int32)) C.1 C.2.1 dX15_add_68 (by decide) ?_
      refine lv_icmp_ne (tgt := 77) C.1 C.2.1 dX15_add_71 (by decide) (fun c_6 => ?_) (fun c_6 => ?_)
      · have hE := br_n hE c_6
        refine lv_aload_n C.1 C.2.1 dX15_add_77 rfl (lv_at hl 0 rfl) ?_
        refine lv_aload_n C.1 C.2.1 dX15_add_78 rfl (lv_at hl 3 rfl) ?_
        refine lv_aload_n C.1 C.2.1 dX15_add_79 rfl (lv_at hl 0 rfl) ?_
        obtain ⟨r_7, er_7, hE⟩ := cl_e hE
        refine gf_X15_288 C hW k_x0 er_7 dX15_add_80 (fun k_r_7 => ?_)
        refine lv_iload_n C.1 C.2.1 dX15_add_83 rfl (lv_at hl 2 rfl) ?_
        refine lv_aload_n C.1 C.2.1 dX15_add_84 rfl (lv_at hl 0 rfl) ?_
        refine lv_iload_n C.1 C.2.1 dX15_add_85 rfl (lv_at hl 1 rfl) ?_
        refine lv_aload_n C.1 C.2.1 dX15_add_86 rfl (lv_at hl 0 rfl) ?_
        obtain ⟨r_8, er_8, hE⟩ := cl_e hE
        refine gf_X15_314 C hW k_x0 er_8 dX15_add_87 (fun k_r_8 => ?_)
        refine lv_iload_n C.1 C.2.1 dX15_add_90 rfl (lv_at hl 1 rfl) ?_
        obtain ⟨g_9, hE⟩ := gd_e hE
        refine y_iald C hW k_r_8 g_9 dX15_add_91 ?_
        refine lv_iconst (v := (1 : Int32)) C.1 C.2.1 dX15_add_92 (by decide) ?_
        refine lv_iadd C.1 C.2.1 dX15_add_93 ?_
        obtain ⟨o_10, eo_10, hE⟩ := cl_e hE
        have m1 := moX15_gameBoard eo_10
        have m2 := moX15_add_97 hE
        refine x_kRA (o := o_10) hkl (z_runV (As := [.int x1, .int ((hI h r_8 x1.toNatClampNeg) + (1 : Int32))]) (rest := [.int x2, .ref r_7, .ref x3, .ref x0]) C (ct_X15_gameBoard l X k_x0 eo_10) cw_X15_706 hW hZ k_x0 (by decide) rfl rfl rfl hl.1 (Nat.le_of_ble_eq_true rfl) rfl dX15_add_94 ⟨Nat.le_of_ble_eq_true rfl, Nat.le_of_ble_eq_true rfl⟩ (rm_ok hkl m1 m2)) hZ (fun _ _ hW km k_o_10_1 hZ => ?_)
        replace hkl := hkl.tr km
        replace k_x0 := km.at k_x0 (by decide)
        replace k_x3 := km.at k_x3 (by decide)
        replace k_r_7 := km.at k_r_7 (by decide)
        exact bX15_add_97 C k_x0 k_o_10_1 k_r_7 k_x3 k_x0 hkl hW hZ _ (lv_sub hl [0, 1, 2] rfl) hE
      · have hE := br_p hE c_6
        refine lv_bipush (v := (-104 : Int32)) C.1 C.2.1 dX15_add_74 (by decide) ?_
        exact x_iretA C rfl rfl hW hZ hkl hE dX15_add_76
    · have hE := br_n hE c_3
      exact bX15_add_59 C hkl hW hZ _ (lv_sub hl [] rfl) hE
set_option maxRecDepth 20000 in
theorem bX15_add_34 {p : Program} {l : Launch} {e : Env} {s : State} {m : MethodId} {args : Array Value} {below : List Frame} {meth : Method} {c : Code} {X : Ec} {h0 : Hp} {o : Int32 × Hp} {F : Nat} (C : Cx X p s m args meth c RX15 cX15_add 4 (some .int) "add") {h : Hp} {x0 : Nat} {x1 : Int32} {x2 : Int32} {t0 : Nat} {H : Heap} {locs : List Loc} (k_x0 : hK h x0 = 15) (k_t0 : hK h t0 = 12) (hkl : Kl h0 h) (hW : Wx X h H) (hZ : va_S (aA (eB X)) s.heap H locs) (ls : Array Slot) (hl : lv_has ls 4 [(0, .ref x0), (1, .int x1), (2, .int x2)]) (hE : sX15_add_34 F h x0 x1 x2 t0 = some o) : W p l e (rmA 7 191 h0 o.2) s m args below meth c H locs (hS h - hS h0) (hL h - hL h0) (MQ below (QIA X h0 o.1 o.2) args s (hS o.2 - hS h0) (hL o.2 - hL h0) (aA (eB X))) (F0 m 34 ls [.ref t0]) := by
  refine lv_astore_n (lv' := [(3, .ref t0), (0, .ref x0), (1, .int x1), (2, .int x2)]) C.1 C.2.1 dX15_add_34 rfl hl (by decide) rfl (fun ls hl => ?_)
  refine lv_aload_n C.1 C.2.1 dX15_add_35 rfl (lv_at hl 1 rfl) ?_
  refine lv_aload_n C.1 C.2.1 dX15_add_36 rfl (lv_at hl 0 rfl) ?_
  refine lv_aload_n C.1 C.2.1 dX15_add_37 rfl (lv_at hl 1 rfl) ?_
  obtain ⟨r_1, er_1, hE⟩ := cl_e hE
  refine gf_X15_288 C hW k_x0 er_1 dX15_add_38 (fun k_r_1 => ?_)
  obtain ⟨o_2, eo_2, hE⟩ := cl_e hE
  have m1 := moX15_legal eo_2
  have m2 := moX15_add_44 hE
  refine x_kV (o := o_2) (z_runV (As := [.ref t0, .ref r_1]) (rest := []) C (ct_X15_legal l X F k_x0 k_t0 k_r_1 eo_2) cw_X15_652 hW hZ k_x0 (by decide) rfl rfl rfl hl.1 (Nat.le_of_ble_eq_true rfl) rfl dX15_add_41 ⟨Nat.le_of_ble_eq_true rfl, Nat.le_of_ble_eq_true rfl⟩ (rm_ok0 hkl m1 m2)) hZ (fun _ _ hW km hZ => ?_)
  replace hkl := hkl.tr km.l
  refine x_wc km ?_
  replace k_t0 := km.at k_t0 (by decide)
  replace k_x0 := km.at k_x0 (by decide)
  exact bX15_add_44 C k_x0 k_t0 hkl hW hZ _ (lv_sub hl [1, 2, 3, 0] rfl) hE
set_option maxRecDepth 20000 in
theorem bX15_add_4 {p : Program} {l : Launch} {e : Env} {s : State} {m : MethodId} {args : Array Value} {below : List Frame} {meth : Method} {c : Code} {X : Ec} {h0 : Hp} {o : Int32 × Hp} {F : Nat} (C : Cx X p s m args meth c RX15 cX15_add 4 (some .int) "add") {h : Hp} {x0 : Nat} {x1 : Int32} {x2 : Int32} {t0 : Int32} {H : Heap} {locs : List Loc} (k_x0 : hK h x0 = 15) (hkl : Kl h0 h) (hW : Wx X h H) (hZ : va_S (aA (eB X)) s.heap H locs) (ls : Array Slot) (hl : lv_has ls 4 [(0, .ref x0), (1, .int x1), (2, .int x2)]) (hE : sX15_add_4 F h x0 x1 x2 t0 = some o) : W p l e (rmA 7 191 h0 o.2) s m args below meth c H locs (hS h - hS h0) (hL h - hL h0) (MQ below (QIA X h0 o.1 o.2) args s (hS o.2 - hS h0) (hL o.2 - hL h0) (aA (eB X))) (F0 m 4 ls [.int t0]) := by
  refine lv_if_ne (tgt := 10) C.1 C.2.1 dX15_add_4 (by decide) (fun c_1 => ?_) (fun c_1 => ?_)
  · have hE := br_n hE c_1
    refine lv_aload_n C.1 C.2.1 dX15_add_10 rfl (lv_at hl 0 rfl) ?_
    obtain ⟨r_2, er_2, hE⟩ := cl_e hE
    refine gf_X15_314 C hW k_x0 er_2 dX15_add_11 (fun k_r_2 => ?_)
    refine lv_iload_n C.1 C.2.1 dX15_add_14 rfl (lv_at hl 1 rfl) ?_
    obtain ⟨g_3, hE⟩ := gd_e hE
    refine y_iald C hW k_r_2 g_3 dX15_add_15 ?_
    refine lv_iconst (v := (-1 : Int32)) C.1 C.2.1 dX15_add_16 (by decide) ?_
    refine lv_icmp_ne (tgt := 23) C.1 C.2.1 dX15_add_17 (by decide) (fun c_4 => ?_) (fun c_4 => ?_)
    · have hE := br_n hE c_4
      refine lv_aload_n C.1 C.2.1 dX15_add_23 rfl (lv_at hl 0 rfl) ?_
      refine lv_iload_n C.1 C.2.1 dX15_add_24 rfl (lv_at hl 1 rfl) ?_
      refine lv_aload_n C.1 C.2.1 dX15_add_25 rfl (lv_at hl 0 rfl) ?_
      obtain ⟨r_5, er_5, hE⟩ := cl_e hE
      refine gf_X15_314 C hW k_x0 er_5 dX15_add_26 (fun k_r_5 => ?_)
      refine lv_iload_n C.1 C.2.1 dX15_add_29 rfl (lv_at hl 1 rfl) ?_
      obtain ⟨g_6, hE⟩ := gd_e hE
      refine y_iald C hW k_r_5 g_6 dX15_add_30 ?_
      obtain ⟨o_7, eo_7, hE⟩ := cl_e hE
      have m1 := moX15_gameBoard eo_7
      have m2 := moX15_add_34 hE
      refine x_kRA (o := o_7) hkl (z_runV (As := [.int x1, .int (hI h r_5 x1.toNatClampNeg)]) (rest := []) C (ct_X15_gameBoard l X k_x0 eo_7) cw_X15_706 hW hZ k_x0 (by decide) rfl rfl rfl hl.1 (Nat.le_of_ble_eq_true rfl) rfl dX15_add_31 ⟨Nat.le_of_ble_eq_true rfl, Nat.le_of_ble_eq_true rfl⟩ (rm_ok hkl m1 m2)) hZ (fun _ _ hW km k_o_7_1 hZ => ?_)
      replace hkl := hkl.tr km
      replace k_x0 := km.at k_x0 (by decide)
      exact bX15_add_34 C k_x0 k_o_7_1 hkl hW hZ _ (lv_sub hl [0, 1, 2] rfl) hE
    · have hE := br_p hE c_4
      refine lv_bipush (v := (-102 : Int32)) C.1 C.2.1 dX15_add_20 (by decide) ?_
      exact x_iretA C rfl rfl hW hZ hkl hE dX15_add_22
  · have hE := br_p hE c_1
    refine lv_bipush (v := (-101 : Int32)) C.1 C.2.1 dX15_add_7 (by decide) ?_
    exact x_iretA C rfl rfl hW hZ hkl hE dX15_add_9
set_option maxRecDepth 20000 in
theorem ct_X15_add (l : Launch) (X : Ec) (F : Nat) {h : Hp} {x0 : Nat} {x1 : Int32} {x2 : Int32} {o : Int32 × Hp} (k_x0 : hK h x0 = 15) (hE : sX15_add F h x0 x1 x2 = some o) : MetIA l yX15_add cX15_add 4 (some .int) 7 191 X [.ref x0, .int x1, .int x2] h o := by
  refine x_metA (oh := o.2) (by decide) (Nat.le_of_ble_eq_true rfl) ?_
  intro p e s m below meth c ls C hl hW hZ
  have hl : lv_has ls 4 [(0, .ref x0), (1, .int x1), (2, .int x2)] := hl
  have hkl : Kl h h := Kl.rf h
  refine lv_iload_n C.1 C.2.1 dX15_add_0 rfl (lv_at hl 1 rfl) ?_
  obtain ⟨o_1, eo_1, hE⟩ := cl_e hE
  have m1 := moX15_isGame eo_1
  have m2 := moX15_add_4 hE
  refine x_kI (o := o_1) (z_runS (As := [.int x1]) (rest := []) C (ct_X15_isGame l X eo_1) cw_X15_703 hW hZ rfl hl.1 (Nat.le_of_ble_eq_true rfl) rfl dX15_add_1 ⟨Nat.le_of_ble_eq_true rfl, Nat.le_of_ble_eq_true rfl⟩ (rm_ok0 hkl m1 m2)) hZ (fun _ _ hW km hZ => ?_)
  replace hkl := hkl.tr km.l
  refine x_wc km ?_
  replace k_x0 := km.at k_x0 (by decide)
  exact bX15_add_4 C k_x0 hkl hW hZ _ (lv_sub hl [0, 1, 2] rfl) hE
theorem dX15_back_0 : decode cX15_back 0 = .ok (.iload_n 1, 1) := by decide +kernel
theorem dX15_back_1 : decode cX15_back 1 = .ok (.invokestatic 703, 3) := by decide +kernel
theorem dX15_back_4 : decode cX15_back 4 = .ok (.ifCond .ne 6, 3) := by decide +kernel
theorem dX15_back_7 : decode cX15_back 7 = .ok (.bipush (-101), 2) := by decide +kernel
theorem dX15_back_9 : decode cX15_back 9 = .ok (.ireturn, 1) := by decide +kernel
theorem dX15_back_10 : decode cX15_back 10 = .ok (.aload_n 0, 1) := by decide +kernel
theorem dX15_back_11 : decode cX15_back 11 = .ok (.getfield 314, 3) := by decide +kernel
theorem dX15_back_14 : decode cX15_back 14 = .ok (.iload_n 1, 1) := by decide +kernel
theorem dX15_back_15 : decode cX15_back 15 = .ok (.iaload, 1) := by decide +kernel
theorem dX15_back_16 : decode cX15_back 16 = .ok (.iconst (-1), 1) := by decide +kernel
theorem dX15_back_17 : decode cX15_back 17 = .ok (.if_icmp .ne 6, 3) := by decide +kernel
theorem dX15_back_20 : decode cX15_back 20 = .ok (.bipush (-102), 2) := by decide +kernel
theorem dX15_back_22 : decode cX15_back 22 = .ok (.ireturn, 1) := by decide +kernel
theorem dX15_back_23 : decode cX15_back 23 = .ok (.aload_n 0, 1) := by decide +kernel
theorem dX15_back_24 : decode cX15_back 24 = .ok (.getfield 314, 3) := by decide +kernel
theorem dX15_back_27 : decode cX15_back 27 = .ok (.iload_n 1, 1) := by decide +kernel
theorem dX15_back_28 : decode cX15_back 28 = .ok (.iaload, 1) := by decide +kernel
theorem dX15_back_29 : decode cX15_back 29 = .ok (.ifCond .ne 6, 3) := by decide +kernel
theorem dX15_back_32 : decode cX15_back 32 = .ok (.bipush (-103), 2) := by decide +kernel
theorem dX15_back_34 : decode cX15_back 34 = .ok (.ireturn, 1) := by decide +kernel
theorem dX15_back_35 : decode cX15_back 35 = .ok (.aload_n 0, 1) := by decide +kernel
theorem dX15_back_36 : decode cX15_back 36 = .ok (.getfield 314, 3) := by decide +kernel
theorem dX15_back_39 : decode cX15_back 39 = .ok (.iload_n 1, 1) := by decide +kernel
theorem dX15_back_40 : decode cX15_back 40 = .ok (.dup2, 1) := by decide +kernel
theorem dX15_back_41 : decode cX15_back 41 = .ok (.iaload, 1) := by decide +kernel
theorem dX15_back_42 : decode cX15_back 42 = .ok (.iconst 1, 1) := by decide +kernel
theorem dX15_back_43 : decode cX15_back 43 = .ok (.isub, 1) := by decide +kernel
theorem dX15_back_44 : decode cX15_back 44 = .ok (.iastore, 1) := by decide +kernel
theorem dX15_back_45 : decode cX15_back 45 = .ok (.aload_n 0, 1) := by decide +kernel
theorem dX15_back_46 : decode cX15_back 46 = .ok (.getfield 314, 3) := by decide +kernel
theorem dX15_back_49 : decode cX15_back 49 = .ok (.iload_n 1, 1) := by decide +kernel
theorem dX15_back_50 : decode cX15_back 50 = .ok (.iaload, 1) := by decide +kernel
theorem dX15_back_51 : decode cX15_back 51 = .ok (.ireturn, 1) := by decide +kernel
set_option maxRecDepth 20000 in
theorem moX15_back {o : Int32 × Hp} {h : Hp} {x0 : Nat} {x1 : Int32} (hE : sX15_back h x0 x1 = some o) : Le h o.2 := by
  obtain ⟨o_1, eo_1, hE⟩ := cl_e hE
  refine (moX15_isGame eo_1).tr ?_
  rcases br_e hE with ⟨_, hE⟩ | ⟨_, hE⟩
  · exact le_some2 hE
  · obtain ⟨r_3, er_3, hE⟩ := cl_e hE
    obtain ⟨g_4, hE⟩ := gd_e hE
    rcases br_e hE with ⟨_, hE⟩ | ⟨_, hE⟩
    · exact le_some2 hE
    · obtain ⟨r_6, er_6, hE⟩ := cl_e hE
      obtain ⟨g_7, hE⟩ := gd_e hE
      rcases br_e hE with ⟨_, hE⟩ | ⟨_, hE⟩
      · exact le_some2 hE
      · obtain ⟨r_9, er_9, hE⟩ := cl_e hE
        obtain ⟨g_10, hE⟩ := gd_e hE
        obtain ⟨g_11, hE⟩ := gd_e hE
        obtain ⟨h_12, eh_12, hE⟩ := nm_e2 hE
        refine (le_I eh_12).tr ?_
        obtain ⟨r_13, er_13, hE⟩ := cl_e hE
        obtain ⟨g_14, hE⟩ := gd_e hE
        exact le_some2 hE
set_option maxRecDepth 20000 in
theorem ct_X15_back (l : Launch) (X : Ec) {h : Hp} {x0 : Nat} {x1 : Int32} {o : Int32 × Hp} (k_x0 : hK h x0 = 15) (hE : sX15_back h x0 x1 = some o) : MetI l yX15_back cX15_back 2 (some .int) 1 20 X [.ref x0, .int x1] h o := by
  refine x_met (by decide) (Nat.le_of_ble_eq_true rfl) ?_
  intro p e s m below meth c ls C hl hW hZ
  have hl : lv_has ls 2 [(0, .ref x0), (1, .int x1)] := hl
  have hkm : Km h h := Km.rf h
  refine lv_iload_n C.1 C.2.1 dX15_back_0 rfl (lv_at hl 1 rfl) ?_
  obtain ⟨o_1, eo_1, hE⟩ := cl_e hE
  refine x_kI (o := o_1) (z_runS (As := [.int x1]) (rest := []) C (ct_X15_isGame l X eo_1) cw_X15_703 hW hZ rfl hl.1 (Nat.le_of_ble_eq_true rfl) rfl dX15_back_1 ⟨Nat.le_of_ble_eq_true rfl, Nat.le_of_ble_eq_true rfl⟩ ⟨Nat.le_refl _, Nat.le_refl _⟩) hZ (fun _ _ hW km hZ => ?_)
  replace hkm := hkm.tr km
  replace k_x0 := km.at k_x0 (by decide)
  refine lv_if_ne (tgt := 10) C.1 C.2.1 dX15_back_4 (by decide) (fun c_2 => ?_) (fun c_2 => ?_)
  · have hE := br_n hE c_2
    refine lv_aload_n C.1 C.2.1 dX15_back_10 rfl (lv_at hl 0 rfl) ?_
    obtain ⟨r_3, er_3, hE⟩ := cl_e hE
    refine gf_X15_314 C hW k_x0 er_3 dX15_back_11 (fun k_r_3 => ?_)
    refine lv_iload_n C.1 C.2.1 dX15_back_14 rfl (lv_at hl 1 rfl) ?_
    obtain ⟨g_4, hE⟩ := gd_e hE
    refine y_iald C hW k_r_3 g_4 dX15_back_15 ?_
    refine lv_iconst (v := (-1 : Int32)) C.1 C.2.1 dX15_back_16 (by decide) ?_
    refine lv_icmp_ne (tgt := 23) C.1 C.2.1 dX15_back_17 (by decide) (fun c_5 => ?_) (fun c_5 => ?_)
    · have hE := br_n hE c_5
      refine lv_aload_n C.1 C.2.1 dX15_back_23 rfl (lv_at hl 0 rfl) ?_
      obtain ⟨r_6, er_6, hE⟩ := cl_e hE
      refine gf_X15_314 C hW k_x0 er_6 dX15_back_24 (fun k_r_6 => ?_)
      refine lv_iload_n C.1 C.2.1 dX15_back_27 rfl (lv_at hl 1 rfl) ?_
      obtain ⟨g_7, hE⟩ := gd_e hE
      refine y_iald C hW k_r_6 g_7 dX15_back_28 ?_
      refine lv_if_ne (tgt := 35) C.1 C.2.1 dX15_back_29 (by decide) (fun c_8 => ?_) (fun c_8 => ?_)
      · have hE := br_n hE c_8
        refine lv_aload_n C.1 C.2.1 dX15_back_35 rfl (lv_at hl 0 rfl) ?_
        obtain ⟨r_9, er_9, hE⟩ := cl_e hE
        refine gf_X15_314 C hW k_x0 er_9 dX15_back_36 (fun k_r_9 => ?_)
        refine lv_iload_n C.1 C.2.1 dX15_back_39 rfl (lv_at hl 1 rfl) ?_
        refine lv_dup2_11 C.1 C.2.1 dX15_back_40 rfl rfl ?_
        obtain ⟨g_10, hE⟩ := gd_e hE
        refine y_iald C hW k_r_9 g_10 dX15_back_41 ?_
        refine lv_iconst (v := (1 : Int32)) C.1 C.2.1 dX15_back_42 (by decide) ?_
        refine lv_isub C.1 C.2.1 dX15_back_43 ?_
        obtain ⟨g_11, hE⟩ := gd_e hE
        obtain ⟨h_12, eh_12, hE⟩ := nm_e2 hE
        refine y_iast C hW hZ k_r_9 g_11 eh_12 dX15_back_44 (fun _ _ hW km hZ => ?_)
        replace hkm := hkm.tr km
        replace k_x0 := km.at k_x0 (by decide)
        refine lv_aload_n C.1 C.2.1 dX15_back_45 rfl (lv_at hl 0 rfl) ?_
        obtain ⟨r_13, er_13, hE⟩ := cl_e hE
        refine gf_X15_314 C hW k_x0 er_13 dX15_back_46 (fun k_r_13 => ?_)
        refine lv_iload_n C.1 C.2.1 dX15_back_49 rfl (lv_at hl 1 rfl) ?_
        obtain ⟨g_14, hE⟩ := gd_e hE
        refine y_iald C hW k_r_13 g_14 dX15_back_50 ?_
        exact x_iret C rfl rfl hW hZ hkm hE dX15_back_51
      · have hE := br_p hE c_8
        refine lv_bipush (v := (-103 : Int32)) C.1 C.2.1 dX15_back_32 (by decide) ?_
        exact x_iret C rfl rfl hW hZ hkm hE dX15_back_34
    · have hE := br_p hE c_5
      refine lv_bipush (v := (-102 : Int32)) C.1 C.2.1 dX15_back_20 (by decide) ?_
      exact x_iret C rfl rfl hW hZ hkm hE dX15_back_22
  · have hE := br_p hE c_2
    refine lv_bipush (v := (-101 : Int32)) C.1 C.2.1 dX15_back_7 (by decide) ?_
    exact x_iret C rfl rfl hW hZ hkm hE dX15_back_9
