theorem dX5_endOf_0 : decode cX5_endOf 0 = .ok (.aload_n 0, 1) := by decide +kernel
theorem dX5_endOf_1 : decode cX5_endOf 1 = .ok (.aload_n 1, 1) := by decide +kernel
theorem dX5_endOf_2 : decode cX5_endOf 2 = .ok (.invokevirtual 74, 3) := by decide +kernel
theorem dX5_endOf_5 : decode cX5_endOf 5 = .ok (.istore_n 2, 1) := by decide +kernel
theorem dX5_endOf_6 : decode cX5_endOf 6 = .ok (.iload_n 2, 1) := by decide +kernel
theorem dX5_endOf_7 : decode cX5_endOf 7 = .ok (.ifCond .eq 5, 3) := by decide +kernel
theorem dX5_endOf_10 : decode cX5_endOf 10 = .ok (.iload_n 2, 1) := by decide +kernel
theorem dX5_endOf_11 : decode cX5_endOf 11 = .ok (.ireturn, 1) := by decide +kernel
theorem dX5_endOf_12 : decode cX5_endOf 12 = .ok (.aload_n 0, 1) := by decide +kernel
theorem dX5_endOf_13 : decode cX5_endOf 13 = .ok (.aload_n 1, 1) := by decide +kernel
theorem dX5_endOf_14 : decode cX5_endOf 14 = .ok (.aload_n 0, 1) := by decide +kernel
theorem dX5_endOf_15 : decode cX5_endOf 15 = .ok (.getfield 9, 3) := by decide +kernel
theorem dX5_endOf_18 : decode cX5_endOf 18 = .ok (.iconst 1, 1) := by decide +kernel
theorem dX5_endOf_19 : decode cX5_endOf 19 = .ok (.invokevirtual 306, 3) := by decide +kernel
theorem dX5_endOf_22 : decode cX5_endOf 22 = .ok (.ifCond .le 5, 3) := by decide +kernel
theorem dX5_endOf_25 : decode cX5_endOf 25 = .ok (.iconst 0, 1) := by decide +kernel
theorem dX5_endOf_26 : decode cX5_endOf 26 = .ok (.ireturn, 1) := by decide +kernel
theorem dX5_endOf_27 : decode cX5_endOf 27 = .ok (.aload_n 0, 1) := by decide +kernel
theorem dX5_endOf_28 : decode cX5_endOf 28 = .ok (.aload_n 1, 1) := by decide +kernel
theorem dX5_endOf_29 : decode cX5_endOf 29 = .ok (.aload_n 1, 1) := by decide +kernel
theorem dX5_endOf_30 : decode cX5_endOf 30 = .ok (.getfield 78, 3) := by decide +kernel
theorem dX5_endOf_33 : decode cX5_endOf 33 = .ok (.invokevirtual 279, 3) := by decide +kernel
theorem dX5_endOf_36 : decode cX5_endOf 36 = .ok (.ifCond .eq 7, 3) := by decide +kernel
theorem dX5_endOf_39 : decode cX5_endOf 39 = .ok (.iconst 5, 1) := by decide +kernel
theorem dX5_endOf_40 : decode cX5_endOf 40 = .ok (.goto 5, 3) := by decide +kernel
theorem dX5_endOf_43 : decode cX5_endOf 43 = .ok (.bipush 6, 2) := by decide +kernel
theorem dX5_endOf_45 : decode cX5_endOf 45 = .ok (.ireturn, 1) := by decide +kernel
set_option maxRecDepth 20000 in
theorem moX5_endOf_45 {o : Int32 × Hp} {F : Nat} {h : Hp} {t0 : Int32} (hE : sX5_endOf_45 F h  t0 = some o) : Le h o.2 := by
  exact le_some2 hE
set_option maxRecDepth 20000 in
theorem moX5_endOf {o : Int32 × Hp} {F : Nat} {h : Hp} {x0 : Nat} {x1 : Nat} (hE : sX5_endOf F h x0 x1 = some o) : Le h o.2 := by
  obtain ⟨o_1, eo_1, hE⟩ := cl_e hE
  refine (moX5_earlyEnd eo_1).tr ?_
  rcases br_e hE with ⟨_, hE⟩ | ⟨_, hE⟩
  · obtain ⟨r_3, er_3, hE⟩ := cl_e hE
    obtain ⟨o_4, eo_4, hE⟩ := cl_e hE
    refine (moX5_collect eo_4).tr ?_
    rcases br_e hE with ⟨_, hE⟩ | ⟨_, hE⟩
    · obtain ⟨o_6, eo_6, hE⟩ := cl_e hE
      refine (moX5_isRoyalHit eo_6).tr ?_
      rcases br_e hE with ⟨_, hE⟩ | ⟨_, hE⟩
      · exact moX5_endOf_45 hE
      · exact moX5_endOf_45 hE
    · exact le_some2 hE
  · exact le_some2 hE
set_option maxRecDepth 20000 in
theorem bX5_endOf_45 {p : Program} {l : Launch} {e : Env} {s : State} {m : MethodId} {args : Array Value} {below : List Frame} {meth : Method} {c : Code} {X : Ec} {h0 : Hp} {o : Int32 × Hp} {F : Nat} (C : Cx X p s m args meth c RX5 cX5_endOf 3 (some .int) "endOf") {h : Hp} {t0 : Int32} {H : Heap} {locs : List Loc} (hkm : Km h0 h) (hW : Wx X h H) (hZ : va_S (aA (eB X)) s.heap H locs) (ls : Array Slot) (hl : lv_has ls 3 []) (hE : sX5_endOf_45 F h  t0 = some o) : W p l e (rm 4 139) s m args below meth c H locs 0 0 (MQ below (QI X h0 o.1 o.2) args s 0 0 (aA (eB X))) (F0 m 45 ls [.int t0]) := by
  exact x_iret C rfl rfl hW hZ hkm hE dX5_endOf_45
set_option maxRecDepth 20000 in
theorem ct_X5_endOf (l : Launch) (X : Ec) (F : Nat) {h : Hp} {x0 : Nat} {x1 : Nat} {o : Int32 × Hp} (k_x0 : hK h x0 = 5) (k_x1 : hK h x1 = 3) (hE : sX5_endOf F h x0 x1 = some o) : MetI l yX5_endOf cX5_endOf 3 (some .int) 4 139 X [.ref x0, .ref x1] h o := by
  refine x_met (by decide) (Nat.le_of_ble_eq_true rfl) ?_
  intro p e s m below meth c ls C hl hW hZ
  have hl : lv_has ls 3 [(0, .ref x0), (1, .ref x1)] := hl
  have hkm : Km h h := Km.rf h
  refine lv_aload_n C.1 C.2.1 dX5_endOf_0 rfl (lv_at hl 0 rfl) ?_
  refine lv_aload_n C.1 C.2.1 dX5_endOf_1 rfl (lv_at hl 1 rfl) ?_
  obtain ⟨o_1, eo_1, hE⟩ := cl_e hE
  refine x_kI (o := o_1) (z_runV (As := [.ref x1]) (rest := []) C (ct_X5_earlyEnd l X k_x0 k_x1 eo_1) cw_X5_74 hW hZ k_x0 (by decide) rfl rfl rfl hl.1 (Nat.le_of_ble_eq_true rfl) rfl dX5_endOf_2 ⟨Nat.le_of_ble_eq_true rfl, Nat.le_of_ble_eq_true rfl⟩ ⟨Nat.le_refl _, Nat.le_refl _⟩) hZ (fun _ _ hW km hZ => ?_)
  replace hkm := hkm.tr km
  replace k_x0 := km.at k_x0 (by decide)
  replace k_x1 := km.at k_x1 (by decide)
  refine lv_istore_n (lv' := [(2, .int o_1.1), (0, .ref x0), (1, .ref x1)]) C.1 C.2.1 dX5_endOf_5 rfl hl (by decide) rfl (fun ls hl => ?_)
  refine lv_iload_n C.1 C.2.1 dX5_endOf_6 rfl (lv_at hl 0 rfl) ?_
  refine lv_if_eq (tgt := 12) C.1 C.2.1 dX5_endOf_7 (by decide) (fun c_2 => ?_) (fun c_2 => ?_)
  · have hE := br_p hE c_2
    refine lv_aload_n C.1 C.2.1 dX5_endOf_12 rfl (lv_at hl 1 rfl) ?_
    refine lv_aload_n C.1 C.2.1 dX5_endOf_13 rfl (lv_at hl 2 rfl) ?_
    refine lv_aload_n C.1 C.2.1 dX5_endOf_14 rfl (lv_at hl 1 rfl) ?_
    obtain ⟨r_3, er_3, hE⟩ := cl_e hE
    refine gf_X5_9 C hW k_x0 er_3 dX5_endOf_15 (fun k_r_3 => ?_)
    refine lv_iconst (v := (1 : Int32)) C.1 C.2.1 dX5_endOf_18 (by decide) ?_
    obtain ⟨o_4, eo_4, hE⟩ := cl_e hE
    refine x_kI (o := o_4) (z_runV (As := [.ref x1, .ref r_3, .int (1 : Int32)]) (rest := []) C (ct_X5_collect l X F k_x0 k_x1 k_r_3 eo_4) cw_X5_306 hW hZ k_x0 (by decide) rfl rfl rfl hl.1 (Nat.le_of_ble_eq_true rfl) rfl dX5_endOf_19 ⟨Nat.le_of_ble_eq_true rfl, Nat.le_of_ble_eq_true rfl⟩ ⟨Nat.le_refl _, Nat.le_refl _⟩) hZ (fun _ _ hW km hZ => ?_)
    replace hkm := hkm.tr km
    replace k_x0 := km.at k_x0 (by decide)
    replace k_x1 := km.at k_x1 (by decide)
    refine lv_if_le (tgt := 27) C.1 C.2.1 dX5_endOf_22 (by decide) (fun c_5 => ?_) (fun c_5 => ?_)
    · have hE := br_p hE c_5
      refine lv_aload_n C.1 C.2.1 dX5_endOf_27 rfl (lv_at hl 1 rfl) ?_
      refine lv_aload_n C.1 C.2.1 dX5_endOf_28 rfl (lv_at hl 2 rfl) ?_
      refine lv_aload_n C.1 C.2.1 dX5_endOf_29 rfl (lv_at hl 2 rfl) ?_
      refine gf_X5_78 C hW k_x1 dX5_endOf_30 ?_
      obtain ⟨o_6, eo_6, hE⟩ := cl_e hE
      refine x_kI (o := o_6) (z_runV (As := [.ref x1, .int (hI o_4.2 x1 5)]) (rest := []) C (ct_X5_isRoyalHit l X F k_x0 k_x1 eo_6) cw_X5_279 hW hZ k_x0 (by decide) rfl rfl rfl hl.1 (Nat.le_of_ble_eq_true rfl) rfl dX5_endOf_33 ⟨Nat.le_of_ble_eq_true rfl, Nat.le_of_ble_eq_true rfl⟩ ⟨Nat.le_refl _, Nat.le_refl _⟩) hZ (fun _ _ hW km hZ => ?_)
      replace hkm := hkm.tr km
      replace k_x0 := km.at k_x0 (by decide)
      replace k_x1 := km.at k_x1 (by decide)
      refine lv_if_eq (tgt := 43) C.1 C.2.1 dX5_endOf_36 (by decide) (fun c_7 => ?_) (fun c_7 => ?_)
      · have hE := br_p hE c_7
        refine lv_bipush (v := (6 : Int32)) C.1 C.2.1 dX5_endOf_43 (by decide) ?_
        exact bX5_endOf_45 C hkm hW hZ _ (lv_sub hl [] rfl) hE
      · have hE := br_n hE c_7
        refine lv_iconst (v := (5 : Int32)) C.1 C.2.1 dX5_endOf_39 (by decide) ?_
        refine lv_goto (tgt := 45) C.1 C.2.1 dX5_endOf_40 (by decide) ?_
        exact bX5_endOf_45 C hkm hW hZ _ (lv_sub hl [] rfl) hE
    · have hE := br_n hE c_5
      refine lv_iconst (v := (0 : Int32)) C.1 C.2.1 dX5_endOf_25 (by decide) ?_
      exact x_iret C rfl rfl hW hZ hkm hE dX5_endOf_26
  · have hE := br_n hE c_2
    refine lv_iload_n C.1 C.2.1 dX5_endOf_10 rfl (lv_at hl 0 rfl) ?_
    exact x_iret C rfl rfl hW hZ hkm hE dX5_endOf_11
set_option maxRecDepth 100000 in
theorem m_105 : Cond.fieldLink RX5 313 (TX1 8).1 (TX1 8).2.1 (TX1 8).2.2.1 ∈ W0 := w0_in (List.mem_append_right _ (List.mem_of_getElem? (i := 105) rfl)) rfl
set_option maxRecDepth 100000 in
theorem m_108 : Cond.fieldLink RX5 310 (TX1 9).1 (TX1 9).2.1 (TX1 9).2.2.1 ∈ W0 := w0_in (List.mem_append_right _ (List.mem_of_getElem? (i := 108) rfl)) rfl
section
variable {p : Program} {l : Launch} {e : Env} {R : Room} {s : State} {m : MethodId} {args : Array Value} {below : List Frame} {meth : Method} {c : Code} {H : Heap} {locs : List Loc} {cells slots : Nat} {Q : State → Prop}
variable {cc : ByteArray} {pc : Nat} {ls : Array Slot} {rest : List Value} {X : Ec} {h h1 : Hp} {nL : Nat} {rt : Option FieldType} {mn : String}
theorem gf_X5_310 {a : Nat} (C : Cx X p s m args meth c RX5 cc nL rt mn) (hW : Wx X h H) (ha : hK h a = 1) (hdg : decode cc pc = .ok (.getfield 310, 3)) (kk : W p l e R s m args below meth c H locs cells slots Q (F0 m (pc + 3) ls (.int (hI h a 9) :: rest))) : W p l e R s m args below meth c H locs cells slots Q (F0 m pc ls (.ref a :: rest)) :=
  y_geti C hW ha i_X1 (by decide) rfl (by decide) m_108 rfl hdg kk
theorem gf_X5_313 {a : Nat} (C : Cx X p s m args meth c RX5 cc nL rt mn) (hW : Wx X h H) (ha : hK h a = 1) (hdg : decode cc pc = .ok (.getfield 313, 3)) (kk : W p l e R s m args below meth c H locs cells slots Q (F0 m (pc + 3) ls (.int (hI h a 8) :: rest))) : W p l e R s m args below meth c H locs cells slots Q (F0 m pc ls (.ref a :: rest)) :=
  y_geti C hW ha i_X1 (by decide) rfl (by decide) m_105 rfl hdg kk
end
theorem dX5_winnerOf_0 : decode cX5_winnerOf 0 = .ok (.aload_n 1, 1) := by decide +kernel
theorem dX5_winnerOf_1 : decode cX5_winnerOf 1 = .ok (.getfield 78, 3) := by decide +kernel
theorem dX5_winnerOf_4 : decode cX5_winnerOf 4 = .ok (.istore_n 3, 1) := by decide +kernel
theorem dX5_winnerOf_5 : decode cX5_winnerOf 5 = .ok (.iconst 1, 1) := by decide +kernel
theorem dX5_winnerOf_6 : decode cX5_winnerOf 6 = .ok (.iload_n 3, 1) := by decide +kernel
theorem dX5_winnerOf_7 : decode cX5_winnerOf 7 = .ok (.isub, 1) := by decide +kernel
theorem dX5_winnerOf_8 : decode cX5_winnerOf 8 = .ok (.istore 4, 2) := by decide +kernel
theorem dX5_winnerOf_10 : decode cX5_winnerOf 10 = .ok (.iload_n 2, 1) := by decide +kernel
theorem dX5_winnerOf_11 : decode cX5_winnerOf 11 = .ok (.tableswitch 169 1 6 #[37, 54, 71, 95, 133, 136], 37) := by decide +kernel
theorem dX5_winnerOf_48 : decode cX5_winnerOf 48 = .ok (.aload_n 1, 1) := by decide +kernel
theorem dX5_winnerOf_49 : decode cX5_winnerOf 49 = .ok (.getfield 60, 3) := by decide +kernel
theorem dX5_winnerOf_52 : decode cX5_winnerOf 52 = .ok (.iload_n 3, 1) := by decide +kernel
theorem dX5_winnerOf_53 : decode cX5_winnerOf 53 = .ok (.iaload, 1) := by decide +kernel
theorem dX5_winnerOf_54 : decode cX5_winnerOf 54 = .ok (.iconst (-1), 1) := by decide +kernel
theorem dX5_winnerOf_55 : decode cX5_winnerOf 55 = .ok (.if_icmp .ne 8, 3) := by decide +kernel
theorem dX5_winnerOf_58 : decode cX5_winnerOf 58 = .ok (.iload 4, 2) := by decide +kernel
theorem dX5_winnerOf_60 : decode cX5_winnerOf 60 = .ok (.goto 4, 3) := by decide +kernel
theorem dX5_winnerOf_63 : decode cX5_winnerOf 63 = .ok (.iload_n 3, 1) := by decide +kernel
theorem dX5_winnerOf_64 : decode cX5_winnerOf 64 = .ok (.ireturn, 1) := by decide +kernel
theorem dX5_winnerOf_65 : decode cX5_winnerOf 65 = .ok (.aload_n 0, 1) := by decide +kernel
theorem dX5_winnerOf_66 : decode cX5_winnerOf 66 = .ok (.aload_n 1, 1) := by decide +kernel
theorem dX5_winnerOf_67 : decode cX5_winnerOf 67 = .ok (.iload 4, 2) := by decide +kernel
theorem dX5_winnerOf_69 : decode cX5_winnerOf 69 = .ok (.invokevirtual 294, 3) := by decide +kernel
theorem dX5_winnerOf_72 : decode cX5_winnerOf 72 = .ok (.ifCond .eq 8, 3) := by decide +kernel
theorem dX5_winnerOf_75 : decode cX5_winnerOf 75 = .ok (.iload 4, 2) := by decide +kernel
theorem dX5_winnerOf_77 : decode cX5_winnerOf 77 = .ok (.goto 4, 3) := by decide +kernel
theorem dX5_winnerOf_80 : decode cX5_winnerOf 80 = .ok (.iload_n 3, 1) := by decide +kernel
theorem dX5_winnerOf_81 : decode cX5_winnerOf 81 = .ok (.ireturn, 1) := by decide +kernel
theorem dX5_winnerOf_82 : decode cX5_winnerOf 82 = .ok (.aload_n 1, 1) := by decide +kernel
theorem dX5_winnerOf_83 : decode cX5_winnerOf 83 = .ok (.getfield 283, 3) := by decide +kernel
theorem dX5_winnerOf_86 : decode cX5_winnerOf 86 = .ok (.iload 4, 2) := by decide +kernel
theorem dX5_winnerOf_88 : decode cX5_winnerOf 88 = .ok (.iaload, 1) := by decide +kernel
theorem dX5_winnerOf_89 : decode cX5_winnerOf 89 = .ok (.aload_n 0, 1) := by decide +kernel
theorem dX5_winnerOf_90 : decode cX5_winnerOf 90 = .ok (.getfield 22, 3) := by decide +kernel
theorem dX5_winnerOf_93 : decode cX5_winnerOf 93 = .ok (.getfield 276, 3) := by decide +kernel
theorem dX5_winnerOf_96 : decode cX5_winnerOf 96 = .ok (.if_icmp .lt 8, 3) := by decide +kernel
theorem dX5_winnerOf_99 : decode cX5_winnerOf 99 = .ok (.iload 4, 2) := by decide +kernel
theorem dX5_winnerOf_101 : decode cX5_winnerOf 101 = .ok (.goto 4, 3) := by decide +kernel
theorem dX5_winnerOf_104 : decode cX5_winnerOf 104 = .ok (.iload_n 3, 1) := by decide +kernel
theorem dX5_winnerOf_105 : decode cX5_winnerOf 105 = .ok (.ireturn, 1) := by decide +kernel
theorem dX5_winnerOf_106 : decode cX5_winnerOf 106 = .ok (.aload_n 0, 1) := by decide +kernel
theorem dX5_winnerOf_107 : decode cX5_winnerOf 107 = .ok (.aload_n 1, 1) := by decide +kernel
theorem dX5_winnerOf_108 : decode cX5_winnerOf 108 = .ok (.iload_n 3, 1) := by decide +kernel
theorem dX5_winnerOf_109 : decode cX5_winnerOf 109 = .ok (.invokevirtual 297, 3) := by decide +kernel
theorem dX5_winnerOf_112 : decode cX5_winnerOf 112 = .ok (.ifCond .eq 7, 3) := by decide +kernel
theorem dX5_winnerOf_115 : decode cX5_winnerOf 115 = .ok (.iload_n 3, 1) := by decide +kernel
theorem dX5_winnerOf_116 : decode cX5_winnerOf 116 = .ok (.goto 5, 3) := by decide +kernel
theorem dX5_winnerOf_119 : decode cX5_winnerOf 119 = .ok (.iload 4, 2) := by decide +kernel
theorem dX5_winnerOf_121 : decode cX5_winnerOf 121 = .ok (.istore 5, 2) := by decide +kernel
theorem dX5_winnerOf_123 : decode cX5_winnerOf 123 = .ok (.aload_n 0, 1) := by decide +kernel
theorem dX5_winnerOf_124 : decode cX5_winnerOf 124 = .ok (.getfield 22, 3) := by decide +kernel
theorem dX5_winnerOf_127 : decode cX5_winnerOf 127 = .ok (.getfield 310, 3) := by decide +kernel
theorem dX5_winnerOf_130 : decode cX5_winnerOf 130 = .ok (.iconst 1, 1) := by decide +kernel
theorem dX5_winnerOf_131 : decode cX5_winnerOf 131 = .ok (.if_icmp .ne 8, 3) := by decide +kernel
theorem dX5_winnerOf_134 : decode cX5_winnerOf 134 = .ok (.iload 5, 2) := by decide +kernel
theorem dX5_winnerOf_136 : decode cX5_winnerOf 136 = .ok (.goto 7, 3) := by decide +kernel
theorem dX5_winnerOf_139 : decode cX5_winnerOf 139 = .ok (.iconst 1, 1) := by decide +kernel
theorem dX5_winnerOf_140 : decode cX5_winnerOf 140 = .ok (.iload 5, 2) := by decide +kernel
theorem dX5_winnerOf_142 : decode cX5_winnerOf 142 = .ok (.isub, 1) := by decide +kernel
theorem dX5_winnerOf_143 : decode cX5_winnerOf 143 = .ok (.ireturn, 1) := by decide +kernel
theorem dX5_winnerOf_144 : decode cX5_winnerOf 144 = .ok (.iload 4, 2) := by decide +kernel
theorem dX5_winnerOf_146 : decode cX5_winnerOf 146 = .ok (.ireturn, 1) := by decide +kernel
theorem dX5_winnerOf_147 : decode cX5_winnerOf 147 = .ok (.aload_n 0, 1) := by decide +kernel
theorem dX5_winnerOf_148 : decode cX5_winnerOf 148 = .ok (.getfield 22, 3) := by decide +kernel
theorem dX5_winnerOf_151 : decode cX5_winnerOf 151 = .ok (.getfield 313, 3) := by decide +kernel
theorem dX5_winnerOf_154 : decode cX5_winnerOf 154 = .ok (.iconst 1, 1) := by decide +kernel
theorem dX5_winnerOf_155 : decode cX5_winnerOf 155 = .ok (.if_icmp .ne 7, 3) := by decide +kernel
theorem dX5_winnerOf_158 : decode cX5_winnerOf 158 = .ok (.iload_n 3, 1) := by decide +kernel
theorem dX5_winnerOf_159 : decode cX5_winnerOf 159 = .ok (.goto 20, 3) := by decide +kernel
theorem dX5_winnerOf_162 : decode cX5_winnerOf 162 = .ok (.aload_n 0, 1) := by decide +kernel
theorem dX5_winnerOf_163 : decode cX5_winnerOf 163 = .ok (.getfield 22, 3) := by decide +kernel
theorem dX5_winnerOf_166 : decode cX5_winnerOf 166 = .ok (.getfield 313, 3) := by decide +kernel
theorem dX5_winnerOf_169 : decode cX5_winnerOf 169 = .ok (.iconst 2, 1) := by decide +kernel
theorem dX5_winnerOf_170 : decode cX5_winnerOf 170 = .ok (.if_icmp .ne 8, 3) := by decide +kernel
theorem dX5_winnerOf_173 : decode cX5_winnerOf 173 = .ok (.iload 4, 2) := by decide +kernel
theorem dX5_winnerOf_175 : decode cX5_winnerOf 175 = .ok (.goto 4, 3) := by decide +kernel
theorem dX5_winnerOf_178 : decode cX5_winnerOf 178 = .ok (.iconst 2, 1) := by decide +kernel
theorem dX5_winnerOf_179 : decode cX5_winnerOf 179 = .ok (.ireturn, 1) := by decide +kernel
theorem dX5_winnerOf_180 : decode cX5_winnerOf 180 = .ok (.iconst (-1), 1) := by decide +kernel
theorem dX5_winnerOf_181 : decode cX5_winnerOf 181 = .ok (.ireturn, 1) := by decide +kernel
set_option maxRecDepth 20000 in
theorem moX5_winnerOf_64 {o : Int32 × Hp} {h : Hp} {t0 : Int32} (hE : sX5_winnerOf_64 h  t0 = some o) : Le h o.2 := by
  exact le_some2 hE
set_option maxRecDepth 20000 in
theorem moX5_winnerOf_81 {o : Int32 × Hp} {h : Hp} {t0 : Int32} (hE : sX5_winnerOf_81 h  t0 = some o) : Le h o.2 := by
  exact le_some2 hE
set_option maxRecDepth 20000 in
theorem moX5_winnerOf_105 {o : Int32 × Hp} {h : Hp} {t0 : Int32} (hE : sX5_winnerOf_105 h  t0 = some o) : Le h o.2 := by
  exact le_some2 hE
set_option maxRecDepth 20000 in
theorem moX5_winnerOf_143 {o : Int32 × Hp} {h : Hp} {t0 : Int32} (hE : sX5_winnerOf_143 h  t0 = some o) : Le h o.2 := by
  exact le_some2 hE
set_option maxRecDepth 20000 in
theorem moX5_winnerOf_121 {o : Int32 × Hp} {h : Hp} {x0 : Nat} {t0 : Int32} (hE : sX5_winnerOf_121 h x0 t0 = some o) : Le h o.2 := by
  obtain ⟨r_1, er_1, hE⟩ := cl_e hE
  rcases br_e hE with ⟨_, hE⟩ | ⟨_, hE⟩
  · exact moX5_winnerOf_143 hE
  · exact moX5_winnerOf_143 hE
set_option maxRecDepth 20000 in
theorem moX5_winnerOf_179 {o : Int32 × Hp} {h : Hp} {t0 : Int32} (hE : sX5_winnerOf_179 h  t0 = some o) : Le h o.2 := by
  exact le_some2 hE
set_option maxRecDepth 20000 in
theorem moX5_winnerOf {o : Int32 × Hp} {h : Hp} {x0 : Nat} {x1 : Nat} {x2 : Int32} (hE : sX5_winnerOf h x0 x1 x2 = some o) : Le h o.2 := by
  obtain ⟨v_1, ev_1, hE⟩ := nm_e2 hE
  obtain ⟨v_2, ev_2, hE⟩ := nm_e2 hE
  rcases br_e hE with ⟨_, hE⟩ | ⟨_, hE⟩
  · obtain ⟨r_3, er_3, hE⟩ := cl_e hE
    obtain ⟨g_4, hE⟩ := gd_e hE
    rcases br_e hE with ⟨_, hE⟩ | ⟨_, hE⟩
    · exact moX5_winnerOf_64 hE
    · exact moX5_winnerOf_64 hE
  rcases br_e hE with ⟨_, hE⟩ | ⟨_, hE⟩
  · obtain ⟨o_7, eo_7, hE⟩ := cl_e hE
    refine (moX5_isOnHill eo_7).tr ?_
    rcases br_e hE with ⟨_, hE⟩ | ⟨_, hE⟩
    · exact moX5_winnerOf_81 hE
    · exact moX5_winnerOf_81 hE
  rcases br_e hE with ⟨_, hE⟩ | ⟨_, hE⟩
  · obtain ⟨r_10, er_10, hE⟩ := cl_e hE
    obtain ⟨g_11, hE⟩ := gd_e hE
    obtain ⟨r_12, er_12, hE⟩ := cl_e hE
    rcases br_e hE with ⟨_, hE⟩ | ⟨_, hE⟩
    · exact moX5_winnerOf_105 hE
    · exact moX5_winnerOf_105 hE
  rcases br_e hE with ⟨_, hE⟩ | ⟨_, hE⟩
  · obtain ⟨o_15, eo_15, hE⟩ := cl_e hE
    refine (moX5_isBare eo_15).tr ?_
    rcases br_e hE with ⟨_, hE⟩ | ⟨_, hE⟩
    · exact moX5_winnerOf_121 hE
    · exact moX5_winnerOf_121 hE
  rcases br_e hE with ⟨_, hE⟩ | ⟨_, hE⟩
  · exact le_some2 hE
  rcases br_e hE with ⟨_, hE⟩ | ⟨_, hE⟩
  · obtain ⟨r_19, er_19, hE⟩ := cl_e hE
    rcases br_e hE with ⟨_, hE⟩ | ⟨_, hE⟩
    · exact moX5_winnerOf_179 hE
    · obtain ⟨r_21, er_21, hE⟩ := cl_e hE
      rcases br_e hE with ⟨_, hE⟩ | ⟨_, hE⟩
      · exact moX5_winnerOf_179 hE
      · exact moX5_winnerOf_179 hE
  exact le_some2 hE
set_option maxRecDepth 20000 in
theorem bX5_winnerOf_64 {p : Program} {l : Launch} {e : Env} {s : State} {m : MethodId} {args : Array Value} {below : List Frame} {meth : Method} {c : Code} {X : Ec} {h0 : Hp} {o : Int32 × Hp} (C : Cx X p s m args meth c RX5 cX5_winnerOf 6 (some .int) "winnerOf") {h : Hp} {t0 : Int32} {H : Heap} {locs : List Loc} (hkm : Km h0 h) (hW : Wx X h H) (hZ : va_S (aA (eB X)) s.heap H locs) (ls : Array Slot) (hl : lv_has ls 6 []) (hE : sX5_winnerOf_64 h  t0 = some o) : W p l e (rm 1 22) s m args below meth c H locs 0 0 (MQ below (QI X h0 o.1 o.2) args s 0 0 (aA (eB X))) (F0 m 64 ls [.int t0]) := by
  exact x_iret C rfl rfl hW hZ hkm hE dX5_winnerOf_64
set_option maxRecDepth 20000 in
theorem bX5_winnerOf_81 {p : Program} {l : Launch} {e : Env} {s : State} {m : MethodId} {args : Array Value} {below : List Frame} {meth : Method} {c : Code} {X : Ec} {h0 : Hp} {o : Int32 × Hp} (C : Cx X p s m args meth c RX5 cX5_winnerOf 6 (some .int) "winnerOf") {h : Hp} {t0 : Int32} {H : Heap} {locs : List Loc} (hkm : Km h0 h) (hW : Wx X h H) (hZ : va_S (aA (eB X)) s.heap H locs) (ls : Array Slot) (hl : lv_has ls 6 []) (hE : sX5_winnerOf_81 h  t0 = some o) : W p l e (rm 1 22) s m args below meth c H locs 0 0 (MQ below (QI X h0 o.1 o.2) args s 0 0 (aA (eB X))) (F0 m 81 ls [.int t0]) := by
  exact x_iret C rfl rfl hW hZ hkm hE dX5_winnerOf_81
set_option maxRecDepth 20000 in
theorem bX5_winnerOf_105 {p : Program} {l : Launch} {e : Env} {s : State} {m : MethodId} {args : Array Value} {below : List Frame} {meth : Method} {c : Code} {X : Ec} {h0 : Hp} {o : Int32 × Hp} (C : Cx X p s m args meth c RX5 cX5_winnerOf 6 (some .int) "winnerOf") {h : Hp} {t0 : Int32} {H : Heap} {locs : List Loc} (hkm : Km h0 h) (hW : Wx X h H) (hZ : va_S (aA (eB X)) s.heap H locs) (ls : Array Slot) (hl : lv_has ls 6 []) (hE : sX5_winnerOf_105 h  t0 = some o) : W p l e (rm 1 22) s m args below meth c H locs 0 0 (MQ below (QI X h0 o.1 o.2) args s 0 0 (aA (eB X))) (F0 m 105 ls [.int t0]) := by
  exact x_iret C rfl rfl hW hZ hkm hE dX5_winnerOf_105
set_option maxRecDepth 20000 in
theorem bX5_winnerOf_143 {p : Program} {l : Launch} {e : Env} {s : State} {m : MethodId} {args : Array Value} {below : List Frame} {meth : Method} {c : Code} {X : Ec} {h0 : Hp} {o : Int32 × Hp} (C : Cx X p s m args meth c RX5 cX5_winnerOf 6 (some .int) "winnerOf") {h : Hp} {t0 : Int32} {H : Heap} {locs : List Loc} (hkm : Km h0 h) (hW : Wx X h H) (hZ : va_S (aA (eB X)) s.heap H locs) (ls : Array Slot) (hl : lv_has ls 6 []) (hE : sX5_winnerOf_143 h  t0 = some o) : W p l e (rm 1 22) s m args below meth c H locs 0 0 (MQ below (QI X h0 o.1 o.2) args s 0 0 (aA (eB X))) (F0 m 143 ls [.int t0]) := by
  exact x_iret C rfl rfl hW hZ hkm hE dX5_winnerOf_143
set_option maxRecDepth 20000 in
theorem bX5_winnerOf_121 {p : Program} {l : Launch} {e : Env} {s : State} {m : MethodId} {args : Array Value} {below : List Frame} {meth : Method} {c : Code} {X : Ec} {h0 : Hp} {o : Int32 × Hp} (C : Cx X p s m args meth c RX5 cX5_winnerOf 6 (some .int) "winnerOf") {h : Hp} {x0 : Nat} {t0 : Int32} {H : Heap} {locs : List Loc} (k_x0 : hK h x0 = 5) (hkm : Km h0 h) (hW : Wx X h H) (hZ : va_S (aA (eB X)) s.heap H locs) (ls : Array Slot) (hl : lv_has ls 6 [(0, .ref x0)]) (hE : sX5_winnerOf_121 h x0 t0 = some o) : W p l e (rm 1 22) s m args below meth c H locs 0 0 (MQ below (QI X h0 o.1 o.2) args s 0 0 (aA (eB X))) (F0 m 121 ls [.int t0]) := by
  refine lv_istore (lv' := [(5, .int t0), (0, .ref x0)]) C.1 C.2.1 dX5_winnerOf_121 hl (by decide) rfl (fun ls hl => ?_)
  refine lv_aload_n C.1 C.2.1 dX5_winnerOf_123 rfl (lv_at hl 1 rfl) ?_
  obtain ⟨r_1, er_1, hE⟩ := cl_e hE
  refine gf_X5_22 C hW k_x0 er_1 dX5_winnerOf_124 (fun k_r_1 => ?_)
  refine gf_X5_310 C hW k_r_1 dX5_winnerOf_127 ?_
  refine lv_iconst (v := (1 : Int32)) C.1 C.2.1 dX5_winnerOf_130 (by decide) ?_
  refine lv_icmp_ne (tgt := 139) C.1 C.2.1 dX5_winnerOf_131 (by decide) (fun c_2 => ?_) (fun c_2 => ?_)
  · have hE := br_n hE c_2
    refine lv_iconst (v := (1 : Int32)) C.1 C.2.1 dX5_winnerOf_139 (by decide) ?_
    refine lv_iload C.1 C.2.1 dX5_winnerOf_140 (lv_at hl 0 rfl) ?_
    refine lv_isub C.1 C.2.1 dX5_winnerOf_142 ?_
    exact bX5_winnerOf_143 C hkm hW hZ _ (lv_sub hl [] rfl) hE
  · have hE := br_p hE c_2
    refine lv_iload C.1 C.2.1 dX5_winnerOf_134 (lv_at hl 0 rfl) ?_
    refine lv_goto (tgt := 143) C.1 C.2.1 dX5_winnerOf_136 (by decide) ?_
    exact bX5_winnerOf_143 C hkm hW hZ _ (lv_sub hl [] rfl) hE
set_option maxRecDepth 20000 in
theorem bX5_winnerOf_179 {p : Program} {l : Launch} {e : Env} {s : State} {m : MethodId} {args : Array Value} {below : List Frame} {meth : Method} {c : Code} {X : Ec} {h0 : Hp} {o : Int32 × Hp} (C : Cx X p s m args meth c RX5 cX5_winnerOf 6 (some .int) "winnerOf") {h : Hp} {t0 : Int32} {H : Heap} {locs : List Loc} (hkm : Km h0 h) (hW : Wx X h H) (hZ : va_S (aA (eB X)) s.heap H locs) (ls : Array Slot) (hl : lv_has ls 6 []) (hE : sX5_winnerOf_179 h  t0 = some o) : W p l e (rm 1 22) s m args below meth c H locs 0 0 (MQ below (QI X h0 o.1 o.2) args s 0 0 (aA (eB X))) (F0 m 179 ls [.int t0]) := by
  exact x_iret C rfl rfl hW hZ hkm hE dX5_winnerOf_179
set_option maxRecDepth 20000 in
theorem ct_X5_winnerOf (l : Launch) (X : Ec) {h : Hp} {x0 : Nat} {x1 : Nat} {x2 : Int32} {o : Int32 × Hp} (k_x0 : hK h x0 = 5) (k_x1 : hK h x1 = 3) (hE : sX5_winnerOf h x0 x1 x2 = some o) : MetI l yX5_winnerOf cX5_winnerOf 6 (some .int) 1 22 X [.ref x0, .ref x1, .int x2] h o := by
  refine x_met (by decide) (Nat.le_of_ble_eq_true rfl) ?_
  intro p e s m below meth c ls C hl hW hZ
  have hl : lv_has ls 6 [(0, .ref x0), (1, .ref x1), (2, .int x2)] := hl
  have hkm : Km h h := Km.rf h
  refine lv_aload_n C.1 C.2.1 dX5_winnerOf_0 rfl (lv_at hl 1 rfl) ?_
  refine gf_X5_78 C hW k_x1 dX5_winnerOf_1 ?_
  obtain ⟨v_1, ev_1, hE⟩ := nm_e2 hE
  refine x_nmI ev_1 ?_
  refine lv_istore_n (lv' := [(3, .int v_1), (0, .ref x0), (1, .ref x1), (2, .int x2)]) C.1 C.2.1 dX5_winnerOf_4 rfl hl (by decide) rfl (fun ls hl => ?_)
  refine lv_iconst (v := (1 : Int32)) C.1 C.2.1 dX5_winnerOf_5 (by decide) ?_
  refine lv_iload_n C.1 C.2.1 dX5_winnerOf_6 rfl (lv_at hl 0 rfl) ?_
  refine lv_isub C.1 C.2.1 dX5_winnerOf_7 ?_
  obtain ⟨v_2, ev_2, hE⟩ := nm_e2 hE
  refine x_nmI ev_2 ?_
  refine lv_istore (lv' := [(4, .int v_2), (3, .int v_1), (0, .ref x0), (1, .ref x1), (2, .int x2)]) C.1 C.2.1 dX5_winnerOf_8 hl (by decide) rfl (fun ls hl => ?_)
  refine lv_iload_n C.1 C.2.1 dX5_winnerOf_10 rfl (lv_at hl 4 rfl) ?_
  by_cases c_6 : x2 = (1 : Int32)
  · have hE := br_p hE c_6
    refine lv_tableIn (off := 37) (tgt := 48) C.1 C.2.1 dX5_winnerOf_11 (by rw [c_6]; decide) (by rw [c_6]; decide) (by rw [c_6]; rfl) (by decide) ?_
    refine lv_aload_n C.1 C.2.1 dX5_winnerOf_48 rfl (lv_at hl 3 rfl) ?_
    obtain ⟨r_3, er_3, hE⟩ := cl_e hE
    refine gf_X5_60 C hW k_x1 er_3 dX5_winnerOf_49 (fun k_r_3 => ?_)
    refine lv_iload_n C.1 C.2.1 dX5_winnerOf_52 rfl (lv_at hl 1 rfl) ?_
    obtain ⟨g_4, hE⟩ := gd_e hE
    refine y_iald C hW k_r_3 g_4 dX5_winnerOf_53 ?_
    refine lv_iconst (v := (-1 : Int32)) C.1 C.2.1 dX5_winnerOf_54 (by decide) ?_
    refine lv_icmp_ne (tgt := 63) C.1 C.2.1 dX5_winnerOf_55 (by decide) (fun c_5 => ?_) (fun c_5 => ?_)
    · have hE := br_n hE c_5
      refine lv_iload_n C.1 C.2.1 dX5_winnerOf_63 rfl (lv_at hl 1 rfl) ?_
      exact bX5_winnerOf_64 C hkm hW hZ _ (lv_sub hl [] rfl) hE
    · have hE := br_p hE c_5
      refine lv_iload C.1 C.2.1 dX5_winnerOf_58 (lv_at hl 0 rfl) ?_
      refine lv_goto (tgt := 64) C.1 C.2.1 dX5_winnerOf_60 (by decide) ?_
      exact bX5_winnerOf_64 C hkm hW hZ _ (lv_sub hl [] rfl) hE
  have hE := br_n hE c_6
  by_cases c_9 : x2 = (2 : Int32)
  · have hE := br_p hE c_9
    refine lv_tableIn (off := 54) (tgt := 65) C.1 C.2.1 dX5_winnerOf_11 (by rw [c_9]; decide) (by rw [c_9]; decide) (by rw [c_9]; rfl) (by decide) ?_
    refine lv_aload_n C.1 C.2.1 dX5_winnerOf_65 rfl (lv_at hl 2 rfl) ?_
    refine lv_aload_n C.1 C.2.1 dX5_winnerOf_66 rfl (lv_at hl 3 rfl) ?_
    refine lv_iload C.1 C.2.1 dX5_winnerOf_67 (lv_at hl 0 rfl) ?_
    obtain ⟨o_7, eo_7, hE⟩ := cl_e hE
    refine x_kI (o := o_7) (z_runV (As := [.ref x1, .int v_2]) (rest := []) C (ct_X5_isOnHill l X k_x0 k_x1 eo_7) cw_X5_294 hW hZ k_x0 (by decide) rfl rfl rfl hl.1 (Nat.le_of_ble_eq_true rfl) rfl dX5_winnerOf_69 ⟨Nat.le_of_ble_eq_true rfl, Nat.le_of_ble_eq_true rfl⟩ ⟨Nat.le_refl _, Nat.le_refl _⟩) hZ (fun _ _ hW km hZ => ?_)
    replace hkm := hkm.tr km
    replace k_x0 := km.at k_x0 (by decide)
    replace k_x1 := km.at k_x1 (by decide)
    refine lv_if_eq (tgt := 80) C.1 C.2.1 dX5_winnerOf_72 (by decide) (fun c_8 => ?_) (fun c_8 => ?_)
    · have hE := br_p hE c_8
      refine lv_iload_n C.1 C.2.1 dX5_winnerOf_80 rfl (lv_at hl 1 rfl) ?_
      exact bX5_winnerOf_81 C hkm hW hZ _ (lv_sub hl [] rfl) hE
    · have hE := br_n hE c_8
      refine lv_iload C.1 C.2.1 dX5_winnerOf_75 (lv_at hl 0 rfl) ?_
      refine lv_goto (tgt := 81) C.1 C.2.1 dX5_winnerOf_77 (by decide) ?_
      exact bX5_winnerOf_81 C hkm hW hZ _ (lv_sub hl [] rfl) hE
  have hE := br_n hE c_9
  by_cases c_14 : x2 = (3 : Int32)
  · have hE := br_p hE c_14
    refine lv_tableIn (off := 71) (tgt := 82) C.1 C.2.1 dX5_winnerOf_11 (by rw [c_14]; decide) (by rw [c_14]; decide) (by rw [c_14]; rfl) (by decide) ?_
    refine lv_aload_n C.1 C.2.1 dX5_winnerOf_82 rfl (lv_at hl 3 rfl) ?_
    obtain ⟨r_10, er_10, hE⟩ := cl_e hE
    refine gf_X5_283 C hW k_x1 er_10 dX5_winnerOf_83 (fun k_r_10 => ?_)
    refine lv_iload C.1 C.2.1 dX5_winnerOf_86 (lv_at hl 0 rfl) ?_
    obtain ⟨g_11, hE⟩ := gd_e hE
    refine y_iald C hW k_r_10 g_11 dX5_winnerOf_88 ?_
    refine lv_aload_n C.1 C.2.1 dX5_winnerOf_89 rfl (lv_at hl 2 rfl) ?_
    obtain ⟨r_12, er_12, hE⟩ := cl_e hE
    refine gf_X5_22 C hW k_x0 er_12 dX5_winnerOf_90 (fun k_r_12 => ?_)
    refine gf_X5_276 C hW k_r_12 dX5_winnerOf_93 ?_
    refine lv_icmp_lt (tgt := 104) C.1 C.2.1 dX5_winnerOf_96 (by decide) (fun c_13 => ?_) (fun c_13 => ?_)
    · have hE := br_p hE c_13
      refine lv_iload_n C.1 C.2.1 dX5_winnerOf_104 rfl (lv_at hl 1 rfl) ?_
      exact bX5_winnerOf_105 C hkm hW hZ _ (lv_sub hl [] rfl) hE
    · have hE := br_n hE c_13
      refine lv_iload C.1 C.2.1 dX5_winnerOf_99 (lv_at hl 0 rfl) ?_
      refine lv_goto (tgt := 105) C.1 C.2.1 dX5_winnerOf_101 (by decide) ?_
      exact bX5_winnerOf_105 C hkm hW hZ _ (lv_sub hl [] rfl) hE
  have hE := br_n hE c_14
  by_cases c_17 : x2 = (4 : Int32)
  · have hE := br_p hE c_17
    refine lv_tableIn (off := 95) (tgt := 106) C.1 C.2.1 dX5_winnerOf_11 (by rw [c_17]; decide) (by rw [c_17]; decide) (by rw [c_17]; rfl) (by decide) ?_
    refine lv_aload_n C.1 C.2.1 dX5_winnerOf_106 rfl (lv_at hl 2 rfl) ?_
    refine lv_aload_n C.1 C.2.1 dX5_winnerOf_107 rfl (lv_at hl 3 rfl) ?_
    refine lv_iload_n C.1 C.2.1 dX5_winnerOf_108 rfl (lv_at hl 1 rfl) ?_
    obtain ⟨o_15, eo_15, hE⟩ := cl_e hE
    refine x_kI (o := o_15) (z_runV (As := [.ref x1, .int v_1]) (rest := []) C (ct_X5_isBare l X k_x0 k_x1 eo_15) cw_X5_297 hW hZ k_x0 (by decide) rfl rfl rfl hl.1 (Nat.le_of_ble_eq_true rfl) rfl dX5_winnerOf_109 ⟨Nat.le_of_ble_eq_true rfl, Nat.le_of_ble_eq_true rfl⟩ ⟨Nat.le_refl _, Nat.le_refl _⟩) hZ (fun _ _ hW km hZ => ?_)
    replace hkm := hkm.tr km
    replace k_x0 := km.at k_x0 (by decide)
    replace k_x1 := km.at k_x1 (by decide)
    refine lv_if_eq (tgt := 119) C.1 C.2.1 dX5_winnerOf_112 (by decide) (fun c_16 => ?_) (fun c_16 => ?_)
    · have hE := br_p hE c_16
      refine lv_iload C.1 C.2.1 dX5_winnerOf_119 (lv_at hl 0 rfl) ?_
      exact bX5_winnerOf_121 C k_x0 hkm hW hZ _ (lv_sub hl [2] rfl) hE
    · have hE := br_n hE c_16
      refine lv_iload_n C.1 C.2.1 dX5_winnerOf_115 rfl (lv_at hl 1 rfl) ?_
      refine lv_goto (tgt := 121) C.1 C.2.1 dX5_winnerOf_116 (by decide) ?_
      exact bX5_winnerOf_121 C k_x0 hkm hW hZ _ (lv_sub hl [2] rfl) hE
  have hE := br_n hE c_17
  by_cases c_18 : x2 = (5 : Int32)
  · have hE := br_p hE c_18
    refine lv_tableIn (off := 133) (tgt := 144) C.1 C.2.1 dX5_winnerOf_11 (by rw [c_18]; decide) (by rw [c_18]; decide) (by rw [c_18]; rfl) (by decide) ?_
    refine lv_iload C.1 C.2.1 dX5_winnerOf_144 (lv_at hl 0 rfl) ?_
    exact x_iret C rfl rfl hW hZ hkm hE dX5_winnerOf_146
  have hE := br_n hE c_18
  by_cases c_23 : x2 = (6 : Int32)
  · have hE := br_p hE c_23
    refine lv_tableIn (off := 136) (tgt := 147) C.1 C.2.1 dX5_winnerOf_11 (by rw [c_23]; decide) (by rw [c_23]; decide) (by rw [c_23]; rfl) (by decide) ?_
    refine lv_aload_n C.1 C.2.1 dX5_winnerOf_147 rfl (lv_at hl 2 rfl) ?_
    obtain ⟨r_19, er_19, hE⟩ := cl_e hE
    refine gf_X5_22 C hW k_x0 er_19 dX5_winnerOf_148 (fun k_r_19 => ?_)
    refine gf_X5_313 C hW k_r_19 dX5_winnerOf_151 ?_
    refine lv_iconst (v := (1 : Int32)) C.1 C.2.1 dX5_winnerOf_154 (by decide) ?_
    refine lv_icmp_ne (tgt := 162) C.1 C.2.1 dX5_winnerOf_155 (by decide) (fun c_20 => ?_) (fun c_20 => ?_)
    · have hE := br_n hE c_20
      refine lv_aload_n C.1 C.2.1 dX5_winnerOf_162 rfl (lv_at hl 2 rfl) ?_
      obtain ⟨r_21, er_21, hE⟩ := cl_e hE
      refine gf_X5_22 C hW k_x0 er_21 dX5_winnerOf_163 (fun k_r_21 => ?_)
      refine gf_X5_313 C hW k_r_21 dX5_winnerOf_166 ?_
      refine lv_iconst (v := (2 : Int32)) C.1 C.2.1 dX5_winnerOf_169 (by decide) ?_
      refine lv_icmp_ne (tgt := 178) C.1 C.2.1 dX5_winnerOf_170 (by decide) (fun c_22 => ?_) (fun c_22 => ?_)
      · have hE := br_n hE c_22
        refine lv_iconst (v := (2 : Int32)) C.1 C.2.1 dX5_winnerOf_178 (by decide) ?_
        exact bX5_winnerOf_179 C hkm hW hZ _ (lv_sub hl [] rfl) hE
      · have hE := br_p hE c_22
        refine lv_iload C.1 C.2.1 dX5_winnerOf_173 (lv_at hl 0 rfl) ?_
        refine lv_goto (tgt := 179) C.1 C.2.1 dX5_winnerOf_175 (by decide) ?_
        exact bX5_winnerOf_179 C hkm hW hZ _ (lv_sub hl [] rfl) hE
    · have hE := br_p hE c_20
      refine lv_iload_n C.1 C.2.1 dX5_winnerOf_158 rfl (lv_at hl 1 rfl) ?_
      refine lv_goto (tgt := 179) C.1 C.2.1 dX5_winnerOf_159 (by decide) ?_
      exact bX5_winnerOf_179 C hkm hW hZ _ (lv_sub hl [] rfl) hE
  have hE := br_n hE c_23
  refine lv_tableOut (tgt := 180) C.1 C.2.1 dX5_winnerOf_11 (by have zc_6 := lv_neT (a := 1) c_6 (by decide); have zc_9 := lv_neT (a := 2) c_9 (by decide); have zc_14 := lv_neT (a := 3) c_14 (by decide); have zc_17 := lv_neT (a := 4) c_17 (by decide); have zc_18 := lv_neT (a := 5) c_18 (by decide); have zc_23 := lv_neT (a := 6) c_23 (by decide); omega) (by decide) ?_
  refine lv_iconst (v := (-1 : Int32)) C.1 C.2.1 dX5_winnerOf_180 (by decide) ?_
  exact x_iret C rfl rfl hW hZ hkm hE dX5_winnerOf_181
theorem dX5_seenBy_0 : decode cX5_seenBy 0 = .ok (.aload_n 1, 1) := by decide +kernel
theorem dX5_seenBy_1 : decode cX5_seenBy 1 = .ok (.getfield 33, 3) := by decide +kernel
theorem dX5_seenBy_4 : decode cX5_seenBy 4 = .ok (.iload_n 2, 1) := by decide +kernel
theorem dX5_seenBy_5 : decode cX5_seenBy 5 = .ok (.laload, 1) := by decide +kernel
theorem dX5_seenBy_6 : decode cX5_seenBy 6 = .ok (.lstore_n 3, 1) := by decide +kernel
theorem dX5_seenBy_7 : decode cX5_seenBy 7 = .ok (.lload_n 3, 1) := by decide +kernel
theorem dX5_seenBy_8 : decode cX5_seenBy 8 = .ok (.lstore 5, 2) := by decide +kernel
theorem dX5_seenBy_10 : decode cX5_seenBy 10 = .ok (.iconst 0, 1) := by decide +kernel
theorem dX5_seenBy_11 : decode cX5_seenBy 11 = .ok (.istore 7, 2) := by decide +kernel
theorem dX5_seenBy_13 : decode cX5_seenBy 13 = .ok (.iload 7, 2) := by decide +kernel
theorem dX5_seenBy_15 : decode cX5_seenBy 15 = .ok (.bipush 64, 2) := by decide +kernel
theorem dX5_seenBy_17 : decode cX5_seenBy 17 = .ok (.if_icmp .ge 121, 3) := by decide +kernel
theorem dX5_seenBy_20 : decode cX5_seenBy 20 = .ok (.lload 5, 2) := by decide +kernel
theorem dX5_seenBy_22 : decode cX5_seenBy 22 = .ok (.lconst 0, 1) := by decide +kernel
theorem dX5_seenBy_23 : decode cX5_seenBy 23 = .ok (.lcmp, 1) := by decide +kernel
theorem dX5_seenBy_24 : decode cX5_seenBy 24 = .ok (.ifCond .eq 114, 3) := by decide +kernel
theorem dX5_seenBy_27 : decode cX5_seenBy 27 = .ok (.lload 5, 2) := by decide +kernel
theorem dX5_seenBy_29 : decode cX5_seenBy 29 = .ok (.invokestatic 85, 3) := by decide +kernel
theorem dX5_seenBy_32 : decode cX5_seenBy 32 = .ok (.istore 8, 2) := by decide +kernel
theorem dX5_seenBy_34 : decode cX5_seenBy 34 = .ok (.lload 5, 2) := by decide +kernel
theorem dX5_seenBy_36 : decode cX5_seenBy 36 = .ok (.lload 5, 2) := by decide +kernel
theorem dX5_seenBy_38 : decode cX5_seenBy 38 = .ok (.lconst 1, 1) := by decide +kernel
theorem dX5_seenBy_39 : decode cX5_seenBy 39 = .ok (.lsub, 1) := by decide +kernel
theorem dX5_seenBy_40 : decode cX5_seenBy 40 = .ok (.land, 1) := by decide +kernel
theorem dX5_seenBy_41 : decode cX5_seenBy 41 = .ok (.lstore 5, 2) := by decide +kernel
theorem dX5_seenBy_43 : decode cX5_seenBy 43 = .ok (.aload_n 0, 1) := by decide +kernel
theorem dX5_seenBy_44 : decode cX5_seenBy 44 = .ok (.getfield 26, 3) := by decide +kernel
theorem dX5_seenBy_47 : decode cX5_seenBy 47 = .ok (.getfield 51, 3) := by decide +kernel
theorem dX5_seenBy_50 : decode cX5_seenBy 50 = .ok (.aload_n 1, 1) := by decide +kernel
theorem dX5_seenBy_51 : decode cX5_seenBy 51 = .ok (.getfield 42, 3) := by decide +kernel
theorem dX5_seenBy_54 : decode cX5_seenBy 54 = .ok (.iload 8, 2) := by decide +kernel
theorem dX5_seenBy_56 : decode cX5_seenBy 56 = .ok (.baload, 1) := by decide +kernel
theorem dX5_seenBy_57 : decode cX5_seenBy 57 = .ok (.iload 8, 2) := by decide +kernel
theorem dX5_seenBy_59 : decode cX5_seenBy 59 = .ok (.bipush 64, 2) := by decide +kernel
theorem dX5_seenBy_61 : decode cX5_seenBy 61 = .ok (.invokestatic 142, 3) := by decide +kernel
theorem dX5_seenBy_64 : decode cX5_seenBy 64 = .ok (.iaload, 1) := by decide +kernel
theorem dX5_seenBy_65 : decode cX5_seenBy 65 = .ok (.istore 9, 2) := by decide +kernel
theorem dX5_seenBy_67 : decode cX5_seenBy 67 = .ok (.aload_n 0, 1) := by decide +kernel
theorem dX5_seenBy_68 : decode cX5_seenBy 68 = .ok (.getfield 26, 3) := by decide +kernel
theorem dX5_seenBy_71 : decode cX5_seenBy 71 = .ok (.getfield 51, 3) := by decide +kernel
theorem dX5_seenBy_74 : decode cX5_seenBy 74 = .ok (.aload_n 1, 1) := by decide +kernel
theorem dX5_seenBy_75 : decode cX5_seenBy 75 = .ok (.getfield 42, 3) := by decide +kernel
theorem dX5_seenBy_78 : decode cX5_seenBy 78 = .ok (.iload 8, 2) := by decide +kernel
theorem dX5_seenBy_80 : decode cX5_seenBy 80 = .ok (.baload, 1) := by decide +kernel
theorem dX5_seenBy_81 : decode cX5_seenBy 81 = .ok (.iload 8, 2) := by decide +kernel
theorem dX5_seenBy_83 : decode cX5_seenBy 83 = .ok (.iconst 0, 1) := by decide +kernel
theorem dX5_seenBy_84 : decode cX5_seenBy 84 = .ok (.invokestatic 142, 3) := by decide +kernel
theorem dX5_seenBy_87 : decode cX5_seenBy 87 = .ok (.iaload, 1) := by decide +kernel
theorem dX5_seenBy_88 : decode cX5_seenBy 88 = .ok (.istore 10, 2) := by decide +kernel
theorem dX5_seenBy_90 : decode cX5_seenBy 90 = .ok (.iload 10, 2) := by decide +kernel
theorem dX5_seenBy_92 : decode cX5_seenBy 92 = .ok (.iload 9, 2) := by decide +kernel
theorem dX5_seenBy_94 : decode cX5_seenBy 94 = .ok (.if_icmp .ge 38, 3) := by decide +kernel
theorem dX5_seenBy_97 : decode cX5_seenBy 97 = .ok (.aload_n 0, 1) := by decide +kernel
theorem dX5_seenBy_98 : decode cX5_seenBy 98 = .ok (.aload_n 1, 1) := by decide +kernel
theorem dX5_seenBy_99 : decode cX5_seenBy 99 = .ok (.iload 10, 2) := by decide +kernel
theorem dX5_seenBy_101 : decode cX5_seenBy 101 = .ok (.iload_n 2, 1) := by decide +kernel
theorem dX5_seenBy_102 : decode cX5_seenBy 102 = .ok (.invokevirtual 153, 3) := by decide +kernel
theorem dX5_seenBy_105 : decode cX5_seenBy 105 = .ok (.ifCond .eq 21, 3) := by decide +kernel
theorem dX5_seenBy_108 : decode cX5_seenBy 108 = .ok (.lload_n 3, 1) := by decide +kernel
theorem dX5_seenBy_109 : decode cX5_seenBy 109 = .ok (.lconst 1, 1) := by decide +kernel
theorem dX5_seenBy_110 : decode cX5_seenBy 110 = .ok (.aload_n 0, 1) := by decide +kernel
theorem dX5_seenBy_111 : decode cX5_seenBy 111 = .ok (.getfield 26, 3) := by decide +kernel
theorem dX5_seenBy_114 : decode cX5_seenBy 114 = .ok (.getfield 54, 3) := by decide +kernel
theorem dX5_seenBy_117 : decode cX5_seenBy 117 = .ok (.iload 10, 2) := by decide +kernel
theorem dX5_seenBy_119 : decode cX5_seenBy 119 = .ok (.iaload, 1) := by decide +kernel
theorem dX5_seenBy_120 : decode cX5_seenBy 120 = .ok (.bipush 63, 2) := by decide +kernel
theorem dX5_seenBy_122 : decode cX5_seenBy 122 = .ok (.iand, 1) := by decide +kernel
theorem dX5_seenBy_123 : decode cX5_seenBy 123 = .ok (.lshl, 1) := by decide +kernel
theorem dX5_seenBy_124 : decode cX5_seenBy 124 = .ok (.lor, 1) := by decide +kernel
theorem dX5_seenBy_125 : decode cX5_seenBy 125 = .ok (.lstore_n 3, 1) := by decide +kernel
theorem dX5_seenBy_126 : decode cX5_seenBy 126 = .ok (.iinc 10 1, 3) := by decide +kernel
theorem dX5_seenBy_129 : decode cX5_seenBy 129 = .ok (.goto (-39), 3) := by decide +kernel
theorem dX5_seenBy_132 : decode cX5_seenBy 132 = .ok (.iinc 7 1, 3) := by decide +kernel
theorem dX5_seenBy_135 : decode cX5_seenBy 135 = .ok (.goto (-122), 3) := by decide +kernel
theorem dX5_seenBy_138 : decode cX5_seenBy 138 = .ok (.lload_n 3, 1) := by decide +kernel
theorem dX5_seenBy_139 : decode cX5_seenBy 139 = .ok (.lreturn, 1) := by decide +kernel
set_option maxRecDepth 20000 in
theorem moX5_seenBy_138 {o : Int64 × Hp} {F : Nat} {h : Hp} {x3 : Int64} (hE : sX5_seenBy_138 F h x3 = some o) : Le h o.2 := by
  exact le_some2 hE
set_option maxRecDepth 20000 in
theorem moX5_seenBy_126 {o : Int64 × Hp} {k_13 : Hp → Nat → Nat → Int32 → Int64 → Int64 → Int32 → Option (Int64 × Hp)} {k_90 : Hp → Nat → Nat → Int32 → Int64 → Int64 → Int32 → Int32 → Int32 → Option (Int64 × Hp)} {F : Nat} (mk_13 : ∀ (h : Hp) (x0 : Nat) (x1 : Nat) (x2 : Int32) (x3 : Int64) (x5 : Int64) (x7 : Int32), k_13 h x0 x1 x2 x3 x5 x7 = some o → Le h o.2) (mk_90 : ∀ (h : Hp) (x0 : Nat) (x1 : Nat) (x2 : Int32) (x3 : Int64) (x5 : Int64) (x7 : Int32) (x9 : Int32) (x10 : Int32), k_90 h x0 x1 x2 x3 x5 x7 x9 x10 = some o → Le h o.2) {h : Hp} {x0 : Nat} {x1 : Nat} {x2 : Int32} {x3 : Int64} {x5 : Int64} {x7 : Int32} {x9 : Int32} {x10 : Int32} (hE : sX5_seenBy_126 F k_13 k_90 h x0 x1 x2 x3 x5 x7 x9 x10 = some o) : Le h o.2 := by
  obtain ⟨v_1, ev_1, hE⟩ := nm_e2 hE
  exact mk_90 _ _ _ _ _ _ _ _ _ hE
set_option maxRecDepth 20000 in
theorem moX5_seenBy_90 {o : Int64 × Hp} {k_13 : Hp → Nat → Nat → Int32 → Int64 → Int64 → Int32 → Option (Int64 × Hp)} {F : Nat} (mk_13 : ∀ (h : Hp) (x0 : Nat) (x1 : Nat) (x2 : Int32) (x3 : Int64) (x5 : Int64) (x7 : Int32), k_13 h x0 x1 x2 x3 x5 x7 = some o → Le h o.2) : ∀ (f : Nat) {h : Hp} {x0 : Nat} {x1 : Nat} {x2 : Int32} {x3 : Int64} {x5 : Int64} {x7 : Int32} {x9 : Int32} {x10 : Int32}, sX5_seenBy_90 F k_13 f h x0 x1 x2 x3 x5 x7 x9 x10 = some o → Le h o.2 := by
  intro f
  induction f with
  | zero =>
    intro h x0 x1 x2 x3 x5 x7 x9 x10 hE
    rw [sX5_seenBy_90] at hE
    cases hE
  | succ f ih =>
    intro h x0 x1 x2 x3 x5 x7 x9 x10 hE
    rw [sX5_seenBy_90] at hE
    have mk_90 : ∀ (h : Hp) (x0 : Nat) (x1 : Nat) (x2 : Int32) (x3 : Int64) (x5 : Int64) (x7 : Int32) (x9 : Int32) (x10 : Int32), sX5_seenBy_90 F k_13 f h x0 x1 x2 x3 x5 x7 x9 x10 = some o → Le h o.2 := fun h x0 x1 x2 x3 x5 x7 x9 x10 hE => ih hE
    rcases br_e hE with ⟨_, hE⟩ | ⟨_, hE⟩
    · obtain ⟨v_2, ev_2, hE⟩ := nm_e2 hE
      exact mk_13 _ _ _ _ _ _ _ hE
    · obtain ⟨o_3, eo_3, hE⟩ := cl_e hE
      refine (moX5_leads eo_3).tr ?_
      rcases br_e hE with ⟨_, hE⟩ | ⟨_, hE⟩
      · exact moX5_seenBy_126 mk_13 mk_90 hE
      · obtain ⟨r_5, er_5, hE⟩ := cl_e hE
        obtain ⟨r_6, er_6, hE⟩ := cl_e hE
        obtain ⟨g_7, hE⟩ := gd_e hE
        obtain ⟨v_8, ev_8, hE⟩ := nm_e2 hE
        exact moX5_seenBy_126 mk_13 mk_90 hE
set_option maxRecDepth 20000 in
theorem moX5_seenBy_13 {o : Int64 × Hp} {F : Nat} : ∀ (f : Nat) {h : Hp} {x0 : Nat} {x1 : Nat} {x2 : Int32} {x3 : Int64} {x5 : Int64} {x7 : Int32}, sX5_seenBy_13 F f h x0 x1 x2 x3 x5 x7 = some o → Le h o.2 := by
  intro f
  induction f with
  | zero =>
    intro h x0 x1 x2 x3 x5 x7 hE
    rw [sX5_seenBy_13] at hE
    cases hE
  | succ f ih =>
    intro h x0 x1 x2 x3 x5 x7 hE
    rw [sX5_seenBy_13] at hE
    have mk_13 : ∀ (h : Hp) (x0 : Nat) (x1 : Nat) (x2 : Int32) (x3 : Int64) (x5 : Int64) (x7 : Int32), sX5_seenBy_13 F f h x0 x1 x2 x3 x5 x7 = some o → Le h o.2 := fun h x0 x1 x2 x3 x5 x7 hE => ih hE
    rcases br_e hE with ⟨_, hE⟩ | ⟨_, hE⟩
    · exact moX5_seenBy_138 hE
    · rcases br_e hE with ⟨_, hE⟩ | ⟨_, hE⟩
      · exact moX5_seenBy_138 hE
      · obtain ⟨o_3, eo_3, hE⟩ := cl_e hE
        refine (moX11_lowest eo_3).tr ?_
        obtain ⟨v_4, ev_4, hE⟩ := nm_e2 hE
        obtain ⟨r_5, er_5, hE⟩ := cl_e hE
        obtain ⟨r_6, er_6, hE⟩ := cl_e hE
        obtain ⟨r_7, er_7, hE⟩ := cl_e hE
        obtain ⟨g_8, hE⟩ := gd_e hE
        obtain ⟨o_9, eo_9, hE⟩ := cl_e hE
        refine (moX10_cell eo_9).tr ?_
        obtain ⟨g_10, hE⟩ := gd_e hE
        obtain ⟨v_11, ev_11, hE⟩ := nm_e2 hE
        obtain ⟨r_12, er_12, hE⟩ := cl_e hE
        obtain ⟨r_13, er_13, hE⟩ := cl_e hE
        obtain ⟨r_14, er_14, hE⟩ := cl_e hE
        obtain ⟨g_15, hE⟩ := gd_e hE
        obtain ⟨o_16, eo_16, hE⟩ := cl_e hE
        refine (moX10_cell eo_16).tr ?_
        obtain ⟨g_17, hE⟩ := gd_e hE
        obtain ⟨v_18, ev_18, hE⟩ := nm_e2 hE
        exact moX5_seenBy_90 mk_13 _ hE
set_option maxRecDepth 20000 in
theorem moX5_seenBy {o : Int64 × Hp} {F : Nat} {h : Hp} {x0 : Nat} {x1 : Nat} {x2 : Int32} (hE : sX5_seenBy F h x0 x1 x2 = some o) : Le h o.2 := by
  obtain ⟨r_1, er_1, hE⟩ := cl_e hE
  obtain ⟨g_2, hE⟩ := gd_e hE
  obtain ⟨v_3, ev_3, hE⟩ := nm_e2 hE
  exact moX5_seenBy_13 _ hE
set_option maxRecDepth 20000 in
theorem bX5_seenBy_138 {p : Program} {l : Launch} {e : Env} {s : State} {m : MethodId} {args : Array Value} {below : List Frame} {meth : Method} {c : Code} {X : Ec} {h0 : Hp} {o : Int64 × Hp} {F : Nat} (C : Cx X p s m args meth c RX5 cX5_seenBy 11 (some .long) "seenBy") {h : Hp} {x3 : Int64} {H : Heap} {locs : List Loc} (hkm : Km h0 h) (hW : Wx X h H) (hZ : va_S (aA (eB X)) s.heap H locs) (ls : Array Slot) (hl : lv_has ls 11 [(3, .long x3)]) (hE : sX5_seenBy_138 F h x3 = some o) : W p l e (rm 2 52) s m args below meth c H locs 0 0 (MQ below (QJ X h0 o.1 o.2) args s 0 0 (aA (eB X))) (F0 m 138 ls []) := by
  refine lv_lload_n C.1 C.2.1 dX5_seenBy_138 rfl (lv_at hl 0 rfl) ?_
  exact x_lret C rfl hW hZ hkm hE dX5_seenBy_139
set_option maxRecDepth 20000 in
theorem bX5_seenBy_126 {p : Program} {l : Launch} {e : Env} {s : State} {m : MethodId} {args : Array Value} {below : List Frame} {meth : Method} {c : Code} {X : Ec} {h0 : Hp} {o : Int64 × Hp} {k_13 : Hp → Nat → Nat → Int32 → Int64 → Int64 → Int32 → Option (Int64 × Hp)} {k_90 : Hp → Nat → Nat → Int32 → Int64 → Int64 → Int32 → Int32 → Int32 → Option (Int64 × Hp)} {F : Nat} (C : Cx X p s m args meth c RX5 cX5_seenBy 11 (some .long) "seenBy") (hk_13 : ∀ (h : Hp) (x0 : Nat) (x1 : Nat) (x2 : Int32) (x3 : Int64) (x5 : Int64) (x7 : Int32) (H : Heap) (locs : List Loc), hK h x0 = 5 → hK h x1 = 3 → Km h0 h → Wx X h H → va_S (aA (eB X)) s.heap H locs → ∀ (ls : Array Slot), lv_has ls 11 [(0, .ref x0), (1, .ref x1), (2, .int x2), (3, .long x3), (5, .long x5), (7, .int x7)] → k_13 h x0 x1 x2 x3 x5 x7 = some o → W p l e (rm 2 52) s m args below meth c H locs 0 0 (MQ below (QJ X h0 o.1 o.2) args s 0 0 (aA (eB X))) (F0 m 13 ls [])) (hk_90 : ∀ (h : Hp) (x0 : Nat) (x1 : Nat) (x2 : Int32) (x3 : Int64) (x5 : Int64) (x7 : Int32) (x9 : Int32) (x10 : Int32) (H : Heap) (locs : List Loc), hK h x0 = 5 → hK h x1 = 3 → Km h0 h → Wx X h H → va_S (aA (eB X)) s.heap H locs → ∀ (ls : Array Slot), lv_has ls 11 [(0, .ref x0), (1, .ref x1), (2, .int x2), (3, .long x3), (5, .long x5), (7, .int x7), (9, .int x9), (10, .int x10)] → k_90 h x0 x1 x2 x3 x5 x7 x9 x10 = some o → W p l e (rm 2 52) s m args below meth c H locs 0 0 (MQ below (QJ X h0 o.1 o.2) args s 0 0 (aA (eB X))) (F0 m 90 ls [])) {h : Hp} {x0 : Nat} {x1 : Nat} {x2 : Int32} {x3 : Int64} {x5 : Int64} {x7 : Int32} {x9 : Int32} {x10 : Int32} {H : Heap} {locs : List Loc} (k_x0 : hK h x0 = 5) (k_x1 : hK h x1 = 3) (hkm : Km h0 h) (hW : Wx X h H) (hZ : va_S (aA (eB X)) s.heap H locs) (ls : Array Slot) (hl : lv_has ls 11 [(0, .ref x0), (1, .ref x1), (2, .int x2), (3, .long x3), (5, .long x5), (7, .int x7), (9, .int x9), (10, .int x10)]) (hE : sX5_seenBy_126 F k_13 k_90 h x0 x1 x2 x3 x5 x7 x9 x10 = some o) : W p l e (rm 2 52) s m args below meth c H locs 0 0 (MQ below (QJ X h0 o.1 o.2) args s 0 0 (aA (eB X))) (F0 m 126 ls []) := by
  obtain ⟨v_1, ev_1, hE⟩ := nm_e2 hE
  refine lv_iinc (v := v_1) (lv' := [(10, .int v_1), (0, .ref x0), (1, .ref x1), (2, .int x2), (3, .long x3), (5, .long x5), (7, .int x7), (9, .int x9)]) C.1 C.2.1 dX5_seenBy_126 hl (k := 7) rfl (by rw [ev_1]; rfl) (by decide) rfl (fun ls hl => ?_)
  refine lv_goto (tgt := 90) C.1 C.2.1 dX5_seenBy_129 (by decide) ?_
  exact hk_90 _ _ _ _ _ _ _ _ _ _ _ k_x0 k_x1 hkm hW hZ _ (lv_sub hl [1, 2, 3, 4, 5, 6, 7, 0] rfl) hE
set_option maxRecDepth 20000 in
theorem bX5_seenBy_90 {p : Program} {l : Launch} {e : Env} {s : State} {m : MethodId} {args : Array Value} {below : List Frame} {meth : Method} {c : Code} {X : Ec} {h0 : Hp} {o : Int64 × Hp} {k_13 : Hp → Nat → Nat → Int32 → Int64 → Int64 → Int32 → Option (Int64 × Hp)} {F : Nat} (C : Cx X p s m args meth c RX5 cX5_seenBy 11 (some .long) "seenBy") (hk_13 : ∀ (h : Hp) (x0 : Nat) (x1 : Nat) (x2 : Int32) (x3 : Int64) (x5 : Int64) (x7 : Int32) (H : Heap) (locs : List Loc), hK h x0 = 5 → hK h x1 = 3 → Km h0 h → Wx X h H → va_S (aA (eB X)) s.heap H locs → ∀ (ls : Array Slot), lv_has ls 11 [(0, .ref x0), (1, .ref x1), (2, .int x2), (3, .long x3), (5, .long x5), (7, .int x7)] → k_13 h x0 x1 x2 x3 x5 x7 = some o → W p l e (rm 2 52) s m args below meth c H locs 0 0 (MQ below (QJ X h0 o.1 o.2) args s 0 0 (aA (eB X))) (F0 m 13 ls [])) : ∀ (f : Nat) {h : Hp} {x0 : Nat} {x1 : Nat} {x2 : Int32} {x3 : Int64} {x5 : Int64} {x7 : Int32} {x9 : Int32} {x10 : Int32} {H : Heap} {locs : List Loc} (k_x0 : hK h x0 = 5) (k_x1 : hK h x1 = 3), Km h0 h → Wx X h H → va_S (aA (eB X)) s.heap H locs → ∀ (ls : Array Slot), lv_has ls 11 [(0, .ref x0), (1, .ref x1), (2, .int x2), (3, .long x3), (5, .long x5), (7, .int x7), (9, .int x9), (10, .int x10)] → sX5_seenBy_90 F k_13 f h x0 x1 x2 x3 x5 x7 x9 x10 = some o → W p l e (rm 2 52) s m args below meth c H locs 0 0 (MQ below (QJ X h0 o.1 o.2) args s 0 0 (aA (eB X))) (F0 m 90 ls []) := by
  intro f
  induction f with
  | zero =>
    intro h x0 x1 x2 x3 x5 x7 x9 x10 H locs k_x0 k_x1 hkm hW hZ ls hl hE
    rw [sX5_seenBy_90] at hE
    cases hE
  | succ f ih =>
    intro h x0 x1 x2 x3 x5 x7 x9 x10 H locs k_x0 k_x1 hkm hW hZ ls hl hE
    rw [sX5_seenBy_90] at hE
    have hk_90 : ∀ (h : Hp) (x0 : Nat) (x1 : Nat) (x2 : Int32) (x3 : Int64) (x5 : Int64) (x7 : Int32) (x9 : Int32) (x10 : Int32) (H : Heap) (locs : List Loc), hK h x0 = 5 → hK h x1 = 3 → Km h0 h → Wx X h H → va_S (aA (eB X)) s.heap H locs → ∀ (ls : Array Slot), lv_has ls 11 [(0, .ref x0), (1, .ref x1), (2, .int x2), (3, .long x3), (5, .long x5), (7, .int x7), (9, .int x9), (10, .int x10)] → sX5_seenBy_90 F k_13 f h x0 x1 x2 x3 x5 x7 x9 x10 = some o → W p l e (rm 2 52) s m args below meth c H locs 0 0 (MQ below (QJ X h0 o.1 o.2) args s 0 0 (aA (eB X))) (F0 m 90 ls []) := fun h x0 x1 x2 x3 x5 x7 x9 x10 H locs k_x0 k_x1 a b c ls hl hE => ih k_x0 k_x1 a b c ls hl hE
    refine lv_iload C.1 C.2.1 dX5_seenBy_90 (lv_at hl 7 rfl) ?_
    refine lv_iload C.1 C.2.1 dX5_seenBy_92 (lv_at hl 6 rfl) ?_
    refine lv_icmp_ge (tgt := 132) C.1 C.2.1 dX5_seenBy_94 (by decide) (fun c_1 => ?_) (fun c_1 => ?_)
    · have hE := br_p hE c_1
      obtain ⟨v_2, ev_2, hE⟩ := nm_e2 hE
      refine lv_iinc (v := v_2) (lv' := [(7, .int v_2), (0, .ref x0), (1, .ref x1), (2, .int x2), (3, .long x3), (5, .long x5), (9, .int x9), (10, .int x10)]) C.1 C.2.1 dX5_seenBy_132 hl (k := 5) rfl (by rw [ev_2]; rfl) (by decide) rfl (fun ls hl => ?_)
      refine lv_goto (tgt := 13) C.1 C.2.1 dX5_seenBy_135 (by decide) ?_
      exact hk_13 _ _ _ _ _ _ _ _ _ k_x0 k_x1 hkm hW hZ _ (lv_sub hl [1, 2, 3, 4, 5, 0] rfl) hE
    · have hE := br_n hE c_1
      refine lv_aload_n C.1 C.2.1 dX5_seenBy_97 rfl (lv_at hl 0 rfl) ?_
      refine lv_aload_n C.1 C.2.1 dX5_seenBy_98 rfl (lv_at hl 1 rfl) ?_
      refine lv_iload C.1 C.2.1 dX5_seenBy_99 (lv_at hl 7 rfl) ?_
      refine lv_iload_n C.1 C.2.1 dX5_seenBy_101 rfl (lv_at hl 2 rfl) ?_
      obtain ⟨o_3, eo_3, hE⟩ := cl_e hE
      refine x_kI (o := o_3) (z_runV (As := [.ref x1, .int x10, .int x2]) (rest := []) C (ct_X5_leads l X k_x0 k_x1 eo_3) cw_X5_153 hW hZ k_x0 (by decide) rfl rfl rfl hl.1 (Nat.le_of_ble_eq_true rfl) rfl dX5_seenBy_102 ⟨Nat.le_of_ble_eq_true rfl, Nat.le_of_ble_eq_true rfl⟩ ⟨Nat.le_refl _, Nat.le_refl _⟩) hZ (fun _ _ hW km hZ => ?_)
      replace hkm := hkm.tr km
      replace k_x0 := km.at k_x0 (by decide)
      replace k_x1 := km.at k_x1 (by decide)
      refine lv_if_eq (tgt := 126) C.1 C.2.1 dX5_seenBy_105 (by decide) (fun c_4 => ?_) (fun c_4 => ?_)
      · have hE := br_p hE c_4
        exact bX5_seenBy_126 C hk_13 hk_90 k_x0 k_x1 hkm hW hZ _ (lv_sub hl [0, 1, 2, 3, 4, 5, 6, 7] rfl) hE
      · have hE := br_n hE c_4
        refine lv_lload_n C.1 C.2.1 dX5_seenBy_108 rfl (lv_at hl 3 rfl) ?_
        refine lv_lconst (v := (1 : Int64)) C.1 C.2.1 dX5_seenBy_109 (by decide) ?_
        refine lv_aload_n C.1 C.2.1 dX5_seenBy_110 rfl (lv_at hl 0 rfl) ?_
        obtain ⟨r_5, er_5, hE⟩ := cl_e hE
        refine gf_X5_26 C hW k_x0 er_5 dX5_seenBy_111 (fun k_r_5 => ?_)
        obtain ⟨r_6, er_6, hE⟩ := cl_e hE
        refine gf_X5_54 C hW k_r_5 er_6 dX5_seenBy_114 (fun k_r_6 => ?_)
        refine lv_iload C.1 C.2.1 dX5_seenBy_117 (lv_at hl 7 rfl) ?_
        obtain ⟨g_7, hE⟩ := gd_e hE
        refine y_iald C hW k_r_6 g_7 dX5_seenBy_119 ?_
        refine lv_bipush (v := (63 : Int32)) C.1 C.2.1 dX5_seenBy_120 (by decide) ?_
        refine lv_iand C.1 C.2.1 dX5_seenBy_122 ?_
        refine lv_lshl C.1 C.2.1 dX5_seenBy_123 rfl ?_
        refine lv_lor C.1 C.2.1 dX5_seenBy_124 ?_
        obtain ⟨v_8, ev_8, hE⟩ := nm_e2 hE
        refine x_nmJ ev_8 ?_
        refine lv_lstore_n (lv' := [(3, .long v_8), (0, .ref x0), (1, .ref x1), (2, .int x2), (5, .long x5), (7, .int x7), (9, .int x9), (10, .int x10)]) C.1 C.2.1 dX5_seenBy_125 rfl hl (by decide) rfl (fun ls hl => ?_)
        exact bX5_seenBy_126 C hk_13 hk_90 k_x0 k_x1 hkm hW hZ _ (lv_sub hl [1, 2, 3, 0, 4, 5, 6, 7] rfl) hE
set_option maxRecDepth 20000 in
theorem bX5_seenBy_13 {p : Program} {l : Launch} {e : Env} {s : State} {m : MethodId} {args : Array Value} {below : List Frame} {meth : Method} {c : Code} {X : Ec} {h0 : Hp} {o : Int64 × Hp} {F : Nat} (C : Cx X p s m args meth c RX5 cX5_seenBy 11 (some .long) "seenBy") : ∀ (f : Nat) {h : Hp} {x0 : Nat} {x1 : Nat} {x2 : Int32} {x3 : Int64} {x5 : Int64} {x7 : Int32} {H : Heap} {locs : List Loc} (k_x0 : hK h x0 = 5) (k_x1 : hK h x1 = 3), Km h0 h → Wx X h H → va_S (aA (eB X)) s.heap H locs → ∀ (ls : Array Slot), lv_has ls 11 [(0, .ref x0), (1, .ref x1), (2, .int x2), (3, .long x3), (5, .long x5), (7, .int x7)] → sX5_seenBy_13 F f h x0 x1 x2 x3 x5 x7 = some o → W p l e (rm 2 52) s m args below meth c H locs 0 0 (MQ below (QJ X h0 o.1 o.2) args s 0 0 (aA (eB X))) (F0 m 13 ls []) := by
  intro f
  induction f with
  | zero =>
    intro h x0 x1 x2 x3 x5 x7 H locs k_x0 k_x1 hkm hW hZ ls hl hE
    rw [sX5_seenBy_13] at hE
    cases hE
  | succ f ih =>
    intro h x0 x1 x2 x3 x5 x7 H locs k_x0 k_x1 hkm hW hZ ls hl hE
    rw [sX5_seenBy_13] at hE
    have hk_13 : ∀ (h : Hp) (x0 : Nat) (x1 : Nat) (x2 : Int32) (x3 : Int64) (x5 : Int64) (x7 : Int32) (H : Heap) (locs : List Loc), hK h x0 = 5 → hK h x1 = 3 → Km h0 h → Wx X h H → va_S (aA (eB X)) s.heap H locs → ∀ (ls : Array Slot), lv_has ls 11 [(0, .ref x0), (1, .ref x1), (2, .int x2), (3, .long x3), (5, .long x5), (7, .int x7)] → sX5_seenBy_13 F f h x0 x1 x2 x3 x5 x7 = some o → W p l e (rm 2 52) s m args below meth c H locs 0 0 (MQ below (QJ X h0 o.1 o.2) args s 0 0 (aA (eB X))) (F0 m 13 ls []) := fun h x0 x1 x2 x3 x5 x7 H locs k_x0 k_x1 a b c ls hl hE => ih k_x0 k_x1 a b c ls hl hE
    refine lv_iload C.1 C.2.1 dX5_seenBy_13 (lv_at hl 5 rfl) ?_
    refine lv_bipush (v := (64 : Int32)) C.1 C.2.1 dX5_seenBy_15 (by decide) ?_
    refine lv_icmp_ge (tgt := 138) C.1 C.2.1 dX5_seenBy_17 (by decide) (fun c_1 => ?_) (fun c_1 => ?_)
    · have hE := br_p hE c_1
      exact bX5_seenBy_138 C hkm hW hZ _ (lv_sub hl [3] rfl) hE
    · have hE := br_n hE c_1
      refine lv_lload C.1 C.2.1 dX5_seenBy_20 (lv_at hl 4 rfl) ?_
      refine lv_lconst (v := (0 : Int64)) C.1 C.2.1 dX5_seenBy_22 (by decide) ?_
      refine W.lcmp C.1 C.2.1 dX5_seenBy_23 ?_
      refine lv_if_eq (tgt := 138) C.1 C.2.1 dX5_seenBy_24 (by decide) (fun c_2 => ?_) (fun c_2 => ?_)
      · have hE := br_p hE c_2
        exact bX5_seenBy_138 C hkm hW hZ _ (lv_sub hl [3] rfl) hE
      · have hE := br_n hE c_2
        refine lv_lload C.1 C.2.1 dX5_seenBy_27 (lv_at hl 4 rfl) ?_
        obtain ⟨o_3, eo_3, hE⟩ := cl_e hE
        refine x_kI (o := o_3) (x_runSN (As := [.long x5]) (rest := []) C (ct_X11_lowest l X eo_3) cn_X5_85 hW hZ rfl hl.1 (Nat.le_of_ble_eq_true rfl) rfl dX5_seenBy_29 ⟨Nat.le_of_ble_eq_true rfl, Nat.le_of_ble_eq_true rfl⟩ ⟨Nat.le_refl _, Nat.le_refl _⟩) hZ (fun _ _ hW km hZ => ?_)
        replace hkm := hkm.tr km
        replace k_x0 := km.at k_x0 (by decide)
        replace k_x1 := km.at k_x1 (by decide)
        refine lv_istore (lv' := [(8, .int o_3.1), (0, .ref x0), (1, .ref x1), (2, .int x2), (3, .long x3), (5, .long x5), (7, .int x7)]) C.1 C.2.1 dX5_seenBy_32 hl (by decide) rfl (fun ls hl => ?_)
        refine lv_lload C.1 C.2.1 dX5_seenBy_34 (lv_at hl 5 rfl) ?_
        refine lv_lload C.1 C.2.1 dX5_seenBy_36 (lv_at hl 5 rfl) ?_
        refine lv_lconst (v := (1 : Int64)) C.1 C.2.1 dX5_seenBy_38 (by decide) ?_
        refine lv_lsub C.1 C.2.1 dX5_seenBy_39 ?_
        refine lv_land C.1 C.2.1 dX5_seenBy_40 ?_
        obtain ⟨v_4, ev_4, hE⟩ := nm_e2 hE
        refine x_nmJ ev_4 ?_
        refine lv_lstore (lv' := [(5, .long v_4), (8, .int o_3.1), (0, .ref x0), (1, .ref x1), (2, .int x2), (3, .long x3), (7, .int x7)]) C.1 C.2.1 dX5_seenBy_41 hl (by decide) rfl (fun ls hl => ?_)
        refine lv_aload_n C.1 C.2.1 dX5_seenBy_43 rfl (lv_at hl 2 rfl) ?_
        obtain ⟨r_5, er_5, hE⟩ := cl_e hE
        refine gf_X5_26 C hW k_x0 er_5 dX5_seenBy_44 (fun k_r_5 => ?_)
        obtain ⟨r_6, er_6, hE⟩ := cl_e hE
        refine gf_X5_51 C hW k_r_5 er_6 dX5_seenBy_47 (fun k_r_6 => ?_)
        refine lv_aload_n C.1 C.2.1 dX5_seenBy_50 rfl (lv_at hl 3 rfl) ?_
        obtain ⟨r_7, er_7, hE⟩ := cl_e hE
        refine gf_X5_42 C hW k_x1 er_7 dX5_seenBy_51 (fun k_r_7 => ?_)
        refine lv_iload C.1 C.2.1 dX5_seenBy_54 (lv_at hl 1 rfl) ?_
        obtain ⟨g_8, hE⟩ := gd_e hE
        refine y_bald C hW k_r_7 g_8 dX5_seenBy_56 ?_
        refine lv_iload C.1 C.2.1 dX5_seenBy_57 (lv_at hl 1 rfl) ?_
        refine lv_bipush (v := (64 : Int32)) C.1 C.2.1 dX5_seenBy_59 (by decide) ?_
        obtain ⟨o_9, eo_9, hE⟩ := cl_e hE
        refine x_kI (o := o_9) (z_runS (As := [.int (hI o_3.2 r_7 o_3.1.toNatClampNeg), .int o_3.1, .int (64 : Int32)]) (rest := [.ref r_6]) C (ct_X10_cell l X eo_9) cw_X5_142 hW hZ rfl hl.1 (Nat.le_of_ble_eq_true rfl) rfl dX5_seenBy_61 ⟨Nat.le_of_ble_eq_true rfl, Nat.le_of_ble_eq_true rfl⟩ ⟨Nat.le_refl _, Nat.le_refl _⟩) hZ (fun _ _ hW km hZ => ?_)
        replace hkm := hkm.tr km
        replace k_x0 := km.at k_x0 (by decide)
        replace k_x1 := km.at k_x1 (by decide)
        replace k_r_6 := km.at k_r_6 (by decide)
        obtain ⟨g_10, hE⟩ := gd_e hE
        refine y_iald C hW k_r_6 g_10 dX5_seenBy_64 ?_
        obtain ⟨v_11, ev_11, hE⟩ := nm_e2 hE
        refine x_nmI ev_11 ?_
        refine lv_istore (lv' := [(9, .int v_11), (5, .long v_4), (8, .int o_3.1), (0, .ref x0), (1, .ref x1), (2, .int x2), (3, .long x3), (7, .int x7)]) C.1 C.2.1 dX5_seenBy_65 hl (by decide) rfl (fun ls hl => ?_)
        refine lv_aload_n C.1 C.2.1 dX5_seenBy_67 rfl (lv_at hl 3 rfl) ?_
        obtain ⟨r_12, er_12, hE⟩ := cl_e hE
        refine gf_X5_26 C hW k_x0 er_12 dX5_seenBy_68 (fun k_r_12 => ?_)
        obtain ⟨r_13, er_13, hE⟩ := cl_e hE
        refine gf_X5_51 C hW k_r_12 er_13 dX5_seenBy_71 (fun k_r_13 => ?_)
        refine lv_aload_n C.1 C.2.1 dX5_seenBy_74 rfl (lv_at hl 4 rfl) ?_
        obtain ⟨r_14, er_14, hE⟩ := cl_e hE
        refine gf_X5_42 C hW k_x1 er_14 dX5_seenBy_75 (fun k_r_14 => ?_)
        refine lv_iload C.1 C.2.1 dX5_seenBy_78 (lv_at hl 2 rfl) ?_
        obtain ⟨g_15, hE⟩ := gd_e hE
        refine y_bald C hW k_r_14 g_15 dX5_seenBy_80 ?_
        refine lv_iload C.1 C.2.1 dX5_seenBy_81 (lv_at hl 2 rfl) ?_
        refine lv_iconst (v := (0 : Int32)) C.1 C.2.1 dX5_seenBy_83 (by decide) ?_
        obtain ⟨o_16, eo_16, hE⟩ := cl_e hE
        refine x_kI (o := o_16) (z_runS (As := [.int (hI o_9.2 r_14 o_3.1.toNatClampNeg), .int o_3.1, .int (0 : Int32)]) (rest := [.ref r_13]) C (ct_X10_cell l X eo_16) cw_X5_142 hW hZ rfl hl.1 (Nat.le_of_ble_eq_true rfl) rfl dX5_seenBy_84 ⟨Nat.le_of_ble_eq_true rfl, Nat.le_of_ble_eq_true rfl⟩ ⟨Nat.le_refl _, Nat.le_refl _⟩) hZ (fun _ _ hW km hZ => ?_)
        replace hkm := hkm.tr km
        replace k_x0 := km.at k_x0 (by decide)
        replace k_x1 := km.at k_x1 (by decide)
        replace k_r_13 := km.at k_r_13 (by decide)
        obtain ⟨g_17, hE⟩ := gd_e hE
        refine y_iald C hW k_r_13 g_17 dX5_seenBy_87 ?_
        obtain ⟨v_18, ev_18, hE⟩ := nm_e2 hE
        refine x_nmI ev_18 ?_
        refine lv_istore (lv' := [(10, .int v_18), (9, .int v_11), (5, .long v_4), (8, .int o_3.1), (0, .ref x0), (1, .ref x1), (2, .int x2), (3, .long x3), (7, .int x7)]) C.1 C.2.1 dX5_seenBy_88 hl (by decide) rfl (fun ls hl => ?_)
        exact bX5_seenBy_90 C hk_13 F k_x0 k_x1 hkm hW hZ _ (lv_sub hl [4, 5, 6, 7, 2, 8, 1, 0] rfl) hE
set_option maxRecDepth 20000 in
theorem ct_X5_seenBy (l : Launch) (X : Ec) (F : Nat) {h : Hp} {x0 : Nat} {x1 : Nat} {x2 : Int32} {o : Int64 × Hp} (k_x0 : hK h x0 = 5) (k_x1 : hK h x1 = 3) (hE : sX5_seenBy F h x0 x1 x2 = some o) : MetJ l yX5_seenBy cX5_seenBy 11 (some .long) 2 52 X [.ref x0, .ref x1, .int x2] h o := by
  refine x_met (by decide) (Nat.le_of_ble_eq_true rfl) ?_
  intro p e s m below meth c ls C hl hW hZ
  have hl : lv_has ls 11 [(0, .ref x0), (1, .ref x1), (2, .int x2)] := hl
  have hkm : Km h h := Km.rf h
  refine lv_aload_n C.1 C.2.1 dX5_seenBy_0 rfl (lv_at hl 1 rfl) ?_
  obtain ⟨r_1, er_1, hE⟩ := cl_e hE
  refine gf_X5_33 C hW k_x1 er_1 dX5_seenBy_1 (fun k_r_1 => ?_)
  refine lv_iload_n C.1 C.2.1 dX5_seenBy_4 rfl (lv_at hl 2 rfl) ?_
  obtain ⟨g_2, hE⟩ := gd_e hE
  refine y_lald C hW k_r_1 g_2 dX5_seenBy_5 ?_
  obtain ⟨v_3, ev_3, hE⟩ := nm_e2 hE
  refine x_nmJ ev_3 ?_
  refine lv_lstore_n (lv' := [(3, .long v_3), (0, .ref x0), (1, .ref x1), (2, .int x2)]) C.1 C.2.1 dX5_seenBy_6 rfl hl (by decide) rfl (fun ls hl => ?_)
  refine lv_lload_n C.1 C.2.1 dX5_seenBy_7 rfl (lv_at hl 0 rfl) ?_
  refine lv_lstore (lv' := [(5, .long v_3), (3, .long v_3), (0, .ref x0), (1, .ref x1), (2, .int x2)]) C.1 C.2.1 dX5_seenBy_8 hl (by decide) rfl (fun ls hl => ?_)
  refine lv_iconst (v := (0 : Int32)) C.1 C.2.1 dX5_seenBy_10 (by decide) ?_
  refine lv_istore (lv' := [(7, .int (0 : Int32)), (5, .long v_3), (3, .long v_3), (0, .ref x0), (1, .ref x1), (2, .int x2)]) C.1 C.2.1 dX5_seenBy_11 hl (by decide) rfl (fun ls hl => ?_)
  exact bX5_seenBy_13 C F k_x0 k_x1 hkm hW hZ _ (lv_sub hl [3, 4, 5, 2, 1, 0] rfl) hE
