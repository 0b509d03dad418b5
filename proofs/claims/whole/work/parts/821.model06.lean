set_option maxRecDepth 100000 in
theorem m_2131 : Cond.fieldLink RX15 430 (TX15 20).1 (TX15 20).2.1 (TX15 20).2.2.1 ∈ W0 := w0_in (List.mem_append_right _ (List.mem_of_getElem? (i := 2131) rfl)) rfl
section
variable {p : Program} {l : Launch} {e : Env} {R : Room} {s : State} {m : MethodId} {args : Array Value} {below : List Frame} {meth : Method} {c : Code} {H : Heap} {locs : List Loc} {cells slots : Nat} {Q : State → Prop}
variable {cc : ByteArray} {pc : Nat} {ls : Array Slot} {rest : List Value} {X : Ec} {h h1 : Hp} {nL : Nat} {rt : Option FieldType} {mn : String}
theorem pf_X15_430 {a : Nat} {v : Int32} (C : Cx X p s m args meth c RX15 cc nL rt mn) (hW : Wx X h H) (hZ : va_S (aA (eB X)) s.heap H locs) (ha : hK h a = 15) (eh : h1 = wI h a 20 v) (hdg : decode cc pc = .ok (.putfield 430, 3)) (kk : ∀ (H1 : Heap) (locs1 : List Loc), Wx X h1 H1 → Km h h1 → va_S (aA (eB X)) s.heap H1 locs1 → W p l e R s m args below meth c H1 locs1 cells slots Q (F0 m (pc + 3) ls rest)) : W p l e R s m args below meth c H locs cells slots Q (F0 m pc ls (.int v :: .ref a :: rest)) :=
  y_puti (ty := .int) C hW hZ ha i_X15 tyX15 tyX15_ok nmX15 (by decide) rfl rfl (by decide) m_2131 rfl (by decide +kernel) rfl rfl rfl eh hdg kk
theorem gf_X15_430 {a : Nat} (C : Cx X p s m args meth c RX15 cc nL rt mn) (hW : Wx X h H) (ha : hK h a = 15) (hdg : decode cc pc = .ok (.getfield 430, 3)) (kk : W p l e R s m args below meth c H locs cells slots Q (F0 m (pc + 3) ls (.int (hI h a 20) :: rest))) : W p l e R s m args below meth c H locs cells slots Q (F0 m pc ls (.ref a :: rest)) :=
  y_geti C hW ha i_X15 (by decide) rfl (by decide) m_2131 rfl hdg kk
end
theorem dX15_readSquare_0 : decode cX15_readSquare 0 = .ok (.aload_n 0, 1) := by decide +kernel
theorem dX15_readSquare_1 : decode cX15_readSquare 1 = .ok (.invokevirtual 421, 3) := by decide +kernel
theorem dX15_readSquare_4 : decode cX15_readSquare 4 = .ok (.bipush 97, 2) := by decide +kernel
theorem dX15_readSquare_6 : decode cX15_readSquare 6 = .ok (.isub, 1) := by decide +kernel
theorem dX15_readSquare_7 : decode cX15_readSquare 7 = .ok (.istore_n 2, 1) := by decide +kernel
theorem dX15_readSquare_8 : decode cX15_readSquare 8 = .ok (.aload_n 0, 1) := by decide +kernel
theorem dX15_readSquare_9 : decode cX15_readSquare 9 = .ok (.invokevirtual 421, 3) := by decide +kernel
theorem dX15_readSquare_12 : decode cX15_readSquare 12 = .ok (.iconst (-1), 1) := by decide +kernel
theorem dX15_readSquare_13 : decode cX15_readSquare 13 = .ok (.if_icmp .eq 15, 3) := by decide +kernel
theorem dX15_readSquare_16 : decode cX15_readSquare 16 = .ok (.iload_n 2, 1) := by decide +kernel
theorem dX15_readSquare_17 : decode cX15_readSquare 17 = .ok (.ifCond .lt 11, 3) := by decide +kernel
theorem dX15_readSquare_20 : decode cX15_readSquare 20 = .ok (.iload_n 2, 1) := by decide +kernel
theorem dX15_readSquare_21 : decode cX15_readSquare 21 = .ok (.aload_n 0, 1) := by decide +kernel
theorem dX15_readSquare_22 : decode cX15_readSquare 22 = .ok (.getfield 382, 3) := by decide +kernel
theorem dX15_readSquare_25 : decode cX15_readSquare 25 = .ok (.if_icmp .lt 5, 3) := by decide +kernel
theorem dX15_readSquare_28 : decode cX15_readSquare 28 = .ok (.iconst 0, 1) := by decide +kernel
theorem dX15_readSquare_29 : decode cX15_readSquare 29 = .ok (.ireturn, 1) := by decide +kernel
theorem dX15_readSquare_30 : decode cX15_readSquare 30 = .ok (.aload_n 0, 1) := by decide +kernel
theorem dX15_readSquare_31 : decode cX15_readSquare 31 = .ok (.dup, 1) := by decide +kernel
theorem dX15_readSquare_32 : decode cX15_readSquare 32 = .ok (.getfield 412, 3) := by decide +kernel
theorem dX15_readSquare_35 : decode cX15_readSquare 35 = .ok (.iconst 1, 1) := by decide +kernel
theorem dX15_readSquare_36 : decode cX15_readSquare 36 = .ok (.iadd, 1) := by decide +kernel
theorem dX15_readSquare_37 : decode cX15_readSquare 37 = .ok (.putfield 412, 3) := by decide +kernel
theorem dX15_readSquare_40 : decode cX15_readSquare 40 = .ok (.aload_n 0, 1) := by decide +kernel
theorem dX15_readSquare_41 : decode cX15_readSquare 41 = .ok (.invokevirtual 421, 3) := by decide +kernel
theorem dX15_readSquare_44 : decode cX15_readSquare 44 = .ok (.bipush 49, 2) := by decide +kernel
theorem dX15_readSquare_46 : decode cX15_readSquare 46 = .ok (.isub, 1) := by decide +kernel
theorem dX15_readSquare_47 : decode cX15_readSquare 47 = .ok (.istore_n 3, 1) := by decide +kernel
theorem dX15_readSquare_48 : decode cX15_readSquare 48 = .ok (.aload_n 0, 1) := by decide +kernel
theorem dX15_readSquare_49 : decode cX15_readSquare 49 = .ok (.invokevirtual 421, 3) := by decide +kernel
theorem dX15_readSquare_52 : decode cX15_readSquare 52 = .ok (.iconst (-1), 1) := by decide +kernel
theorem dX15_readSquare_53 : decode cX15_readSquare 53 = .ok (.if_icmp .eq 15, 3) := by decide +kernel
theorem dX15_readSquare_56 : decode cX15_readSquare 56 = .ok (.iload_n 3, 1) := by decide +kernel
theorem dX15_readSquare_57 : decode cX15_readSquare 57 = .ok (.ifCond .lt 11, 3) := by decide +kernel
theorem dX15_readSquare_60 : decode cX15_readSquare 60 = .ok (.iload_n 3, 1) := by decide +kernel
theorem dX15_readSquare_61 : decode cX15_readSquare 61 = .ok (.aload_n 0, 1) := by decide +kernel
theorem dX15_readSquare_62 : decode cX15_readSquare 62 = .ok (.getfield 383, 3) := by decide +kernel
theorem dX15_readSquare_65 : decode cX15_readSquare 65 = .ok (.if_icmp .lt 5, 3) := by decide +kernel
theorem dX15_readSquare_68 : decode cX15_readSquare 68 = .ok (.iconst 0, 1) := by decide +kernel
theorem dX15_readSquare_69 : decode cX15_readSquare 69 = .ok (.ireturn, 1) := by decide +kernel
theorem dX15_readSquare_70 : decode cX15_readSquare 70 = .ok (.aload_n 0, 1) := by decide +kernel
theorem dX15_readSquare_71 : decode cX15_readSquare 71 = .ok (.iload_n 3, 1) := by decide +kernel
theorem dX15_readSquare_72 : decode cX15_readSquare 72 = .ok (.aload_n 0, 1) := by decide +kernel
theorem dX15_readSquare_73 : decode cX15_readSquare 73 = .ok (.getfield 382, 3) := by decide +kernel
theorem dX15_readSquare_76 : decode cX15_readSquare 76 = .ok (.imul, 1) := by decide +kernel
theorem dX15_readSquare_77 : decode cX15_readSquare 77 = .ok (.iload_n 2, 1) := by decide +kernel
theorem dX15_readSquare_78 : decode cX15_readSquare 78 = .ok (.iadd, 1) := by decide +kernel
theorem dX15_readSquare_79 : decode cX15_readSquare 79 = .ok (.putfield 430, 3) := by decide +kernel
theorem dX15_readSquare_82 : decode cX15_readSquare 82 = .ok (.aload_n 0, 1) := by decide +kernel
theorem dX15_readSquare_83 : decode cX15_readSquare 83 = .ok (.getfield 430, 3) := by decide +kernel
theorem dX15_readSquare_86 : decode cX15_readSquare 86 = .ok (.iload_n 1, 1) := by decide +kernel
theorem dX15_readSquare_87 : decode cX15_readSquare 87 = .ok (.if_icmp .gt 15, 3) := by decide +kernel
theorem dX15_readSquare_90 : decode cX15_readSquare 90 = .ok (.aload_n 0, 1) := by decide +kernel
theorem dX15_readSquare_91 : decode cX15_readSquare 91 = .ok (.dup, 1) := by decide +kernel
theorem dX15_readSquare_92 : decode cX15_readSquare 92 = .ok (.getfield 412, 3) := by decide +kernel
theorem dX15_readSquare_95 : decode cX15_readSquare 95 = .ok (.iconst 1, 1) := by decide +kernel
theorem dX15_readSquare_96 : decode cX15_readSquare 96 = .ok (.isub, 1) := by decide +kernel
theorem dX15_readSquare_97 : decode cX15_readSquare 97 = .ok (.putfield 412, 3) := by decide +kernel
theorem dX15_readSquare_100 : decode cX15_readSquare 100 = .ok (.iconst 0, 1) := by decide +kernel
theorem dX15_readSquare_101 : decode cX15_readSquare 101 = .ok (.ireturn, 1) := by decide +kernel
theorem dX15_readSquare_102 : decode cX15_readSquare 102 = .ok (.aload_n 0, 1) := by decide +kernel
theorem dX15_readSquare_103 : decode cX15_readSquare 103 = .ok (.dup, 1) := by decide +kernel
theorem dX15_readSquare_104 : decode cX15_readSquare 104 = .ok (.getfield 412, 3) := by decide +kernel
theorem dX15_readSquare_107 : decode cX15_readSquare 107 = .ok (.iconst 1, 1) := by decide +kernel
theorem dX15_readSquare_108 : decode cX15_readSquare 108 = .ok (.iadd, 1) := by decide +kernel
theorem dX15_readSquare_109 : decode cX15_readSquare 109 = .ok (.putfield 412, 3) := by decide +kernel
theorem dX15_readSquare_112 : decode cX15_readSquare 112 = .ok (.iconst 1, 1) := by decide +kernel
theorem dX15_readSquare_113 : decode cX15_readSquare 113 = .ok (.ireturn, 1) := by decide +kernel
set_option maxRecDepth 20000 in
theorem moX15_readSquare_28 {o : Int32 × Hp} {h : Hp} (hE : sX15_readSquare_28 h  = some o) : Le h o.2 := by
  exact le_some2 hE
set_option maxRecDepth 20000 in
theorem moX15_readSquare_68 {o : Int32 × Hp} {h : Hp} (hE : sX15_readSquare_68 h  = some o) : Le h o.2 := by
  exact le_some2 hE
set_option maxRecDepth 20000 in
theorem moX15_readSquare {o : Int32 × Hp} {h : Hp} {x0 : Nat} {x1 : Int32} (hE : sX15_readSquare h x0 x1 = some o) : Le h o.2 := by
  obtain ⟨o_1, eo_1, hE⟩ := cl_e hE
  refine (moX15_look eo_1).tr ?_
  obtain ⟨v_2, ev_2, hE⟩ := nm_e2 hE
  obtain ⟨o_3, eo_3, hE⟩ := cl_e hE
  refine (moX15_look eo_3).tr ?_
  rcases br_e hE with ⟨_, hE⟩ | ⟨_, hE⟩
  · exact moX15_readSquare_28 hE
  · rcases br_e hE with ⟨_, hE⟩ | ⟨_, hE⟩
    · exact moX15_readSquare_28 hE
    · rcases br_e hE with ⟨_, hE⟩ | ⟨_, hE⟩
      · obtain ⟨h_7, eh_7, hE⟩ := nm_e2 hE
        refine (le_I eh_7).tr ?_
        obtain ⟨o_8, eo_8, hE⟩ := cl_e hE
        refine (moX15_look eo_8).tr ?_
        obtain ⟨v_9, ev_9, hE⟩ := nm_e2 hE
        obtain ⟨o_10, eo_10, hE⟩ := cl_e hE
        refine (moX15_look eo_10).tr ?_
        rcases br_e hE with ⟨_, hE⟩ | ⟨_, hE⟩
        · exact moX15_readSquare_68 hE
        · rcases br_e hE with ⟨_, hE⟩ | ⟨_, hE⟩
          · exact moX15_readSquare_68 hE
          · rcases br_e hE with ⟨_, hE⟩ | ⟨_, hE⟩
            · obtain ⟨h_14, eh_14, hE⟩ := nm_e2 hE
              refine (le_I eh_14).tr ?_
              rcases br_e hE with ⟨_, hE⟩ | ⟨_, hE⟩
              · obtain ⟨h_16, eh_16, hE⟩ := nm_e2 hE
                refine (le_I eh_16).tr ?_
                exact le_some2 hE
              · obtain ⟨h_17, eh_17, hE⟩ := nm_e2 hE
                refine (le_I eh_17).tr ?_
                exact le_some2 hE
            · exact moX15_readSquare_68 hE
      · exact moX15_readSquare_28 hE
set_option maxRecDepth 20000 in
theorem bX15_readSquare_28 {p : Program} {l : Launch} {e : Env} {s : State} {m : MethodId} {args : Array Value} {below : List Frame} {meth : Method} {c : Code} {X : Ec} {h0 : Hp} {o : Int32 × Hp} (C : Cx X p s m args meth c RX15 cX15_readSquare 4 (some .boolean) "readSquare") {h : Hp} {H : Heap} {locs : List Loc} (hkm : Km h0 h) (hW : Wx X h H) (hZ : va_S (aA (eB X)) s.heap H locs) (ls : Array Slot) (hl : lv_has ls 4 []) (hE : sX15_readSquare_28 h  = some o) : W p l e (rm 1 20) s m args below meth c H locs 0 0 (MQ below (QI X h0 o.1 o.2) args s 0 0 (aA (eB X))) (F0 m 28 ls []) := by
  refine lv_iconst (v := (0 : Int32)) C.1 C.2.1 dX15_readSquare_28 (by decide) ?_
  exact x_iret C rfl (by decide) hW hZ hkm hE dX15_readSquare_29
set_option maxRecDepth 20000 in
theorem bX15_readSquare_68 {p : Program} {l : Launch} {e : Env} {s : State} {m : MethodId} {args : Array Value} {below : List Frame} {meth : Method} {c : Code} {X : Ec} {h0 : Hp} {o : Int32 × Hp} (C : Cx X p s m args meth c RX15 cX15_readSquare 4 (some .boolean) "readSquare") {h : Hp} {H : Heap} {locs : List Loc} (hkm : Km h0 h) (hW : Wx X h H) (hZ : va_S (aA (eB X)) s.heap H locs) (ls : Array Slot) (hl : lv_has ls 4 []) (hE : sX15_readSquare_68 h  = some o) : W p l e (rm 1 20) s m args below meth c H locs 0 0 (MQ below (QI X h0 o.1 o.2) args s 0 0 (aA (eB X))) (F0 m 68 ls []) := by
  refine lv_iconst (v := (0 : Int32)) C.1 C.2.1 dX15_readSquare_68 (by decide) ?_
  exact x_iret C rfl (by decide) hW hZ hkm hE dX15_readSquare_69
set_option maxRecDepth 20000 in
theorem ct_X15_readSquare (l : Launch) (X : Ec) {h : Hp} {x0 : Nat} {x1 : Int32} {o : Int32 × Hp} (k_x0 : hK h x0 = 15) (hE : sX15_readSquare h x0 x1 = some o) : MetI l yX15_readSquare cX15_readSquare 4 (some .boolean) 1 20 X [.ref x0, .int x1] h o := by
  refine x_met (by decide) (Nat.le_of_ble_eq_true rfl) ?_
  intro p e s m below meth c ls C hl hW hZ
  have hl : lv_has ls 4 [(0, .ref x0), (1, .int x1)] := hl
  have hkm : Km h h := Km.rf h
  refine lv_aload_n C.1 C.2.1 dX15_readSquare_0 rfl (lv_at hl 0 rfl) ?_
  obtain ⟨o_1, eo_1, hE⟩ := cl_e hE
  refine x_kI (o := o_1) (z_runV (As := []) (rest := []) C (ct_X15_look l X k_x0 eo_1) cw_X15_421 hW hZ k_x0 (by decide) rfl rfl rfl hl.1 (Nat.le_of_ble_eq_true rfl) rfl dX15_readSquare_1 ⟨Nat.le_of_ble_eq_true rfl, Nat.le_of_ble_eq_true rfl⟩ ⟨Nat.le_refl _, Nat.le_refl _⟩) hZ (fun _ _ hW km hZ => ?_)
  replace hkm := hkm.tr km
  replace k_x0 := km.at k_x0 (by decide)
  refine lv_bipush (v := (97 : Int32)) C.1 C.2.1 dX15_readSquare_4 (by decide) ?_
  refine lv_isub C.1 C.2.1 dX15_readSquare_6 ?_
  obtain ⟨v_2, ev_2, hE⟩ := nm_e2 hE
  refine x_nmI ev_2 ?_
  refine lv_istore_n (lv' := [(2, .int v_2), (0, .ref x0), (1, .int x1)]) C.1 C.2.1 dX15_readSquare_7 rfl hl (by decide) rfl (fun ls hl => ?_)
  refine lv_aload_n C.1 C.2.1 dX15_readSquare_8 rfl (lv_at hl 1 rfl) ?_
  obtain ⟨o_3, eo_3, hE⟩ := cl_e hE
  refine x_kI (o := o_3) (z_runV (As := []) (rest := []) C (ct_X15_look l X k_x0 eo_3) cw_X15_421 hW hZ k_x0 (by decide) rfl rfl rfl hl.1 (Nat.le_of_ble_eq_true rfl) rfl dX15_readSquare_9 ⟨Nat.le_of_ble_eq_true rfl, Nat.le_of_ble_eq_true rfl⟩ ⟨Nat.le_refl _, Nat.le_refl _⟩) hZ (fun _ _ hW km hZ => ?_)
  replace hkm := hkm.tr km
  replace k_x0 := km.at k_x0 (by decide)
  refine lv_iconst (v := (-1 : Int32)) C.1 C.2.1 dX15_readSquare_12 (by decide) ?_
  refine lv_icmp_eq (tgt := 28) C.1 C.2.1 dX15_readSquare_13 (by decide) (fun c_4 => ?_) (fun c_4 => ?_)
  · have hE := br_p hE c_4
    exact bX15_readSquare_28 C hkm hW hZ _ (lv_sub hl [] rfl) hE
  · have hE := br_n hE c_4
    refine lv_iload_n C.1 C.2.1 dX15_readSquare_16 rfl (lv_at hl 0 rfl) ?_
    refine lv_if_lt (tgt := 28) C.1 C.2.1 dX15_readSquare_17 (by decide) (fun c_5 => ?_) (fun c_5 => ?_)
    · have hE := br_p hE c_5
      exact bX15_readSquare_28 C hkm hW hZ _ (lv_sub hl [] rfl) hE
    · have hE := br_n hE c_5
      refine lv_iload_n C.1 C.2.1 dX15_readSquare_20 rfl (lv_at hl 0 rfl) ?_
      refine lv_aload_n C.1 C.2.1 dX15_readSquare_21 rfl (lv_at hl 1 rfl) ?_
      refine gf_X15_382 C hW k_x0 dX15_readSquare_22 ?_
      refine lv_icmp_lt (tgt := 30) C.1 C.2.1 dX15_readSquare_25 (by decide) (fun c_6 => ?_) (fun c_6 => ?_)
      · have hE := br_p hE c_6
        refine lv_aload_n C.1 C.2.1 dX15_readSquare_30 rfl (lv_at hl 1 rfl) ?_
        refine lv_dup C.1 C.2.1 dX15_readSquare_31 rfl ?_
        refine gf_X15_412 C hW k_x0 dX15_readSquare_32 ?_
        refine lv_iconst (v := (1 : Int32)) C.1 C.2.1 dX15_readSquare_35 (by decide) ?_
        refine lv_iadd C.1 C.2.1 dX15_readSquare_36 ?_
        obtain ⟨h_7, eh_7, hE⟩ := nm_e2 hE
        refine pf_X15_412 C hW hZ k_x0 eh_7 dX15_readSquare_37 (fun _ _ hW km hZ => ?_)
        replace hkm := hkm.tr km
        replace k_x0 := km.at k_x0 (by decide)
        refine lv_aload_n C.1 C.2.1 dX15_readSquare_40 rfl (lv_at hl 1 rfl) ?_
        obtain ⟨o_8, eo_8, hE⟩ := cl_e hE
        refine x_kI (o := o_8) (z_runV (As := []) (rest := []) C (ct_X15_look l X k_x0 eo_8) cw_X15_421 hW hZ k_x0 (by decide) rfl rfl rfl hl.1 (Nat.le_of_ble_eq_true rfl) rfl dX15_readSquare_41 ⟨Nat.le_of_ble_eq_true rfl, Nat.le_of_ble_eq_true rfl⟩ ⟨Nat.le_refl _, Nat.le_refl _⟩) hZ (fun _ _ hW km hZ => ?_)
        replace hkm := hkm.tr km
        replace k_x0 := km.at k_x0 (by decide)
        refine lv_bipush (v := (49 : Int32)) C.1 C.2.1 dX15_readSquare_44 (by decide) ?_
        refine lv_isub C.1 C.2.1 dX15_readSquare_46 ?_
        obtain ⟨v_9, ev_9, hE⟩ := nm_e2 hE
        refine x_nmI ev_9 ?_
        refine lv_istore_n (lv' := [(3, .int v_9), (2, .int v_2), (0, .ref x0), (1, .int x1)]) C.1 C.2.1 dX15_readSquare_47 rfl hl (by decide) rfl (fun ls hl => ?_)
        refine lv_aload_n C.1 C.2.1 dX15_readSquare_48 rfl (lv_at hl 2 rfl) ?_
        obtain ⟨o_10, eo_10, hE⟩ := cl_e hE
        refine x_kI (o := o_10) (z_runV (As := []) (rest := []) C (ct_X15_look l X k_x0 eo_10) cw_X15_421 hW hZ k_x0 (by decide) rfl rfl rfl hl.1 (Nat.le_of_ble_eq_true rfl) rfl dX15_readSquare_49 ⟨Nat.le_of_ble_eq_true rfl, Nat.le_of_ble_eq_true rfl⟩ ⟨Nat.le_refl _, Nat.le_refl _⟩) hZ (fun _ _ hW km hZ => ?_)
        replace hkm := hkm.tr km
        replace k_x0 := km.at k_x0 (by decide)
        refine lv_iconst (v := (-1 : Int32)) C.1 C.2.1 dX15_readSquare_52 (by decide) ?_
        refine lv_icmp_eq (tgt := 68) C.1 C.2.1 dX15_readSquare_53 (by decide) (fun c_11 => ?_) (fun c_11 => ?_)
        · have hE := br_p hE c_11
          exact bX15_readSquare_68 C hkm hW hZ _ (lv_sub hl [] rfl) hE
        · have hE := br_n hE c_11
          refine lv_iload_n C.1 C.2.1 dX15_readSquare_56 rfl (lv_at hl 0 rfl) ?_
          refine lv_if_lt (tgt := 68) C.1 C.2.1 dX15_readSquare_57 (by decide) (fun c_12 => ?_) (fun c_12 => ?_)
          · have hE := br_p hE c_12
            exact bX15_readSquare_68 C hkm hW hZ _ (lv_sub hl [] rfl) hE
          · have hE := br_n hE c_12
            refine lv_iload_n C.1 C.2.1 dX15_readSquare_60 rfl (lv_at hl 0 rfl) ?_
            refine lv_aload_n C.1 C.2.1 dX15_readSquare_61 rfl (lv_at hl 2 rfl) ?_
            refine gf_X15_383 C hW k_x0 dX15_readSquare_62 ?_
            refine lv_icmp_lt (tgt := 70) C.1 C.2.1 dX15_readSquare_65 (by decide) (fun c_13 => ?_) (fun c_13 => ?_)
            · have hE := br_p hE c_13
              refine lv_aload_n C.1 C.2.1 dX15_readSquare_70 rfl (lv_at hl 2 rfl) ?_
              refine lv_iload_n C.1 C.2.1 dX15_readSquare_71 rfl (lv_at hl 0 rfl) ?_
              refine lv_aload_n C.1 C.2.1 dX15_readSquare_72 rfl (lv_at hl 2 rfl) ?_
              refine gf_X15_382 C hW k_x0 dX15_readSquare_73 ?_
              refine lv_imul C.1 C.2.1 dX15_readSquare_76 ?_
              refine lv_iload_n C.1 C.2.1 dX15_readSquare_77 rfl (lv_at hl 1 rfl) ?_
              refine lv_iadd C.1 C.2.1 dX15_readSquare_78 ?_
              obtain ⟨h_14, eh_14, hE⟩ := nm_e2 hE
              refine pf_X15_430 C hW hZ k_x0 eh_14 dX15_readSquare_79 (fun _ _ hW km hZ => ?_)
              replace hkm := hkm.tr km
              replace k_x0 := km.at k_x0 (by decide)
              refine lv_aload_n C.1 C.2.1 dX15_readSquare_82 rfl (lv_at hl 2 rfl) ?_
              refine gf_X15_430 C hW k_x0 dX15_readSquare_83 ?_
              refine lv_iload_n C.1 C.2.1 dX15_readSquare_86 rfl (lv_at hl 3 rfl) ?_
              refine lv_icmp_gt (tgt := 102) C.1 C.2.1 dX15_readSquare_87 (by decide) (fun c_15 => ?_) (fun c_15 => ?_)
              · have hE := br_p hE c_15
                refine lv_aload_n C.1 C.2.1 dX15_readSquare_102 rfl (lv_at hl 2 rfl) ?_
                refine lv_dup C.1 C.2.1 dX15_readSquare_103 rfl ?_
                refine gf_X15_412 C hW k_x0 dX15_readSquare_104 ?_
                refine lv_iconst (v := (1 : Int32)) C.1 C.2.1 dX15_readSquare_107 (by decide) ?_
                refine lv_iadd C.1 C.2.1 dX15_readSquare_108 ?_
                obtain ⟨h_16, eh_16, hE⟩ := nm_e2 hE
                refine pf_X15_412 C hW hZ k_x0 eh_16 dX15_readSquare_109 (fun _ _ hW km hZ => ?_)
                replace hkm := hkm.tr km
                replace k_x0 := km.at k_x0 (by decide)
                refine lv_iconst (v := (1 : Int32)) C.1 C.2.1 dX15_readSquare_112 (by decide) ?_
                exact x_iret C rfl (by decide) hW hZ hkm hE dX15_readSquare_113
              · have hE := br_n hE c_15
                refine lv_aload_n C.1 C.2.1 dX15_readSquare_90 rfl (lv_at hl 2 rfl) ?_
                refine lv_dup C.1 C.2.1 dX15_readSquare_91 rfl ?_
                refine gf_X15_412 C hW k_x0 dX15_readSquare_92 ?_
                refine lv_iconst (v := (1 : Int32)) C.1 C.2.1 dX15_readSquare_95 (by decide) ?_
                refine lv_isub C.1 C.2.1 dX15_readSquare_96 ?_
                obtain ⟨h_17, eh_17, hE⟩ := nm_e2 hE
                refine pf_X15_412 C hW hZ k_x0 eh_17 dX15_readSquare_97 (fun _ _ hW km hZ => ?_)
                replace hkm := hkm.tr km
                replace k_x0 := km.at k_x0 (by decide)
                refine lv_iconst (v := (0 : Int32)) C.1 C.2.1 dX15_readSquare_100 (by decide) ?_
                exact x_iret C rfl (by decide) hW hZ hkm hE dX15_readSquare_101
            · have hE := br_n hE c_13
              exact bX15_readSquare_68 C hkm hW hZ _ (lv_sub hl [] rfl) hE
      · have hE := br_n hE c_6
        exact bX15_readSquare_28 C hkm hW hZ _ (lv_sub hl [] rfl) hE
set_option maxRecDepth 100000 in
theorem ms_142 : Cond.selects RX15 yX15_readSquare yX15_readSquare ∈ W0 := w0_in (List.mem_append_left _ (List.mem_of_getElem? (i := 142) rfl)) rfl
set_option maxRecDepth 100000 in
theorem n_1913 : Cond.fieldLinkNest RX15 436 (TX12 2).1 (TX12 2).2.1 (TX12 2).2.2.1 "GameRulesModel" ∈ tables_1 := List.mem_of_getElem? (i := 1913) rfl
set_option maxRecDepth 100000 in
theorem m_2376 : Cond.methodLink RX15 433 yX15_readSquare ∈ W0 := w0_in (List.mem_append_right _ (List.mem_of_getElem? (i := 2376) rfl)) rfl
set_option maxRecDepth 100000 in
theorem m_2378 : Cond.instanceMethod yX15_readSquare ∈ W0 := w0_in (List.mem_append_right _ (List.mem_of_getElem? (i := 2378) rfl)) rfl
set_option maxRecDepth 100000 in
theorem m_2379 : Cond.code yX15_readSquare cX15_readSquare 4 (some .boolean) ∈ W0 := w0_in (List.mem_append_right _ (List.mem_of_getElem? (i := 2379) rfl)) rfl
section
variable {p : Program} {l : Launch} {e : Env} {R : Room} {s : State} {m : MethodId} {args : Array Value} {below : List Frame} {meth : Method} {c : Code} {H : Heap} {locs : List Loc} {cells slots : Nat} {Q : State → Prop}
variable {cc : ByteArray} {pc : Nat} {ls : Array Slot} {rest : List Value} {X : Ec} {h h1 : Hp} {nL : Nat} {rt : Option FieldType} {mn : String}
theorem gf_X15_436 {a : Nat} (C : Cx X p s m args meth c RX15 cc nL rt mn) (hW : Wx X h H) (ha : hK h a = 12) (hdg : decode cc pc = .ok (.getfield 436, 3)) (kk : W p l e R s m args below meth c H locs cells slots Q (F0 m (pc + 3) ls (.long (hJ h a 2) :: rest))) : W p l e R s m args below meth c H locs cells slots Q (F0 m pc ls (.ref a :: rest)) :=
  y_getjN C hW ha i_X12 (by decide) rfl (by decide) n_1913 rfl hdg kk
theorem pf_X15_436 {a : Nat} {v : Int64} (C : Cx X p s m args meth c RX15 cc nL rt mn) (hW : Wx X h H) (hZ : va_S (aA (eB X)) s.heap H locs) (ha : hK h a = 12) (eh : h1 = wJ h a 2 v) (hdg : decode cc pc = .ok (.putfield 436, 3)) (kk : ∀ (H1 : Heap) (locs1 : List Loc), Wx X h1 H1 → Km h h1 → va_S (aA (eB X)) s.heap H1 locs1 → W p l e R s m args below meth c H1 locs1 cells slots Q (F0 m (pc + 3) ls rest)) : W p l e R s m args below meth c H locs cells slots Q (F0 m pc ls (.long v :: .ref a :: rest)) :=
  y_putjN C hW hZ ha i_X12 tyX12 tyX12_ok nmX12 (by decide) rfl rfl (by decide) n_1913 rfl (by decide +kernel) rfl eh hdg kk
end
theorem cw_X15_433 : cwd RX15 433 yX15_readSquare cX15_readSquare 4 (some .boolean) false 1 := ⟨m_2379, m_2376, m_19, ⟨m_2378, ms_142⟩, by decide, by decide, by decide +kernel⟩
theorem dX15_readRights_0 : decode cX15_readRights 0 = .ok (.aload_n 0, 1) := by decide +kernel
theorem dX15_readRights_1 : decode cX15_readRights 1 = .ok (.bipush 45, 2) := by decide +kernel
theorem dX15_readRights_3 : decode cX15_readRights 3 = .ok (.invokevirtual 427, 3) := by decide +kernel
theorem dX15_readRights_6 : decode cX15_readRights 6 = .ok (.ifCond .eq 10, 3) := by decide +kernel
theorem dX15_readRights_9 : decode cX15_readRights 9 = .ok (.aload_n 0, 1) := by decide +kernel
theorem dX15_readRights_10 : decode cX15_readRights 10 = .ok (.bipush 32, 2) := by decide +kernel
theorem dX15_readRights_12 : decode cX15_readRights 12 = .ok (.invokevirtual 427, 3) := by decide +kernel
theorem dX15_readRights_15 : decode cX15_readRights 15 = .ok (.ireturn, 1) := by decide +kernel
theorem dX15_readRights_16 : decode cX15_readRights 16 = .ok (.iconst (-1), 1) := by decide +kernel
theorem dX15_readRights_17 : decode cX15_readRights 17 = .ok (.istore_n 2, 1) := by decide +kernel
theorem dX15_readRights_18 : decode cX15_readRights 18 = .ok (.iload_n 2, 1) := by decide +kernel
theorem dX15_readRights_19 : decode cX15_readRights 19 = .ok (.iconst (-1), 1) := by decide +kernel
theorem dX15_readRights_20 : decode cX15_readRights 20 = .ok (.if_icmp .eq 12, 3) := by decide +kernel
theorem dX15_readRights_23 : decode cX15_readRights 23 = .ok (.aload_n 0, 1) := by decide +kernel
theorem dX15_readRights_24 : decode cX15_readRights 24 = .ok (.invokevirtual 421, 3) := by decide +kernel
theorem dX15_readRights_27 : decode cX15_readRights 27 = .ok (.bipush 32, 2) := by decide +kernel
theorem dX15_readRights_29 : decode cX15_readRights 29 = .ok (.if_icmp .eq 33, 3) := by decide +kernel
theorem dX15_readRights_32 : decode cX15_readRights 32 = .ok (.aload_n 0, 1) := by decide +kernel
theorem dX15_readRights_33 : decode cX15_readRights 33 = .ok (.iload_n 2, 1) := by decide +kernel
theorem dX15_readRights_34 : decode cX15_readRights 34 = .ok (.invokevirtual 433, 3) := by decide +kernel
theorem dX15_readRights_37 : decode cX15_readRights 37 = .ok (.ifCond .ne 5, 3) := by decide +kernel
theorem dX15_readRights_40 : decode cX15_readRights 40 = .ok (.iconst 0, 1) := by decide +kernel
theorem dX15_readRights_41 : decode cX15_readRights 41 = .ok (.ireturn, 1) := by decide +kernel
theorem dX15_readRights_42 : decode cX15_readRights 42 = .ok (.aload_n 0, 1) := by decide +kernel
theorem dX15_readRights_43 : decode cX15_readRights 43 = .ok (.getfield 430, 3) := by decide +kernel
theorem dX15_readRights_46 : decode cX15_readRights 46 = .ok (.istore_n 2, 1) := by decide +kernel
theorem dX15_readRights_47 : decode cX15_readRights 47 = .ok (.aload_n 1, 1) := by decide +kernel
theorem dX15_readRights_48 : decode cX15_readRights 48 = .ok (.dup, 1) := by decide +kernel
theorem dX15_readRights_49 : decode cX15_readRights 49 = .ok (.getfield 436, 3) := by decide +kernel
theorem dX15_readRights_52 : decode cX15_readRights 52 = .ok (.lconst 1, 1) := by decide +kernel
theorem dX15_readRights_53 : decode cX15_readRights 53 = .ok (.iload_n 2, 1) := by decide +kernel
theorem dX15_readRights_54 : decode cX15_readRights 54 = .ok (.lshl, 1) := by decide +kernel
theorem dX15_readRights_55 : decode cX15_readRights 55 = .ok (.lor, 1) := by decide +kernel
theorem dX15_readRights_56 : decode cX15_readRights 56 = .ok (.putfield 436, 3) := by decide +kernel
theorem dX15_readRights_59 : decode cX15_readRights 59 = .ok (.goto (-41), 3) := by decide +kernel
theorem dX15_readRights_62 : decode cX15_readRights 62 = .ok (.aload_n 0, 1) := by decide +kernel
theorem dX15_readRights_63 : decode cX15_readRights 63 = .ok (.bipush 32, 2) := by decide +kernel
theorem dX15_readRights_65 : decode cX15_readRights 65 = .ok (.invokevirtual 427, 3) := by decide +kernel
theorem dX15_readRights_68 : decode cX15_readRights 68 = .ok (.ireturn, 1) := by decide +kernel
set_option maxRecDepth 20000 in
theorem moX15_readRights_32 {o : Int32 × Hp} {k_18 : Hp → Nat → Nat → Int32 → Option (Int32 × Hp)} {F : Nat} (mk_18 : ∀ (h : Hp) (x0 : Nat) (x1 : Nat) (x2 : Int32), k_18 h x0 x1 x2 = some o → Le h o.2) {h : Hp} {x0 : Nat} {x1 : Nat} {x2 : Int32} (hE : sX15_readRights_32 F k_18 h x0 x1 x2 = some o) : Le h o.2 := by
  obtain ⟨o_1, eo_1, hE⟩ := cl_e hE
  refine (moX15_readSquare eo_1).tr ?_
  rcases br_e hE with ⟨_, hE⟩ | ⟨_, hE⟩
  · exact le_some2 hE
  · obtain ⟨v_3, ev_3, hE⟩ := nm_e2 hE
    obtain ⟨h_4, eh_4, hE⟩ := nm_e2 hE
    refine (le_J eh_4).tr ?_
    exact mk_18 _ _ _ _ hE
set_option maxRecDepth 20000 in
theorem moX15_readRights_18 {o : Int32 × Hp} {F : Nat} : ∀ (f : Nat) {h : Hp} {x0 : Nat} {x1 : Nat} {x2 : Int32}, sX15_readRights_18 F f h x0 x1 x2 = some o → Le h o.2 := by
  intro f
  induction f with
  | zero =>
    intro h x0 x1 x2 hE
    rw [sX15_readRights_18] at hE
    cases hE
  | succ f ih =>
    intro h x0 x1 x2 hE
    rw [sX15_readRights_18] at hE
    have mk_18 : ∀ (h : Hp) (x0 : Nat) (x1 : Nat) (x2 : Int32), sX15_readRights_18 F f h x0 x1 x2 = some o → Le h o.2 := fun h x0 x1 x2 hE => ih hE
    rcases br_e hE with ⟨_, hE⟩ | ⟨_, hE⟩
    · exact moX15_readRights_32 mk_18 hE
    · obtain ⟨o_2, eo_2, hE⟩ := cl_e hE
      refine (moX15_look eo_2).tr ?_
      rcases br_e hE with ⟨_, hE⟩ | ⟨_, hE⟩
      · obtain ⟨o_4, eo_4, hE⟩ := cl_e hE
        refine (moX15_reads eo_4).tr ?_
        obtain ⟨g_5, hE⟩ := gd_e hE
        exact le_some2 hE
      · exact moX15_readRights_32 mk_18 hE
set_option maxRecDepth 20000 in
theorem moX15_readRights {o : Int32 × Hp} {F : Nat} {h : Hp} {x0 : Nat} {x1 : Nat} (hE : sX15_readRights F h x0 x1 = some o) : Le h o.2 := by
  obtain ⟨o_1, eo_1, hE⟩ := cl_e hE
  refine (moX15_reads eo_1).tr ?_
  rcases br_e hE with ⟨_, hE⟩ | ⟨_, hE⟩
  · exact moX15_readRights_18 _ hE
  · obtain ⟨o_3, eo_3, hE⟩ := cl_e hE
    refine (moX15_reads eo_3).tr ?_
    obtain ⟨g_4, hE⟩ := gd_e hE
    exact le_some2 hE
set_option maxRecDepth 20000 in
theorem bX15_readRights_32 {p : Program} {l : Launch} {e : Env} {s : State} {m : MethodId} {args : Array Value} {below : List Frame} {meth : Method} {c : Code} {X : Ec} {h0 : Hp} {o : Int32 × Hp} {k_18 : Hp → Nat → Nat → Int32 → Option (Int32 × Hp)} {F : Nat} (C : Cx X p s m args meth c RX15 cX15_readRights 3 (some .boolean) "readRights") (hk_18 : ∀ (h : Hp) (x0 : Nat) (x1 : Nat) (x2 : Int32) (H : Heap) (locs : List Loc), hK h x0 = 15 → hK h x1 = 12 → Km h0 h → Wx X h H → va_S (aA (eB X)) s.heap H locs → ∀ (ls : Array Slot), lv_has ls 3 [(0, .ref x0), (1, .ref x1), (2, .int x2)] → k_18 h x0 x1 x2 = some o → W p l e (rm 2 43) s m args below meth c H locs 0 0 (MQ below (QI X h0 o.1 o.2) args s 0 0 (aA (eB X))) (F0 m 18 ls [])) {h : Hp} {x0 : Nat} {x1 : Nat} {x2 : Int32} {H : Heap} {locs : List Loc} (k_x0 : hK h x0 = 15) (k_x1 : hK h x1 = 12) (hkm : Km h0 h) (hW : Wx X h H) (hZ : va_S (aA (eB X)) s.heap H locs) (ls : Array Slot) (hl : lv_has ls 3 [(0, .ref x0), (1, .ref x1), (2, .int x2)]) (hE : sX15_readRights_32 F k_18 h x0 x1 x2 = some o) : W p l e (rm 2 43) s m args below meth c H locs 0 0 (MQ below (QI X h0 o.1 o.2) args s 0 0 (aA (eB X))) (F0 m 32 ls []) := by
  refine lv_aload_n C.1 C.2.1 dX15_readRights_32 rfl (lv_at hl 0 rfl) ?_
  refine lv_iload_n C.1 C.2.1 dX15_readRights_33 rfl (lv_at hl 2 rfl) ?_
  obtain ⟨o_1, eo_1, hE⟩ := cl_e hE
  refine x_kI (o := o_1) (z_runV (As := [.int x2]) (rest := []) C (ct_X15_readSquare l X k_x0 eo_1) cw_X15_433 hW hZ k_x0 (by decide) rfl rfl rfl hl.1 (Nat.le_of_ble_eq_true rfl) rfl dX15_readRights_34 ⟨Nat.le_of_ble_eq_true rfl, Nat.le_of_ble_eq_true rfl⟩ ⟨Nat.le_refl _, Nat.le_refl _⟩) hZ (fun _ _ hW km hZ => ?_)
  replace hkm := hkm.tr km
  replace k_x0 := km.at k_x0 (by decide)
  replace k_x1 := km.at k_x1 (by decide)
  refine lv_if_ne (tgt := 42) C.1 C.2.1 dX15_readRights_37 (by decide) (fun c_2 => ?_) (fun c_2 => ?_)
  · have hE := br_n hE c_2
    refine lv_aload_n C.1 C.2.1 dX15_readRights_42 rfl (lv_at hl 0 rfl) ?_
    refine gf_X15_430 C hW k_x0 dX15_readRights_43 ?_
    obtain ⟨v_3, ev_3, hE⟩ := nm_e2 hE
    refine x_nmI ev_3 ?_
    refine lv_istore_n (lv' := [(2, .int v_3), (0, .ref x0), (1, .ref x1)]) C.1 C.2.1 dX15_readRights_46 rfl hl (by decide) rfl (fun ls hl => ?_)
    refine lv_aload_n C.1 C.2.1 dX15_readRights_47 rfl (lv_at hl 2 rfl) ?_
    refine lv_dup C.1 C.2.1 dX15_readRights_48 rfl ?_
    refine gf_X15_436 C hW k_x1 dX15_readRights_49 ?_
    refine lv_lconst (v := (1 : Int64)) C.1 C.2.1 dX15_readRights_52 (by decide) ?_
    refine lv_iload_n C.1 C.2.1 dX15_readRights_53 rfl (lv_at hl 0 rfl) ?_
    refine lv_lshl C.1 C.2.1 dX15_readRights_54 rfl ?_
    refine lv_lor C.1 C.2.1 dX15_readRights_55 ?_
    obtain ⟨h_4, eh_4, hE⟩ := nm_e2 hE
    refine pf_X15_436 C hW hZ k_x1 eh_4 dX15_readRights_56 (fun _ _ hW km hZ => ?_)
    replace hkm := hkm.tr km
    replace k_x0 := km.at k_x0 (by decide)
    replace k_x1 := km.at k_x1 (by decide)
    refine lv_goto (tgt := 18) C.1 C.2.1 dX15_readRights_59 (by decide) ?_
    exact hk_18 _ _ _ _ _ _ k_x0 k_x1 hkm hW hZ _ (lv_sub hl [1, 2, 0] rfl) hE
  · have hE := br_p hE c_2
    refine lv_iconst (v := (0 : Int32)) C.1 C.2.1 dX15_readRights_40 (by decide) ?_
    exact x_iret C rfl (by decide) hW hZ hkm hE dX15_readRights_41
set_option maxRecDepth 20000 in
theorem bX15_readRights_18 {p : Program} {l : Launch} {e : Env} {s : State} {m : MethodId} {args : Array Value} {below : List Frame} {meth : Method} {c : Code} {X : Ec} {h0 : Hp} {o : Int32 × Hp} {F : Nat} (C : Cx X p s m args meth c RX15 cX15_readRights 3 (some .boolean) "readRights") : ∀ (f : Nat) {h : Hp} {x0 : Nat} {x1 : Nat} {x2 : Int32} {H : Heap} {locs : List Loc} (k_x0 : hK h x0 = 15) (k_x1 : hK h x1 = 12), Km h0 h → Wx X h H → va_S (aA (eB X)) s.heap H locs → ∀ (ls : Array Slot), lv_has ls 3 [(0, .ref x0), (1, .ref x1), (2, .int x2)] → sX15_readRights_18 F f h x0 x1 x2 = some o → W p l e (rm 2 43) s m args below meth c H locs 0 0 (MQ below (QI X h0 o.1 o.2) args s 0 0 (aA (eB X))) (F0 m 18 ls []) := by
  intro f
  induction f with
  | zero =>
    intro h x0 x1 x2 H locs k_x0 k_x1 hkm hW hZ ls hl hE
    rw [sX15_readRights_18] at hE
    cases hE
  | succ f ih =>
    intro h x0 x1 x2 H locs k_x0 k_x1 hkm hW hZ ls hl hE
    rw [sX15_readRights_18] at hE
    have hk_18 : ∀ (h : Hp) (x0 : Nat) (x1 : Nat) (x2 : Int32) (H : Heap) (locs : List Loc), hK h x0 = 15 → hK h x1 = 12 → Km h0 h → Wx X h H → va_S (aA (eB X)) s.heap H locs → ∀ (ls : Array Slot), lv_has ls 3 [(0, .ref x0), (1, .ref x1), (2, .int x2)] → sX15_readRights_18 F f h x0 x1 x2 = some o → W p l e (rm 2 43) s m args below meth c H locs 0 0 (MQ below (QI X h0 o.1 o.2) args s 0 0 (aA (eB X))) (F0 m 18 ls []) := fun h x0 x1 x2 H locs k_x0 k_x1 a b c ls hl hE => ih k_x0 k_x1 a b c ls hl hE
    refine lv_iload_n C.1 C.2.1 dX15_readRights_18 rfl (lv_at hl 2 rfl) ?_
    refine lv_iconst (v := (-1 : Int32)) C.1 C.2.1 dX15_readRights_19 (by decide) ?_
    refine lv_icmp_eq (tgt := 32) C.1 C.2.1 dX15_readRights_20 (by decide) (fun c_1 => ?_) (fun c_1 => ?_)
    · have hE := br_p hE c_1
      exact bX15_readRights_32 C hk_18 k_x0 k_x1 hkm hW hZ _ (lv_sub hl [0, 1, 2] rfl) hE
    · have hE := br_n hE c_1
      refine lv_aload_n C.1 C.2.1 dX15_readRights_23 rfl (lv_at hl 0 rfl) ?_
      obtain ⟨o_2, eo_2, hE⟩ := cl_e hE
      refine x_kI (o := o_2) (z_runV (As := []) (rest := []) C (ct_X15_look l X k_x0 eo_2) cw_X15_421 hW hZ k_x0 (by decide) rfl rfl rfl hl.1 (Nat.le_of_ble_eq_true rfl) rfl dX15_readRights_24 ⟨Nat.le_of_ble_eq_true rfl, Nat.le_of_ble_eq_true rfl⟩ ⟨Nat.le_refl _, Nat.le_refl _⟩) hZ (fun _ _ hW km hZ => ?_)
      replace hkm := hkm.tr km
      replace k_x0 := km.at k_x0 (by decide)
      replace k_x1 := km.at k_x1 (by decide)
      refine lv_bipush (v := (32 : Int32)) C.1 C.2.1 dX15_readRights_27 (by decide) ?_
      refine lv_icmp_eq (tgt := 62) C.1 C.2.1 dX15_readRights_29 (by decide) (fun c_3 => ?_) (fun c_3 => ?_)
      · have hE := br_p hE c_3
        refine lv_aload_n C.1 C.2.1 dX15_readRights_62 rfl (lv_at hl 0 rfl) ?_
        refine lv_bipush (v := (32 : Int32)) C.1 C.2.1 dX15_readRights_63 (by decide) ?_
        obtain ⟨o_4, eo_4, hE⟩ := cl_e hE
        refine x_kI (o := o_4) (z_runV (As := [.int (32 : Int32)]) (rest := []) C (ct_X15_reads l X k_x0 eo_4) cw_X15_427 hW hZ k_x0 (by decide) rfl rfl rfl hl.1 (Nat.le_of_ble_eq_true rfl) rfl dX15_readRights_65 ⟨Nat.le_of_ble_eq_true rfl, Nat.le_of_ble_eq_true rfl⟩ ⟨Nat.le_refl _, Nat.le_refl _⟩) hZ (fun _ _ hW km hZ => ?_)
        replace hkm := hkm.tr km
        replace k_x0 := km.at k_x0 (by decide)
        replace k_x1 := km.at k_x1 (by decide)
        obtain ⟨g_5, hE⟩ := gd_e hE
        exact x_iret C rfl (narB g_5) hW hZ hkm hE dX15_readRights_68
      · have hE := br_n hE c_3
        exact bX15_readRights_32 C hk_18 k_x0 k_x1 hkm hW hZ _ (lv_sub hl [0, 1, 2] rfl) hE
set_option maxRecDepth 20000 in
theorem ct_X15_readRights (l : Launch) (X : Ec) (F : Nat) {h : Hp} {x0 : Nat} {x1 : Nat} {o : Int32 × Hp} (k_x0 : hK h x0 = 15) (k_x1 : hK h x1 = 12) (hE : sX15_readRights F h x0 x1 = some o) : MetI l yX15_readRights cX15_readRights 3 (some .boolean) 2 43 X [.ref x0, .ref x1] h o := by
  refine x_met (by decide) (Nat.le_of_ble_eq_true rfl) ?_
  intro p e s m below meth c ls C hl hW hZ
  have hl : lv_has ls 3 [(0, .ref x0), (1, .ref x1)] := hl
  have hkm : Km h h := Km.rf h
  refine lv_aload_n C.1 C.2.1 dX15_readRights_0 rfl (lv_at hl 0 rfl) ?_
  refine lv_bipush (v := (45 : Int32)) C.1 C.2.1 dX15_readRights_1 (by decide) ?_
  obtain ⟨o_1, eo_1, hE⟩ := cl_e hE
  refine x_kI (o := o_1) (z_runV (As := [.int (45 : Int32)]) (rest := []) C (ct_X15_reads l X k_x0 eo_1) cw_X15_427 hW hZ k_x0 (by decide) rfl rfl rfl hl.1 (Nat.le_of_ble_eq_true rfl) rfl dX15_readRights_3 ⟨Nat.le_of_ble_eq_true rfl, Nat.le_of_ble_eq_true rfl⟩ ⟨Nat.le_refl _, Nat.le_refl _⟩) hZ (fun _ _ hW km hZ => ?_)
  replace hkm := hkm.tr km
  replace k_x0 := km.at k_x0 (by decide)
  replace k_x1 := km.at k_x1 (by decide)
  refine lv_if_eq (tgt := 16) C.1 C.2.1 dX15_readRights_6 (by decide) (fun c_2 => ?_) (fun c_2 => ?_)
  · have hE := br_p hE c_2
    refine lv_iconst (v := (-1 : Int32)) C.1 C.2.1 dX15_readRights_16 (by decide) ?_
    refine lv_istore_n (lv' := [(2, .int (-1 : Int32)), (0, .ref x0), (1, .ref x1)]) C.1 C.2.1 dX15_readRights_17 rfl hl (by decide) rfl (fun ls hl => ?_)
    exact bX15_readRights_18 C F k_x0 k_x1 hkm hW hZ _ (lv_sub hl [1, 2, 0] rfl) hE
  · have hE := br_n hE c_2
    refine lv_aload_n C.1 C.2.1 dX15_readRights_9 rfl (lv_at hl 0 rfl) ?_
    refine lv_bipush (v := (32 : Int32)) C.1 C.2.1 dX15_readRights_10 (by decide) ?_
    obtain ⟨o_3, eo_3, hE⟩ := cl_e hE
    refine x_kI (o := o_3) (z_runV (As := [.int (32 : Int32)]) (rest := []) C (ct_X15_reads l X k_x0 eo_3) cw_X15_427 hW hZ k_x0 (by decide) rfl rfl rfl hl.1 (Nat.le_of_ble_eq_true rfl) rfl dX15_readRights_12 ⟨Nat.le_of_ble_eq_true rfl, Nat.le_of_ble_eq_true rfl⟩ ⟨Nat.le_refl _, Nat.le_refl _⟩) hZ (fun _ _ hW km hZ => ?_)
    replace hkm := hkm.tr km
    replace k_x0 := km.at k_x0 (by decide)
    replace k_x1 := km.at k_x1 (by decide)
    obtain ⟨g_4, hE⟩ := gd_e hE
    exact x_iret C rfl (narB g_4) hW hZ hkm hE dX15_readRights_15
set_option maxRecDepth 100000 in
theorem n_1915 : Cond.fieldLinkNest RX15 441 (TX12 3).1 (TX12 3).2.1 (TX12 3).2.2.1 "GameRulesModel" ∈ tables_1 := List.mem_of_getElem? (i := 1915) rfl
set_option maxRecDepth 100000 in
theorem n_1917 : Cond.fieldLinkNest RX15 439 (TX12 4).1 (TX12 4).2.1 (TX12 4).2.2.1 "GameRulesModel" ∈ tables_1 := List.mem_of_getElem? (i := 1917) rfl
section
variable {p : Program} {l : Launch} {e : Env} {R : Room} {s : State} {m : MethodId} {args : Array Value} {below : List Frame} {meth : Method} {c : Code} {H : Heap} {locs : List Loc} {cells slots : Nat} {Q : State → Prop}
variable {cc : ByteArray} {pc : Nat} {ls : Array Slot} {rest : List Value} {X : Ec} {h h1 : Hp} {nL : Nat} {rt : Option FieldType} {mn : String}
theorem gf_X15_439 {a r : Nat} (C : Cx X p s m args meth c RX15 cc nL rt mn) (hW : Wx X h H) (ha : hK h a = 12) (hr : hR h a 4 = some r) (hdg : decode cc pc = .ok (.getfield 439, 3)) (kk : hK h r = 17 → W p l e R s m args below meth c H locs cells slots Q (F0 m (pc + 3) ls (.ref r :: rest))) : W p l e R s m args below meth c H locs cells slots Q (F0 m pc ls (.ref a :: rest)) :=
  y_getrN C hW ha i_X12 (by decide) rfl (by decide) n_1917 rfl rfl hr hdg kk
theorem pf_X15_441 {a : Nat} {v : Int32} (C : Cx X p s m args meth c RX15 cc nL rt mn) (hW : Wx X h H) (hZ : va_S (aA (eB X)) s.heap H locs) (ha : hK h a = 12) (eh : h1 = wI h a 3 v) (hdg : decode cc pc = .ok (.putfield 441, 3)) (kk : ∀ (H1 : Heap) (locs1 : List Loc), Wx X h1 H1 → Km h h1 → va_S (aA (eB X)) s.heap H1 locs1 → W p l e R s m args below meth c H1 locs1 cells slots Q (F0 m (pc + 3) ls rest)) : W p l e R s m args below meth c H locs cells slots Q (F0 m pc ls (.int v :: .ref a :: rest)) :=
  y_putiN (ty := .int) C hW hZ ha i_X12 tyX12 tyX12_ok nmX12 (by decide) rfl rfl (by decide) n_1915 rfl (by decide +kernel) rfl rfl rfl eh hdg kk
end
theorem dX15_readPass_0 : decode cX15_readPass 0 = .ok (.aload_n 0, 1) := by decide +kernel
theorem dX15_readPass_1 : decode cX15_readPass 1 = .ok (.bipush 45, 2) := by decide +kernel
theorem dX15_readPass_3 : decode cX15_readPass 3 = .ok (.invokevirtual 427, 3) := by decide +kernel
theorem dX15_readPass_6 : decode cX15_readPass 6 = .ok (.ifCond .eq 10, 3) := by decide +kernel
theorem dX15_readPass_9 : decode cX15_readPass 9 = .ok (.aload_n 0, 1) := by decide +kernel
theorem dX15_readPass_10 : decode cX15_readPass 10 = .ok (.bipush 32, 2) := by decide +kernel
theorem dX15_readPass_12 : decode cX15_readPass 12 = .ok (.invokevirtual 427, 3) := by decide +kernel
theorem dX15_readPass_15 : decode cX15_readPass 15 = .ok (.ireturn, 1) := by decide +kernel
theorem dX15_readPass_16 : decode cX15_readPass 16 = .ok (.iconst 0, 1) := by decide +kernel
theorem dX15_readPass_17 : decode cX15_readPass 17 = .ok (.istore_n 2, 1) := by decide +kernel
theorem dX15_readPass_18 : decode cX15_readPass 18 = .ok (.iload_n 2, 1) := by decide +kernel
theorem dX15_readPass_19 : decode cX15_readPass 19 = .ok (.iconst 2, 1) := by decide +kernel
theorem dX15_readPass_20 : decode cX15_readPass 20 = .ok (.if_icmp .lt 12, 3) := by decide +kernel
theorem dX15_readPass_23 : decode cX15_readPass 23 = .ok (.aload_n 0, 1) := by decide +kernel
theorem dX15_readPass_24 : decode cX15_readPass 24 = .ok (.invokevirtual 421, 3) := by decide +kernel
theorem dX15_readPass_27 : decode cX15_readPass 27 = .ok (.bipush 32, 2) := by decide +kernel
theorem dX15_readPass_29 : decode cX15_readPass 29 = .ok (.if_icmp .eq 35, 3) := by decide +kernel
theorem dX15_readPass_32 : decode cX15_readPass 32 = .ok (.aload_n 0, 1) := by decide +kernel
theorem dX15_readPass_33 : decode cX15_readPass 33 = .ok (.iconst (-1), 1) := by decide +kernel
theorem dX15_readPass_34 : decode cX15_readPass 34 = .ok (.invokevirtual 433, 3) := by decide +kernel
theorem dX15_readPass_37 : decode cX15_readPass 37 = .ok (.ifCond .ne 5, 3) := by decide +kernel
theorem dX15_readPass_40 : decode cX15_readPass 40 = .ok (.iconst 0, 1) := by decide +kernel
theorem dX15_readPass_41 : decode cX15_readPass 41 = .ok (.ireturn, 1) := by decide +kernel
theorem dX15_readPass_42 : decode cX15_readPass 42 = .ok (.iload_n 2, 1) := by decide +kernel
theorem dX15_readPass_43 : decode cX15_readPass 43 = .ok (.bipush 64, 2) := by decide +kernel
theorem dX15_readPass_45 : decode cX15_readPass 45 = .ok (.if_icmp .ge 13, 3) := by decide +kernel
theorem dX15_readPass_48 : decode cX15_readPass 48 = .ok (.aload_n 1, 1) := by decide +kernel
theorem dX15_readPass_49 : decode cX15_readPass 49 = .ok (.getfield 439, 3) := by decide +kernel
theorem dX15_readPass_52 : decode cX15_readPass 52 = .ok (.iload_n 2, 1) := by decide +kernel
theorem dX15_readPass_53 : decode cX15_readPass 53 = .ok (.aload_n 0, 1) := by decide +kernel
theorem dX15_readPass_54 : decode cX15_readPass 54 = .ok (.getfield 430, 3) := by decide +kernel
theorem dX15_readPass_57 : decode cX15_readPass 57 = .ok (.iastore, 1) := by decide +kernel
theorem dX15_readPass_58 : decode cX15_readPass 58 = .ok (.iinc 2 1, 3) := by decide +kernel
theorem dX15_readPass_61 : decode cX15_readPass 61 = .ok (.goto (-43), 3) := by decide +kernel
theorem dX15_readPass_64 : decode cX15_readPass 64 = .ok (.aload_n 1, 1) := by decide +kernel
theorem dX15_readPass_65 : decode cX15_readPass 65 = .ok (.iload_n 2, 1) := by decide +kernel
theorem dX15_readPass_66 : decode cX15_readPass 66 = .ok (.bipush 64, 2) := by decide +kernel
theorem dX15_readPass_68 : decode cX15_readPass 68 = .ok (.if_icmp .ge 7, 3) := by decide +kernel
theorem dX15_readPass_71 : decode cX15_readPass 71 = .ok (.iload_n 2, 1) := by decide +kernel
theorem dX15_readPass_72 : decode cX15_readPass 72 = .ok (.goto 5, 3) := by decide +kernel
theorem dX15_readPass_75 : decode cX15_readPass 75 = .ok (.bipush 64, 2) := by decide +kernel
theorem dX15_readPass_77 : decode cX15_readPass 77 = .ok (.putfield 441, 3) := by decide +kernel
theorem dX15_readPass_80 : decode cX15_readPass 80 = .ok (.aload_n 0, 1) := by decide +kernel
theorem dX15_readPass_81 : decode cX15_readPass 81 = .ok (.bipush 32, 2) := by decide +kernel
theorem dX15_readPass_83 : decode cX15_readPass 83 = .ok (.invokevirtual 427, 3) := by decide +kernel
theorem dX15_readPass_86 : decode cX15_readPass 86 = .ok (.ireturn, 1) := by decide +kernel
set_option maxRecDepth 20000 in
theorem moX15_readPass_58 {o : Int32 × Hp} {k_18 : Hp → Nat → Nat → Int32 → Option (Int32 × Hp)} {F : Nat} (mk_18 : ∀ (h : Hp) (x0 : Nat) (x1 : Nat) (x2 : Int32), k_18 h x0 x1 x2 = some o → Le h o.2) {h : Hp} {x0 : Nat} {x1 : Nat} {x2 : Int32} (hE : sX15_readPass_58 F k_18 h x0 x1 x2 = some o) : Le h o.2 := by
  obtain ⟨v_1, ev_1, hE⟩ := nm_e2 hE
  exact mk_18 _ _ _ _ hE
set_option maxRecDepth 20000 in
theorem moX15_readPass_32 {o : Int32 × Hp} {k_18 : Hp → Nat → Nat → Int32 → Option (Int32 × Hp)} {F : Nat} (mk_18 : ∀ (h : Hp) (x0 : Nat) (x1 : Nat) (x2 : Int32), k_18 h x0 x1 x2 = some o → Le h o.2) {h : Hp} {x0 : Nat} {x1 : Nat} {x2 : Int32} (hE : sX15_readPass_32 F k_18 h x0 x1 x2 = some o) : Le h o.2 := by
  obtain ⟨o_1, eo_1, hE⟩ := cl_e hE
  refine (moX15_readSquare eo_1).tr ?_
  rcases br_e hE with ⟨_, hE⟩ | ⟨_, hE⟩
  · exact le_some2 hE
  · rcases br_e hE with ⟨_, hE⟩ | ⟨_, hE⟩
    · exact moX15_readPass_58 mk_18 hE
    · obtain ⟨r_4, er_4, hE⟩ := cl_e hE
      obtain ⟨g_5, hE⟩ := gd_e hE
      obtain ⟨h_6, eh_6, hE⟩ := nm_e2 hE
      refine (le_I eh_6).tr ?_
      exact moX15_readPass_58 mk_18 hE
set_option maxRecDepth 20000 in
theorem moX15_readPass_77 {o : Int32 × Hp} {F : Nat} {h : Hp} {x0 : Nat} {t0 : Int32} {t1 : Nat} (hE : sX15_readPass_77 F h x0 t0 t1 = some o) : Le h o.2 := by
  obtain ⟨h_1, eh_1, hE⟩ := nm_e2 hE
  refine (le_I eh_1).tr ?_
  obtain ⟨o_2, eo_2, hE⟩ := cl_e hE
  refine (moX15_reads eo_2).tr ?_
  obtain ⟨g_3, hE⟩ := gd_e hE
  exact le_some2 hE
set_option maxRecDepth 20000 in
theorem moX15_readPass_18 {o : Int32 × Hp} {F : Nat} : ∀ (f : Nat) {h : Hp} {x0 : Nat} {x1 : Nat} {x2 : Int32}, sX15_readPass_18 F f h x0 x1 x2 = some o → Le h o.2 := by
  intro f
  induction f with
  | zero =>
    intro h x0 x1 x2 hE
    rw [sX15_readPass_18] at hE
    cases hE
  | succ f ih =>
    intro h x0 x1 x2 hE
    rw [sX15_readPass_18] at hE
    have mk_18 : ∀ (h : Hp) (x0 : Nat) (x1 : Nat) (x2 : Int32), sX15_readPass_18 F f h x0 x1 x2 = some o → Le h o.2 := fun h x0 x1 x2 hE => ih hE
    rcases br_e hE with ⟨_, hE⟩ | ⟨_, hE⟩
    · exact moX15_readPass_32 mk_18 hE
    · obtain ⟨o_2, eo_2, hE⟩ := cl_e hE
      refine (moX15_look eo_2).tr ?_
      rcases br_e hE with ⟨_, hE⟩ | ⟨_, hE⟩
      · rcases br_e hE with ⟨_, hE⟩ | ⟨_, hE⟩
        · exact moX15_readPass_77 hE
        · exact moX15_readPass_77 hE
      · exact moX15_readPass_32 mk_18 hE
set_option maxRecDepth 20000 in
theorem moX15_readPass {o : Int32 × Hp} {F : Nat} {h : Hp} {x0 : Nat} {x1 : Nat} (hE : sX15_readPass F h x0 x1 = some o) : Le h o.2 := by
  obtain ⟨o_1, eo_1, hE⟩ := cl_e hE
  refine (moX15_reads eo_1).tr ?_
  rcases br_e hE with ⟨_, hE⟩ | ⟨_, hE⟩
  · exact moX15_readPass_18 _ hE
  · obtain ⟨o_3, eo_3, hE⟩ := cl_e hE
    refine (moX15_reads eo_3).tr ?_
    obtain ⟨g_4, hE⟩ := gd_e hE
    exact le_some2 hE
set_option maxRecDepth 20000 in
theorem bX15_readPass_58 {p : Program} {l : Launch} {e : Env} {s : State} {m : MethodId} {args : Array Value} {below : List Frame} {meth : Method} {c : Code} {X : Ec} {h0 : Hp} {o : Int32 × Hp} {k_18 : Hp → Nat → Nat → Int32 → Option (Int32 × Hp)} {F : Nat} (C : Cx X p s m args meth c RX15 cX15_readPass 3 (some .boolean) "readPass") (hk_18 : ∀ (h : Hp) (x0 : Nat) (x1 : Nat) (x2 : Int32) (H : Heap) (locs : List Loc), hK h x0 = 15 → hK h x1 = 12 → Km h0 h → Wx X h H → va_S (aA (eB X)) s.heap H locs → ∀ (ls : Array Slot), lv_has ls 3 [(0, .ref x0), (1, .ref x1), (2, .int x2)] → k_18 h x0 x1 x2 = some o → W p l e (rm 2 43) s m args below meth c H locs 0 0 (MQ below (QI X h0 o.1 o.2) args s 0 0 (aA (eB X))) (F0 m 18 ls [])) {h : Hp} {x0 : Nat} {x1 : Nat} {x2 : Int32} {H : Heap} {locs : List Loc} (k_x0 : hK h x0 = 15) (k_x1 : hK h x1 = 12) (hkm : Km h0 h) (hW : Wx X h H) (hZ : va_S (aA (eB X)) s.heap H locs) (ls : Array Slot) (hl : lv_has ls 3 [(0, .ref x0), (1, .ref x1), (2, .int x2)]) (hE : sX15_readPass_58 F k_18 h x0 x1 x2 = some o) : W p l e (rm 2 43) s m args below meth c H locs 0 0 (MQ below (QI X h0 o.1 o.2) args s 0 0 (aA (eB X))) (F0 m 58 ls []) := by
  obtain ⟨v_1, ev_1, hE⟩ := nm_e2 hE
  refine lv_iinc (v := v_1) (lv' := [(2, .int v_1), (0, .ref x0), (1, .ref x1)]) C.1 C.2.1 dX15_readPass_58 hl (k := 2) rfl (by rw [ev_1]; rfl) (by decide) rfl (fun ls hl => ?_)
  refine lv_goto (tgt := 18) C.1 C.2.1 dX15_readPass_61 (by decide) ?_
  exact hk_18 _ _ _ _ _ _ k_x0 k_x1 hkm hW hZ _ (lv_sub hl [1, 2, 0] rfl) hE
set_option maxRecDepth 20000 in
theorem bX15_readPass_32 {p : Program} {l : Launch} {e : Env} {s : State} {m : MethodId} {args : Array Value} {below : List Frame} {meth : Method} {c : Code} {X : Ec} {h0 : Hp} {o : Int32 × Hp} {k_18 : Hp → Nat → Nat → Int32 → Option (Int32 × Hp)} {F : Nat} (C : Cx X p s m args meth c RX15 cX15_readPass 3 (some .boolean) "readPass") (hk_18 : ∀ (h : Hp) (x0 : Nat) (x1 : Nat) (x2 : Int32) (H : Heap) (locs : List Loc), hK h x0 = 15 → hK h x1 = 12 → Km h0 h → Wx X h H → va_S (aA (eB X)) s.heap H locs → ∀ (ls : Array Slot), lv_has ls 3 [(0, .ref x0), (1, .ref x1), (2, .int x2)] → k_18 h x0 x1 x2 = some o → W p l e (rm 2 43) s m args below meth c H locs 0 0 (MQ below (QI X h0 o.1 o.2) args s 0 0 (aA (eB X))) (F0 m 18 ls [])) {h : Hp} {x0 : Nat} {x1 : Nat} {x2 : Int32} {H : Heap} {locs : List Loc} (k_x0 : hK h x0 = 15) (k_x1 : hK h x1 = 12) (hkm : Km h0 h) (hW : Wx X h H) (hZ : va_S (aA (eB X)) s.heap H locs) (ls : Array Slot) (hl : lv_has ls 3 [(0, .ref x0), (1, .ref x1), (2, .int x2)]) (hE : sX15_readPass_32 F k_18 h x0 x1 x2 = some o) : W p l e (rm 2 43) s m args below meth c H locs 0 0 (MQ below (QI X h0 o.1 o.2) args s 0 0 (aA (eB X))) (F0 m 32 ls []) := by
  refine lv_aload_n C.1 C.2.1 dX15_readPass_32 rfl (lv_at hl 0 rfl) ?_
  refine lv_iconst (v := (-1 : Int32)) C.1 C.2.1 dX15_readPass_33 (by decide) ?_
  obtain ⟨o_1, eo_1, hE⟩ := cl_e hE
  refine x_kI (o := o_1) (z_runV (As := [.int (-1 : Int32)]) (rest := []) C (ct_X15_readSquare l X k_x0 eo_1) cw_X15_433 hW hZ k_x0 (by decide) rfl rfl rfl hl.1 (Nat.le_of_ble_eq_true rfl) rfl dX15_readPass_34 ⟨Nat.le_of_ble_eq_true rfl, Nat.le_of_ble_eq_true rfl⟩ ⟨Nat.le_refl _, Nat.le_refl _⟩) hZ (fun _ _ hW km hZ => ?_)
  replace hkm := hkm.tr km
  replace k_x0 := km.at k_x0 (by decide)
  replace k_x1 := km.at k_x1 (by decide)
  refine lv_if_ne (tgt := 42) C.1 C.2.1 dX15_readPass_37 (by decide) (fun c_2 => ?_) (fun c_2 => ?_)
  · have hE := br_n hE c_2
    refine lv_iload_n C.1 C.2.1 dX15_readPass_42 rfl (lv_at hl 2 rfl) ?_
    refine lv_bipush (v := (64 : Int32)) C.1 C.2.1 dX15_readPass_43 (by decide) ?_
    refine lv_icmp_ge (tgt := 58) C.1 C.2.1 dX15_readPass_45 (by decide) (fun c_3 => ?_) (fun c_3 => ?_)
    · have hE := br_p hE c_3
      exact bX15_readPass_58 C hk_18 k_x0 k_x1 hkm hW hZ _ (lv_sub hl [0, 1, 2] rfl) hE
    · have hE := br_n hE c_3
      refine lv_aload_n C.1 C.2.1 dX15_readPass_48 rfl (lv_at hl 1 rfl) ?_
      obtain ⟨r_4, er_4, hE⟩ := cl_e hE
      refine gf_X15_439 C hW k_x1 er_4 dX15_readPass_49 (fun k_r_4 => ?_)
      refine lv_iload_n C.1 C.2.1 dX15_readPass_52 rfl (lv_at hl 2 rfl) ?_
      refine lv_aload_n C.1 C.2.1 dX15_readPass_53 rfl (lv_at hl 0 rfl) ?_
      refine gf_X15_430 C hW k_x0 dX15_readPass_54 ?_
      obtain ⟨g_5, hE⟩ := gd_e hE
      obtain ⟨h_6, eh_6, hE⟩ := nm_e2 hE
      refine y_iast C hW hZ k_r_4 g_5 eh_6 dX15_readPass_57 (fun _ _ hW km hZ => ?_)
      replace hkm := hkm.tr km
      replace k_x0 := km.at k_x0 (by decide)
      replace k_x1 := km.at k_x1 (by decide)
      exact bX15_readPass_58 C hk_18 k_x0 k_x1 hkm hW hZ _ (lv_sub hl [0, 1, 2] rfl) hE
  · have hE := br_p hE c_2
    refine lv_iconst (v := (0 : Int32)) C.1 C.2.1 dX15_readPass_40 (by decide) ?_
    exact x_iret C rfl (by decide) hW hZ hkm hE dX15_readPass_41
set_option maxRecDepth 20000 in
theorem bX15_readPass_77 {p : Program} {l : Launch} {e : Env} {s : State} {m : MethodId} {args : Array Value} {below : List Frame} {meth : Method} {c : Code} {X : Ec} {h0 : Hp} {o : Int32 × Hp} {F : Nat} (C : Cx X p s m args meth c RX15 cX15_readPass 3 (some .boolean) "readPass") {h : Hp} {x0 : Nat} {t0 : Int32} {t1 : Nat} {H : Heap} {locs : List Loc} (k_x0 : hK h x0 = 15) (k_t1 : hK h t1 = 12) (hkm : Km h0 h) (hW : Wx X h H) (hZ : va_S (aA (eB X)) s.heap H locs) (ls : Array Slot) (hl : lv_has ls 3 [(0, .ref x0)]) (hE : sX15_readPass_77 F h x0 t0 t1 = some o) : W p l e (rm 2 43) s m args below meth c H locs 0 0 (MQ below (QI X h0 o.1 o.2) args s 0 0 (aA (eB X))) (F0 m 77 ls [.int t0, .ref t1]) := by
  obtain ⟨h_1, eh_1, hE⟩ := nm_e2 hE
  refine pf_X15_441 C hW hZ k_t1 eh_1 dX15_readPass_77 (fun _ _ hW km hZ => ?_)
  replace hkm := hkm.tr km
  replace k_x0 := km.at k_x0 (by decide)
  refine lv_aload_n C.1 C.2.1 dX15_readPass_80 rfl (lv_at hl 0 rfl) ?_
  refine lv_bipush (v := (32 : Int32)) C.1 C.2.1 dX15_readPass_81 (by decide) ?_
  obtain ⟨o_2, eo_2, hE⟩ := cl_e hE
  refine x_kI (o := o_2) (z_runV (As := [.int (32 : Int32)]) (rest := []) C (ct_X15_reads l X k_x0 eo_2) cw_X15_427 hW hZ k_x0 (by decide) rfl rfl rfl hl.1 (Nat.le_of_ble_eq_true rfl) rfl dX15_readPass_83 ⟨Nat.le_of_ble_eq_true rfl, Nat.le_of_ble_eq_true rfl⟩ ⟨Nat.le_refl _, Nat.le_refl _⟩) hZ (fun _ _ hW km hZ => ?_)
  replace hkm := hkm.tr km
  replace k_x0 := km.at k_x0 (by decide)
  obtain ⟨g_3, hE⟩ := gd_e hE
  exact x_iret C rfl (narB g_3) hW hZ hkm hE dX15_readPass_86
set_option maxRecDepth 20000 in
theorem bX15_readPass_18 {p : Program} {l : Launch} {e : Env} {s : State} {m : MethodId} {args : Array Value} {below : List Frame} {meth : Method} {c : Code} {X : Ec} {h0 : Hp} {o : Int32 × Hp} {F : Nat} (C : Cx X p s m args meth c RX15 cX15_readPass 3 (some .boolean) "readPass") : ∀ (f : Nat) {h : Hp} {x0 : Nat} {x1 : Nat} {x2 : Int32} {H : Heap} {locs : List Loc} (k_x0 : hK h x0 = 15) (k_x1 : hK h x1 = 12), Km h0 h → Wx X h H → va_S (aA (eB X)) s.heap H locs → ∀ (ls : Array Slot), lv_has ls 3 [(0, .ref x0), (1, .ref x1), (2, .int x2)] → sX15_readPass_18 F f h x0 x1 x2 = some o → W p l e (rm 2 43) s m args below meth c H locs 0 0 (MQ below (QI X h0 o.1 o.2) args s 0 0 (aA (eB X))) (F0 m 18 ls []) := by
  intro f
  induction f with
  | zero =>
    intro h x0 x1 x2 H locs k_x0 k_x1 hkm hW hZ ls hl hE
    rw [sX15_readPass_18] at hE
    cases hE
  | succ f ih =>
    intro h x0 x1 x2 H locs k_x0 k_x1 hkm hW hZ ls hl hE
    rw [sX15_readPass_18] at hE
    have hk_18 : ∀ (h : Hp) (x0 : Nat) (x1 : Nat) (x2 : Int32) (H : Heap) (locs : List Loc), hK h x0 = 15 → hK h x1 = 12 → Km h0 h → Wx X h H → va_S (aA (eB X)) s.heap H locs → ∀ (ls : Array Slot), lv_has ls 3 [(0, .ref x0), (1, .ref x1), (2, .int x2)] → sX15_readPass_18 F f h x0 x1 x2 = some o → W p l e (rm 2 43) s m args below meth c H locs 0 0 (MQ below (QI X h0 o.1 o.2) args s 0 0 (aA (eB X))) (F0 m 18 ls []) := fun h x0 x1 x2 H locs k_x0 k_x1 a b c ls hl hE => ih k_x0 k_x1 a b c ls hl hE
    refine lv_iload_n C.1 C.2.1 dX15_readPass_18 rfl (lv_at hl 2 rfl) ?_
    refine lv_iconst (v := (2 : Int32)) C.1 C.2.1 dX15_readPass_19 (by decide) ?_
    refine lv_icmp_lt (tgt := 32) C.1 C.2.1 dX15_readPass_20 (by decide) (fun c_1 => ?_) (fun c_1 => ?_)
    · have hE := br_p hE c_1
      exact bX15_readPass_32 C hk_18 k_x0 k_x1 hkm hW hZ _ (lv_sub hl [0, 1, 2] rfl) hE
    · have hE := br_n hE c_1
      refine lv_aload_n C.1 C.2.1 dX15_readPass_23 rfl (lv_at hl 0 rfl) ?_
      obtain ⟨o_2, eo_2, hE⟩ := cl_e hE
      refine x_kI (o := o_2) (z_runV (As := []) (rest := []) C (ct_X15_look l X k_x0 eo_2) cw_X15_421 hW hZ k_x0 (by decide) rfl rfl rfl hl.1 (Nat.le_of_ble_eq_true rfl) rfl dX15_readPass_24 ⟨Nat.le_of_ble_eq_true rfl, Nat.le_of_ble_eq_true rfl⟩ ⟨Nat.le_refl _, Nat.le_refl _⟩) hZ (fun _ _ hW km hZ => ?_)
      replace hkm := hkm.tr km
      replace k_x0 := km.at k_x0 (by decide)
      replace k_x1 := km.at k_x1 (by decide)
      refine lv_bipush (v := (32 : Int32)) C.1 C.2.1 dX15_readPass_27 (by decide) ?_
      refine lv_icmp_eq (tgt := 64) C.1 C.2.1 dX15_readPass_29 (by decide) (fun c_3 => ?_) (fun c_3 => ?_)
      · have hE := br_p hE c_3
        refine lv_aload_n C.1 C.2.1 dX15_readPass_64 rfl (lv_at hl 1 rfl) ?_
        refine lv_iload_n C.1 C.2.1 dX15_readPass_65 rfl (lv_at hl 2 rfl) ?_
        refine lv_bipush (v := (64 : Int32)) C.1 C.2.1 dX15_readPass_66 (by decide) ?_
        refine lv_icmp_ge (tgt := 75) C.1 C.2.1 dX15_readPass_68 (by decide) (fun c_4 => ?_) (fun c_4 => ?_)
        · have hE := br_p hE c_4
          refine lv_bipush (v := (64 : Int32)) C.1 C.2.1 dX15_readPass_75 (by decide) ?_
          exact bX15_readPass_77 C k_x0 k_x1 hkm hW hZ _ (lv_sub hl [0] rfl) hE
        · have hE := br_n hE c_4
          refine lv_iload_n C.1 C.2.1 dX15_readPass_71 rfl (lv_at hl 2 rfl) ?_
          refine lv_goto (tgt := 77) C.1 C.2.1 dX15_readPass_72 (by decide) ?_
          exact bX15_readPass_77 C k_x0 k_x1 hkm hW hZ _ (lv_sub hl [0] rfl) hE
      · have hE := br_n hE c_3
        exact bX15_readPass_32 C hk_18 k_x0 k_x1 hkm hW hZ _ (lv_sub hl [0, 1, 2] rfl) hE
set_option maxRecDepth 20000 in
theorem ct_X15_readPass (l : Launch) (X : Ec) (F : Nat) {h : Hp} {x0 : Nat} {x1 : Nat} {o : Int32 × Hp} (k_x0 : hK h x0 = 15) (k_x1 : hK h x1 = 12) (hE : sX15_readPass F h x0 x1 = some o) : MetI l yX15_readPass cX15_readPass 3 (some .boolean) 2 43 X [.ref x0, .ref x1] h o := by
  refine x_met (by decide) (Nat.le_of_ble_eq_true rfl) ?_
  intro p e s m below meth c ls C hl hW hZ
  have hl : lv_has ls 3 [(0, .ref x0), (1, .ref x1)] := hl
  have hkm : Km h h := Km.rf h
  refine lv_aload_n C.1 C.2.1 dX15_readPass_0 rfl (lv_at hl 0 rfl) ?_
  refine lv_bipush (v := (45 : Int32)) C.1 C.2.1 dX15_readPass_1 (by decide) ?_
  obtain ⟨o_1, eo_1, hE⟩ := cl_e hE
  refine x_kI (o := o_1) (z_runV (As := [.int (45 : Int32)]) (rest := []) C (ct_X15_reads l X k_x0 eo_1) cw_X15_427 hW hZ k_x0 (by decide) rfl rfl rfl hl.1 (Nat.le_of_ble_eq_true rfl) rfl dX15_readPass_3 ⟨Nat.le_of_ble_eq_true rfl, Nat.le_of_ble_eq_true rfl⟩ ⟨Nat.le_refl _, Nat.le_refl _⟩) hZ (fun _ _ hW km hZ => ?_)
  replace hkm := hkm.tr km
  replace k_x0 := km.at k_x0 (by decide)
  replace k_x1 := km.at k_x1 (by decide)
  refine lv_if_eq (tgt := 16) C.1 C.2.1 dX15_readPass_6 (by decide) (fun c_2 => ?_) (fun c_2 => ?_)
  · have hE := br_p hE c_2
    refine lv_iconst (v := (0 : Int32)) C.1 C.2.1 dX15_readPass_16 (by decide) ?_
    refine lv_istore_n (lv' := [(2, .int (0 : Int32)), (0, .ref x0), (1, .ref x1)]) C.1 C.2.1 dX15_readPass_17 rfl hl (by decide) rfl (fun ls hl => ?_)
    exact bX15_readPass_18 C F k_x0 k_x1 hkm hW hZ _ (lv_sub hl [1, 2, 0] rfl) hE
  · have hE := br_n hE c_2
    refine lv_aload_n C.1 C.2.1 dX15_readPass_9 rfl (lv_at hl 0 rfl) ?_
    refine lv_bipush (v := (32 : Int32)) C.1 C.2.1 dX15_readPass_10 (by decide) ?_
    obtain ⟨o_3, eo_3, hE⟩ := cl_e hE
    refine x_kI (o := o_3) (z_runV (As := [.int (32 : Int32)]) (rest := []) C (ct_X15_reads l X k_x0 eo_3) cw_X15_427 hW hZ k_x0 (by decide) rfl rfl rfl hl.1 (Nat.le_of_ble_eq_true rfl) rfl dX15_readPass_12 ⟨Nat.le_of_ble_eq_true rfl, Nat.le_of_ble_eq_true rfl⟩ ⟨Nat.le_refl _, Nat.le_refl _⟩) hZ (fun _ _ hW km hZ => ?_)
    replace hkm := hkm.tr km
    replace k_x0 := km.at k_x0 (by decide)
    replace k_x1 := km.at k_x1 (by decide)
    obtain ⟨g_4, hE⟩ := gd_e hE
    exact x_iret C rfl (narB g_4) hW hZ hkm hE dX15_readPass_15
set_option maxRecDepth 100000 in
theorem n_1919 : Cond.fieldLinkNest RX15 444 (TX12 5).1 (TX12 5).2.1 (TX12 5).2.2.1 "GameRulesModel" ∈ tables_1 := List.mem_of_getElem? (i := 1919) rfl
section
variable {p : Program} {l : Launch} {e : Env} {R : Room} {s : State} {m : MethodId} {args : Array Value} {below : List Frame} {meth : Method} {c : Code} {H : Heap} {locs : List Loc} {cells slots : Nat} {Q : State → Prop}
variable {cc : ByteArray} {pc : Nat} {ls : Array Slot} {rest : List Value} {X : Ec} {h h1 : Hp} {nL : Nat} {rt : Option FieldType} {mn : String}
theorem gf_X15_444 {a r : Nat} (C : Cx X p s m args meth c RX15 cc nL rt mn) (hW : Wx X h H) (ha : hK h a = 12) (hr : hR h a 5 = some r) (hdg : decode cc pc = .ok (.getfield 444, 3)) (kk : hK h r = 17 → W p l e R s m args below meth c H locs cells slots Q (F0 m (pc + 3) ls (.ref r :: rest))) : W p l e R s m args below meth c H locs cells slots Q (F0 m pc ls (.ref a :: rest)) :=
  y_getrN C hW ha i_X12 (by decide) rfl (by decide) n_1919 rfl rfl hr hdg kk
end
theorem dX15_readHands_0 : decode cX15_readHands 0 = .ok (.aload_n 0, 1) := by decide +kernel
theorem dX15_readHands_1 : decode cX15_readHands 1 = .ok (.bipush 45, 2) := by decide +kernel
theorem dX15_readHands_3 : decode cX15_readHands 3 = .ok (.invokevirtual 427, 3) := by decide +kernel
theorem dX15_readHands_6 : decode cX15_readHands 6 = .ok (.ifCond .eq 10, 3) := by decide +kernel
theorem dX15_readHands_9 : decode cX15_readHands 9 = .ok (.aload_n 0, 1) := by decide +kernel
theorem dX15_readHands_10 : decode cX15_readHands 10 = .ok (.bipush 32, 2) := by decide +kernel
theorem dX15_readHands_12 : decode cX15_readHands 12 = .ok (.invokevirtual 427, 3) := by decide +kernel
theorem dX15_readHands_15 : decode cX15_readHands 15 = .ok (.ireturn, 1) := by decide +kernel
theorem dX15_readHands_16 : decode cX15_readHands 16 = .ok (.iconst 0, 1) := by decide +kernel
theorem dX15_readHands_17 : decode cX15_readHands 17 = .ok (.istore_n 2, 1) := by decide +kernel
theorem dX15_readHands_18 : decode cX15_readHands 18 = .ok (.iload_n 2, 1) := by decide +kernel
theorem dX15_readHands_19 : decode cX15_readHands 19 = .ok (.ifCond .eq 12, 3) := by decide +kernel
theorem dX15_readHands_22 : decode cX15_readHands 22 = .ok (.aload_n 0, 1) := by decide +kernel
theorem dX15_readHands_23 : decode cX15_readHands 23 = .ok (.invokevirtual 421, 3) := by decide +kernel
theorem dX15_readHands_26 : decode cX15_readHands 26 = .ok (.bipush 32, 2) := by decide +kernel
theorem dX15_readHands_28 : decode cX15_readHands 28 = .ok (.if_icmp .eq 65, 3) := by decide +kernel
theorem dX15_readHands_31 : decode cX15_readHands 31 = .ok (.aload_n 0, 1) := by decide +kernel
theorem dX15_readHands_32 : decode cX15_readHands 32 = .ok (.aload_n 0, 1) := by decide +kernel
theorem dX15_readHands_33 : decode cX15_readHands 33 = .ok (.invokevirtual 421, 3) := by decide +kernel
theorem dX15_readHands_36 : decode cX15_readHands 36 = .ok (.invokevirtual 424, 3) := by decide +kernel
theorem dX15_readHands_39 : decode cX15_readHands 39 = .ok (.istore_n 3, 1) := by decide +kernel
theorem dX15_readHands_40 : decode cX15_readHands 40 = .ok (.iload_n 3, 1) := by decide +kernel
theorem dX15_readHands_41 : decode cX15_readHands 41 = .ok (.ifCond .eq 22, 3) := by decide +kernel
theorem dX15_readHands_44 : decode cX15_readHands 44 = .ok (.iload_n 2, 1) := by decide +kernel
theorem dX15_readHands_45 : decode cX15_readHands 45 = .ok (.bipush 32, 2) := by decide +kernel
theorem dX15_readHands_47 : decode cX15_readHands 47 = .ok (.if_icmp .eq 16, 3) := by decide +kernel
theorem dX15_readHands_50 : decode cX15_readHands 50 = .ok (.aload_n 1, 1) := by decide +kernel
theorem dX15_readHands_51 : decode cX15_readHands 51 = .ok (.getfield 444, 3) := by decide +kernel
theorem dX15_readHands_54 : decode cX15_readHands 54 = .ok (.iload_n 3, 1) := by decide +kernel
theorem dX15_readHands_55 : decode cX15_readHands 55 = .ok (.iconst 1, 1) := by decide +kernel
theorem dX15_readHands_56 : decode cX15_readHands 56 = .ok (.isub, 1) := by decide +kernel
theorem dX15_readHands_57 : decode cX15_readHands 57 = .ok (.iaload, 1) := by decide +kernel
theorem dX15_readHands_58 : decode cX15_readHands 58 = .ok (.bipush 16, 2) := by decide +kernel
theorem dX15_readHands_60 : decode cX15_readHands 60 = .ok (.if_icmp .ne 5, 3) := by decide +kernel
theorem dX15_readHands_63 : decode cX15_readHands 63 = .ok (.iconst 0, 1) := by decide +kernel
theorem dX15_readHands_64 : decode cX15_readHands 64 = .ok (.ireturn, 1) := by decide +kernel
theorem dX15_readHands_65 : decode cX15_readHands 65 = .ok (.aload_n 1, 1) := by decide +kernel
theorem dX15_readHands_66 : decode cX15_readHands 66 = .ok (.getfield 444, 3) := by decide +kernel
theorem dX15_readHands_69 : decode cX15_readHands 69 = .ok (.iload_n 3, 1) := by decide +kernel
theorem dX15_readHands_70 : decode cX15_readHands 70 = .ok (.iconst 1, 1) := by decide +kernel
theorem dX15_readHands_71 : decode cX15_readHands 71 = .ok (.isub, 1) := by decide +kernel
theorem dX15_readHands_72 : decode cX15_readHands 72 = .ok (.dup2, 1) := by decide +kernel
theorem dX15_readHands_73 : decode cX15_readHands 73 = .ok (.iaload, 1) := by decide +kernel
theorem dX15_readHands_74 : decode cX15_readHands 74 = .ok (.iconst 1, 1) := by decide +kernel
theorem dX15_readHands_75 : decode cX15_readHands 75 = .ok (.iadd, 1) := by decide +kernel
theorem dX15_readHands_76 : decode cX15_readHands 76 = .ok (.iastore, 1) := by decide +kernel
theorem dX15_readHands_77 : decode cX15_readHands 77 = .ok (.iinc 2 1, 3) := by decide +kernel
theorem dX15_readHands_80 : decode cX15_readHands 80 = .ok (.aload_n 0, 1) := by decide +kernel
theorem dX15_readHands_81 : decode cX15_readHands 81 = .ok (.dup, 1) := by decide +kernel
theorem dX15_readHands_82 : decode cX15_readHands 82 = .ok (.getfield 412, 3) := by decide +kernel
theorem dX15_readHands_85 : decode cX15_readHands 85 = .ok (.iconst 1, 1) := by decide +kernel
theorem dX15_readHands_86 : decode cX15_readHands 86 = .ok (.iadd, 1) := by decide +kernel
theorem dX15_readHands_87 : decode cX15_readHands 87 = .ok (.putfield 412, 3) := by decide +kernel
theorem dX15_readHands_90 : decode cX15_readHands 90 = .ok (.goto (-72), 3) := by decide +kernel
theorem dX15_readHands_93 : decode cX15_readHands 93 = .ok (.aload_n 0, 1) := by decide +kernel
theorem dX15_readHands_94 : decode cX15_readHands 94 = .ok (.bipush 32, 2) := by decide +kernel
theorem dX15_readHands_96 : decode cX15_readHands 96 = .ok (.invokevirtual 427, 3) := by decide +kernel
theorem dX15_readHands_99 : decode cX15_readHands 99 = .ok (.ireturn, 1) := by decide +kernel
set_option maxRecDepth 20000 in
theorem moX15_readHands_63 {o : Int32 × Hp} {F : Nat} {h : Hp} (hE : sX15_readHands_63 F h  = some o) : Le h o.2 := by
  exact le_some2 hE
set_option maxRecDepth 20000 in
theorem moX15_readHands_31 {o : Int32 × Hp} {k_18 : Hp → Nat → Nat → Int32 → Option (Int32 × Hp)} {F : Nat} (mk_18 : ∀ (h : Hp) (x0 : Nat) (x1 : Nat) (x2 : Int32), k_18 h x0 x1 x2 = some o → Le h o.2) {h : Hp} {x0 : Nat} {x1 : Nat} {x2 : Int32} (hE : sX15_readHands_31 F k_18 h x0 x1 x2 = some o) : Le h o.2 := by
  obtain ⟨o_1, eo_1, hE⟩ := cl_e hE
  refine (moX15_look eo_1).tr ?_
  obtain ⟨o_2, eo_2, hE⟩ := cl_e hE
  refine (moX15_manLetter eo_2).tr ?_
  rcases br_e hE with ⟨_, hE⟩ | ⟨_, hE⟩
  · exact moX15_readHands_63 hE
  · rcases br_e hE with ⟨_, hE⟩ | ⟨_, hE⟩
    · exact moX15_readHands_63 hE
    · obtain ⟨r_5, er_5, hE⟩ := cl_e hE
      obtain ⟨g_6, hE⟩ := gd_e hE
      rcases br_e hE with ⟨_, hE⟩ | ⟨_, hE⟩
      · exact moX15_readHands_63 hE
      · obtain ⟨r_8, er_8, hE⟩ := cl_e hE
        obtain ⟨g_9, hE⟩ := gd_e hE
        obtain ⟨g_10, hE⟩ := gd_e hE
        obtain ⟨h_11, eh_11, hE⟩ := nm_e2 hE
        refine (le_I eh_11).tr ?_
        obtain ⟨v_12, ev_12, hE⟩ := nm_e2 hE
        obtain ⟨h_13, eh_13, hE⟩ := nm_e2 hE
        refine (le_I eh_13).tr ?_
        exact mk_18 _ _ _ _ hE
set_option maxRecDepth 20000 in
theorem moX15_readHands_18 {o : Int32 × Hp} {F : Nat} : ∀ (f : Nat) {h : Hp} {x0 : Nat} {x1 : Nat} {x2 : Int32}, sX15_readHands_18 F f h x0 x1 x2 = some o → Le h o.2 := by
  intro f
  induction f with
  | zero =>
    intro h x0 x1 x2 hE
    rw [sX15_readHands_18] at hE
    cases hE
  | succ f ih =>
    intro h x0 x1 x2 hE
    rw [sX15_readHands_18] at hE
    have mk_18 : ∀ (h : Hp) (x0 : Nat) (x1 : Nat) (x2 : Int32), sX15_readHands_18 F f h x0 x1 x2 = some o → Le h o.2 := fun h x0 x1 x2 hE => ih hE
    rcases br_e hE with ⟨_, hE⟩ | ⟨_, hE⟩
    · exact moX15_readHands_31 mk_18 hE
    · obtain ⟨o_2, eo_2, hE⟩ := cl_e hE
      refine (moX15_look eo_2).tr ?_
      rcases br_e hE with ⟨_, hE⟩ | ⟨_, hE⟩
      · obtain ⟨o_4, eo_4, hE⟩ := cl_e hE
        refine (moX15_reads eo_4).tr ?_
        obtain ⟨g_5, hE⟩ := gd_e hE
        exact le_some2 hE
      · exact moX15_readHands_31 mk_18 hE
set_option maxRecDepth 20000 in
theorem moX15_readHands {o : Int32 × Hp} {F : Nat} {h : Hp} {x0 : Nat} {x1 : Nat} (hE : sX15_readHands F h x0 x1 = some o) : Le h o.2 := by
  obtain ⟨o_1, eo_1, hE⟩ := cl_e hE
  refine (moX15_reads eo_1).tr ?_
  rcases br_e hE with ⟨_, hE⟩ | ⟨_, hE⟩
  · exact moX15_readHands_18 _ hE
  · obtain ⟨o_3, eo_3, hE⟩ := cl_e hE
    refine (moX15_reads eo_3).tr ?_
    obtain ⟨g_4, hE⟩ := gd_e hE
    exact le_some2 hE
set_option maxRecDepth 20000 in
theorem bX15_readHands_63 {p : Program} {l : Launch} {e : Env} {s : State} {m : MethodId} {args : Array Value} {below : List Frame} {meth : Method} {c : Code} {X : Ec} {h0 : Hp} {o : Int32 × Hp} {F : Nat} (C : Cx X p s m args meth c RX15 cX15_readHands 4 (some .boolean) "readHands") {h : Hp} {H : Heap} {locs : List Loc} (hkm : Km h0 h) (hW : Wx X h H) (hZ : va_S (aA (eB X)) s.heap H locs) (ls : Array Slot) (hl : lv_has ls 4 []) (hE : sX15_readHands_63 F h  = some o) : W p l e (rm 2 43) s m args below meth c H locs 0 0 (MQ below (QI X h0 o.1 o.2) args s 0 0 (aA (eB X))) (F0 m 63 ls []) := by
  refine lv_iconst (v := (0 : Int32)) C.1 C.2.1 dX15_readHands_63 (by decide) ?_
  exact x_iret C rfl (by decide) hW hZ hkm hE dX15_readHands_64
set_option maxRecDepth 20000 in
theorem bX15_readHands_31 {p : Program} {l : Launch} {e : Env} {s : State} {m : MethodId} {args : Array Value} {below : List Frame} {meth : Method} {c : Code} {X : Ec} {h0 : Hp} {o : Int32 × Hp} {k_18 : Hp → Nat → Nat → Int32 → Option (Int32 × Hp)} {F : Nat} (C : Cx X p s m args meth c RX15 cX15_readHands 4 (some .boolean) "readHands") (hk_18 : ∀ (h : Hp) (x0 : Nat) (x1 : Nat) (x2 : Int32) (H : Heap) (locs : List Loc), hK h x0 = 15 → hK h x1 = 12 → Km h0 h → Wx X h H → va_S (aA (eB X)) s.heap H locs → ∀ (ls : Array Slot), lv_has ls 4 [(0, .ref x0), (1, .ref x1), (2, .int x2)] → k_18 h x0 x1 x2 = some o → W p l e (rm 2 43) s m args below meth c H locs 0 0 (MQ below (QI X h0 o.1 o.2) args s 0 0 (aA (eB X))) (F0 m 18 ls [])) {h : Hp} {x0 : Nat} {x1 : Nat} {x2 : Int32} {H : Heap} {locs : List Loc} (k_x0 : hK h x0 = 15) (k_x1 : hK h x1 = 12) (hkm : Km h0 h) (hW : Wx X h H) (hZ : va_S (aA (eB X)) s.heap H locs) (ls : Array Slot) (hl : lv_has ls 4 [(0, .ref x0), (1, .ref x1), (2, .int x2)]) (hE : sX15_readHands_31 F k_18 h x0 x1 x2 = some o) : W p l e (rm 2 43) s m args below meth c H locs 0 0 (MQ below (QI X h0 o.1 o.2) args s 0 0 (aA (eB X))) (F0 m 31 ls []) := by
  refine lv_aload_n C.1 C.2.1 dX15_readHands_31 rfl (lv_at hl 0 rfl) ?_
  refine lv_aload_n C.1 C.2.1 dX15_readHands_32 rfl (lv_at hl 0 rfl) ?_
  obtain ⟨o_1, eo_1, hE⟩ := cl_e hE
  refine x_kI (o := o_1) (z_runV (As := []) (rest := [.ref x0]) C (ct_X15_look l X k_x0 eo_1) cw_X15_421 hW hZ k_x0 (by decide) rfl rfl rfl hl.1 (Nat.le_of_ble_eq_true rfl) rfl dX15_readHands_33 ⟨Nat.le_of_ble_eq_true rfl, Nat.le_of_ble_eq_true rfl⟩ ⟨Nat.le_refl _, Nat.le_refl _⟩) hZ (fun _ _ hW km hZ => ?_)
  replace hkm := hkm.tr km
  replace k_x0 := km.at k_x0 (by decide)
  replace k_x1 := km.at k_x1 (by decide)
  obtain ⟨o_2, eo_2, hE⟩ := cl_e hE
  refine x_kI (o := o_2) (z_runV (As := [.int o_1.1]) (rest := []) C (ct_X15_manLetter l X F k_x0 eo_2) cw_X15_424 hW hZ k_x0 (by decide) rfl rfl rfl hl.1 (Nat.le_of_ble_eq_true rfl) rfl dX15_readHands_36 ⟨Nat.le_of_ble_eq_true rfl, Nat.le_of_ble_eq_true rfl⟩ ⟨Nat.le_refl _, Nat.le_refl _⟩) hZ (fun _ _ hW km hZ => ?_)
  replace hkm := hkm.tr km
  replace k_x0 := km.at k_x0 (by decide)
  replace k_x1 := km.at k_x1 (by decide)
  refine lv_istore_n (lv' := [(3, .int o_2.1), (0, .ref x0), (1, .ref x1), (2, .int x2)]) C.1 C.2.1 dX15_readHands_39 rfl hl (by decide) rfl (fun ls hl => ?_)
  refine lv_iload_n C.1 C.2.1 dX15_readHands_40 rfl (lv_at hl 0 rfl) ?_
  refine lv_if_eq (tgt := 63) C.1 C.2.1 dX15_readHands_41 (by decide) (fun c_3 => ?_) (fun c_3 => ?_)
  · have hE := br_p hE c_3
    exact bX15_readHands_63 C hkm hW hZ _ (lv_sub hl [] rfl) hE
  · have hE := br_n hE c_3
    refine lv_iload_n C.1 C.2.1 dX15_readHands_44 rfl (lv_at hl 3 rfl) ?_
    refine lv_bipush (v := (32 : Int32)) C.1 C.2.1 dX15_readHands_45 (by decide) ?_
    refine lv_icmp_eq (tgt := 63) C.1 C.2.1 dX15_readHands_47 (by decide) (fun c_4 => ?_) (fun c_4 => ?_)
    · have hE := br_p hE c_4
      exact bX15_readHands_63 C hkm hW hZ _ (lv_sub hl [] rfl) hE
    · have hE := br_n hE c_4
      refine lv_aload_n C.1 C.2.1 dX15_readHands_50 rfl (lv_at hl 2 rfl) ?_
      obtain ⟨r_5, er_5, hE⟩ := cl_e hE
      refine gf_X15_444 C hW k_x1 er_5 dX15_readHands_51 (fun k_r_5 => ?_)
      refine lv_iload_n C.1 C.2.1 dX15_readHands_54 rfl (lv_at hl 0 rfl) ?_
      refine lv_iconst (v := (1 : Int32)) C.1 C.2.1 dX15_readHands_55 (by decide) ?_
      refine lv_isub C.1 C.2.1 dX15_readHands_56 ?_
      obtain ⟨g_6, hE⟩ := gd_e hE
      refine y_iald C hW k_r_5 g_6 dX15_readHands_57 ?_
      refine lv_bipush (v := (16 : Int32)) C.1 C.2.1 dX15_readHands_58 (by decide) ?_
      refine lv_icmp_ne (tgt := 65) C.1 C.2.1 dX15_readHands_60 (by decide) (fun c_7 => ?_) (fun c_7 => ?_)
      · have hE := br_n hE c_7
        refine lv_aload_n C.1 C.2.1 dX15_readHands_65 rfl (lv_at hl 2 rfl) ?_
        obtain ⟨r_8, er_8, hE⟩ := cl_e hE
        refine gf_X15_444 C hW k_x1 er_8 dX15_readHands_66 (fun k_r_8 => ?_)
        refine lv_iload_n C.1 C.2.1 dX15_readHands_69 rfl (lv_at hl 0 rfl) ?_
        refine lv_iconst (v := (1 : Int32)) C.1 C.2.1 dX15_readHands_70 (by decide) ?_
        refine lv_isub C.1 C.2.1 dX15_readHands_71 ?_
        refine lv_dup2_11 C.1 C.2.1 dX15_readHands_72 rfl rfl ?_
        obtain ⟨g_9, hE⟩ := gd_e hE
        refine y_iald C hW k_r_8 g_9 dX15_readHands_73 ?_
        refine lv_iconst (v := (1 : Int32)) C.1 C.2.1 dX15_readHands_74 (by decide) ?_
        refine lv_iadd C.1 C.2.1 dX15_readHands_75 ?_
        obtain ⟨g_10, hE⟩ := gd_e hE
        obtain ⟨h_11, eh_11, hE⟩ := nm_e2 hE
        refine y_iast C hW hZ k_r_8 g_10 eh_11 dX15_readHands_76 (fun _ _ hW km hZ => ?_)
        replace hkm := hkm.tr km
        replace k_x0 := km.at k_x0 (by decide)
        replace k_x1 := km.at k_x1 (by decide)
        obtain ⟨v_12, ev_12, hE⟩ := nm_e2 hE
        refine lv_iinc (v := v_12) (lv' := [(2, .int v_12), (3, .int o_2.1), (0, .ref x0), (1, .ref x1)]) C.1 C.2.1 dX15_readHands_77 hl (k := 3) rfl (by rw [ev_12]; rfl) (by decide) rfl (fun ls hl => ?_)
        refine lv_aload_n C.1 C.2.1 dX15_readHands_80 rfl (lv_at hl 2 rfl) ?_
        refine lv_dup C.1 C.2.1 dX15_readHands_81 rfl ?_
        refine gf_X15_412 C hW k_x0 dX15_readHands_82 ?_
        refine lv_iconst (v := (1 : Int32)) C.1 C.2.1 dX15_readHands_85 (by decide) ?_
        refine lv_iadd C.1 C.2.1 dX15_readHands_86 ?_
        obtain ⟨h_13, eh_13, hE⟩ := nm_e2 hE
        refine pf_X15_412 C hW hZ k_x0 eh_13 dX15_readHands_87 (fun _ _ hW km hZ => ?_)
        replace hkm := hkm.tr km
        replace k_x0 := km.at k_x0 (by decide)
        replace k_x1 := km.at k_x1 (by decide)
        refine lv_goto (tgt := 18) C.1 C.2.1 dX15_readHands_90 (by decide) ?_
        exact hk_18 _ _ _ _ _ _ k_x0 k_x1 hkm hW hZ _ (lv_sub hl [2, 3, 0] rfl) hE
      · have hE := br_p hE c_7
        exact bX15_readHands_63 C hkm hW hZ _ (lv_sub hl [] rfl) hE
set_option maxRecDepth 20000 in
theorem bX15_readHands_18 {p : Program} {l : Launch} {e : Env} {s : State} {m : MethodId} {args : Array Value} {below : List Frame} {meth : Method} {c : Code} {X : Ec} {h0 : Hp} {o : Int32 × Hp} {F : Nat} (C : Cx X p s m args meth c RX15 cX15_readHands 4 (some .boolean) "readHands") : ∀ (f : Nat) {h : Hp} {x0 : Nat} {x1 : Nat} {x2 : Int32} {H : Heap} {locs : List Loc} (k_x0 : hK h x0 = 15) (k_x1 : hK h x1 = 12), Km h0 h → Wx X h H → va_S (aA (eB X)) s.heap H locs → ∀ (ls : Array Slot), lv_has ls 4 [(0, .ref x0), (1, .ref x1), (2, .int x2)] → sX15_readHands_18 F f h x0 x1 x2 = some o → W p l e (rm 2 43) s m args below meth c H locs 0 0 (MQ below (QI X h0 o.1 o.2) args s 0 0 (aA (eB X))) (F0 m 18 ls []) := by
  intro f
  induction f with
  | zero =>
    intro h x0 x1 x2 H locs k_x0 k_x1 hkm hW hZ ls hl hE
    rw [sX15_readHands_18] at hE
    cases hE
  | succ f ih =>
    intro h x0 x1 x2 H locs k_x0 k_x1 hkm hW hZ ls hl hE
    rw [sX15_readHands_18] at hE
    have hk_18 : ∀ (h : Hp) (x0 : Nat) (x1 : Nat) (x2 : Int32) (H : Heap) (locs : List Loc), hK h x0 = 15 → hK h x1 = 12 → Km h0 h → Wx X h H → va_S (aA (eB X)) s.heap H locs → ∀ (ls : Array Slot), lv_has ls 4 [(0, .ref x0), (1, .ref x1), (2, .int x2)] → sX15_readHands_18 F f h x0 x1 x2 = some o → W p l e (rm 2 43) s m args below meth c H locs 0 0 (MQ below (QI X h0 o.1 o.2) args s 0 0 (aA (eB X))) (F0 m 18 ls []) := fun h x0 x1 x2 H locs k_x0 k_x1 a b c ls hl hE => ih k_x0 k_x1 a b c ls hl hE
    refine lv_iload_n C.1 C.2.1 dX15_readHands_18 rfl (lv_at hl 2 rfl) ?_
    refine lv_if_eq (tgt := 31) C.1 C.2.1 dX15_readHands_19 (by decide) (fun c_1 => ?_) (fun c_1 => ?_)
    · have hE := br_p hE c_1
      exact bX15_readHands_31 C hk_18 k_x0 k_x1 hkm hW hZ _ (lv_sub hl [0, 1, 2] rfl) hE
    · have hE := br_n hE c_1
      refine lv_aload_n C.1 C.2.1 dX15_readHands_22 rfl (lv_at hl 0 rfl) ?_
      obtain ⟨o_2, eo_2, hE⟩ := cl_e hE
      refine x_kI (o := o_2) (z_runV (As := []) (rest := []) C (ct_X15_look l X k_x0 eo_2) cw_X15_421 hW hZ k_x0 (by decide) rfl rfl rfl hl.1 (Nat.le_of_ble_eq_true rfl) rfl dX15_readHands_23 ⟨Nat.le_of_ble_eq_true rfl, Nat.le_of_ble_eq_true rfl⟩ ⟨Nat.le_refl _, Nat.le_refl _⟩) hZ (fun _ _ hW km hZ => ?_)
      replace hkm := hkm.tr km
      replace k_x0 := km.at k_x0 (by decide)
      replace k_x1 := km.at k_x1 (by decide)
      refine lv_bipush (v := (32 : Int32)) C.1 C.2.1 dX15_readHands_26 (by decide) ?_
      refine lv_icmp_eq (tgt := 93) C.1 C.2.1 dX15_readHands_28 (by decide) (fun c_3 => ?_) (fun c_3 => ?_)
      · have hE := br_p hE c_3
        refine lv_aload_n C.1 C.2.1 dX15_readHands_93 rfl (lv_at hl 0 rfl) ?_
        refine lv_bipush (v := (32 : Int32)) C.1 C.2.1 dX15_readHands_94 (by decide) ?_
        obtain ⟨o_4, eo_4, hE⟩ := cl_e hE
        refine x_kI (o := o_4) (z_runV (As := [.int (32 : Int32)]) (rest := []) C (ct_X15_reads l X k_x0 eo_4) cw_X15_427 hW hZ k_x0 (by decide) rfl rfl rfl hl.1 (Nat.le_of_ble_eq_true rfl) rfl dX15_readHands_96 ⟨Nat.le_of_ble_eq_true rfl, Nat.le_of_ble_eq_true rfl⟩ ⟨Nat.le_refl _, Nat.le_refl _⟩) hZ (fun _ _ hW km hZ => ?_)
        replace hkm := hkm.tr km
        replace k_x0 := km.at k_x0 (by decide)
        replace k_x1 := km.at k_x1 (by decide)
        obtain ⟨g_5, hE⟩ := gd_e hE
        exact x_iret C rfl (narB g_5) hW hZ hkm hE dX15_readHands_99
      · have hE := br_n hE c_3
        exact bX15_readHands_31 C hk_18 k_x0 k_x1 hkm hW hZ _ (lv_sub hl [0, 1, 2] rfl) hE
set_option maxRecDepth 20000 in
theorem ct_X15_readHands (l : Launch) (X : Ec) (F : Nat) {h : Hp} {x0 : Nat} {x1 : Nat} {o : Int32 × Hp} (k_x0 : hK h x0 = 15) (k_x1 : hK h x1 = 12) (hE : sX15_readHands F h x0 x1 = some o) : MetI l yX15_readHands cX15_readHands 4 (some .boolean) 2 43 X [.ref x0, .ref x1] h o := by
  refine x_met (by decide) (Nat.le_of_ble_eq_true rfl) ?_
  intro p e s m below meth c ls C hl hW hZ
  have hl : lv_has ls 4 [(0, .ref x0), (1, .ref x1)] := hl
  have hkm : Km h h := Km.rf h
  refine lv_aload_n C.1 C.2.1 dX15_readHands_0 rfl (lv_at hl 0 rfl) ?_
  refine lv_bipush (v := (45 : Int32)) C.1 C.2.1 dX15_readHands_1 (by decide) ?_
  obtain ⟨o_1, eo_1, hE⟩ := cl_e hE
  refine x_kI (o := o_1) (z_runV (As := [.int (45 : Int32)]) (rest := []) C (ct_X15_reads l X k_x0 eo_1) cw_X15_427 hW hZ k_x0 (by decide) rfl rfl rfl hl.1 (Nat.le_of_ble_eq_true rfl) rfl dX15_readHands_3 ⟨Nat.le_of_ble_eq_true rfl, Nat.le_of_ble_eq_true rfl⟩ ⟨Nat.le_refl _, Nat.le_refl _⟩) hZ (fun _ _ hW km hZ => ?_)
  replace hkm := hkm.tr km
  replace k_x0 := km.at k_x0 (by decide)
  replace k_x1 := km.at k_x1 (by decide)
  refine lv_if_eq (tgt := 16) C.1 C.2.1 dX15_readHands_6 (by decide) (fun c_2 => ?_) (fun c_2 => ?_)
  · have hE := br_p hE c_2
    refine lv_iconst (v := (0 : Int32)) C.1 C.2.1 dX15_readHands_16 (by decide) ?_
    refine lv_istore_n (lv' := [(2, .int (0 : Int32)), (0, .ref x0), (1, .ref x1)]) C.1 C.2.1 dX15_readHands_17 rfl hl (by decide) rfl (fun ls hl => ?_)
    exact bX15_readHands_18 C F k_x0 k_x1 hkm hW hZ _ (lv_sub hl [1, 2, 0] rfl) hE
  · have hE := br_n hE c_2
    refine lv_aload_n C.1 C.2.1 dX15_readHands_9 rfl (lv_at hl 0 rfl) ?_
    refine lv_bipush (v := (32 : Int32)) C.1 C.2.1 dX15_readHands_10 (by decide) ?_
    obtain ⟨o_3, eo_3, hE⟩ := cl_e hE
    refine x_kI (o := o_3) (z_runV (As := [.int (32 : Int32)]) (rest := []) C (ct_X15_reads l X k_x0 eo_3) cw_X15_427 hW hZ k_x0 (by decide) rfl rfl rfl hl.1 (Nat.le_of_ble_eq_true rfl) rfl dX15_readHands_12 ⟨Nat.le_of_ble_eq_true rfl, Nat.le_of_ble_eq_true rfl⟩ ⟨Nat.le_refl _, Nat.le_refl _⟩) hZ (fun _ _ hW km hZ => ?_)
    replace hkm := hkm.tr km
    replace k_x0 := km.at k_x0 (by decide)
    replace k_x1 := km.at k_x1 (by decide)
    obtain ⟨g_4, hE⟩ := gd_e hE
    exact x_iret C rfl (narB g_4) hW hZ hkm hE dX15_readHands_15
set_option maxRecDepth 100000 in
theorem n_1921 : Cond.fieldLinkNest RX15 447 (TX12 6).1 (TX12 6).2.1 (TX12 6).2.2.1 "GameRulesModel" ∈ tables_1 := List.mem_of_getElem? (i := 1921) rfl
set_option maxRecDepth 100000 in
theorem n_1923 : Cond.fieldLinkNest RX15 449 (TX12 7).1 (TX12 7).2.1 (TX12 7).2.2.1 "GameRulesModel" ∈ tables_1 := List.mem_of_getElem? (i := 1923) rfl
section
variable {p : Program} {l : Launch} {e : Env} {R : Room} {s : State} {m : MethodId} {args : Array Value} {below : List Frame} {meth : Method} {c : Code} {H : Heap} {locs : List Loc} {cells slots : Nat} {Q : State → Prop}
variable {cc : ByteArray} {pc : Nat} {ls : Array Slot} {rest : List Value} {X : Ec} {h h1 : Hp} {nL : Nat} {rt : Option FieldType} {mn : String}
theorem pf_X15_449 {a : Nat} {v : Int32} (C : Cx X p s m args meth c RX15 cc nL rt mn) (hW : Wx X h H) (hZ : va_S (aA (eB X)) s.heap H locs) (ha : hK h a = 12) (eh : h1 = wI h a 7 v) (hdg : decode cc pc = .ok (.putfield 449, 3)) (kk : ∀ (H1 : Heap) (locs1 : List Loc), Wx X h1 H1 → Km h h1 → va_S (aA (eB X)) s.heap H1 locs1 → W p l e R s m args below meth c H1 locs1 cells slots Q (F0 m (pc + 3) ls rest)) : W p l e R s m args below meth c H locs cells slots Q (F0 m pc ls (.int v :: .ref a :: rest)) :=
  y_putiN (ty := .int) C hW hZ ha i_X12 tyX12 tyX12_ok nmX12 (by decide) rfl rfl (by decide) n_1923 rfl (by decide +kernel) rfl rfl rfl eh hdg kk
theorem gf_X15_447 {a r : Nat} (C : Cx X p s m args meth c RX15 cc nL rt mn) (hW : Wx X h H) (ha : hK h a = 12) (hr : hR h a 6 = some r) (hdg : decode cc pc = .ok (.getfield 447, 3)) (kk : hK h r = 17 → W p l e R s m args below meth c H locs cells slots Q (F0 m (pc + 3) ls (.ref r :: rest))) : W p l e R s m args below meth c H locs cells slots Q (F0 m pc ls (.ref a :: rest)) :=
  y_getrN C hW ha i_X12 (by decide) rfl (by decide) n_1921 rfl rfl hr hdg kk
end
theorem dX15_readRest_0 : decode cX15_readRest 0 = .ok (.iconst 0, 1) := by decide +kernel
theorem dX15_readRest_1 : decode cX15_readRest 1 = .ok (.istore_n 2, 1) := by decide +kernel
theorem dX15_readRest_2 : decode cX15_readRest 2 = .ok (.iload_n 2, 1) := by decide +kernel
theorem dX15_readRest_3 : decode cX15_readRest 3 = .ok (.iconst 2, 1) := by decide +kernel
theorem dX15_readRest_4 : decode cX15_readRest 4 = .ok (.if_icmp .ge 44, 3) := by decide +kernel
theorem dX15_readRest_7 : decode cX15_readRest 7 = .ok (.aload_n 0, 1) := by decide +kernel
theorem dX15_readRest_8 : decode cX15_readRest 8 = .ok (.invokevirtual 421, 3) := by decide +kernel
theorem dX15_readRest_11 : decode cX15_readRest 11 = .ok (.invokestatic 41, 3) := by decide +kernel
theorem dX15_readRest_14 : decode cX15_readRest 14 = .ok (.ifCond .ne 5, 3) := by decide +kernel
theorem dX15_readRest_17 : decode cX15_readRest 17 = .ok (.iconst 0, 1) := by decide +kernel
theorem dX15_readRest_18 : decode cX15_readRest 18 = .ok (.ireturn, 1) := by decide +kernel
theorem dX15_readRest_19 : decode cX15_readRest 19 = .ok (.aload_n 1, 1) := by decide +kernel
theorem dX15_readRest_20 : decode cX15_readRest 20 = .ok (.getfield 447, 3) := by decide +kernel
theorem dX15_readRest_23 : decode cX15_readRest 23 = .ok (.iload_n 2, 1) := by decide +kernel
theorem dX15_readRest_24 : decode cX15_readRest 24 = .ok (.aload_n 0, 1) := by decide +kernel
theorem dX15_readRest_25 : decode cX15_readRest 25 = .ok (.invokevirtual 421, 3) := by decide +kernel
theorem dX15_readRest_28 : decode cX15_readRest 28 = .ok (.bipush 48, 2) := by decide +kernel
theorem dX15_readRest_30 : decode cX15_readRest 30 = .ok (.isub, 1) := by decide +kernel
theorem dX15_readRest_31 : decode cX15_readRest 31 = .ok (.iastore, 1) := by decide +kernel
theorem dX15_readRest_32 : decode cX15_readRest 32 = .ok (.aload_n 0, 1) := by decide +kernel
theorem dX15_readRest_33 : decode cX15_readRest 33 = .ok (.dup, 1) := by decide +kernel
theorem dX15_readRest_34 : decode cX15_readRest 34 = .ok (.getfield 412, 3) := by decide +kernel
theorem dX15_readRest_37 : decode cX15_readRest 37 = .ok (.iconst 1, 1) := by decide +kernel
theorem dX15_readRest_38 : decode cX15_readRest 38 = .ok (.iadd, 1) := by decide +kernel
theorem dX15_readRest_39 : decode cX15_readRest 39 = .ok (.putfield 412, 3) := by decide +kernel
theorem dX15_readRest_42 : decode cX15_readRest 42 = .ok (.iinc 2 1, 3) := by decide +kernel
theorem dX15_readRest_45 : decode cX15_readRest 45 = .ok (.goto (-43), 3) := by decide +kernel
theorem dX15_readRest_48 : decode cX15_readRest 48 = .ok (.aload_n 0, 1) := by decide +kernel
theorem dX15_readRest_49 : decode cX15_readRest 49 = .ok (.bipush 32, 2) := by decide +kernel
theorem dX15_readRest_51 : decode cX15_readRest 51 = .ok (.invokevirtual 427, 3) := by decide +kernel
theorem dX15_readRest_54 : decode cX15_readRest 54 = .ok (.ifCond .eq 13, 3) := by decide +kernel
theorem dX15_readRest_57 : decode cX15_readRest 57 = .ok (.aload_n 0, 1) := by decide +kernel
theorem dX15_readRest_58 : decode cX15_readRest 58 = .ok (.invokevirtual 421, 3) := by decide +kernel
theorem dX15_readRest_61 : decode cX15_readRest 61 = .ok (.invokestatic 41, 3) := by decide +kernel
theorem dX15_readRest_64 : decode cX15_readRest 64 = .ok (.ifCond .ne 5, 3) := by decide +kernel
theorem dX15_readRest_67 : decode cX15_readRest 67 = .ok (.iconst 0, 1) := by decide +kernel
theorem dX15_readRest_68 : decode cX15_readRest 68 = .ok (.ireturn, 1) := by decide +kernel
theorem dX15_readRest_69 : decode cX15_readRest 69 = .ok (.aload_n 0, 1) := by decide +kernel
theorem dX15_readRest_70 : decode cX15_readRest 70 = .ok (.getfield 412, 3) := by decide +kernel
theorem dX15_readRest_73 : decode cX15_readRest 73 = .ok (.istore_n 2, 1) := by decide +kernel
theorem dX15_readRest_74 : decode cX15_readRest 74 = .ok (.iconst 0, 1) := by decide +kernel
theorem dX15_readRest_75 : decode cX15_readRest 75 = .ok (.istore_n 3, 1) := by decide +kernel
theorem dX15_readRest_76 : decode cX15_readRest 76 = .ok (.iconst 0, 1) := by decide +kernel
theorem dX15_readRest_77 : decode cX15_readRest 77 = .ok (.istore 4, 2) := by decide +kernel
theorem dX15_readRest_79 : decode cX15_readRest 79 = .ok (.iload 4, 2) := by decide +kernel
theorem dX15_readRest_81 : decode cX15_readRest 81 = .ok (.iconst 3, 1) := by decide +kernel
theorem dX15_readRest_82 : decode cX15_readRest 82 = .ok (.if_icmp .ge 42, 3) := by decide +kernel
theorem dX15_readRest_85 : decode cX15_readRest 85 = .ok (.aload_n 0, 1) := by decide +kernel
theorem dX15_readRest_86 : decode cX15_readRest 86 = .ok (.invokevirtual 421, 3) := by decide +kernel
theorem dX15_readRest_89 : decode cX15_readRest 89 = .ok (.invokestatic 41, 3) := by decide +kernel
theorem dX15_readRest_92 : decode cX15_readRest 92 = .ok (.ifCond .eq 32, 3) := by decide +kernel
theorem dX15_readRest_95 : decode cX15_readRest 95 = .ok (.bipush 10, 2) := by decide +kernel
theorem dX15_readRest_97 : decode cX15_readRest 97 = .ok (.iload_n 3, 1) := by decide +kernel
theorem dX15_readRest_98 : decode cX15_readRest 98 = .ok (.imul, 1) := by decide +kernel
theorem dX15_readRest_99 : decode cX15_readRest 99 = .ok (.aload_n 0, 1) := by decide +kernel
theorem dX15_readRest_100 : decode cX15_readRest 100 = .ok (.invokevirtual 421, 3) := by decide +kernel
theorem dX15_readRest_103 : decode cX15_readRest 103 = .ok (.iadd, 1) := by decide +kernel
theorem dX15_readRest_104 : decode cX15_readRest 104 = .ok (.bipush 48, 2) := by decide +kernel
theorem dX15_readRest_106 : decode cX15_readRest 106 = .ok (.isub, 1) := by decide +kernel
theorem dX15_readRest_107 : decode cX15_readRest 107 = .ok (.istore_n 3, 1) := by decide +kernel
theorem dX15_readRest_108 : decode cX15_readRest 108 = .ok (.aload_n 0, 1) := by decide +kernel
theorem dX15_readRest_109 : decode cX15_readRest 109 = .ok (.dup, 1) := by decide +kernel
theorem dX15_readRest_110 : decode cX15_readRest 110 = .ok (.getfield 412, 3) := by decide +kernel
theorem dX15_readRest_113 : decode cX15_readRest 113 = .ok (.iconst 1, 1) := by decide +kernel
theorem dX15_readRest_114 : decode cX15_readRest 114 = .ok (.iadd, 1) := by decide +kernel
theorem dX15_readRest_115 : decode cX15_readRest 115 = .ok (.putfield 412, 3) := by decide +kernel
theorem dX15_readRest_118 : decode cX15_readRest 118 = .ok (.iinc 4 1, 3) := by decide +kernel
theorem dX15_readRest_121 : decode cX15_readRest 121 = .ok (.goto (-42), 3) := by decide +kernel
theorem dX15_readRest_124 : decode cX15_readRest 124 = .ok (.aload_n 1, 1) := by decide +kernel
theorem dX15_readRest_125 : decode cX15_readRest 125 = .ok (.iload_n 3, 1) := by decide +kernel
theorem dX15_readRest_126 : decode cX15_readRest 126 = .ok (.putfield 449, 3) := by decide +kernel
theorem dX15_readRest_129 : decode cX15_readRest 129 = .ok (.iload_n 3, 1) := by decide +kernel
theorem dX15_readRest_130 : decode cX15_readRest 130 = .ok (.sipush 200, 3) := by decide +kernel
theorem dX15_readRest_133 : decode cX15_readRest 133 = .ok (.if_icmp .le 10, 3) := by decide +kernel
theorem dX15_readRest_136 : decode cX15_readRest 136 = .ok (.aload_n 0, 1) := by decide +kernel
theorem dX15_readRest_137 : decode cX15_readRest 137 = .ok (.iload_n 2, 1) := by decide +kernel
theorem dX15_readRest_138 : decode cX15_readRest 138 = .ok (.putfield 412, 3) := by decide +kernel
theorem dX15_readRest_141 : decode cX15_readRest 141 = .ok (.iconst 0, 1) := by decide +kernel
theorem dX15_readRest_142 : decode cX15_readRest 142 = .ok (.ireturn, 1) := by decide +kernel
theorem dX15_readRest_143 : decode cX15_readRest 143 = .ok (.aload_n 0, 1) := by decide +kernel
theorem dX15_readRest_144 : decode cX15_readRest 144 = .ok (.getfield 412, 3) := by decide +kernel
theorem dX15_readRest_147 : decode cX15_readRest 147 = .ok (.aload_n 0, 1) := by decide +kernel
theorem dX15_readRest_148 : decode cX15_readRest 148 = .ok (.getfield 415, 3) := by decide +kernel
theorem dX15_readRest_151 : decode cX15_readRest 151 = .ok (.if_icmp .ne 7, 3) := by decide +kernel
theorem dX15_readRest_154 : decode cX15_readRest 154 = .ok (.iconst 1, 1) := by decide +kernel
theorem dX15_readRest_155 : decode cX15_readRest 155 = .ok (.goto 4, 3) := by decide +kernel
theorem dX15_readRest_158 : decode cX15_readRest 158 = .ok (.iconst 0, 1) := by decide +kernel
theorem dX15_readRest_159 : decode cX15_readRest 159 = .ok (.ireturn, 1) := by decide +kernel
set_option maxRecDepth 20000 in
theorem moX15_readRest_67 {o : Int32 × Hp} {F : Nat} {h : Hp} (hE : sX15_readRest_67 F h  = some o) : Le h o.2 := by
  exact le_some2 hE
set_option maxRecDepth 20000 in
theorem moX15_readRest_159 {o : Int32 × Hp} {F : Nat} {h : Hp} {t0 : Int32} (hE : sX15_readRest_159 F h  t0 = some o) : Le h o.2 := by
  obtain ⟨g_1, hE⟩ := gd_e hE
  exact le_some2 hE
set_option maxRecDepth 20000 in
theorem moX15_readRest_124 {o : Int32 × Hp} {F : Nat} {h : Hp} {x0 : Nat} {x1 : Nat} {x2 : Int32} {x3 : Int32} (hE : sX15_readRest_124 F h x0 x1 x2 x3 = some o) : Le h o.2 := by
  obtain ⟨h_1, eh_1, hE⟩ := nm_e2 hE
  refine (le_I eh_1).tr ?_
  rcases br_e hE with ⟨_, hE⟩ | ⟨_, hE⟩
  · rcases br_e hE with ⟨_, hE⟩ | ⟨_, hE⟩
    · exact moX15_readRest_159 hE
    · exact moX15_readRest_159 hE
  · obtain ⟨h_4, eh_4, hE⟩ := nm_e2 hE
    refine (le_I eh_4).tr ?_
    exact le_some2 hE
set_option maxRecDepth 20000 in
theorem moX15_readRest_79 {o : Int32 × Hp} {F : Nat} : ∀ (f : Nat) {h : Hp} {x0 : Nat} {x1 : Nat} {x2 : Int32} {x3 : Int32} {x4 : Int32}, sX15_readRest_79 F f h x0 x1 x2 x3 x4 = some o → Le h o.2 := by
  intro f
  induction f with
  | zero =>
    intro h x0 x1 x2 x3 x4 hE
    rw [sX15_readRest_79] at hE
    cases hE
  | succ f ih =>
    intro h x0 x1 x2 x3 x4 hE
    rw [sX15_readRest_79] at hE
    have mk_79 : ∀ (h : Hp) (x0 : Nat) (x1 : Nat) (x2 : Int32) (x3 : Int32) (x4 : Int32), sX15_readRest_79 F f h x0 x1 x2 x3 x4 = some o → Le h o.2 := fun h x0 x1 x2 x3 x4 hE => ih hE
    rcases br_e hE with ⟨_, hE⟩ | ⟨_, hE⟩
    · exact moX15_readRest_124 hE
    · obtain ⟨o_2, eo_2, hE⟩ := cl_e hE
      refine (moX15_look eo_2).tr ?_
      obtain ⟨o_3, eo_3, hE⟩ := cl_e hE
      refine (moX15_isDigit eo_3).tr ?_
      rcases br_e hE with ⟨_, hE⟩ | ⟨_, hE⟩
      · exact moX15_readRest_124 hE
      · obtain ⟨o_5, eo_5, hE⟩ := cl_e hE
        refine (moX15_look eo_5).tr ?_
        obtain ⟨v_6, ev_6, hE⟩ := nm_e2 hE
        obtain ⟨h_7, eh_7, hE⟩ := nm_e2 hE
        refine (le_I eh_7).tr ?_
        obtain ⟨v_8, ev_8, hE⟩ := nm_e2 hE
        exact mk_79 _ _ _ _ _ _ hE
set_option maxRecDepth 20000 in
theorem moX15_readRest_2 {o : Int32 × Hp} {F : Nat} : ∀ (f : Nat) {h : Hp} {x0 : Nat} {x1 : Nat} {x2 : Int32}, sX15_readRest_2 F f h x0 x1 x2 = some o → Le h o.2 := by
  intro f
  induction f with
  | zero =>
    intro h x0 x1 x2 hE
    rw [sX15_readRest_2] at hE
    cases hE
  | succ f ih =>
    intro h x0 x1 x2 hE
    rw [sX15_readRest_2] at hE
    have mk_2 : ∀ (h : Hp) (x0 : Nat) (x1 : Nat) (x2 : Int32), sX15_readRest_2 F f h x0 x1 x2 = some o → Le h o.2 := fun h x0 x1 x2 hE => ih hE
    rcases br_e hE with ⟨_, hE⟩ | ⟨_, hE⟩
    · obtain ⟨o_2, eo_2, hE⟩ := cl_e hE
      refine (moX15_reads eo_2).tr ?_
      rcases br_e hE with ⟨_, hE⟩ | ⟨_, hE⟩
      · exact moX15_readRest_67 hE
      · obtain ⟨o_4, eo_4, hE⟩ := cl_e hE
        refine (moX15_look eo_4).tr ?_
        obtain ⟨o_5, eo_5, hE⟩ := cl_e hE
        refine (moX15_isDigit eo_5).tr ?_
        rcases br_e hE with ⟨_, hE⟩ | ⟨_, hE⟩
        · exact moX15_readRest_67 hE
        · obtain ⟨v_7, ev_7, hE⟩ := nm_e2 hE
          exact moX15_readRest_79 _ hE
    · obtain ⟨o_8, eo_8, hE⟩ := cl_e hE
      refine (moX15_look eo_8).tr ?_
      obtain ⟨o_9, eo_9, hE⟩ := cl_e hE
      refine (moX15_isDigit eo_9).tr ?_
      rcases br_e hE with ⟨_, hE⟩ | ⟨_, hE⟩
      · exact le_some2 hE
      · obtain ⟨r_11, er_11, hE⟩ := cl_e hE
        obtain ⟨o_12, eo_12, hE⟩ := cl_e hE
        refine (moX15_look eo_12).tr ?_
        obtain ⟨g_13, hE⟩ := gd_e hE
        obtain ⟨h_14, eh_14, hE⟩ := nm_e2 hE
        refine (le_I eh_14).tr ?_
        obtain ⟨h_15, eh_15, hE⟩ := nm_e2 hE
        refine (le_I eh_15).tr ?_
        obtain ⟨v_16, ev_16, hE⟩ := nm_e2 hE
        exact mk_2 _ _ _ _ hE
set_option maxRecDepth 20000 in
theorem moX15_readRest {o : Int32 × Hp} {F : Nat} {h : Hp} {x0 : Nat} {x1 : Nat} (hE : sX15_readRest F h x0 x1 = some o) : Le h o.2 := by
  exact moX15_readRest_2 _ hE
set_option maxRecDepth 20000 in
theorem bX15_readRest_67 {p : Program} {l : Launch} {e : Env} {s : State} {m : MethodId} {args : Array Value} {below : List Frame} {meth : Method} {c : Code} {X : Ec} {h0 : Hp} {o : Int32 × Hp} {F : Nat} (C : Cx X p s m args meth c RX15 cX15_readRest 5 (some .boolean) "readRest") {h : Hp} {H : Heap} {locs : List Loc} (hkm : Km h0 h) (hW : Wx X h H) (hZ : va_S (aA (eB X)) s.heap H locs) (ls : Array Slot) (hl : lv_has ls 5 []) (hE : sX15_readRest_67 F h  = some o) : W p l e (rm 2 41) s m args below meth c H locs 0 0 (MQ below (QI X h0 o.1 o.2) args s 0 0 (aA (eB X))) (F0 m 67 ls []) := by
  refine lv_iconst (v := (0 : Int32)) C.1 C.2.1 dX15_readRest_67 (by decide) ?_
  exact x_iret C rfl (by decide) hW hZ hkm hE dX15_readRest_68
set_option maxRecDepth 20000 in
theorem bX15_readRest_159 {p : Program} {l : Launch} {e : Env} {s : State} {m : MethodId} {args : Array Value} {below : List Frame} {meth : Method} {c : Code} {X : Ec} {h0 : Hp} {o : Int32 × Hp} {F : Nat} (C : Cx X p s m args meth c RX15 cX15_readRest 5 (some .boolean) "readRest") {h : Hp} {t0 : Int32} {H : Heap} {locs : List Loc} (hkm : Km h0 h) (hW : Wx X h H) (hZ : va_S (aA (eB X)) s.heap H locs) (ls : Array Slot) (hl : lv_has ls 5 []) (hE : sX15_readRest_159 F h  t0 = some o) : W p l e (rm 2 41) s m args below meth c H locs 0 0 (MQ below (QI X h0 o.1 o.2) args s 0 0 (aA (eB X))) (F0 m 159 ls [.int t0]) := by
  obtain ⟨g_1, hE⟩ := gd_e hE
  exact x_iret C rfl (narB g_1) hW hZ hkm hE dX15_readRest_159
set_option maxRecDepth 20000 in
theorem bX15_readRest_124 {p : Program} {l : Launch} {e : Env} {s : State} {m : MethodId} {args : Array Value} {below : List Frame} {meth : Method} {c : Code} {X : Ec} {h0 : Hp} {o : Int32 × Hp} {F : Nat} (C : Cx X p s m args meth c RX15 cX15_readRest 5 (some .boolean) "readRest") {h : Hp} {x0 : Nat} {x1 : Nat} {x2 : Int32} {x3 : Int32} {H : Heap} {locs : List Loc} (k_x0 : hK h x0 = 15) (k_x1 : hK h x1 = 12) (hkm : Km h0 h) (hW : Wx X h H) (hZ : va_S (aA (eB X)) s.heap H locs) (ls : Array Slot) (hl : lv_has ls 5 [(0, .ref x0), (1, .ref x1), (2, .int x2), (3, .int x3)]) (hE : sX15_readRest_124 F h x0 x1 x2 x3 = some o) : W p l e (rm 2 41) s m args below meth c H locs 0 0 (MQ below (QI X h0 o.1 o.2) args s 0 0 (aA (eB X))) (F0 m 124 ls []) := by
  refine lv_aload_n C.1 C.2.1 dX15_readRest_124 rfl (lv_at hl 1 rfl) ?_
  refine lv_iload_n C.1 C.2.1 dX15_readRest_125 rfl (lv_at hl 3 rfl) ?_
  obtain ⟨h_1, eh_1, hE⟩ := nm_e2 hE
  refine pf_X15_449 C hW hZ k_x1 eh_1 dX15_readRest_126 (fun _ _ hW km hZ => ?_)
  replace hkm := hkm.tr km
  replace k_x0 := km.at k_x0 (by decide)
  replace k_x1 := km.at k_x1 (by decide)
  refine lv_iload_n C.1 C.2.1 dX15_readRest_129 rfl (lv_at hl 3 rfl) ?_
  refine lv_sipush (v := (200 : Int32)) C.1 C.2.1 dX15_readRest_130 (by decide) ?_
  refine lv_icmp_le (tgt := 143) C.1 C.2.1 dX15_readRest_133 (by decide) (fun c_2 => ?_) (fun c_2 => ?_)
  · have hE := br_p hE c_2
    refine lv_aload_n C.1 C.2.1 dX15_readRest_143 rfl (lv_at hl 0 rfl) ?_
    refine gf_X15_412 C hW k_x0 dX15_readRest_144 ?_
    refine lv_aload_n C.1 C.2.1 dX15_readRest_147 rfl (lv_at hl 0 rfl) ?_
    refine gf_X15_415 C hW k_x0 dX15_readRest_148 ?_
    refine lv_icmp_ne (tgt := 158) C.1 C.2.1 dX15_readRest_151 (by decide) (fun c_3 => ?_) (fun c_3 => ?_)
    · have hE := br_n hE c_3
      refine lv_iconst (v := (0 : Int32)) C.1 C.2.1 dX15_readRest_158 (by decide) ?_
      exact bX15_readRest_159 C hkm hW hZ _ (lv_sub hl [] rfl) hE
    · have hE := br_p hE c_3
      refine lv_iconst (v := (1 : Int32)) C.1 C.2.1 dX15_readRest_154 (by decide) ?_
      refine lv_goto (tgt := 159) C.1 C.2.1 dX15_readRest_155 (by decide) ?_
      exact bX15_readRest_159 C hkm hW hZ _ (lv_sub hl [] rfl) hE
  · have hE := br_n hE c_2
    refine lv_aload_n C.1 C.2.1 dX15_readRest_136 rfl (lv_at hl 0 rfl) ?_
    refine lv_iload_n C.1 C.2.1 dX15_readRest_137 rfl (lv_at hl 2 rfl) ?_
    obtain ⟨h_4, eh_4, hE⟩ := nm_e2 hE
    refine pf_X15_412 C hW hZ k_x0 eh_4 dX15_readRest_138 (fun _ _ hW km hZ => ?_)
    replace hkm := hkm.tr km
    replace k_x0 := km.at k_x0 (by decide)
    replace k_x1 := km.at k_x1 (by decide)
    refine lv_iconst (v := (0 : Int32)) C.1 C.2.1 dX15_readRest_141 (by decide) ?_
    exact x_iret C rfl (by decide) hW hZ hkm hE dX15_readRest_142
set_option maxRecDepth 20000 in
theorem bX15_readRest_79 {p : Program} {l : Launch} {e : Env} {s : State} {m : MethodId} {args : Array Value} {below : List Frame} {meth : Method} {c : Code} {X : Ec} {h0 : Hp} {o : Int32 × Hp} {F : Nat} (C : Cx X p s m args meth c RX15 cX15_readRest 5 (some .boolean) "readRest") : ∀ (f : Nat) {h : Hp} {x0 : Nat} {x1 : Nat} {x2 : Int32} {x3 : Int32} {x4 : Int32} {H : Heap} {locs : List Loc} (k_x0 : hK h x0 = 15) (k_x1 : hK h x1 = 12), Km h0 h → Wx X h H → va_S (aA (eB X)) s.heap H locs → ∀ (ls : Array Slot), lv_has ls 5 [(0, .ref x0), (1, .ref x1), (2, .int x2), (3, .int x3), (4, .int x4)] → sX15_readRest_79 F f h x0 x1 x2 x3 x4 = some o → W p l e (rm 2 41) s m args below meth c H locs 0 0 (MQ below (QI X h0 o.1 o.2) args s 0 0 (aA (eB X))) (F0 m 79 ls []) := by
  intro f
  induction f with
  | zero =>
    intro h x0 x1 x2 x3 x4 H locs k_x0 k_x1 hkm hW hZ ls hl hE
    rw [sX15_readRest_79] at hE
    cases hE
  | succ f ih =>
    intro h x0 x1 x2 x3 x4 H locs k_x0 k_x1 hkm hW hZ ls hl hE
    rw [sX15_readRest_79] at hE
    have hk_79 : ∀ (h : Hp) (x0 : Nat) (x1 : Nat) (x2 : Int32) (x3 : Int32) (x4 : Int32) (H : Heap) (locs : List Loc), hK h x0 = 15 → hK h x1 = 12 → Km h0 h → Wx X h H → va_S (aA (eB X)) s.heap H locs → ∀ (ls : Array Slot), lv_has ls 5 [(0, .ref x0), (1, .ref x1), (2, .int x2), (3, .int x3), (4, .int x4)] → sX15_readRest_79 F f h x0 x1 x2 x3 x4 = some o → W p l e (rm 2 41) s m args below meth c H locs 0 0 (MQ below (QI X h0 o.1 o.2) args s 0 0 (aA (eB X))) (F0 m 79 ls []) := fun h x0 x1 x2 x3 x4 H locs k_x0 k_x1 a b c ls hl hE => ih k_x0 k_x1 a b c ls hl hE
    refine lv_iload C.1 C.2.1 dX15_readRest_79 (lv_at hl 4 rfl) ?_
    refine lv_iconst (v := (3 : Int32)) C.1 C.2.1 dX15_readRest_81 (by decide) ?_
    refine lv_icmp_ge (tgt := 124) C.1 C.2.1 dX15_readRest_82 (by decide) (fun c_1 => ?_) (fun c_1 => ?_)
    · have hE := br_p hE c_1
      exact bX15_readRest_124 C k_x0 k_x1 hkm hW hZ _ (lv_sub hl [0, 1, 2, 3] rfl) hE
    · have hE := br_n hE c_1
      refine lv_aload_n C.1 C.2.1 dX15_readRest_85 rfl (lv_at hl 0 rfl) ?_
      obtain ⟨o_2, eo_2, hE⟩ := cl_e hE
      refine x_kI (o := o_2) (z_runV (As := []) (rest := []) C (ct_X15_look l X k_x0 eo_2) cw_X15_421 hW hZ k_x0 (by decide) rfl rfl rfl hl.1 (Nat.le_of_ble_eq_true rfl) rfl dX15_readRest_86 ⟨Nat.le_of_ble_eq_true rfl, Nat.le_of_ble_eq_true rfl⟩ ⟨Nat.le_refl _, Nat.le_refl _⟩) hZ (fun _ _ hW km hZ => ?_)
      replace hkm := hkm.tr km
      replace k_x0 := km.at k_x0 (by decide)
      replace k_x1 := km.at k_x1 (by decide)
      obtain ⟨o_3, eo_3, hE⟩ := cl_e hE
      refine x_kI (o := o_3) (z_runS (As := [.int o_2.1]) (rest := []) C (ct_X15_isDigit l X eo_3) cw_X15_41 hW hZ rfl hl.1 (Nat.le_of_ble_eq_true rfl) rfl dX15_readRest_89 ⟨Nat.le_of_ble_eq_true rfl, Nat.le_of_ble_eq_true rfl⟩ ⟨Nat.le_refl _, Nat.le_refl _⟩) hZ (fun _ _ hW km hZ => ?_)
      replace hkm := hkm.tr km
      replace k_x0 := km.at k_x0 (by decide)
      replace k_x1 := km.at k_x1 (by decide)
      refine lv_if_eq (tgt := 124) C.1 C.2.1 dX15_readRest_92 (by decide) (fun c_4 => ?_) (fun c_4 => ?_)
      · have hE := br_p hE c_4
        exact bX15_readRest_124 C k_x0 k_x1 hkm hW hZ _ (lv_sub hl [0, 1, 2, 3] rfl) hE
      · have hE := br_n hE c_4
        refine lv_bipush (v := (10 : Int32)) C.1 C.2.1 dX15_readRest_95 (by decide) ?_
        refine lv_iload_n C.1 C.2.1 dX15_readRest_97 rfl (lv_at hl 3 rfl) ?_
        refine lv_imul C.1 C.2.1 dX15_readRest_98 ?_
        refine lv_aload_n C.1 C.2.1 dX15_readRest_99 rfl (lv_at hl 0 rfl) ?_
        obtain ⟨o_5, eo_5, hE⟩ := cl_e hE
        refine x_kI (o := o_5) (z_runV (As := []) (rest := [.int ((10 : Int32) * x3)]) C (ct_X15_look l X k_x0 eo_5) cw_X15_421 hW hZ k_x0 (by decide) rfl rfl rfl hl.1 (Nat.le_of_ble_eq_true rfl) rfl dX15_readRest_100 ⟨Nat.le_of_ble_eq_true rfl, Nat.le_of_ble_eq_true rfl⟩ ⟨Nat.le_refl _, Nat.le_refl _⟩) hZ (fun _ _ hW km hZ => ?_)
        replace hkm := hkm.tr km
        replace k_x0 := km.at k_x0 (by decide)
        replace k_x1 := km.at k_x1 (by decide)
        refine lv_iadd C.1 C.2.1 dX15_readRest_103 ?_
        refine lv_bipush (v := (48 : Int32)) C.1 C.2.1 dX15_readRest_104 (by decide) ?_
        refine lv_isub C.1 C.2.1 dX15_readRest_106 ?_
        obtain ⟨v_6, ev_6, hE⟩ := nm_e2 hE
        refine x_nmI ev_6 ?_
        refine lv_istore_n (lv' := [(3, .int v_6), (0, .ref x0), (1, .ref x1), (2, .int x2), (4, .int x4)]) C.1 C.2.1 dX15_readRest_107 rfl hl (by decide) rfl (fun ls hl => ?_)
        refine lv_aload_n C.1 C.2.1 dX15_readRest_108 rfl (lv_at hl 1 rfl) ?_
        refine lv_dup C.1 C.2.1 dX15_readRest_109 rfl ?_
        refine gf_X15_412 C hW k_x0 dX15_readRest_110 ?_
        refine lv_iconst (v := (1 : Int32)) C.1 C.2.1 dX15_readRest_113 (by decide) ?_
        refine lv_iadd C.1 C.2.1 dX15_readRest_114 ?_
        obtain ⟨h_7, eh_7, hE⟩ := nm_e2 hE
        refine pf_X15_412 C hW hZ k_x0 eh_7 dX15_readRest_115 (fun _ _ hW km hZ => ?_)
        replace hkm := hkm.tr km
        replace k_x0 := km.at k_x0 (by decide)
        replace k_x1 := km.at k_x1 (by decide)
        obtain ⟨v_8, ev_8, hE⟩ := nm_e2 hE
        refine lv_iinc (v := v_8) (lv' := [(4, .int v_8), (3, .int v_6), (0, .ref x0), (1, .ref x1), (2, .int x2)]) C.1 C.2.1 dX15_readRest_118 hl (k := 4) rfl (by rw [ev_8]; rfl) (by decide) rfl (fun ls hl => ?_)
        refine lv_goto (tgt := 79) C.1 C.2.1 dX15_readRest_121 (by decide) ?_
        exact hk_79 _ _ _ _ _ _ _ _ k_x0 k_x1 hkm hW hZ _ (lv_sub hl [2, 3, 4, 1, 0] rfl) hE
set_option maxRecDepth 20000 in
theorem bX15_readRest_2 {p : Program} {l : Launch} {e : Env} {s : State} {m : MethodId} {args : Array Value} {below : List Frame} {meth : Method} {c : Code} {X : Ec} {h0 : Hp} {o : Int32 × Hp} {F : Nat} (C : Cx X p s m args meth c RX15 cX15_readRest 5 (some .boolean) "readRest") : ∀ (f : Nat) {h : Hp} {x0 : Nat} {x1 : Nat} {x2 : Int32} {H : Heap} {locs : List Loc} (k_x0 : hK h x0 = 15) (k_x1 : hK h x1 = 12), Km h0 h → Wx X h H → va_S (aA (eB X)) s.heap H locs → ∀ (ls : Array Slot), lv_has ls 5 [(0, .ref x0), (1, .ref x1), (2, .int x2)] → sX15_readRest_2 F f h x0 x1 x2 = some o → W p l e (rm 2 41) s m args below meth c H locs 0 0 (MQ below (QI X h0 o.1 o.2) args s 0 0 (aA (eB X))) (F0 m 2 ls []) := by
  intro f
  induction f with
  | zero =>
    intro h x0 x1 x2 H locs k_x0 k_x1 hkm hW hZ ls hl hE
    rw [sX15_readRest_2] at hE
    cases hE
  | succ f ih =>
    intro h x0 x1 x2 H locs k_x0 k_x1 hkm hW hZ ls hl hE
    rw [sX15_readRest_2] at hE
    have hk_2 : ∀ (h : Hp) (x0 : Nat) (x1 : Nat) (x2 : Int32) (H : Heap) (locs : List Loc), hK h x0 = 15 → hK h x1 = 12 → Km h0 h → Wx X h H → va_S (aA (eB X)) s.heap H locs → ∀ (ls : Array Slot), lv_has ls 5 [(0, .ref x0), (1, .ref x1), (2, .int x2)] → sX15_readRest_2 F f h x0 x1 x2 = some o → W p l e (rm 2 41) s m args below meth c H locs 0 0 (MQ below (QI X h0 o.1 o.2) args s 0 0 (aA (eB X))) (F0 m 2 ls []) := fun h x0 x1 x2 H locs k_x0 k_x1 a b c ls hl hE => ih k_x0 k_x1 a b c ls hl hE
    refine lv_iload_n C.1 C.2.1 dX15_readRest_2 rfl (lv_at hl 2 rfl) ?_
    refine lv_iconst (v := (2 : Int32)) C.1 C.2.1 dX15_readRest_3 (by decide) ?_
    refine lv_icmp_ge (tgt := 48) C.1 C.2.1 dX15_readRest_4 (by decide) (fun c_1 => ?_) (fun c_1 => ?_)
    · have hE := br_p hE c_1
      refine lv_aload_n C.1 C.2.1 dX15_readRest_48 rfl (lv_at hl 0 rfl) ?_
      refine lv_bipush (v := (32 : Int32)) C.1 C.2.1 dX15_readRest_49 (by decide) ?_
      obtain ⟨o_2, eo_2, hE⟩ := cl_e hE
      refine x_kI (o := o_2) (z_runV (As := [.int (32 : Int32)]) (rest := []) C (ct_X15_reads l X k_x0 eo_2) cw_X15_427 hW hZ k_x0 (by decide) rfl rfl rfl hl.1 (Nat.le_of_ble_eq_true rfl) rfl dX15_readRest_51 ⟨Nat.le_of_ble_eq_true rfl, Nat.le_of_ble_eq_true rfl⟩ ⟨Nat.le_refl _, Nat.le_refl _⟩) hZ (fun _ _ hW km hZ => ?_)
      replace hkm := hkm.tr km
      replace k_x0 := km.at k_x0 (by decide)
      replace k_x1 := km.at k_x1 (by decide)
      refine lv_if_eq (tgt := 67) C.1 C.2.1 dX15_readRest_54 (by decide) (fun c_3 => ?_) (fun c_3 => ?_)
      · have hE := br_p hE c_3
        exact bX15_readRest_67 C hkm hW hZ _ (lv_sub hl [] rfl) hE
      · have hE := br_n hE c_3
        refine lv_aload_n C.1 C.2.1 dX15_readRest_57 rfl (lv_at hl 0 rfl) ?_
        obtain ⟨o_4, eo_4, hE⟩ := cl_e hE
        refine x_kI (o := o_4) (z_runV (As := []) (rest := []) C (ct_X15_look l X k_x0 eo_4) cw_X15_421 hW hZ k_x0 (by decide) rfl rfl rfl hl.1 (Nat.le_of_ble_eq_true rfl) rfl dX15_readRest_58 ⟨Nat.le_of_ble_eq_true rfl, Nat.le_of_ble_eq_true rfl⟩ ⟨Nat.le_refl _, Nat.le_refl _⟩) hZ (fun _ _ hW km hZ => ?_)
        replace hkm := hkm.tr km
        replace k_x0 := km.at k_x0 (by decide)
        replace k_x1 := km.at k_x1 (by decide)
        obtain ⟨o_5, eo_5, hE⟩ := cl_e hE
        refine x_kI (o := o_5) (z_runS (As := [.int o_4.1]) (rest := []) C (ct_X15_isDigit l X eo_5) cw_X15_41 hW hZ rfl hl.1 (Nat.le_of_ble_eq_true rfl) rfl dX15_readRest_61 ⟨Nat.le_of_ble_eq_true rfl, Nat.le_of_ble_eq_true rfl⟩ ⟨Nat.le_refl _, Nat.le_refl _⟩) hZ (fun _ _ hW km hZ => ?_)
        replace hkm := hkm.tr km
        replace k_x0 := km.at k_x0 (by decide)
        replace k_x1 := km.at k_x1 (by decide)
        refine lv_if_ne (tgt := 69) C.1 C.2.1 dX15_readRest_64 (by decide) (fun c_6 => ?_) (fun c_6 => ?_)
        · have hE := br_n hE c_6
          refine lv_aload_n C.1 C.2.1 dX15_readRest_69 rfl (lv_at hl 0 rfl) ?_
          refine gf_X15_412 C hW k_x0 dX15_readRest_70 ?_
          obtain ⟨v_7, ev_7, hE⟩ := nm_e2 hE
          refine x_nmI ev_7 ?_
          refine lv_istore_n (lv' := [(2, .int v_7), (0, .ref x0), (1, .ref x1)]) C.1 C.2.1 dX15_readRest_73 rfl hl (by decide) rfl (fun ls hl => ?_)
          refine lv_iconst (v := (0 : Int32)) C.1 C.2.1 dX15_readRest_74 (by decide) ?_
          refine lv_istore_n (lv' := [(3, .int (0 : Int32)), (2, .int v_7), (0, .ref x0), (1, .ref x1)]) C.1 C.2.1 dX15_readRest_75 rfl hl (by decide) rfl (fun ls hl => ?_)
          refine lv_iconst (v := (0 : Int32)) C.1 C.2.1 dX15_readRest_76 (by decide) ?_
          refine lv_istore (lv' := [(4, .int (0 : Int32)), (3, .int (0 : Int32)), (2, .int v_7), (0, .ref x0), (1, .ref x1)]) C.1 C.2.1 dX15_readRest_77 hl (by decide) rfl (fun ls hl => ?_)
          exact bX15_readRest_79 C F k_x0 k_x1 hkm hW hZ _ (lv_sub hl [3, 4, 2, 1, 0] rfl) hE
        · have hE := br_p hE c_6
          exact bX15_readRest_67 C hkm hW hZ _ (lv_sub hl [] rfl) hE
    · have hE := br_n hE c_1
      refine lv_aload_n C.1 C.2.1 dX15_readRest_7 rfl (lv_at hl 0 rfl) ?_
      obtain ⟨o_8, eo_8, hE⟩ := cl_e hE
      refine x_kI (o := o_8) (z_runV (As := []) (rest := []) C (ct_X15_look l X k_x0 eo_8) cw_X15_421 hW hZ k_x0 (by decide) rfl rfl rfl hl.1 (Nat.le_of_ble_eq_true rfl) rfl dX15_readRest_8 ⟨Nat.le_of_ble_eq_true rfl, Nat.le_of_ble_eq_true rfl⟩ ⟨Nat.le_refl _, Nat.le_refl _⟩) hZ (fun _ _ hW km hZ => ?_)
      replace hkm := hkm.tr km
      replace k_x0 := km.at k_x0 (by decide)
      replace k_x1 := km.at k_x1 (by decide)
      obtain ⟨o_9, eo_9, hE⟩ := cl_e hE
      refine x_kI (o := o_9) (z_runS (As := [.int o_8.1]) (rest := []) C (ct_X15_isDigit l X eo_9) cw_X15_41 hW hZ rfl hl.1 (Nat.le_of_ble_eq_true rfl) rfl dX15_readRest_11 ⟨Nat.le_of_ble_eq_true rfl, Nat.le_of_ble_eq_true rfl⟩ ⟨Nat.le_refl _, Nat.le_refl _⟩) hZ (fun _ _ hW km hZ => ?_)
      replace hkm := hkm.tr km
      replace k_x0 := km.at k_x0 (by decide)
      replace k_x1 := km.at k_x1 (by decide)
      refine lv_if_ne (tgt := 19) C.1 C.2.1 dX15_readRest_14 (by decide) (fun c_10 => ?_) (fun c_10 => ?_)
      · have hE := br_n hE c_10
        refine lv_aload_n C.1 C.2.1 dX15_readRest_19 rfl (lv_at hl 1 rfl) ?_
        obtain ⟨r_11, er_11, hE⟩ := cl_e hE
        refine gf_X15_447 C hW k_x1 er_11 dX15_readRest_20 (fun k_r_11 => ?_)
        refine lv_iload_n C.1 C.2.1 dX15_readRest_23 rfl (lv_at hl 2 rfl) ?_
        refine lv_aload_n C.1 C.2.1 dX15_readRest_24 rfl (lv_at hl 0 rfl) ?_
        obtain ⟨o_12, eo_12, hE⟩ := cl_e hE
        refine x_kI (o := o_12) (z_runV (As := []) (rest := [.int x2, .ref r_11]) C (ct_X15_look l X k_x0 eo_12) cw_X15_421 hW hZ k_x0 (by decide) rfl rfl rfl hl.1 (Nat.le_of_ble_eq_true rfl) rfl dX15_readRest_25 ⟨Nat.le_of_ble_eq_true rfl, Nat.le_of_ble_eq_true rfl⟩ ⟨Nat.le_refl _, Nat.le_refl _⟩) hZ (fun _ _ hW km hZ => ?_)
        replace hkm := hkm.tr km
        replace k_x0 := km.at k_x0 (by decide)
        replace k_x1 := km.at k_x1 (by decide)
        replace k_r_11 := km.at k_r_11 (by decide)
        refine lv_bipush (v := (48 : Int32)) C.1 C.2.1 dX15_readRest_28 (by decide) ?_
        refine lv_isub C.1 C.2.1 dX15_readRest_30 ?_
        obtain ⟨g_13, hE⟩ := gd_e hE
        obtain ⟨h_14, eh_14, hE⟩ := nm_e2 hE
        refine y_iast C hW hZ k_r_11 g_13 eh_14 dX15_readRest_31 (fun _ _ hW km hZ => ?_)
        replace hkm := hkm.tr km
        replace k_x0 := km.at k_x0 (by decide)
        replace k_x1 := km.at k_x1 (by decide)
        refine lv_aload_n C.1 C.2.1 dX15_readRest_32 rfl (lv_at hl 0 rfl) ?_
        refine lv_dup C.1 C.2.1 dX15_readRest_33 rfl ?_
        refine gf_X15_412 C hW k_x0 dX15_readRest_34 ?_
        refine lv_iconst (v := (1 : Int32)) C.1 C.2.1 dX15_readRest_37 (by decide) ?_
        refine lv_iadd C.1 C.2.1 dX15_readRest_38 ?_
        obtain ⟨h_15, eh_15, hE⟩ := nm_e2 hE
        refine pf_X15_412 C hW hZ k_x0 eh_15 dX15_readRest_39 (fun _ _ hW km hZ => ?_)
        replace hkm := hkm.tr km
        replace k_x0 := km.at k_x0 (by decide)
        replace k_x1 := km.at k_x1 (by decide)
        obtain ⟨v_16, ev_16, hE⟩ := nm_e2 hE
        refine lv_iinc (v := v_16) (lv' := [(2, .int v_16), (0, .ref x0), (1, .ref x1)]) C.1 C.2.1 dX15_readRest_42 hl (k := 2) rfl (by rw [ev_16]; rfl) (by decide) rfl (fun ls hl => ?_)
        refine lv_goto (tgt := 2) C.1 C.2.1 dX15_readRest_45 (by decide) ?_
        exact hk_2 _ _ _ _ _ _ k_x0 k_x1 hkm hW hZ _ (lv_sub hl [1, 2, 0] rfl) hE
      · have hE := br_p hE c_10
        refine lv_iconst (v := (0 : Int32)) C.1 C.2.1 dX15_readRest_17 (by decide) ?_
        exact x_iret C rfl (by decide) hW hZ hkm hE dX15_readRest_18
set_option maxRecDepth 20000 in
theorem ct_X15_readRest (l : Launch) (X : Ec) (F : Nat) {h : Hp} {x0 : Nat} {x1 : Nat} {o : Int32 × Hp} (k_x0 : hK h x0 = 15) (k_x1 : hK h x1 = 12) (hE : sX15_readRest F h x0 x1 = some o) : MetI l yX15_readRest cX15_readRest 5 (some .boolean) 2 41 X [.ref x0, .ref x1] h o := by
  refine x_met (by decide) (Nat.le_of_ble_eq_true rfl) ?_
  intro p e s m below meth c ls C hl hW hZ
  have hl : lv_has ls 5 [(0, .ref x0), (1, .ref x1)] := hl
  have hkm : Km h h := Km.rf h
  refine lv_iconst (v := (0 : Int32)) C.1 C.2.1 dX15_readRest_0 (by decide) ?_
  refine lv_istore_n (lv' := [(2, .int (0 : Int32)), (0, .ref x0), (1, .ref x1)]) C.1 C.2.1 dX15_readRest_1 rfl hl (by decide) rfl (fun ls hl => ?_)
  exact bX15_readRest_2 C F k_x0 k_x1 hkm hW hZ _ (lv_sub hl [1, 2, 0] rfl) hE
