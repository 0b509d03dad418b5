set_option maxRecDepth 100000 in
theorem m_23 : Cond.initialized "java/lang/System" ∈ W0 := w0_in (List.mem_append_right _ (List.mem_of_getElem? (i := 23) rfl)) rfl
set_option maxRecDepth 100000 in
theorem m_1234 : Cond.static arraycopyName ∈ W0 := w0_in (List.mem_append_right _ (List.mem_of_getElem? (i := 1234) rfl)) rfl
set_option maxRecDepth 100000 in
theorem m_1235 : Cond.native arraycopyName ∈ W0 := w0_in (List.mem_append_right _ (List.mem_of_getElem? (i := 1235) rfl)) rfl
set_option maxRecDepth 100000 in
theorem m_2659 : Cond.methodLink RX15 697 arraycopyName ∈ W0 := w0_in (List.mem_append_right _ (List.mem_of_getElem? (i := 2659) rfl)) rfl
section
variable {p : Program} {l : Launch} {e : Env} {R : Room} {s : State} {m : MethodId} {args : Array Value} {below : List Frame} {meth : Method} {c : Code} {H : Heap} {locs : List Loc} {cells slots : Nat} {Q : State → Prop}
variable {cc : ByteArray} {pc : Nat} {ls : Array Slot} {rest : List Value} {X : Ec} {h h1 : Hp} {nL : Nat} {rt : Option FieldType} {mn : String}
theorem gf_X15_327 {a r : Nat} (C : Cx X p s m args meth c RX15 cc nL rt mn) (hW : Wx X h H) (ha : hK h a = 15) (hr : hR h a 43 = some r) (hdg : decode cc pc = .ok (.getfield 327, 3)) (kk : hK h r = 16 → W p l e R s m args below meth c H locs cells slots Q (F0 m (pc + 3) ls (.ref r :: rest))) : W p l e R s m args below meth c H locs cells slots Q (F0 m pc ls (.ref a :: rest)) :=
  y_getr C hW ha i_X15 (by decide) rfl (by decide) m_2154 rfl rfl hr hdg kk
end
theorem dX15_hear_0 : decode cX15_hear 0 = .ok (.aload_n 0, 1) := by decide +kernel
theorem dX15_hear_1 : decode cX15_hear 1 = .ok (.getfield 1, 3) := by decide +kernel
theorem dX15_hear_4 : decode cX15_hear 4 = .ok (.istore_n 2, 1) := by decide +kernel
theorem dX15_hear_5 : decode cX15_hear 5 = .ok (.aload_n 0, 1) := by decide +kernel
theorem dX15_hear_6 : decode cX15_hear 6 = .ok (.iconst 0, 1) := by decide +kernel
theorem dX15_hear_7 : decode cX15_hear 7 = .ok (.putfield 1, 3) := by decide +kernel
theorem dX15_hear_10 : decode cX15_hear 10 = .ok (.aload_n 0, 1) := by decide +kernel
theorem dX15_hear_11 : decode cX15_hear 11 = .ok (.iload_n 1, 1) := by decide +kernel
theorem dX15_hear_12 : decode cX15_hear 12 = .ok (.invokevirtual 668, 3) := by decide +kernel
theorem dX15_hear_15 : decode cX15_hear 15 = .ok (.bipush (-102), 2) := by decide +kernel
theorem dX15_hear_17 : decode cX15_hear 17 = .ok (.if_icmp .ne 6, 3) := by decide +kernel
theorem dX15_hear_20 : decode cX15_hear 20 = .ok (.bipush (-102), 2) := by decide +kernel
theorem dX15_hear_22 : decode cX15_hear 22 = .ok (.ireturn, 1) := by decide +kernel
theorem dX15_hear_23 : decode cX15_hear 23 = .ok (.aload_n 0, 1) := by decide +kernel
theorem dX15_hear_24 : decode cX15_hear 24 = .ok (.getfield 11, 3) := by decide +kernel
theorem dX15_hear_27 : decode cX15_hear 27 = .ok (.istore_n 3, 1) := by decide +kernel
theorem dX15_hear_28 : decode cX15_hear 28 = .ok (.aload_n 0, 1) := by decide +kernel
theorem dX15_hear_29 : decode cX15_hear 29 = .ok (.getfield 14, 3) := by decide +kernel
theorem dX15_hear_32 : decode cX15_hear 32 = .ok (.iconst 0, 1) := by decide +kernel
theorem dX15_hear_33 : decode cX15_hear 33 = .ok (.aload_n 0, 1) := by decide +kernel
theorem dX15_hear_34 : decode cX15_hear 34 = .ok (.getfield 327, 3) := by decide +kernel
theorem dX15_hear_37 : decode cX15_hear 37 = .ok (.iconst 0, 1) := by decide +kernel
theorem dX15_hear_38 : decode cX15_hear 38 = .ok (.iload_n 3, 1) := by decide +kernel
theorem dX15_hear_39 : decode cX15_hear 39 = .ok (.invokestatic 697, 3) := by decide +kernel
theorem dX15_hear_42 : decode cX15_hear 42 = .ok (.iconst (-1), 1) := by decide +kernel
theorem dX15_hear_43 : decode cX15_hear 43 = .ok (.istore 4, 2) := by decide +kernel
theorem dX15_hear_45 : decode cX15_hear 45 = .ok (.iconst 0, 1) := by decide +kernel
theorem dX15_hear_46 : decode cX15_hear 46 = .ok (.istore 5, 2) := by decide +kernel
theorem dX15_hear_48 : decode cX15_hear 48 = .ok (.iload 5, 2) := by decide +kernel
theorem dX15_hear_50 : decode cX15_hear 50 = .ok (.aload_n 0, 1) := by decide +kernel
theorem dX15_hear_51 : decode cX15_hear 51 = .ok (.getfield 288, 3) := by decide +kernel
theorem dX15_hear_54 : decode cX15_hear 54 = .ok (.getfield 575, 3) := by decide +kernel
theorem dX15_hear_57 : decode cX15_hear 57 = .ok (.if_icmp .ge 107, 3) := by decide +kernel
theorem dX15_hear_60 : decode cX15_hear 60 = .ok (.iload 4, 2) := by decide +kernel
theorem dX15_hear_62 : decode cX15_hear 62 = .ok (.iconst (-1), 1) := by decide +kernel
theorem dX15_hear_63 : decode cX15_hear 63 = .ok (.if_icmp .ne 101, 3) := by decide +kernel
theorem dX15_hear_66 : decode cX15_hear 66 = .ok (.aload_n 0, 1) := by decide +kernel
theorem dX15_hear_67 : decode cX15_hear 67 = .ok (.aload_n 0, 1) := by decide +kernel
theorem dX15_hear_68 : decode cX15_hear 68 = .ok (.getfield 257, 3) := by decide +kernel
theorem dX15_hear_71 : decode cX15_hear 71 = .ok (.iload_n 1, 1) := by decide +kernel
theorem dX15_hear_72 : decode cX15_hear 72 = .ok (.aaload, 1) := by decide +kernel
theorem dX15_hear_164 : decode cX15_hear 164 = .ok (.aload_n 0, 1) := by decide +kernel
theorem dX15_hear_165 : decode cX15_hear 165 = .ok (.getfield 327, 3) := by decide +kernel
theorem dX15_hear_168 : decode cX15_hear 168 = .ok (.iconst 0, 1) := by decide +kernel
theorem dX15_hear_169 : decode cX15_hear 169 = .ok (.aload_n 0, 1) := by decide +kernel
theorem dX15_hear_170 : decode cX15_hear 170 = .ok (.getfield 14, 3) := by decide +kernel
theorem dX15_hear_173 : decode cX15_hear 173 = .ok (.iconst 0, 1) := by decide +kernel
theorem dX15_hear_174 : decode cX15_hear 174 = .ok (.iload_n 3, 1) := by decide +kernel
theorem dX15_hear_175 : decode cX15_hear 175 = .ok (.invokestatic 697, 3) := by decide +kernel
theorem dX15_hear_178 : decode cX15_hear 178 = .ok (.aload_n 0, 1) := by decide +kernel
theorem dX15_hear_179 : decode cX15_hear 179 = .ok (.iload_n 3, 1) := by decide +kernel
theorem dX15_hear_180 : decode cX15_hear 180 = .ok (.putfield 11, 3) := by decide +kernel
theorem dX15_hear_183 : decode cX15_hear 183 = .ok (.iload 4, 2) := by decide +kernel
theorem dX15_hear_185 : decode cX15_hear 185 = .ok (.ireturn, 1) := by decide +kernel
set_option maxRecDepth 20000 in
theorem moX15_hear_164 {o : Int32 × Hp} {F : Nat} {h : Hp} {x0 : Nat} {x3 : Int32} {x4 : Int32} (hE : sX15_hear_164 F h x0 x3 x4 = some o) : Le h o.2 := by
  obtain ⟨r_1, er_1, hE⟩ := cl_e hE
  obtain ⟨r_2, er_2, hE⟩ := cl_e hE
  obtain ⟨g_3, hE⟩ := gd_e hE
  obtain ⟨g_4, hE⟩ := gd_e hE
  obtain ⟨g_5, hE⟩ := gd_e hE
  obtain ⟨g_6, hE⟩ := gd_e hE
  obtain ⟨g_7, hE⟩ := gd_e hE
  obtain ⟨g_8, hE⟩ := gd_e hE
  obtain ⟨h_9, eh_9, hE⟩ := nm_e2 hE
  refine (le_cI eh_9).tr ?_
  obtain ⟨h_10, eh_10, hE⟩ := nm_e2 hE
  refine (le_I eh_10).tr ?_
  exact le_some2 hE
set_option maxRecDepth 20000 in
theorem moX15_hear_48 {o : Int32 × Hp} {F : Nat} : ∀ (f : Nat) {h : Hp} {x0 : Nat} {x1 : Int32} {x2 : Int32} {x3 : Int32} {x4 : Int32} {x5 : Int32}, sX15_hear_48 F f h x0 x1 x2 x3 x4 x5 = some o → Le h o.2 := by
  intro f
  induction f with
  | zero =>
    intro h x0 x1 x2 x3 x4 x5 hE
    rw [sX15_hear_48] at hE
    cases hE
  | succ f ih =>
    intro h x0 x1 x2 x3 x4 x5 hE
    rw [sX15_hear_48] at hE
    have mk_48 : ∀ (h : Hp) (x0 : Nat) (x1 : Int32) (x2 : Int32) (x3 : Int32) (x4 : Int32) (x5 : Int32), sX15_hear_48 F f h x0 x1 x2 x3 x4 x5 = some o → Le h o.2 := fun h x0 x1 x2 x3 x4 x5 hE => ih hE
    obtain ⟨r_1, er_1, hE⟩ := cl_e hE
    rcases br_e hE with ⟨_, hE⟩ | ⟨_, hE⟩
    · exact moX15_hear_164 hE
    · rcases br_e hE with ⟨_, hE⟩ | ⟨_, hE⟩
      · obtain ⟨r_4, er_4, hE⟩ := cl_e hE
        cases hE
      · exact moX15_hear_164 hE
set_option maxRecDepth 20000 in
theorem moX15_hear {o : Int32 × Hp} {F : Nat} {h : Hp} {x0 : Nat} {x1 : Int32} (hE : sX15_hear F h x0 x1 = some o) : Le h o.2 := by
  obtain ⟨v_1, ev_1, hE⟩ := nm_e2 hE
  obtain ⟨h_2, eh_2, hE⟩ := nm_e2 hE
  refine (le_I eh_2).tr ?_
  obtain ⟨o_3, eo_3, hE⟩ := cl_e hE
  refine (moX15_moves eo_3).tr ?_
  rcases br_e hE with ⟨_, hE⟩ | ⟨_, hE⟩
  · exact le_some2 hE
  · obtain ⟨v_5, ev_5, hE⟩ := nm_e2 hE
    obtain ⟨r_6, er_6, hE⟩ := cl_e hE
    obtain ⟨r_7, er_7, hE⟩ := cl_e hE
    obtain ⟨g_8, hE⟩ := gd_e hE
    obtain ⟨g_9, hE⟩ := gd_e hE
    obtain ⟨g_10, hE⟩ := gd_e hE
    obtain ⟨g_11, hE⟩ := gd_e hE
    obtain ⟨g_12, hE⟩ := gd_e hE
    obtain ⟨g_13, hE⟩ := gd_e hE
    obtain ⟨h_14, eh_14, hE⟩ := nm_e2 hE
    refine (le_cI eh_14).tr ?_
    exact moX15_hear_48 _ hE
set_option maxRecDepth 20000 in
theorem bX15_hear_164 {p : Program} {l : Launch} {e : Env} {s : State} {m : MethodId} {args : Array Value} {below : List Frame} {meth : Method} {c : Code} {X : Ec} {h0 : Hp} {o : Int32 × Hp} {F : Nat} (C : Cx X p s m args meth c RX15 cX15_hear 8 (some .int) "hear") {h : Hp} {x0 : Nat} {x3 : Int32} {x4 : Int32} {H : Heap} {locs : List Loc} (k_x0 : hK h x0 = 15) (hkm : Km h0 h) (hW : Wx X h H) (hZ : va_S (aA (eB X)) s.heap H locs) (ls : Array Slot) (hl : lv_has ls 8 [(0, .ref x0), (3, .int x3), (4, .int x4)]) (hE : sX15_hear_164 F h x0 x3 x4 = some o) : W p l e (rm 2 64) s m args below meth c H locs 0 0 (MQ below (QI X h0 o.1 o.2) args s 0 0 (aA (eB X))) (F0 m 164 ls []) := by
  refine lv_aload_n C.1 C.2.1 dX15_hear_164 rfl (lv_at hl 0 rfl) ?_
  obtain ⟨r_1, er_1, hE⟩ := cl_e hE
  refine gf_X15_327 C hW k_x0 er_1 dX15_hear_165 (fun k_r_1 => ?_)
  refine lv_iconst (v := (0 : Int32)) C.1 C.2.1 dX15_hear_168 (by decide) ?_
  refine lv_aload_n C.1 C.2.1 dX15_hear_169 rfl (lv_at hl 0 rfl) ?_
  obtain ⟨r_2, er_2, hE⟩ := cl_e hE
  refine gf_X15_14 C hW k_x0 er_2 dX15_hear_170 (fun k_r_2 => ?_)
  refine lv_iconst (v := (0 : Int32)) C.1 C.2.1 dX15_hear_173 (by decide) ?_
  refine lv_iload_n C.1 C.2.1 dX15_hear_174 rfl (lv_at hl 1 rfl) ?_
  obtain ⟨g_3, hE⟩ := gd_e hE
  obtain ⟨g_4, hE⟩ := gd_e hE
  obtain ⟨g_5, hE⟩ := gd_e hE
  obtain ⟨g_6, hE⟩ := gd_e hE
  obtain ⟨g_7, hE⟩ := gd_e hE
  obtain ⟨g_8, hE⟩ := gd_e hE
  obtain ⟨h_9, eh_9, hE⟩ := nm_e2 hE
  refine y_cpyI (ty := .byte) C hW hZ hl.1 m_2659 m_1235 m_1234 m_23 k_r_1 k_r_2 (Or.inl ⟨rfl, rfl⟩) g_3 g_4 g_5 g_6 g_7 g_8 (Nat.le_of_ble_eq_true rfl) (Nat.le_of_ble_eq_true rfl) eh_9 dX15_hear_175 (fun _ _ hW km hZ => ?_)
  replace hkm := hkm.tr km
  replace k_x0 := km.at k_x0 (by decide)
  refine lv_aload_n C.1 C.2.1 dX15_hear_178 rfl (lv_at hl 0 rfl) ?_
  refine lv_iload_n C.1 C.2.1 dX15_hear_179 rfl (lv_at hl 1 rfl) ?_
  obtain ⟨h_10, eh_10, hE⟩ := nm_e2 hE
  refine pf_X15_11 C hW hZ k_x0 eh_10 dX15_hear_180 (fun _ _ hW km hZ => ?_)
  replace hkm := hkm.tr km
  replace k_x0 := km.at k_x0 (by decide)
  refine lv_iload C.1 C.2.1 dX15_hear_183 (lv_at hl 2 rfl) ?_
  exact x_iret C rfl rfl hW hZ hkm hE dX15_hear_185
set_option maxRecDepth 20000 in
theorem bX15_hear_48 {p : Program} {l : Launch} {e : Env} {s : State} {m : MethodId} {args : Array Value} {below : List Frame} {meth : Method} {c : Code} {X : Ec} {h0 : Hp} {o : Int32 × Hp} {F : Nat} (C : Cx X p s m args meth c RX15 cX15_hear 8 (some .int) "hear") : ∀ (f : Nat) {h : Hp} {x0 : Nat} {x1 : Int32} {x2 : Int32} {x3 : Int32} {x4 : Int32} {x5 : Int32} {H : Heap} {locs : List Loc} (k_x0 : hK h x0 = 15), Km h0 h → Wx X h H → va_S (aA (eB X)) s.heap H locs → ∀ (ls : Array Slot), lv_has ls 8 [(0, .ref x0), (1, .int x1), (2, .int x2), (3, .int x3), (4, .int x4), (5, .int x5)] → sX15_hear_48 F f h x0 x1 x2 x3 x4 x5 = some o → W p l e (rm 2 64) s m args below meth c H locs 0 0 (MQ below (QI X h0 o.1 o.2) args s 0 0 (aA (eB X))) (F0 m 48 ls []) := by
  intro f
  induction f with
  | zero =>
    intro h x0 x1 x2 x3 x4 x5 H locs k_x0 hkm hW hZ ls hl hE
    rw [sX15_hear_48] at hE
    cases hE
  | succ f ih =>
    intro h x0 x1 x2 x3 x4 x5 H locs k_x0 hkm hW hZ ls hl hE
    rw [sX15_hear_48] at hE
    have hk_48 : ∀ (h : Hp) (x0 : Nat) (x1 : Int32) (x2 : Int32) (x3 : Int32) (x4 : Int32) (x5 : Int32) (H : Heap) (locs : List Loc), hK h x0 = 15 → Km h0 h → Wx X h H → va_S (aA (eB X)) s.heap H locs → ∀ (ls : Array Slot), lv_has ls 8 [(0, .ref x0), (1, .int x1), (2, .int x2), (3, .int x3), (4, .int x4), (5, .int x5)] → sX15_hear_48 F f h x0 x1 x2 x3 x4 x5 = some o → W p l e (rm 2 64) s m args below meth c H locs 0 0 (MQ below (QI X h0 o.1 o.2) args s 0 0 (aA (eB X))) (F0 m 48 ls []) := fun h x0 x1 x2 x3 x4 x5 H locs k_x0 a b c ls hl hE => ih k_x0 a b c ls hl hE
    refine lv_iload C.1 C.2.1 dX15_hear_48 (lv_at hl 5 rfl) ?_
    refine lv_aload_n C.1 C.2.1 dX15_hear_50 rfl (lv_at hl 0 rfl) ?_
    obtain ⟨r_1, er_1, hE⟩ := cl_e hE
    refine gf_X15_288 C hW k_x0 er_1 dX15_hear_51 (fun k_r_1 => ?_)
    refine gf_X15_575 C hW k_r_1 dX15_hear_54 ?_
    refine lv_icmp_ge (tgt := 164) C.1 C.2.1 dX15_hear_57 (by decide) (fun c_2 => ?_) (fun c_2 => ?_)
    · have hE := br_p hE c_2
      exact bX15_hear_164 C k_x0 hkm hW hZ _ (lv_sub hl [0, 3, 4] rfl) hE
    · have hE := br_n hE c_2
      refine lv_iload C.1 C.2.1 dX15_hear_60 (lv_at hl 4 rfl) ?_
      refine lv_iconst (v := (-1 : Int32)) C.1 C.2.1 dX15_hear_62 (by decide) ?_
      refine lv_icmp_ne (tgt := 164) C.1 C.2.1 dX15_hear_63 (by decide) (fun c_3 => ?_) (fun c_3 => ?_)
      · have hE := br_n hE c_3
        exact bX15_hear_164 C k_x0 hkm hW hZ _ (lv_sub hl [0, 3, 4] rfl) hE
      · have hE := br_p hE c_3
        refine lv_aload_n C.1 C.2.1 dX15_hear_66 rfl (lv_at hl 0 rfl) ?_
        refine lv_aload_n C.1 C.2.1 dX15_hear_67 rfl (lv_at hl 0 rfl) ?_
        obtain ⟨r_4, er_4, hE⟩ := cl_e hE
        refine gf_X15_257 C hW k_x0 er_4 dX15_hear_68 (fun k_r_4 => ?_)
        refine lv_iload_n C.1 C.2.1 dX15_hear_71 rfl (lv_at hl 1 rfl) ?_
        cases hE
set_option maxRecDepth 20000 in
theorem ct_X15_hear (l : Launch) (X : Ec) (F : Nat) {h : Hp} {x0 : Nat} {x1 : Int32} {o : Int32 × Hp} (k_x0 : hK h x0 = 15) (hE : sX15_hear F h x0 x1 = some o) : MetI l yX15_hear cX15_hear 8 (some .int) 2 64 X [.ref x0, .int x1] h o := by
  refine x_met (by decide) (Nat.le_of_ble_eq_true rfl) ?_
  intro p e s m below meth c ls C hl hW hZ
  have hl : lv_has ls 8 [(0, .ref x0), (1, .int x1)] := hl
  have hkm : Km h h := Km.rf h
  refine lv_aload_n C.1 C.2.1 dX15_hear_0 rfl (lv_at hl 0 rfl) ?_
  refine gf_X15_1 C hW k_x0 dX15_hear_1 ?_
  obtain ⟨v_1, ev_1, hE⟩ := nm_e2 hE
  refine x_nmI ev_1 ?_
  refine lv_istore_n (lv' := [(2, .int v_1), (0, .ref x0), (1, .int x1)]) C.1 C.2.1 dX15_hear_4 rfl hl (by decide) rfl (fun ls hl => ?_)
  refine lv_aload_n C.1 C.2.1 dX15_hear_5 rfl (lv_at hl 1 rfl) ?_
  refine lv_iconst (v := (0 : Int32)) C.1 C.2.1 dX15_hear_6 (by decide) ?_
  obtain ⟨h_2, eh_2, hE⟩ := nm_e2 hE
  refine pf_X15_1 C hW hZ k_x0 eh_2 dX15_hear_7 (fun _ _ hW km hZ => ?_)
  replace hkm := hkm.tr km
  replace k_x0 := km.at k_x0 (by decide)
  refine lv_aload_n C.1 C.2.1 dX15_hear_10 rfl (lv_at hl 1 rfl) ?_
  refine lv_iload_n C.1 C.2.1 dX15_hear_11 rfl (lv_at hl 2 rfl) ?_
  obtain ⟨o_3, eo_3, hE⟩ := cl_e hE
  refine x_kI (o := o_3) (z_runV (As := [.int x1]) (rest := []) C (ct_X15_moves l X k_x0 eo_3) cw_X15_668 hW hZ k_x0 (by decide) rfl rfl rfl hl.1 (Nat.le_of_ble_eq_true rfl) rfl dX15_hear_12 ⟨Nat.le_of_ble_eq_true rfl, Nat.le_of_ble_eq_true rfl⟩ ⟨Nat.le_refl _, Nat.le_refl _⟩) hZ (fun _ _ hW km hZ => ?_)
  replace hkm := hkm.tr km
  replace k_x0 := km.at k_x0 (by decide)
  refine lv_bipush (v := (-102 : Int32)) C.1 C.2.1 dX15_hear_15 (by decide) ?_
  refine lv_icmp_ne (tgt := 23) C.1 C.2.1 dX15_hear_17 (by decide) (fun c_4 => ?_) (fun c_4 => ?_)
  · have hE := br_n hE c_4
    refine lv_aload_n C.1 C.2.1 dX15_hear_23 rfl (lv_at hl 1 rfl) ?_
    refine gf_X15_11 C hW k_x0 dX15_hear_24 ?_
    obtain ⟨v_5, ev_5, hE⟩ := nm_e2 hE
    refine x_nmI ev_5 ?_
    refine lv_istore_n (lv' := [(3, .int v_5), (2, .int v_1), (0, .ref x0), (1, .int x1)]) C.1 C.2.1 dX15_hear_27 rfl hl (by decide) rfl (fun ls hl => ?_)
    refine lv_aload_n C.1 C.2.1 dX15_hear_28 rfl (lv_at hl 2 rfl) ?_
    obtain ⟨r_6, er_6, hE⟩ := cl_e hE
    refine gf_X15_14 C hW k_x0 er_6 dX15_hear_29 (fun k_r_6 => ?_)
    refine lv_iconst (v := (0 : Int32)) C.1 C.2.1 dX15_hear_32 (by decide) ?_
    refine lv_aload_n C.1 C.2.1 dX15_hear_33 rfl (lv_at hl 2 rfl) ?_
    obtain ⟨r_7, er_7, hE⟩ := cl_e hE
    refine gf_X15_327 C hW k_x0 er_7 dX15_hear_34 (fun k_r_7 => ?_)
    refine lv_iconst (v := (0 : Int32)) C.1 C.2.1 dX15_hear_37 (by decide) ?_
    refine lv_iload_n C.1 C.2.1 dX15_hear_38 rfl (lv_at hl 0 rfl) ?_
    obtain ⟨g_8, hE⟩ := gd_e hE
    obtain ⟨g_9, hE⟩ := gd_e hE
    obtain ⟨g_10, hE⟩ := gd_e hE
    obtain ⟨g_11, hE⟩ := gd_e hE
    obtain ⟨g_12, hE⟩ := gd_e hE
    obtain ⟨g_13, hE⟩ := gd_e hE
    obtain ⟨h_14, eh_14, hE⟩ := nm_e2 hE
    refine y_cpyI (ty := .byte) C hW hZ hl.1 m_2659 m_1235 m_1234 m_23 k_r_6 k_r_7 (Or.inl ⟨rfl, rfl⟩) g_8 g_9 g_10 g_11 g_12 g_13 (Nat.le_of_ble_eq_true rfl) (Nat.le_of_ble_eq_true rfl) eh_14 dX15_hear_39 (fun _ _ hW km hZ => ?_)
    replace hkm := hkm.tr km
    replace k_x0 := km.at k_x0 (by decide)
    refine lv_iconst (v := (-1 : Int32)) C.1 C.2.1 dX15_hear_42 (by decide) ?_
    refine lv_istore (lv' := [(4, .int (-1 : Int32)), (3, .int v_5), (2, .int v_1), (0, .ref x0), (1, .int x1)]) C.1 C.2.1 dX15_hear_43 hl (by decide) rfl (fun ls hl => ?_)
    refine lv_iconst (v := (0 : Int32)) C.1 C.2.1 dX15_hear_45 (by decide) ?_
    refine lv_istore (lv' := [(5, .int (0 : Int32)), (4, .int (-1 : Int32)), (3, .int v_5), (2, .int v_1), (0, .ref x0), (1, .int x1)]) C.1 C.2.1 dX15_hear_46 hl (by decide) rfl (fun ls hl => ?_)
    exact bX15_hear_48 C F k_x0 hkm hW hZ _ (lv_sub hl [4, 5, 3, 2, 1, 0] rfl) hE
  · have hE := br_p hE c_4
    refine lv_bipush (v := (-102 : Int32)) C.1 C.2.1 dX15_hear_20 (by decide) ?_
    exact x_iret C rfl rfl hW hZ hkm hE dX15_hear_22
theorem dX15_isGame_0 : decode cX15_isGame 0 = .ok (.iload_n 0, 1) := by decide +kernel
theorem dX15_isGame_1 : decode cX15_isGame 1 = .ok (.ifCond .lt 13, 3) := by decide +kernel
theorem dX15_isGame_4 : decode cX15_isGame 4 = .ok (.iload_n 0, 1) := by decide +kernel
theorem dX15_isGame_5 : decode cX15_isGame 5 = .ok (.bipush 8, 2) := by decide +kernel
theorem dX15_isGame_7 : decode cX15_isGame 7 = .ok (.if_icmp .ge 7, 3) := by decide +kernel
theorem dX15_isGame_10 : decode cX15_isGame 10 = .ok (.iconst 1, 1) := by decide +kernel
theorem dX15_isGame_11 : decode cX15_isGame 11 = .ok (.goto 4, 3) := by decide +kernel
theorem dX15_isGame_14 : decode cX15_isGame 14 = .ok (.iconst 0, 1) := by decide +kernel
theorem dX15_isGame_15 : decode cX15_isGame 15 = .ok (.ireturn, 1) := by decide +kernel
set_option maxRecDepth 20000 in
theorem moX15_isGame_15 {o : Int32 × Hp} {h : Hp} {t0 : Int32} (hE : sX15_isGame_15 h  t0 = some o) : Le h o.2 := by
  obtain ⟨g_1, hE⟩ := gd_e hE
  exact le_some2 hE
set_option maxRecDepth 20000 in
theorem moX15_isGame_14 {o : Int32 × Hp} {h : Hp} (hE : sX15_isGame_14 h  = some o) : Le h o.2 := by
  exact moX15_isGame_15 hE
set_option maxRecDepth 20000 in
theorem moX15_isGame {o : Int32 × Hp} {h : Hp} {x0 : Int32} (hE : sX15_isGame h x0 = some o) : Le h o.2 := by
  rcases br_e hE with ⟨_, hE⟩ | ⟨_, hE⟩
  · exact moX15_isGame_14 hE
  · rcases br_e hE with ⟨_, hE⟩ | ⟨_, hE⟩
    · exact moX15_isGame_14 hE
    · exact moX15_isGame_15 hE
set_option maxRecDepth 20000 in
theorem bX15_isGame_15 {p : Program} {l : Launch} {e : Env} {s : State} {m : MethodId} {args : Array Value} {below : List Frame} {meth : Method} {c : Code} {X : Ec} {h0 : Hp} {o : Int32 × Hp} (C : Cx X p s m args meth c RX15 cX15_isGame 1 (some .boolean) "isGame") {h : Hp} {t0 : Int32} {H : Heap} {locs : List Loc} (hkm : Km h0 h) (hW : Wx X h H) (hZ : va_S (aA (eB X)) s.heap H locs) (ls : Array Slot) (hl : lv_has ls 1 []) (hE : sX15_isGame_15 h  t0 = some o) : W p l e (rm 0 0) s m args below meth c H locs 0 0 (MQ below (QI X h0 o.1 o.2) args s 0 0 (aA (eB X))) (F0 m 15 ls [.int t0]) := by
  obtain ⟨g_1, hE⟩ := gd_e hE
  exact x_iret C rfl (narB g_1) hW hZ hkm hE dX15_isGame_15
set_option maxRecDepth 20000 in
theorem bX15_isGame_14 {p : Program} {l : Launch} {e : Env} {s : State} {m : MethodId} {args : Array Value} {below : List Frame} {meth : Method} {c : Code} {X : Ec} {h0 : Hp} {o : Int32 × Hp} (C : Cx X p s m args meth c RX15 cX15_isGame 1 (some .boolean) "isGame") {h : Hp} {H : Heap} {locs : List Loc} (hkm : Km h0 h) (hW : Wx X h H) (hZ : va_S (aA (eB X)) s.heap H locs) (ls : Array Slot) (hl : lv_has ls 1 []) (hE : sX15_isGame_14 h  = some o) : W p l e (rm 0 0) s m args below meth c H locs 0 0 (MQ below (QI X h0 o.1 o.2) args s 0 0 (aA (eB X))) (F0 m 14 ls []) := by
  refine lv_iconst (v := (0 : Int32)) C.1 C.2.1 dX15_isGame_14 (by decide) ?_
  exact bX15_isGame_15 C hkm hW hZ _ (lv_sub hl [] rfl) hE
set_option maxRecDepth 20000 in
theorem ct_X15_isGame (l : Launch) (X : Ec) {h : Hp} {x0 : Int32} {o : Int32 × Hp} (hE : sX15_isGame h x0 = some o) : MetI l yX15_isGame cX15_isGame 1 (some .boolean) 0 0 X [.int x0] h o := by
  refine x_met (by decide) (Nat.le_of_ble_eq_true rfl) ?_
  intro p e s m below meth c ls C hl hW hZ
  have hl : lv_has ls 1 [(0, .int x0)] := hl
  have hkm : Km h h := Km.rf h
  refine lv_iload_n C.1 C.2.1 dX15_isGame_0 rfl (lv_at hl 0 rfl) ?_
  refine lv_if_lt (tgt := 14) C.1 C.2.1 dX15_isGame_1 (by decide) (fun c_1 => ?_) (fun c_1 => ?_)
  · have hE := br_p hE c_1
    exact bX15_isGame_14 C hkm hW hZ _ (lv_sub hl [] rfl) hE
  · have hE := br_n hE c_1
    refine lv_iload_n C.1 C.2.1 dX15_isGame_4 rfl (lv_at hl 0 rfl) ?_
    refine lv_bipush (v := (8 : Int32)) C.1 C.2.1 dX15_isGame_5 (by decide) ?_
    refine lv_icmp_ge (tgt := 14) C.1 C.2.1 dX15_isGame_7 (by decide) (fun c_2 => ?_) (fun c_2 => ?_)
    · have hE := br_p hE c_2
      exact bX15_isGame_14 C hkm hW hZ _ (lv_sub hl [] rfl) hE
    · have hE := br_n hE c_2
      refine lv_iconst (v := (1 : Int32)) C.1 C.2.1 dX15_isGame_10 (by decide) ?_
      refine lv_goto (tgt := 15) C.1 C.2.1 dX15_isGame_11 (by decide) ?_
      exact bX15_isGame_15 C hkm hW hZ _ (lv_sub hl [] rfl) hE
set_option maxRecDepth 100000 in
theorem m_2664 : Cond.methodLink RX15 703 yX15_isGame ∈ W0 := w0_in (List.mem_append_right _ (List.mem_of_getElem? (i := 2664) rfl)) rfl
set_option maxRecDepth 100000 in
theorem m_2665 : Cond.static yX15_isGame ∈ W0 := w0_in (List.mem_append_right _ (List.mem_of_getElem? (i := 2665) rfl)) rfl
set_option maxRecDepth 100000 in
theorem m_2666 : Cond.code yX15_isGame cX15_isGame 1 (some .boolean) ∈ W0 := w0_in (List.mem_append_right _ (List.mem_of_getElem? (i := 2666) rfl)) rfl
theorem cw_X15_703 : cwd RX15 703 yX15_isGame cX15_isGame 1 (some .boolean) true 1 := ⟨m_2666, m_2664, m_19, m_2665, by decide, by decide, by decide +kernel⟩
theorem dX15_start_0 : decode cX15_start 0 = .ok (.iload_n 1, 1) := by decide +kernel
theorem dX15_start_1 : decode cX15_start 1 = .ok (.invokestatic 703, 3) := by decide +kernel
theorem dX15_start_4 : decode cX15_start 4 = .ok (.ifCond .ne 6, 3) := by decide +kernel
theorem dX15_start_7 : decode cX15_start 7 = .ok (.bipush (-101), 2) := by decide +kernel
theorem dX15_start_9 : decode cX15_start 9 = .ok (.ireturn, 1) := by decide +kernel
theorem dX15_start_10 : decode cX15_start 10 = .ok (.aload_n 0, 1) := by decide +kernel
theorem dX15_start_11 : decode cX15_start 11 = .ok (.iload_n 2, 1) := by decide +kernel
theorem dX15_start_12 : decode cX15_start 12 = .ok (.invokevirtual 486, 3) := by decide +kernel
theorem dX15_start_15 : decode cX15_start 15 = .ok (.ifCond .ne 6, 3) := by decide +kernel
theorem dX15_start_18 : decode cX15_start 18 = .ok (.bipush (-102), 2) := by decide +kernel
theorem dX15_start_20 : decode cX15_start 20 = .ok (.ireturn, 1) := by decide +kernel
theorem dX15_start_21 : decode cX15_start 21 = .ok (.aload_n 0, 1) := by decide +kernel
theorem dX15_start_22 : decode cX15_start 22 = .ok (.iload_n 1, 1) := by decide +kernel
theorem dX15_start_23 : decode cX15_start 23 = .ok (.iconst 0, 1) := by decide +kernel
theorem dX15_start_24 : decode cX15_start 24 = .ok (.invokevirtual 706, 3) := by decide +kernel
set_option maxRecDepth 20000 in
theorem moX15_start_15 {o : Int32 × Hp} {h : Hp} {x0 : Nat} {x1 : Int32} {x2 : Int32} {t0 : Int32} (hE : sX15_start_15 h x0 x1 x2 t0 = some o) : Le h o.2 := by
  rcases br_e hE with ⟨_, hE⟩ | ⟨_, hE⟩
  · exact le_some2 hE
  · cases hE
set_option maxRecDepth 20000 in
theorem moX15_start_4 {o : Int32 × Hp} {h : Hp} {x0 : Nat} {x1 : Int32} {x2 : Int32} {t0 : Int32} (hE : sX15_start_4 h x0 x1 x2 t0 = some o) : Le h o.2 := by
  rcases br_e hE with ⟨_, hE⟩ | ⟨_, hE⟩
  · exact le_some2 hE
  · obtain ⟨o_2, eo_2, hE⟩ := cl_e hE
    refine (moX15_has eo_2).tr ?_
    exact moX15_start_15 hE
set_option maxRecDepth 20000 in
theorem moX15_start {o : Int32 × Hp} {h : Hp} {x0 : Nat} {x1 : Int32} {x2 : Int32} (hE : sX15_start h x0 x1 x2 = some o) : Le h o.2 := by
  obtain ⟨o_1, eo_1, hE⟩ := cl_e hE
  refine (moX15_isGame eo_1).tr ?_
  exact moX15_start_4 hE
set_option maxRecDepth 20000 in
theorem bX15_start_15 {p : Program} {l : Launch} {e : Env} {s : State} {m : MethodId} {args : Array Value} {below : List Frame} {meth : Method} {c : Code} {X : Ec} {h0 : Hp} {o : Int32 × Hp} (C : Cx X p s m args meth c RX15 cX15_start 3 (some .int) "start") {h : Hp} {x0 : Nat} {x1 : Int32} {x2 : Int32} {t0 : Int32} {H : Heap} {locs : List Loc} (k_x0 : hK h x0 = 15) (hkl : Kl h0 h) (hW : Wx X h H) (hZ : va_S (aA (eB X)) s.heap H locs) (ls : Array Slot) (hl : lv_has ls 3 [(0, .ref x0), (1, .int x1), (2, .int x2)]) (hE : sX15_start_15 h x0 x1 x2 t0 = some o) : W p l e (rmA 1 21 h0 o.2) s m args below meth c H locs (hS h - hS h0) (hL h - hL h0) (MQ below (QIA X h0 o.1 o.2) args s (hS o.2 - hS h0) (hL o.2 - hL h0) (aA (eB X))) (F0 m 15 ls [.int t0]) := by
  refine lv_if_ne (tgt := 21) C.1 C.2.1 dX15_start_15 (by decide) (fun c_1 => ?_) (fun c_1 => ?_)
  · have hE := br_n hE c_1
    refine lv_aload_n C.1 C.2.1 dX15_start_21 rfl (lv_at hl 0 rfl) ?_
    refine lv_iload_n C.1 C.2.1 dX15_start_22 rfl (lv_at hl 1 rfl) ?_
    refine lv_iconst (v := (0 : Int32)) C.1 C.2.1 dX15_start_23 (by decide) ?_
    cases hE
  · have hE := br_p hE c_1
    refine lv_bipush (v := (-102 : Int32)) C.1 C.2.1 dX15_start_18 (by decide) ?_
    exact x_iretA C rfl rfl hW hZ hkl hE dX15_start_20
set_option maxRecDepth 20000 in
theorem bX15_start_4 {p : Program} {l : Launch} {e : Env} {s : State} {m : MethodId} {args : Array Value} {below : List Frame} {meth : Method} {c : Code} {X : Ec} {h0 : Hp} {o : Int32 × Hp} (C : Cx X p s m args meth c RX15 cX15_start 3 (some .int) "start") {h : Hp} {x0 : Nat} {x1 : Int32} {x2 : Int32} {t0 : Int32} {H : Heap} {locs : List Loc} (k_x0 : hK h x0 = 15) (hkl : Kl h0 h) (hW : Wx X h H) (hZ : va_S (aA (eB X)) s.heap H locs) (ls : Array Slot) (hl : lv_has ls 3 [(0, .ref x0), (1, .int x1), (2, .int x2)]) (hE : sX15_start_4 h x0 x1 x2 t0 = some o) : W p l e (rmA 1 21 h0 o.2) s m args below meth c H locs (hS h - hS h0) (hL h - hL h0) (MQ below (QIA X h0 o.1 o.2) args s (hS o.2 - hS h0) (hL o.2 - hL h0) (aA (eB X))) (F0 m 4 ls [.int t0]) := by
  refine lv_if_ne (tgt := 10) C.1 C.2.1 dX15_start_4 (by decide) (fun c_1 => ?_) (fun c_1 => ?_)
  · have hE := br_n hE c_1
    refine lv_aload_n C.1 C.2.1 dX15_start_10 rfl (lv_at hl 0 rfl) ?_
    refine lv_iload_n C.1 C.2.1 dX15_start_11 rfl (lv_at hl 2 rfl) ?_
    obtain ⟨o_2, eo_2, hE⟩ := cl_e hE
    have m1 := moX15_has eo_2
    have m2 := moX15_start_15 hE
    refine x_kI (o := o_2) (z_runV (As := [.int x2]) (rest := []) C (ct_X15_has l X k_x0 eo_2) cw_X15_486 hW hZ k_x0 (by decide) rfl rfl rfl hl.1 (Nat.le_of_ble_eq_true rfl) rfl dX15_start_12 ⟨Nat.le_of_ble_eq_true rfl, Nat.le_of_ble_eq_true rfl⟩ (rm_ok0 hkl m1 m2)) hZ (fun _ _ hW km hZ => ?_)
    replace hkl := hkl.tr km.l
    refine x_wc km ?_
    replace k_x0 := km.at k_x0 (by decide)
    exact bX15_start_15 C k_x0 hkl hW hZ _ (lv_sub hl [0, 1, 2] rfl) hE
  · have hE := br_p hE c_1
    refine lv_bipush (v := (-101 : Int32)) C.1 C.2.1 dX15_start_7 (by decide) ?_
    exact x_iretA C rfl rfl hW hZ hkl hE dX15_start_9
set_option maxRecDepth 20000 in
theorem ct_X15_start (l : Launch) (X : Ec) {h : Hp} {x0 : Nat} {x1 : Int32} {x2 : Int32} {o : Int32 × Hp} (k_x0 : hK h x0 = 15) (hE : sX15_start h x0 x1 x2 = some o) : MetIA l yX15_start cX15_start 3 (some .int) 1 21 X [.ref x0, .int x1, .int x2] h o := by
  refine x_metA (oh := o.2) (by decide) (Nat.le_of_ble_eq_true rfl) ?_
  intro p e s m below meth c ls C hl hW hZ
  have hl : lv_has ls 3 [(0, .ref x0), (1, .int x1), (2, .int x2)] := hl
  have hkl : Kl h h := Kl.rf h
  refine lv_iload_n C.1 C.2.1 dX15_start_0 rfl (lv_at hl 1 rfl) ?_
  obtain ⟨o_1, eo_1, hE⟩ := cl_e hE
  have m1 := moX15_isGame eo_1
  have m2 := moX15_start_4 hE
  refine x_kI (o := o_1) (z_runS (As := [.int x1]) (rest := []) C (ct_X15_isGame l X eo_1) cw_X15_703 hW hZ rfl hl.1 (Nat.le_of_ble_eq_true rfl) rfl dX15_start_1 ⟨Nat.le_of_ble_eq_true rfl, Nat.le_of_ble_eq_true rfl⟩ (rm_ok0 hkl m1 m2)) hZ (fun _ _ hW km hZ => ?_)
  replace hkl := hkl.tr km.l
  refine x_wc km ?_
  replace k_x0 := km.at k_x0 (by decide)
  exact bX15_start_4 C k_x0 hkl hW hZ _ (lv_sub hl [0, 1, 2] rfl) hE
theorem dX15_add_0 : decode cX15_add 0 = .ok (.iload_n 1, 1) := by decide +kernel
theorem dX15_add_1 : decode cX15_add 1 = .ok (.invokestatic 703, 3) := by decide +kernel
theorem dX15_add_4 : decode cX15_add 4 = .ok (.ifCond .ne 6, 3) := by decide +kernel
theorem dX15_add_7 : decode cX15_add 7 = .ok (.bipush (-101), 2) := by decide +kernel
theorem dX15_add_9 : decode cX15_add 9 = .ok (.ireturn, 1) := by decide +kernel
theorem dX15_add_10 : decode cX15_add 10 = .ok (.aload_n 0, 1) := by decide +kernel
theorem dX15_add_11 : decode cX15_add 11 = .ok (.getfield 314, 3) := by decide +kernel
theorem dX15_add_14 : decode cX15_add 14 = .ok (.iload_n 1, 1) := by decide +kernel
theorem dX15_add_15 : decode cX15_add 15 = .ok (.iaload, 1) := by decide +kernel
theorem dX15_add_16 : decode cX15_add 16 = .ok (.iconst (-1), 1) := by decide +kernel
theorem dX15_add_17 : decode cX15_add 17 = .ok (.if_icmp .ne 6, 3) := by decide +kernel
theorem dX15_add_20 : decode cX15_add 20 = .ok (.bipush (-102), 2) := by decide +kernel
theorem dX15_add_22 : decode cX15_add 22 = .ok (.ireturn, 1) := by decide +kernel
theorem dX15_add_23 : decode cX15_add 23 = .ok (.aload_n 0, 1) := by decide +kernel
theorem dX15_add_24 : decode cX15_add 24 = .ok (.iload_n 1, 1) := by decide +kernel
theorem dX15_add_25 : decode cX15_add 25 = .ok (.aload_n 0, 1) := by decide +kernel
theorem dX15_add_26 : decode cX15_add 26 = .ok (.getfield 314, 3) := by decide +kernel
theorem dX15_add_29 : decode cX15_add 29 = .ok (.iload_n 1, 1) := by decide +kernel
theorem dX15_add_30 : decode cX15_add 30 = .ok (.iaload, 1) := by decide +kernel
theorem dX15_add_31 : decode cX15_add 31 = .ok (.invokevirtual 706, 3) := by decide +kernel
set_option maxRecDepth 20000 in
theorem moX15_add_4 {o : Int32 × Hp} {h : Hp} {x0 : Nat} {x1 : Int32} {x2 : Int32} {t0 : Int32} (hE : sX15_add_4 h x0 x1 x2 t0 = some o) : Le h o.2 := by
  rcases br_e hE with ⟨_, hE⟩ | ⟨_, hE⟩
  · exact le_some2 hE
  · obtain ⟨r_2, er_2, hE⟩ := cl_e hE
    obtain ⟨g_3, hE⟩ := gd_e hE
    rcases br_e hE with ⟨_, hE⟩ | ⟨_, hE⟩
    · exact le_some2 hE
    · obtain ⟨r_5, er_5, hE⟩ := cl_e hE
      obtain ⟨g_6, hE⟩ := gd_e hE
      cases hE
set_option maxRecDepth 20000 in
theorem moX15_add {o : Int32 × Hp} {h : Hp} {x0 : Nat} {x1 : Int32} {x2 : Int32} (hE : sX15_add h x0 x1 x2 = some o) : Le h o.2 := by
  obtain ⟨o_1, eo_1, hE⟩ := cl_e hE
  refine (moX15_isGame eo_1).tr ?_
  exact moX15_add_4 hE
set_option maxRecDepth 20000 in
theorem bX15_add_4 {p : Program} {l : Launch} {e : Env} {s : State} {m : MethodId} {args : Array Value} {below : List Frame} {meth : Method} {c : Code} {X : Ec} {h0 : Hp} {o : Int32 × Hp} (C : Cx X p s m args meth c RX15 cX15_add 4 (some .int) "add") {h : Hp} {x0 : Nat} {x1 : Int32} {x2 : Int32} {t0 : Int32} {H : Heap} {locs : List Loc} (k_x0 : hK h x0 = 15) (hkl : Kl h0 h) (hW : Wx X h H) (hZ : va_S (aA (eB X)) s.heap H locs) (ls : Array Slot) (hl : lv_has ls 4 [(0, .ref x0), (1, .int x1), (2, .int x2)]) (hE : sX15_add_4 h x0 x1 x2 t0 = some o) : W p l e (rmA 1 20 h0 o.2) s m args below meth c H locs (hS h - hS h0) (hL h - hL h0) (MQ below (QIA X h0 o.1 o.2) args s (hS o.2 - hS h0) (hL o.2 - hL h0) (aA (eB X))) (F0 m 4 ls [.int t0]) := by
  refine lv_if_ne (tgt := 10) C.1 C.2.1 dX15_add_4 (by decide) (fun c_1 => ?_) (fun c_1 => ?_)
  · have hE := br_n hE c_1
    refine lv_aload_n C.1 C.2.1 dX15_add_10 rfl (lv_at hl 0 rfl) ?_
    obtain ⟨r_2, er_2, hE⟩ := cl_e hE
    refine gf_X15_314 C hW k_x0 er_2 dX15_add_11 (fun k_r_2 => ?_)
    refine lv_iload_n C.1 C.2.1 dX15_add_14 rfl (lv_at hl 1 rfl) ?_
    obtain ⟨g_3, hE⟩ := gd_e hE
    refine y_iald C hW k_r_2 g_3 dX15_add_15 ?_
    refine lv_iconst (v := (-1 : Int32)) C.1 C.2.1 dX15_add_16 (by decide) ?_
    refine lv_icmp_ne (tgt := 23) C.1 C.2.1 dX15_add_17 (by decide) (fun c_4 => ?_) (fun c_4 => ?_)
    · have hE := br_n hE c_4
      refine lv_aload_n C.1 C.2.1 dX15_add_23 rfl (lv_at hl 0 rfl) ?_
      refine lv_iload_n C.1 C.2.1 dX15_add_24 rfl (lv_at hl 1 rfl) ?_
      refine lv_aload_n C.1 C.2.1 dX15_add_25 rfl (lv_at hl 0 rfl) ?_
      obtain ⟨r_5, er_5, hE⟩ := cl_e hE
      refine gf_X15_314 C hW k_x0 er_5 dX15_add_26 (fun k_r_5 => ?_)
      refine lv_iload_n C.1 C.2.1 dX15_add_29 rfl (lv_at hl 1 rfl) ?_
      obtain ⟨g_6, hE⟩ := gd_e hE
      refine y_iald C hW k_r_5 g_6 dX15_add_30 ?_
      cases hE
    · have hE := br_p hE c_4
      refine lv_bipush (v := (-102 : Int32)) C.1 C.2.1 dX15_add_20 (by decide) ?_
      exact x_iretA C rfl rfl hW hZ hkl hE dX15_add_22
  · have hE := br_p hE c_1
    refine lv_bipush (v := (-101 : Int32)) C.1 C.2.1 dX15_add_7 (by decide) ?_
    exact x_iretA C rfl rfl hW hZ hkl hE dX15_add_9
set_option maxRecDepth 20000 in
theorem ct_X15_add (l : Launch) (X : Ec) {h : Hp} {x0 : Nat} {x1 : Int32} {x2 : Int32} {o : Int32 × Hp} (k_x0 : hK h x0 = 15) (hE : sX15_add h x0 x1 x2 = some o) : MetIA l yX15_add cX15_add 4 (some .int) 1 20 X [.ref x0, .int x1, .int x2] h o := by
  refine x_metA (oh := o.2) (by decide) (Nat.le_of_ble_eq_true rfl) ?_
  intro p e s m below meth c ls C hl hW hZ
  have hl : lv_has ls 4 [(0, .ref x0), (1, .int x1), (2, .int x2)] := hl
  have hkl : Kl h h := Kl.rf h
  refine lv_iload_n C.1 C.2.1 dX15_add_0 rfl (lv_at hl 1 rfl) ?_
  obtain ⟨o_1, eo_1, hE⟩ := cl_e hE
  have m1 := moX15_isGame eo_1
  have m2 := moX15_add_4 hE
  refine x_kI (o := o_1) (z_runS (As := [.int x1]) (rest := []) C (ct_X15_isGame l X eo_1) cw_X15_703 hW hZ rfl hl.1 (Nat.le_of_ble_eq_true rfl) rfl dX15_add_1 ⟨Nat.le_of_ble_eq_true rfl, Nat.le_of_ble_eq_true rfl⟩ (rm_ok0 hkl m1 m2)) hZ (fun _ _ hW km hZ => ?_)
  replace hkl := hkl.tr km.l
  refine x_wc km ?_
  replace k_x0 := km.at k_x0 (by decide)
  exact bX15_add_4 C k_x0 hkl hW hZ _ (lv_sub hl [0, 1, 2] rfl) hE
theorem dX15_back_0 : decode cX15_back 0 = .ok (.iload_n 1, 1) := by decide +kernel
theorem dX15_back_1 : decode cX15_back 1 = .ok (.invokestatic 703, 3) := by decide +kernel
theorem dX15_back_4 : decode cX15_back 4 = .ok (.ifCond .ne 6, 3) := by decide +kernel
theorem dX15_back_7 : decode cX15_back 7 = .ok (.bipush (-101), 2) := by decide +kernel
theorem dX15_back_9 : decode cX15_back 9 = .ok (.ireturn, 1) := by decide +kernel
theorem dX15_back_10 : decode cX15_back 10 = .ok (.aload_n 0, 1) := by decide +kernel
theorem dX15_back_11 : decode cX15_back 11 = .ok (.getfield 314, 3) := by decide +kernel
theorem dX15_back_14 : decode cX15_back 14 = .ok (.iload_n 1, 1) := by decide +kernel
theorem dX15_back_15 : decode cX15_back 15 = .ok (.iaload, 1) := by decide +kernel
theorem dX15_back_16 : decode cX15_back 16 = .ok (.iconst (-1), 1) := by decide +kernel
theorem dX15_back_17 : decode cX15_back 17 = .ok (.if_icmp .ne 6, 3) := by decide +kernel
theorem dX15_back_20 : decode cX15_back 20 = .ok (.bipush (-102), 2) := by decide +kernel
theorem dX15_back_22 : decode cX15_back 22 = .ok (.ireturn, 1) := by decide +kernel
theorem dX15_back_23 : decode cX15_back 23 = .ok (.aload_n 0, 1) := by decide +kernel
theorem dX15_back_24 : decode cX15_back 24 = .ok (.getfield 314, 3) := by decide +kernel
theorem dX15_back_27 : decode cX15_back 27 = .ok (.iload_n 1, 1) := by decide +kernel
theorem dX15_back_28 : decode cX15_back 28 = .ok (.iaload, 1) := by decide +kernel
theorem dX15_back_29 : decode cX15_back 29 = .ok (.ifCond .ne 6, 3) := by decide +kernel
theorem dX15_back_32 : decode cX15_back 32 = .ok (.bipush (-103), 2) := by decide +kernel
theorem dX15_back_34 : decode cX15_back 34 = .ok (.ireturn, 1) := by decide +kernel
theorem dX15_back_35 : decode cX15_back 35 = .ok (.aload_n 0, 1) := by decide +kernel
theorem dX15_back_36 : decode cX15_back 36 = .ok (.getfield 314, 3) := by decide +kernel
theorem dX15_back_39 : decode cX15_back 39 = .ok (.iload_n 1, 1) := by decide +kernel
theorem dX15_back_40 : decode cX15_back 40 = .ok (.dup2, 1) := by decide +kernel
theorem dX15_back_41 : decode cX15_back 41 = .ok (.iaload, 1) := by decide +kernel
theorem dX15_back_42 : decode cX15_back 42 = .ok (.iconst 1, 1) := by decide +kernel
theorem dX15_back_43 : decode cX15_back 43 = .ok (.isub, 1) := by decide +kernel
theorem dX15_back_44 : decode cX15_back 44 = .ok (.iastore, 1) := by decide +kernel
theorem dX15_back_45 : decode cX15_back 45 = .ok (.aload_n 0, 1) := by decide +kernel
theorem dX15_back_46 : decode cX15_back 46 = .ok (.getfield 314, 3) := by decide +kernel
theorem dX15_back_49 : decode cX15_back 49 = .ok (.iload_n 1, 1) := by decide +kernel
theorem dX15_back_50 : decode cX15_back 50 = .ok (.iaload, 1) := by decide +kernel
theorem dX15_back_51 : decode cX15_back 51 = .ok (.ireturn, 1) := by decide +kernel
set_option maxRecDepth 20000 in
theorem moX15_back {o : Int32 × Hp} {h : Hp} {x0 : Nat} {x1 : Int32} (hE : sX15_back h x0 x1 = some o) : Le h o.2 := by
  obtain ⟨o_1, eo_1, hE⟩ := cl_e hE
  refine (moX15_isGame eo_1).tr ?_
  rcases br_e hE with ⟨_, hE⟩ | ⟨_, hE⟩
  · exact le_some2 hE
  · obtain ⟨r_3, er_3, hE⟩ := cl_e hE
    obtain ⟨g_4, hE⟩ := gd_e hE
    rcases br_e hE with ⟨_, hE⟩ | ⟨_, hE⟩
    · exact le_some2 hE
    · obtain ⟨r_6, er_6, hE⟩ := cl_e hE
      obtain ⟨g_7, hE⟩ := gd_e hE
      rcases br_e hE with ⟨_, hE⟩ | ⟨_, hE⟩
      · exact le_some2 hE
      · obtain ⟨r_9, er_9, hE⟩ := cl_e hE
        obtain ⟨g_10, hE⟩ := gd_e hE
        obtain ⟨g_11, hE⟩ := gd_e hE
        obtain ⟨h_12, eh_12, hE⟩ := nm_e2 hE
        refine (le_I eh_12).tr ?_
        obtain ⟨r_13, er_13, hE⟩ := cl_e hE
        obtain ⟨g_14, hE⟩ := gd_e hE
        exact le_some2 hE
set_option maxRecDepth 20000 in
theorem ct_X15_back (l : Launch) (X : Ec) {h : Hp} {x0 : Nat} {x1 : Int32} {o : Int32 × Hp} (k_x0 : hK h x0 = 15) (hE : sX15_back h x0 x1 = some o) : MetI l yX15_back cX15_back 2 (some .int) 1 20 X [.ref x0, .int x1] h o := by
  refine x_met (by decide) (Nat.le_of_ble_eq_true rfl) ?_
  intro p e s m below meth c ls C hl hW hZ
  have hl : lv_has ls 2 [(0, .ref x0), (1, .int x1)] := hl
  have hkm : Km h h := Km.rf h
  refine lv_iload_n C.1 C.2.1 dX15_back_0 rfl (lv_at hl 1 rfl) ?_
  obtain ⟨o_1, eo_1, hE⟩ := cl_e hE
  refine x_kI (o := o_1) (z_runS (As := [.int x1]) (rest := []) C (ct_X15_isGame l X eo_1) cw_X15_703 hW hZ rfl hl.1 (Nat.le_of_ble_eq_true rfl) rfl dX15_back_1 ⟨Nat.le_of_ble_eq_true rfl, Nat.le_of_ble_eq_true rfl⟩ ⟨Nat.le_refl _, Nat.le_refl _⟩) hZ (fun _ _ hW km hZ => ?_)
  replace hkm := hkm.tr km
  replace k_x0 := km.at k_x0 (by decide)
  refine lv_if_ne (tgt := 10) C.1 C.2.1 dX15_back_4 (by decide) (fun c_2 => ?_) (fun c_2 => ?_)
  · have hE := br_n hE c_2
    refine lv_aload_n C.1 C.2.1 dX15_back_10 rfl (lv_at hl 0 rfl) ?_
    obtain ⟨r_3, er_3, hE⟩ := cl_e hE
    refine gf_X15_314 C hW k_x0 er_3 dX15_back_11 (fun k_r_3 => ?_)
    refine lv_iload_n C.1 C.2.1 dX15_back_14 rfl (lv_at hl 1 rfl) ?_
    obtain ⟨g_4, hE⟩ := gd_e hE
    refine y_iald C hW k_r_3 g_4 dX15_back_15 ?_
    refine lv_iconst (v := (-1 : Int32)) C.1 C.2.1 dX15_back_16 (by decide) ?_
    refine lv_icmp_ne (tgt := 23) C.1 C.2.1 dX15_back_17 (by decide) (fun c_5 => ?_) (fun c_5 => ?_)
    · have hE := br_n hE c_5
      refine lv_aload_n C.1 C.2.1 dX15_back_23 rfl (lv_at hl 0 rfl) ?_
      obtain ⟨r_6, er_6, hE⟩ := cl_e hE
      refine gf_X15_314 C hW k_x0 er_6 dX15_back_24 (fun k_r_6 => ?_)
      refine lv_iload_n C.1 C.2.1 dX15_back_27 rfl (lv_at hl 1 rfl) ?_
      obtain ⟨g_7, hE⟩ := gd_e hE
      refine y_iald C hW k_r_6 g_7 dX15_back_28 ?_
      refine lv_if_ne (tgt := 35) C.1 C.2.1 dX15_back_29 (by decide) (fun c_8 => ?_) (fun c_8 => ?_)
      · have hE := br_n hE c_8
        refine lv_aload_n C.1 C.2.1 dX15_back_35 rfl (lv_at hl 0 rfl) ?_
        obtain ⟨r_9, er_9, hE⟩ := cl_e hE
        refine gf_X15_314 C hW k_x0 er_9 dX15_back_36 (fun k_r_9 => ?_)
        refine lv_iload_n C.1 C.2.1 dX15_back_39 rfl (lv_at hl 1 rfl) ?_
        refine lv_dup2_11 C.1 C.2.1 dX15_back_40 rfl rfl ?_
        obtain ⟨g_10, hE⟩ := gd_e hE
        refine y_iald C hW k_r_9 g_10 dX15_back_41 ?_
        refine lv_iconst (v := (1 : Int32)) C.1 C.2.1 dX15_back_42 (by decide) ?_
        refine lv_isub C.1 C.2.1 dX15_back_43 ?_
        obtain ⟨g_11, hE⟩ := gd_e hE
        obtain ⟨h_12, eh_12, hE⟩ := nm_e2 hE
        refine y_iast C hW hZ k_r_9 g_11 eh_12 dX15_back_44 (fun _ _ hW km hZ => ?_)
        replace hkm := hkm.tr km
        replace k_x0 := km.at k_x0 (by decide)
        refine lv_aload_n C.1 C.2.1 dX15_back_45 rfl (lv_at hl 0 rfl) ?_
        obtain ⟨r_13, er_13, hE⟩ := cl_e hE
        refine gf_X15_314 C hW k_x0 er_13 dX15_back_46 (fun k_r_13 => ?_)
        refine lv_iload_n C.1 C.2.1 dX15_back_49 rfl (lv_at hl 1 rfl) ?_
        obtain ⟨g_14, hE⟩ := gd_e hE
        refine y_iald C hW k_r_13 g_14 dX15_back_50 ?_
        exact x_iret C rfl rfl hW hZ hkm hE dX15_back_51
      · have hE := br_p hE c_8
        refine lv_bipush (v := (-103 : Int32)) C.1 C.2.1 dX15_back_32 (by decide) ?_
        exact x_iret C rfl rfl hW hZ hkm hE dX15_back_34
    · have hE := br_p hE c_5
      refine lv_bipush (v := (-102 : Int32)) C.1 C.2.1 dX15_back_20 (by decide) ?_
      exact x_iret C rfl rfl hW hZ hkm hE dX15_back_22
  · have hE := br_p hE c_2
    refine lv_bipush (v := (-101 : Int32)) C.1 C.2.1 dX15_back_7 (by decide) ?_
    exact x_iret C rfl rfl hW hZ hkm hE dX15_back_9
theorem dX15_game_0 : decode cX15_game 0 = .ok (.iload_n 1, 1) := by decide +kernel
theorem dX15_game_1 : decode cX15_game 1 = .ok (.invokestatic 703, 3) := by decide +kernel
theorem dX15_game_4 : decode cX15_game 4 = .ok (.ifCond .eq 12, 3) := by decide +kernel
theorem dX15_game_7 : decode cX15_game 7 = .ok (.iload_n 2, 1) := by decide +kernel
theorem dX15_game_8 : decode cX15_game 8 = .ok (.ifCond .lt 8, 3) := by decide +kernel
theorem dX15_game_11 : decode cX15_game 11 = .ok (.iload_n 2, 1) := by decide +kernel
theorem dX15_game_12 : decode cX15_game 12 = .ok (.iconst 3, 1) := by decide +kernel
theorem dX15_game_13 : decode cX15_game 13 = .ok (.if_icmp .le 6, 3) := by decide +kernel
theorem dX15_game_16 : decode cX15_game 16 = .ok (.bipush (-101), 2) := by decide +kernel
theorem dX15_game_18 : decode cX15_game 18 = .ok (.ireturn, 1) := by decide +kernel
theorem dX15_game_19 : decode cX15_game 19 = .ok (.aload_n 0, 1) := by decide +kernel
theorem dX15_game_20 : decode cX15_game 20 = .ok (.getfield 314, 3) := by decide +kernel
theorem dX15_game_23 : decode cX15_game 23 = .ok (.iload_n 1, 1) := by decide +kernel
theorem dX15_game_24 : decode cX15_game 24 = .ok (.iaload, 1) := by decide +kernel
theorem dX15_game_25 : decode cX15_game 25 = .ok (.iconst (-1), 1) := by decide +kernel
theorem dX15_game_26 : decode cX15_game 26 = .ok (.if_icmp .ne 6, 3) := by decide +kernel
theorem dX15_game_29 : decode cX15_game 29 = .ok (.bipush (-102), 2) := by decide +kernel
theorem dX15_game_31 : decode cX15_game 31 = .ok (.ireturn, 1) := by decide +kernel
theorem dX15_game_32 : decode cX15_game 32 = .ok (.aload_n 0, 1) := by decide +kernel
theorem dX15_game_33 : decode cX15_game 33 = .ok (.iload_n 1, 1) := by decide +kernel
theorem dX15_game_34 : decode cX15_game 34 = .ok (.aload_n 0, 1) := by decide +kernel
theorem dX15_game_35 : decode cX15_game 35 = .ok (.getfield 314, 3) := by decide +kernel
theorem dX15_game_38 : decode cX15_game 38 = .ok (.iload_n 1, 1) := by decide +kernel
theorem dX15_game_39 : decode cX15_game 39 = .ok (.iaload, 1) := by decide +kernel
theorem dX15_game_40 : decode cX15_game 40 = .ok (.invokevirtual 706, 3) := by decide +kernel
set_option maxRecDepth 20000 in
theorem moX15_game_16 {o : Int32 × Hp} {F : Nat} {h : Hp} (hE : sX15_game_16 F h  = some o) : Le h o.2 := by
  exact le_some2 hE
set_option maxRecDepth 20000 in
theorem moX15_game_4 {o : Int32 × Hp} {F : Nat} {h : Hp} {x0 : Nat} {x1 : Int32} {x2 : Int32} {t0 : Int32} (hE : sX15_game_4 F h x0 x1 x2 t0 = some o) : Le h o.2 := by
  rcases br_e hE with ⟨_, hE⟩ | ⟨_, hE⟩
  · exact moX15_game_16 hE
  · rcases br_e hE with ⟨_, hE⟩ | ⟨_, hE⟩
    · exact moX15_game_16 hE
    · rcases br_e hE with ⟨_, hE⟩ | ⟨_, hE⟩
      · obtain ⟨r_4, er_4, hE⟩ := cl_e hE
        obtain ⟨g_5, hE⟩ := gd_e hE
        rcases br_e hE with ⟨_, hE⟩ | ⟨_, hE⟩
        · exact le_some2 hE
        · obtain ⟨r_7, er_7, hE⟩ := cl_e hE
          obtain ⟨g_8, hE⟩ := gd_e hE
          cases hE
      · exact moX15_game_16 hE
set_option maxRecDepth 20000 in
theorem moX15_game {o : Int32 × Hp} {F : Nat} {h : Hp} {x0 : Nat} {x1 : Int32} {x2 : Int32} (hE : sX15_game F h x0 x1 x2 = some o) : Le h o.2 := by
  obtain ⟨o_1, eo_1, hE⟩ := cl_e hE
  refine (moX15_isGame eo_1).tr ?_
  exact moX15_game_4 hE
set_option maxRecDepth 20000 in
theorem bX15_game_16 {p : Program} {l : Launch} {e : Env} {s : State} {m : MethodId} {args : Array Value} {below : List Frame} {meth : Method} {c : Code} {X : Ec} {h0 : Hp} {o : Int32 × Hp} {F : Nat} (C : Cx X p s m args meth c RX15 cX15_game 6 (some .int) "game") {h : Hp} {H : Heap} {locs : List Loc} (hkl : Kl h0 h) (hW : Wx X h H) (hZ : va_S (aA (eB X)) s.heap H locs) (ls : Array Slot) (hl : lv_has ls 6 []) (hE : sX15_game_16 F h  = some o) : W p l e (rmA 1 20 h0 o.2) s m args below meth c H locs (hS h - hS h0) (hL h - hL h0) (MQ below (QIA X h0 o.1 o.2) args s (hS o.2 - hS h0) (hL o.2 - hL h0) (aA (eB X))) (F0 m 16 ls []) := by
  refine lv_bipush (v := (-101 : Int32)) C.1 C.2.1 dX15_game_16 (by decide) ?_
  exact x_iretA C rfl rfl hW hZ hkl hE dX15_game_18
set_option maxRecDepth 20000 in
theorem bX15_game_4 {p : Program} {l : Launch} {e : Env} {s : State} {m : MethodId} {args : Array Value} {below : List Frame} {meth : Method} {c : Code} {X : Ec} {h0 : Hp} {o : Int32 × Hp} {F : Nat} (C : Cx X p s m args meth c RX15 cX15_game 6 (some .int) "game") {h : Hp} {x0 : Nat} {x1 : Int32} {x2 : Int32} {t0 : Int32} {H : Heap} {locs : List Loc} (k_x0 : hK h x0 = 15) (hkl : Kl h0 h) (hW : Wx X h H) (hZ : va_S (aA (eB X)) s.heap H locs) (ls : Array Slot) (hl : lv_has ls 6 [(0, .ref x0), (1, .int x1), (2, .int x2)]) (hE : sX15_game_4 F h x0 x1 x2 t0 = some o) : W p l e (rmA 1 20 h0 o.2) s m args below meth c H locs (hS h - hS h0) (hL h - hL h0) (MQ below (QIA X h0 o.1 o.2) args s (hS o.2 - hS h0) (hL o.2 - hL h0) (aA (eB X))) (F0 m 4 ls [.int t0]) := by
  refine lv_if_eq (tgt := 16) C.1 C.2.1 dX15_game_4 (by decide) (fun c_1 => ?_) (fun c_1 => ?_)
  · have hE := br_p hE c_1
    exact bX15_game_16 C hkl hW hZ _ (lv_sub hl [] rfl) hE
  · have hE := br_n hE c_1
    refine lv_iload_n C.1 C.2.1 dX15_game_7 rfl (lv_at hl 2 rfl) ?_
    refine lv_if_lt (tgt := 16) C.1 C.2.1 dX15_game_8 (by decide) (fun c_2 => ?_) (fun c_2 => ?_)
    · have hE := br_p hE c_2
      exact bX15_game_16 C hkl hW hZ _ (lv_sub hl [] rfl) hE
    · have hE := br_n hE c_2
      refine lv_iload_n C.1 C.2.1 dX15_game_11 rfl (lv_at hl 2 rfl) ?_
      refine lv_iconst (v := (3 : Int32)) C.1 C.2.1 dX15_game_12 (by decide) ?_
      refine lv_icmp_le (tgt := 19) C.1 C.2.1 dX15_game_13 (by decide) (fun c_3 => ?_) (fun c_3 => ?_)
      · have hE := br_p hE c_3
        refine lv_aload_n C.1 C.2.1 dX15_game_19 rfl (lv_at hl 0 rfl) ?_
        obtain ⟨r_4, er_4, hE⟩ := cl_e hE
        refine gf_X15_314 C hW k_x0 er_4 dX15_game_20 (fun k_r_4 => ?_)
        refine lv_iload_n C.1 C.2.1 dX15_game_23 rfl (lv_at hl 1 rfl) ?_
        obtain ⟨g_5, hE⟩ := gd_e hE
        refine y_iald C hW k_r_4 g_5 dX15_game_24 ?_
        refine lv_iconst (v := (-1 : Int32)) C.1 C.2.1 dX15_game_25 (by decide) ?_
        refine lv_icmp_ne (tgt := 32) C.1 C.2.1 dX15_game_26 (by decide) (fun c_6 => ?_) (fun c_6 => ?_)
        · have hE := br_n hE c_6
          refine lv_aload_n C.1 C.2.1 dX15_game_32 rfl (lv_at hl 0 rfl) ?_
          refine lv_iload_n C.1 C.2.1 dX15_game_33 rfl (lv_at hl 1 rfl) ?_
          refine lv_aload_n C.1 C.2.1 dX15_game_34 rfl (lv_at hl 0 rfl) ?_
          obtain ⟨r_7, er_7, hE⟩ := cl_e hE
          refine gf_X15_314 C hW k_x0 er_7 dX15_game_35 (fun k_r_7 => ?_)
          refine lv_iload_n C.1 C.2.1 dX15_game_38 rfl (lv_at hl 1 rfl) ?_
          obtain ⟨g_8, hE⟩ := gd_e hE
          refine y_iald C hW k_r_7 g_8 dX15_game_39 ?_
          cases hE
        · have hE := br_p hE c_6
          refine lv_bipush (v := (-102 : Int32)) C.1 C.2.1 dX15_game_29 (by decide) ?_
          exact x_iretA C rfl rfl hW hZ hkl hE dX15_game_31
      · have hE := br_n hE c_3
        exact bX15_game_16 C hkl hW hZ _ (lv_sub hl [] rfl) hE
set_option maxRecDepth 20000 in
theorem ct_X15_game (l : Launch) (X : Ec) (F : Nat) {h : Hp} {x0 : Nat} {x1 : Int32} {x2 : Int32} {o : Int32 × Hp} (k_x0 : hK h x0 = 15) (hE : sX15_game F h x0 x1 x2 = some o) : MetIA l yX15_game cX15_game 6 (some .int) 1 20 X [.ref x0, .int x1, .int x2] h o := by
  refine x_metA (oh := o.2) (by decide) (Nat.le_of_ble_eq_true rfl) ?_
  intro p e s m below meth c ls C hl hW hZ
  have hl : lv_has ls 6 [(0, .ref x0), (1, .int x1), (2, .int x2)] := hl
  have hkl : Kl h h := Kl.rf h
  refine lv_iload_n C.1 C.2.1 dX15_game_0 rfl (lv_at hl 1 rfl) ?_
  obtain ⟨o_1, eo_1, hE⟩ := cl_e hE
  have m1 := moX15_isGame eo_1
  have m2 := moX15_game_4 hE
  refine x_kI (o := o_1) (z_runS (As := [.int x1]) (rest := []) C (ct_X15_isGame l X eo_1) cw_X15_703 hW hZ rfl hl.1 (Nat.le_of_ble_eq_true rfl) rfl dX15_game_1 ⟨Nat.le_of_ble_eq_true rfl, Nat.le_of_ble_eq_true rfl⟩ (rm_ok0 hkl m1 m2)) hZ (fun _ _ hW km hZ => ?_)
  replace hkl := hkl.tr km.l
  refine x_wc km ?_
  replace k_x0 := km.at k_x0 (by decide)
  exact bX15_game_4 C k_x0 hkl hW hZ _ (lv_sub hl [0, 1, 2] rfl) hE
section
variable {p : Program} {l : Launch} {e : Env} {R : Room} {s : State} {m : MethodId} {args : Array Value} {below : List Frame} {meth : Method} {c : Code} {H : Heap} {locs : List Loc} {cells slots : Nat} {Q : State → Prop}
variable {cc : ByteArray} {pc : Nat} {ls : Array Slot} {rest : List Value} {X : Ec} {h h1 : Hp} {nL : Nat} {rt : Option FieldType} {mn : String}
theorem gf_X15_311 {a r : Nat} (C : Cx X p s m args meth c RX15 cc nL rt mn) (hW : Wx X h H) (ha : hK h a = 15) (hr : hR h a 38 = some r) (hdg : decode cc pc = .ok (.getfield 311, 3)) (kk : hK h r = 17 → W p l e R s m args below meth c H locs cells slots Q (F0 m (pc + 3) ls (.ref r :: rest))) : W p l e R s m args below meth c H locs cells slots Q (F0 m pc ls (.ref a :: rest)) :=
  y_getr C hW ha i_X15 (by decide) rfl (by decide) m_2149 rfl rfl hr hdg kk
end
theorem dX15_played_0 : decode cX15_played 0 = .ok (.iload_n 1, 1) := by decide +kernel
theorem dX15_played_1 : decode cX15_played 1 = .ok (.invokestatic 703, 3) := by decide +kernel
theorem dX15_played_4 : decode cX15_played 4 = .ok (.ifCond .ne 6, 3) := by decide +kernel
theorem dX15_played_7 : decode cX15_played 7 = .ok (.bipush (-101), 2) := by decide +kernel
theorem dX15_played_9 : decode cX15_played 9 = .ok (.ireturn, 1) := by decide +kernel
theorem dX15_played_10 : decode cX15_played 10 = .ok (.aload_n 0, 1) := by decide +kernel
theorem dX15_played_11 : decode cX15_played 11 = .ok (.getfield 314, 3) := by decide +kernel
theorem dX15_played_14 : decode cX15_played 14 = .ok (.iload_n 1, 1) := by decide +kernel
theorem dX15_played_15 : decode cX15_played 15 = .ok (.iaload, 1) := by decide +kernel
theorem dX15_played_16 : decode cX15_played 16 = .ok (.iconst (-1), 1) := by decide +kernel
theorem dX15_played_17 : decode cX15_played 17 = .ok (.if_icmp .eq 17, 3) := by decide +kernel
theorem dX15_played_20 : decode cX15_played 20 = .ok (.iload_n 2, 1) := by decide +kernel
theorem dX15_played_21 : decode cX15_played 21 = .ok (.ifCond .lt 13, 3) := by decide +kernel
theorem dX15_played_24 : decode cX15_played 24 = .ok (.iload_n 2, 1) := by decide +kernel
theorem dX15_played_25 : decode cX15_played 25 = .ok (.aload_n 0, 1) := by decide +kernel
theorem dX15_played_26 : decode cX15_played 26 = .ok (.getfield 314, 3) := by decide +kernel
theorem dX15_played_29 : decode cX15_played 29 = .ok (.iload_n 1, 1) := by decide +kernel
theorem dX15_played_30 : decode cX15_played 30 = .ok (.iaload, 1) := by decide +kernel
theorem dX15_played_31 : decode cX15_played 31 = .ok (.if_icmp .lt 8, 3) := by decide +kernel
theorem dX15_played_34 : decode cX15_played 34 = .ok (.bipush (-102), 2) := by decide +kernel
theorem dX15_played_36 : decode cX15_played 36 = .ok (.goto 15, 3) := by decide +kernel
theorem dX15_played_39 : decode cX15_played 39 = .ok (.aload_n 0, 1) := by decide +kernel
theorem dX15_played_40 : decode cX15_played 40 = .ok (.getfield 311, 3) := by decide +kernel
theorem dX15_played_43 : decode cX15_played 43 = .ok (.iload_n 1, 1) := by decide +kernel
theorem dX15_played_44 : decode cX15_played 44 = .ok (.sipush 301, 3) := by decide +kernel
theorem dX15_played_47 : decode cX15_played 47 = .ok (.imul, 1) := by decide +kernel
theorem dX15_played_48 : decode cX15_played 48 = .ok (.iload_n 2, 1) := by decide +kernel
theorem dX15_played_49 : decode cX15_played 49 = .ok (.iadd, 1) := by decide +kernel
theorem dX15_played_50 : decode cX15_played 50 = .ok (.iaload, 1) := by decide +kernel
theorem dX15_played_51 : decode cX15_played 51 = .ok (.ireturn, 1) := by decide +kernel
set_option maxRecDepth 20000 in
theorem moX15_played_51 {o : Int32 × Hp} {h : Hp} {t0 : Int32} (hE : sX15_played_51 h  t0 = some o) : Le h o.2 := by
  exact le_some2 hE
set_option maxRecDepth 20000 in
theorem moX15_played_34 {o : Int32 × Hp} {h : Hp} (hE : sX15_played_34 h  = some o) : Le h o.2 := by
  exact moX15_played_51 hE
set_option maxRecDepth 20000 in
theorem moX15_played {o : Int32 × Hp} {h : Hp} {x0 : Nat} {x1 : Int32} {x2 : Int32} (hE : sX15_played h x0 x1 x2 = some o) : Le h o.2 := by
  obtain ⟨o_1, eo_1, hE⟩ := cl_e hE
  refine (moX15_isGame eo_1).tr ?_
  rcases br_e hE with ⟨_, hE⟩ | ⟨_, hE⟩
  · exact le_some2 hE
  · obtain ⟨r_3, er_3, hE⟩ := cl_e hE
    obtain ⟨g_4, hE⟩ := gd_e hE
    rcases br_e hE with ⟨_, hE⟩ | ⟨_, hE⟩
    · exact moX15_played_34 hE
    · rcases br_e hE with ⟨_, hE⟩ | ⟨_, hE⟩
      · exact moX15_played_34 hE
      · obtain ⟨r_7, er_7, hE⟩ := cl_e hE
        obtain ⟨g_8, hE⟩ := gd_e hE
        rcases br_e hE with ⟨_, hE⟩ | ⟨_, hE⟩
        · obtain ⟨r_10, er_10, hE⟩ := cl_e hE
          obtain ⟨g_11, hE⟩ := gd_e hE
          exact moX15_played_51 hE
        · exact moX15_played_34 hE
set_option maxRecDepth 20000 in
theorem bX15_played_51 {p : Program} {l : Launch} {e : Env} {s : State} {m : MethodId} {args : Array Value} {below : List Frame} {meth : Method} {c : Code} {X : Ec} {h0 : Hp} {o : Int32 × Hp} (C : Cx X p s m args meth c RX15 cX15_played 3 (some .int) "played") {h : Hp} {t0 : Int32} {H : Heap} {locs : List Loc} (hkm : Km h0 h) (hW : Wx X h H) (hZ : va_S (aA (eB X)) s.heap H locs) (ls : Array Slot) (hl : lv_has ls 3 []) (hE : sX15_played_51 h  t0 = some o) : W p l e (rm 1 20) s m args below meth c H locs 0 0 (MQ below (QI X h0 o.1 o.2) args s 0 0 (aA (eB X))) (F0 m 51 ls [.int t0]) := by
  exact x_iret C rfl rfl hW hZ hkm hE dX15_played_51
set_option maxRecDepth 20000 in
theorem bX15_played_34 {p : Program} {l : Launch} {e : Env} {s : State} {m : MethodId} {args : Array Value} {below : List Frame} {meth : Method} {c : Code} {X : Ec} {h0 : Hp} {o : Int32 × Hp} (C : Cx X p s m args meth c RX15 cX15_played 3 (some .int) "played") {h : Hp} {H : Heap} {locs : List Loc} (hkm : Km h0 h) (hW : Wx X h H) (hZ : va_S (aA (eB X)) s.heap H locs) (ls : Array Slot) (hl : lv_has ls 3 []) (hE : sX15_played_34 h  = some o) : W p l e (rm 1 20) s m args below meth c H locs 0 0 (MQ below (QI X h0 o.1 o.2) args s 0 0 (aA (eB X))) (F0 m 34 ls []) := by
  refine lv_bipush (v := (-102 : Int32)) C.1 C.2.1 dX15_played_34 (by decide) ?_
  refine lv_goto (tgt := 51) C.1 C.2.1 dX15_played_36 (by decide) ?_
  exact bX15_played_51 C hkm hW hZ _ (lv_sub hl [] rfl) hE
set_option maxRecDepth 20000 in
theorem ct_X15_played (l : Launch) (X : Ec) {h : Hp} {x0 : Nat} {x1 : Int32} {x2 : Int32} {o : Int32 × Hp} (k_x0 : hK h x0 = 15) (hE : sX15_played h x0 x1 x2 = some o) : MetI l yX15_played cX15_played 3 (some .int) 1 20 X [.ref x0, .int x1, .int x2] h o := by
  refine x_met (by decide) (Nat.le_of_ble_eq_true rfl) ?_
  intro p e s m below meth c ls C hl hW hZ
  have hl : lv_has ls 3 [(0, .ref x0), (1, .int x1), (2, .int x2)] := hl
  have hkm : Km h h := Km.rf h
  refine lv_iload_n C.1 C.2.1 dX15_played_0 rfl (lv_at hl 1 rfl) ?_
  obtain ⟨o_1, eo_1, hE⟩ := cl_e hE
  refine x_kI (o := o_1) (z_runS (As := [.int x1]) (rest := []) C (ct_X15_isGame l X eo_1) cw_X15_703 hW hZ rfl hl.1 (Nat.le_of_ble_eq_true rfl) rfl dX15_played_1 ⟨Nat.le_of_ble_eq_true rfl, Nat.le_of_ble_eq_true rfl⟩ ⟨Nat.le_refl _, Nat.le_refl _⟩) hZ (fun _ _ hW km hZ => ?_)
  replace hkm := hkm.tr km
  replace k_x0 := km.at k_x0 (by decide)
  refine lv_if_ne (tgt := 10) C.1 C.2.1 dX15_played_4 (by decide) (fun c_2 => ?_) (fun c_2 => ?_)
  · have hE := br_n hE c_2
    refine lv_aload_n C.1 C.2.1 dX15_played_10 rfl (lv_at hl 0 rfl) ?_
    obtain ⟨r_3, er_3, hE⟩ := cl_e hE
    refine gf_X15_314 C hW k_x0 er_3 dX15_played_11 (fun k_r_3 => ?_)
    refine lv_iload_n C.1 C.2.1 dX15_played_14 rfl (lv_at hl 1 rfl) ?_
    obtain ⟨g_4, hE⟩ := gd_e hE
    refine y_iald C hW k_r_3 g_4 dX15_played_15 ?_
    refine lv_iconst (v := (-1 : Int32)) C.1 C.2.1 dX15_played_16 (by decide) ?_
    refine lv_icmp_eq (tgt := 34) C.1 C.2.1 dX15_played_17 (by decide) (fun c_5 => ?_) (fun c_5 => ?_)
    · have hE := br_p hE c_5
      exact bX15_played_34 C hkm hW hZ _ (lv_sub hl [] rfl) hE
    · have hE := br_n hE c_5
      refine lv_iload_n C.1 C.2.1 dX15_played_20 rfl (lv_at hl 2 rfl) ?_
      refine lv_if_lt (tgt := 34) C.1 C.2.1 dX15_played_21 (by decide) (fun c_6 => ?_) (fun c_6 => ?_)
      · have hE := br_p hE c_6
        exact bX15_played_34 C hkm hW hZ _ (lv_sub hl [] rfl) hE
      · have hE := br_n hE c_6
        refine lv_iload_n C.1 C.2.1 dX15_played_24 rfl (lv_at hl 2 rfl) ?_
        refine lv_aload_n C.1 C.2.1 dX15_played_25 rfl (lv_at hl 0 rfl) ?_
        obtain ⟨r_7, er_7, hE⟩ := cl_e hE
        refine gf_X15_314 C hW k_x0 er_7 dX15_played_26 (fun k_r_7 => ?_)
        refine lv_iload_n C.1 C.2.1 dX15_played_29 rfl (lv_at hl 1 rfl) ?_
        obtain ⟨g_8, hE⟩ := gd_e hE
        refine y_iald C hW k_r_7 g_8 dX15_played_30 ?_
        refine lv_icmp_lt (tgt := 39) C.1 C.2.1 dX15_played_31 (by decide) (fun c_9 => ?_) (fun c_9 => ?_)
        · have hE := br_p hE c_9
          refine lv_aload_n C.1 C.2.1 dX15_played_39 rfl (lv_at hl 0 rfl) ?_
          obtain ⟨r_10, er_10, hE⟩ := cl_e hE
          refine gf_X15_311 C hW k_x0 er_10 dX15_played_40 (fun k_r_10 => ?_)
          refine lv_iload_n C.1 C.2.1 dX15_played_43 rfl (lv_at hl 1 rfl) ?_
          refine lv_sipush (v := (301 : Int32)) C.1 C.2.1 dX15_played_44 (by decide) ?_
          refine lv_imul C.1 C.2.1 dX15_played_47 ?_
          refine lv_iload_n C.1 C.2.1 dX15_played_48 rfl (lv_at hl 2 rfl) ?_
          refine lv_iadd C.1 C.2.1 dX15_played_49 ?_
          obtain ⟨g_11, hE⟩ := gd_e hE
          refine y_iald C hW k_r_10 g_11 dX15_played_50 ?_
          exact bX15_played_51 C hkm hW hZ _ (lv_sub hl [] rfl) hE
        · have hE := br_n hE c_9
          exact bX15_played_34 C hkm hW hZ _ (lv_sub hl [] rfl) hE
  · have hE := br_p hE c_2
    refine lv_bipush (v := (-101 : Int32)) C.1 C.2.1 dX15_played_7 (by decide) ?_
    exact x_iret C rfl rfl hW hZ hkm hE dX15_played_9
theorem dX15_now_0 : decode cX15_now 0 = .ok (.iload_n 1, 1) := by decide +kernel
theorem dX15_now_1 : decode cX15_now 1 = .ok (.invokestatic 703, 3) := by decide +kernel
theorem dX15_now_4 : decode cX15_now 4 = .ok (.ifCond .ne 6, 3) := by decide +kernel
theorem dX15_now_7 : decode cX15_now 7 = .ok (.bipush (-101), 2) := by decide +kernel
theorem dX15_now_9 : decode cX15_now 9 = .ok (.ireturn, 1) := by decide +kernel
theorem dX15_now_10 : decode cX15_now 10 = .ok (.aload_n 0, 1) := by decide +kernel
theorem dX15_now_11 : decode cX15_now 11 = .ok (.getfield 314, 3) := by decide +kernel
theorem dX15_now_14 : decode cX15_now 14 = .ok (.iload_n 1, 1) := by decide +kernel
theorem dX15_now_15 : decode cX15_now 15 = .ok (.iaload, 1) := by decide +kernel
theorem dX15_now_16 : decode cX15_now 16 = .ok (.iconst (-1), 1) := by decide +kernel
theorem dX15_now_17 : decode cX15_now 17 = .ok (.if_icmp .ne 8, 3) := by decide +kernel
theorem dX15_now_20 : decode cX15_now 20 = .ok (.bipush (-102), 2) := by decide +kernel
theorem dX15_now_22 : decode cX15_now 22 = .ok (.goto 18, 3) := by decide +kernel
theorem dX15_now_25 : decode cX15_now 25 = .ok (.aload_n 0, 1) := by decide +kernel
theorem dX15_now_26 : decode cX15_now 26 = .ok (.aload_n 0, 1) := by decide +kernel
theorem dX15_now_27 : decode cX15_now 27 = .ok (.iload_n 1, 1) := by decide +kernel
theorem dX15_now_28 : decode cX15_now 28 = .ok (.aload_n 0, 1) := by decide +kernel
theorem dX15_now_29 : decode cX15_now 29 = .ok (.getfield 314, 3) := by decide +kernel
theorem dX15_now_32 : decode cX15_now 32 = .ok (.iload_n 1, 1) := by decide +kernel
theorem dX15_now_33 : decode cX15_now 33 = .ok (.iaload, 1) := by decide +kernel
theorem dX15_now_34 : decode cX15_now 34 = .ok (.invokevirtual 706, 3) := by decide +kernel
theorem dX15_now_40 : decode cX15_now 40 = .ok (.ireturn, 1) := by decide +kernel
set_option maxRecDepth 20000 in
theorem moX15_now_40 {o : Int32 × Hp} {h : Hp} {t0 : Int32} (hE : sX15_now_40 h  t0 = some o) : Le h o.2 := by
  exact le_some2 hE
set_option maxRecDepth 20000 in
theorem moX15_now_4 {o : Int32 × Hp} {h : Hp} {x0 : Nat} {x1 : Int32} {t0 : Int32} (hE : sX15_now_4 h x0 x1 t0 = some o) : Le h o.2 := by
  rcases br_e hE with ⟨_, hE⟩ | ⟨_, hE⟩
  · exact le_some2 hE
  · obtain ⟨r_2, er_2, hE⟩ := cl_e hE
    obtain ⟨g_3, hE⟩ := gd_e hE
    rcases br_e hE with ⟨_, hE⟩ | ⟨_, hE⟩
    · exact moX15_now_40 hE
    · obtain ⟨r_5, er_5, hE⟩ := cl_e hE
      obtain ⟨g_6, hE⟩ := gd_e hE
      cases hE
set_option maxRecDepth 20000 in
theorem moX15_now {o : Int32 × Hp} {h : Hp} {x0 : Nat} {x1 : Int32} (hE : sX15_now h x0 x1 = some o) : Le h o.2 := by
  obtain ⟨o_1, eo_1, hE⟩ := cl_e hE
  refine (moX15_isGame eo_1).tr ?_
  exact moX15_now_4 hE
set_option maxRecDepth 20000 in
theorem bX15_now_40 {p : Program} {l : Launch} {e : Env} {s : State} {m : MethodId} {args : Array Value} {below : List Frame} {meth : Method} {c : Code} {X : Ec} {h0 : Hp} {o : Int32 × Hp} (C : Cx X p s m args meth c RX15 cX15_now 2 (some .int) "now") {h : Hp} {t0 : Int32} {H : Heap} {locs : List Loc} (hkl : Kl h0 h) (hW : Wx X h H) (hZ : va_S (aA (eB X)) s.heap H locs) (ls : Array Slot) (hl : lv_has ls 2 []) (hE : sX15_now_40 h  t0 = some o) : W p l e (rmA 1 20 h0 o.2) s m args below meth c H locs (hS h - hS h0) (hL h - hL h0) (MQ below (QIA X h0 o.1 o.2) args s (hS o.2 - hS h0) (hL o.2 - hL h0) (aA (eB X))) (F0 m 40 ls [.int t0]) := by
  exact x_iretA C rfl rfl hW hZ hkl hE dX15_now_40
set_option maxRecDepth 20000 in
theorem bX15_now_4 {p : Program} {l : Launch} {e : Env} {s : State} {m : MethodId} {args : Array Value} {below : List Frame} {meth : Method} {c : Code} {X : Ec} {h0 : Hp} {o : Int32 × Hp} (C : Cx X p s m args meth c RX15 cX15_now 2 (some .int) "now") {h : Hp} {x0 : Nat} {x1 : Int32} {t0 : Int32} {H : Heap} {locs : List Loc} (k_x0 : hK h x0 = 15) (hkl : Kl h0 h) (hW : Wx X h H) (hZ : va_S (aA (eB X)) s.heap H locs) (ls : Array Slot) (hl : lv_has ls 2 [(0, .ref x0), (1, .int x1)]) (hE : sX15_now_4 h x0 x1 t0 = some o) : W p l e (rmA 1 20 h0 o.2) s m args below meth c H locs (hS h - hS h0) (hL h - hL h0) (MQ below (QIA X h0 o.1 o.2) args s (hS o.2 - hS h0) (hL o.2 - hL h0) (aA (eB X))) (F0 m 4 ls [.int t0]) := by
  refine lv_if_ne (tgt := 10) C.1 C.2.1 dX15_now_4 (by decide) (fun c_1 => ?_) (fun c_1 => ?_)
  · have hE := br_n hE c_1
    refine lv_aload_n C.1 C.2.1 dX15_now_10 rfl (lv_at hl 0 rfl) ?_
    obtain ⟨r_2, er_2, hE⟩ := cl_e hE
    refine gf_X15_314 C hW k_x0 er_2 dX15_now_11 (fun k_r_2 => ?_)
    refine lv_iload_n C.1 C.2.1 dX15_now_14 rfl (lv_at hl 1 rfl) ?_
    obtain ⟨g_3, hE⟩ := gd_e hE
    refine y_iald C hW k_r_2 g_3 dX15_now_15 ?_
    refine lv_iconst (v := (-1 : Int32)) C.1 C.2.1 dX15_now_16 (by decide) ?_
    refine lv_icmp_ne (tgt := 25) C.1 C.2.1 dX15_now_17 (by decide) (fun c_4 => ?_) (fun c_4 => ?_)
    · have hE := br_n hE c_4
      refine lv_aload_n C.1 C.2.1 dX15_now_25 rfl (lv_at hl 0 rfl) ?_
      refine lv_aload_n C.1 C.2.1 dX15_now_26 rfl (lv_at hl 0 rfl) ?_
      refine lv_iload_n C.1 C.2.1 dX15_now_27 rfl (lv_at hl 1 rfl) ?_
      refine lv_aload_n C.1 C.2.1 dX15_now_28 rfl (lv_at hl 0 rfl) ?_
      obtain ⟨r_5, er_5, hE⟩ := cl_e hE
      refine gf_X15_314 C hW k_x0 er_5 dX15_now_29 (fun k_r_5 => ?_)
      refine lv_iload_n C.1 C.2.1 dX15_now_32 rfl (lv_at hl 1 rfl) ?_
      obtain ⟨g_6, hE⟩ := gd_e hE
      refine y_iald C hW k_r_5 g_6 dX15_now_33 ?_
      cases hE
    · have hE := br_p hE c_4
      refine lv_bipush (v := (-102 : Int32)) C.1 C.2.1 dX15_now_20 (by decide) ?_
      refine lv_goto (tgt := 40) C.1 C.2.1 dX15_now_22 (by decide) ?_
      exact bX15_now_40 C hkl hW hZ _ (lv_sub hl [] rfl) hE
  · have hE := br_p hE c_1
    refine lv_bipush (v := (-101 : Int32)) C.1 C.2.1 dX15_now_7 (by decide) ?_
    exact x_iretA C rfl rfl hW hZ hkl hE dX15_now_9
set_option maxRecDepth 20000 in
theorem ct_X15_now (l : Launch) (X : Ec) {h : Hp} {x0 : Nat} {x1 : Int32} {o : Int32 × Hp} (k_x0 : hK h x0 = 15) (hE : sX15_now h x0 x1 = some o) : MetIA l yX15_now cX15_now 2 (some .int) 1 20 X [.ref x0, .int x1] h o := by
  refine x_metA (oh := o.2) (by decide) (Nat.le_of_ble_eq_true rfl) ?_
  intro p e s m below meth c ls C hl hW hZ
  have hl : lv_has ls 2 [(0, .ref x0), (1, .int x1)] := hl
  have hkl : Kl h h := Kl.rf h
  refine lv_iload_n C.1 C.2.1 dX15_now_0 rfl (lv_at hl 1 rfl) ?_
  obtain ⟨o_1, eo_1, hE⟩ := cl_e hE
  have m1 := moX15_isGame eo_1
  have m2 := moX15_now_4 hE
  refine x_kI (o := o_1) (z_runS (As := [.int x1]) (rest := []) C (ct_X15_isGame l X eo_1) cw_X15_703 hW hZ rfl hl.1 (Nat.le_of_ble_eq_true rfl) rfl dX15_now_1 ⟨Nat.le_of_ble_eq_true rfl, Nat.le_of_ble_eq_true rfl⟩ (rm_ok0 hkl m1 m2)) hZ (fun _ _ hW km hZ => ?_)
  replace hkl := hkl.tr km.l
  refine x_wc km ?_
  replace k_x0 := km.at k_x0 (by decide)
  exact bX15_now_4 C k_x0 hkl hW hZ _ (lv_sub hl [0, 1] rfl) hE
theorem dX15_book_0 : decode cX15_book 0 = .ok (.aload_n 0, 1) := by decide +kernel
theorem dX15_book_1 : decode cX15_book 1 = .ok (.iload_n 1, 1) := by decide +kernel
theorem dX15_book_2 : decode cX15_book 2 = .ok (.invokevirtual 668, 3) := by decide +kernel
theorem dX15_book_5 : decode cX15_book 5 = .ok (.bipush (-102), 2) := by decide +kernel
theorem dX15_book_7 : decode cX15_book 7 = .ok (.if_icmp .eq 23, 3) := by decide +kernel
theorem dX15_book_10 : decode cX15_book 10 = .ok (.iload_n 2, 1) := by decide +kernel
theorem dX15_book_11 : decode cX15_book 11 = .ok (.iconst (-1), 1) := by decide +kernel
theorem dX15_book_12 : decode cX15_book 12 = .ok (.if_icmp .eq 21, 3) := by decide +kernel
theorem dX15_book_15 : decode cX15_book 15 = .ok (.iload_n 2, 1) := by decide +kernel
theorem dX15_book_16 : decode cX15_book 16 = .ok (.ifCond .lt 14, 3) := by decide +kernel
theorem dX15_book_19 : decode cX15_book 19 = .ok (.iload_n 2, 1) := by decide +kernel
theorem dX15_book_20 : decode cX15_book 20 = .ok (.aload_n 0, 1) := by decide +kernel
theorem dX15_book_21 : decode cX15_book 21 = .ok (.getfield 288, 3) := by decide +kernel
theorem dX15_book_24 : decode cX15_book 24 = .ok (.getfield 575, 3) := by decide +kernel
theorem dX15_book_27 : decode cX15_book 27 = .ok (.if_icmp .lt 6, 3) := by decide +kernel
theorem dX15_book_30 : decode cX15_book 30 = .ok (.bipush (-102), 2) := by decide +kernel
theorem dX15_book_32 : decode cX15_book 32 = .ok (.ireturn, 1) := by decide +kernel
theorem dX15_book_33 : decode cX15_book 33 = .ok (.iconst 0, 1) := by decide +kernel
theorem dX15_book_34 : decode cX15_book 34 = .ok (.istore_n 3, 1) := by decide +kernel
theorem dX15_book_35 : decode cX15_book 35 = .ok (.iconst 0, 1) := by decide +kernel
theorem dX15_book_36 : decode cX15_book 36 = .ok (.istore 4, 2) := by decide +kernel
theorem dX15_book_38 : decode cX15_book 38 = .ok (.iload 4, 2) := by decide +kernel
theorem dX15_book_40 : decode cX15_book 40 = .ok (.bipush 8, 2) := by decide +kernel
theorem dX15_book_42 : decode cX15_book 42 = .ok (.if_icmp .ge 105, 3) := by decide +kernel
theorem dX15_book_45 : decode cX15_book 45 = .ok (.iconst 0, 1) := by decide +kernel
theorem dX15_book_46 : decode cX15_book 46 = .ok (.istore 5, 2) := by decide +kernel
theorem dX15_book_48 : decode cX15_book 48 = .ok (.iload 5, 2) := by decide +kernel
theorem dX15_book_50 : decode cX15_book 50 = .ok (.aload_n 0, 1) := by decide +kernel
theorem dX15_book_51 : decode cX15_book 51 = .ok (.getfield 314, 3) := by decide +kernel
theorem dX15_book_54 : decode cX15_book 54 = .ok (.iload 4, 2) := by decide +kernel
theorem dX15_book_56 : decode cX15_book 56 = .ok (.iaload, 1) := by decide +kernel
theorem dX15_book_57 : decode cX15_book 57 = .ok (.if_icmp .gt 84, 3) := by decide +kernel
theorem dX15_book_60 : decode cX15_book 60 = .ok (.aload_n 0, 1) := by decide +kernel
theorem dX15_book_61 : decode cX15_book 61 = .ok (.getfield 314, 3) := by decide +kernel
theorem dX15_book_64 : decode cX15_book 64 = .ok (.iload 4, 2) := by decide +kernel
theorem dX15_book_66 : decode cX15_book 66 = .ok (.iaload, 1) := by decide +kernel
theorem dX15_book_67 : decode cX15_book 67 = .ok (.iconst (-1), 1) := by decide +kernel
theorem dX15_book_68 : decode cX15_book 68 = .ok (.if_icmp .eq 73, 3) := by decide +kernel
theorem dX15_book_71 : decode cX15_book 71 = .ok (.iload_n 2, 1) := by decide +kernel
theorem dX15_book_72 : decode cX15_book 72 = .ok (.iconst (-1), 1) := by decide +kernel
theorem dX15_book_73 : decode cX15_book 73 = .ok (.if_icmp .eq 33, 3) := by decide +kernel
theorem dX15_book_76 : decode cX15_book 76 = .ok (.iload 5, 2) := by decide +kernel
theorem dX15_book_78 : decode cX15_book 78 = .ok (.aload_n 0, 1) := by decide +kernel
theorem dX15_book_79 : decode cX15_book 79 = .ok (.getfield 314, 3) := by decide +kernel
theorem dX15_book_82 : decode cX15_book 82 = .ok (.iload 4, 2) := by decide +kernel
theorem dX15_book_84 : decode cX15_book 84 = .ok (.iaload, 1) := by decide +kernel
theorem dX15_book_85 : decode cX15_book 85 = .ok (.if_icmp .ge 50, 3) := by decide +kernel
theorem dX15_book_88 : decode cX15_book 88 = .ok (.aload_n 0, 1) := by decide +kernel
theorem dX15_book_89 : decode cX15_book 89 = .ok (.getfield 311, 3) := by decide +kernel
theorem dX15_book_92 : decode cX15_book 92 = .ok (.iload 4, 2) := by decide +kernel
theorem dX15_book_94 : decode cX15_book 94 = .ok (.sipush 301, 3) := by decide +kernel
theorem dX15_book_97 : decode cX15_book 97 = .ok (.imul, 1) := by decide +kernel
theorem dX15_book_98 : decode cX15_book 98 = .ok (.iload 5, 2) := by decide +kernel
theorem dX15_book_100 : decode cX15_book 100 = .ok (.iadd, 1) := by decide +kernel
theorem dX15_book_101 : decode cX15_book 101 = .ok (.iaload, 1) := by decide +kernel
theorem dX15_book_102 : decode cX15_book 102 = .ok (.iload_n 2, 1) := by decide +kernel
theorem dX15_book_103 : decode cX15_book 103 = .ok (.if_icmp .ne 32, 3) := by decide +kernel
theorem dX15_book_106 : decode cX15_book 106 = .ok (.iload_n 3, 1) := by decide +kernel
theorem dX15_book_107 : decode cX15_book 107 = .ok (.aload_n 0, 1) := by decide +kernel
theorem dX15_book_108 : decode cX15_book 108 = .ok (.aload_n 0, 1) := by decide +kernel
theorem dX15_book_109 : decode cX15_book 109 = .ok (.iload 4, 2) := by decide +kernel
theorem dX15_book_111 : decode cX15_book 111 = .ok (.iload 5, 2) := by decide +kernel
theorem dX15_book_113 : decode cX15_book 113 = .ok (.invokevirtual 706, 3) := by decide +kernel
theorem dX15_book_135 : decode cX15_book 135 = .ok (.iinc 5 1, 3) := by decide +kernel
theorem dX15_book_138 : decode cX15_book 138 = .ok (.goto (-90), 3) := by decide +kernel
theorem dX15_book_141 : decode cX15_book 141 = .ok (.iinc 4 1, 3) := by decide +kernel
theorem dX15_book_144 : decode cX15_book 144 = .ok (.goto (-106), 3) := by decide +kernel
theorem dX15_book_147 : decode cX15_book 147 = .ok (.iload_n 3, 1) := by decide +kernel
theorem dX15_book_148 : decode cX15_book 148 = .ok (.ireturn, 1) := by decide +kernel
set_option maxRecDepth 20000 in
theorem moX15_book_30 {o : Int32 × Hp} {F : Nat} {h : Hp} (hE : sX15_book_30 F h  = some o) : Le h o.2 := by
  exact le_some2 hE
set_option maxRecDepth 20000 in
theorem moX15_book_141 {o : Int32 × Hp} {k_38 : Hp → Nat → Int32 → Int32 → Int32 → Int32 → Option (Int32 × Hp)} {F : Nat} (mk_38 : ∀ (h : Hp) (x0 : Nat) (x1 : Int32) (x2 : Int32) (x3 : Int32) (x4 : Int32), k_38 h x0 x1 x2 x3 x4 = some o → Le h o.2) {h : Hp} {x0 : Nat} {x1 : Int32} {x2 : Int32} {x3 : Int32} {x4 : Int32} (hE : sX15_book_141 F k_38 h x0 x1 x2 x3 x4 = some o) : Le h o.2 := by
  obtain ⟨v_1, ev_1, hE⟩ := nm_e2 hE
  exact mk_38 _ _ _ _ _ _ hE
set_option maxRecDepth 20000 in
theorem moX15_book_135 {o : Int32 × Hp} {k_38 : Hp → Nat → Int32 → Int32 → Int32 → Int32 → Option (Int32 × Hp)} {k_48 : Hp → Nat → Int32 → Int32 → Int32 → Int32 → Int32 → Option (Int32 × Hp)} {F : Nat} (mk_38 : ∀ (h : Hp) (x0 : Nat) (x1 : Int32) (x2 : Int32) (x3 : Int32) (x4 : Int32), k_38 h x0 x1 x2 x3 x4 = some o → Le h o.2) (mk_48 : ∀ (h : Hp) (x0 : Nat) (x1 : Int32) (x2 : Int32) (x3 : Int32) (x4 : Int32) (x5 : Int32), k_48 h x0 x1 x2 x3 x4 x5 = some o → Le h o.2) {h : Hp} {x0 : Nat} {x1 : Int32} {x2 : Int32} {x3 : Int32} {x4 : Int32} {x5 : Int32} (hE : sX15_book_135 F k_38 k_48 h x0 x1 x2 x3 x4 x5 = some o) : Le h o.2 := by
  obtain ⟨v_1, ev_1, hE⟩ := nm_e2 hE
  exact mk_48 _ _ _ _ _ _ _ hE
set_option maxRecDepth 20000 in
theorem moX15_book_106 {o : Int32 × Hp} {k_38 : Hp → Nat → Int32 → Int32 → Int32 → Int32 → Option (Int32 × Hp)} {k_48 : Hp → Nat → Int32 → Int32 → Int32 → Int32 → Int32 → Option (Int32 × Hp)} {F : Nat} (mk_38 : ∀ (h : Hp) (x0 : Nat) (x1 : Int32) (x2 : Int32) (x3 : Int32) (x4 : Int32), k_38 h x0 x1 x2 x3 x4 = some o → Le h o.2) (mk_48 : ∀ (h : Hp) (x0 : Nat) (x1 : Int32) (x2 : Int32) (x3 : Int32) (x4 : Int32) (x5 : Int32), k_48 h x0 x1 x2 x3 x4 x5 = some o → Le h o.2) {h : Hp} {x0 : Nat} {x1 : Int32} {x2 : Int32} {x3 : Int32} {x4 : Int32} {x5 : Int32} (hE : sX15_book_106 F k_38 k_48 h x0 x1 x2 x3 x4 x5 = some o) : Le h o.2 := by
  cases hE
set_option maxRecDepth 20000 in
theorem moX15_book_48 {o : Int32 × Hp} {k_38 : Hp → Nat → Int32 → Int32 → Int32 → Int32 → Option (Int32 × Hp)} {F : Nat} (mk_38 : ∀ (h : Hp) (x0 : Nat) (x1 : Int32) (x2 : Int32) (x3 : Int32) (x4 : Int32), k_38 h x0 x1 x2 x3 x4 = some o → Le h o.2) : ∀ (f : Nat) {h : Hp} {x0 : Nat} {x1 : Int32} {x2 : Int32} {x3 : Int32} {x4 : Int32} {x5 : Int32}, sX15_book_48 F k_38 f h x0 x1 x2 x3 x4 x5 = some o → Le h o.2 := by
  intro f
  induction f with
  | zero =>
    intro h x0 x1 x2 x3 x4 x5 hE
    rw [sX15_book_48] at hE
    cases hE
  | succ f ih =>
    intro h x0 x1 x2 x3 x4 x5 hE
    rw [sX15_book_48] at hE
    have mk_48 : ∀ (h : Hp) (x0 : Nat) (x1 : Int32) (x2 : Int32) (x3 : Int32) (x4 : Int32) (x5 : Int32), sX15_book_48 F k_38 f h x0 x1 x2 x3 x4 x5 = some o → Le h o.2 := fun h x0 x1 x2 x3 x4 x5 hE => ih hE
    obtain ⟨r_1, er_1, hE⟩ := cl_e hE
    obtain ⟨g_2, hE⟩ := gd_e hE
    rcases br_e hE with ⟨_, hE⟩ | ⟨_, hE⟩
    · exact moX15_book_141 mk_38 hE
    · obtain ⟨r_4, er_4, hE⟩ := cl_e hE
      obtain ⟨g_5, hE⟩ := gd_e hE
      rcases br_e hE with ⟨_, hE⟩ | ⟨_, hE⟩
      · exact moX15_book_141 mk_38 hE
      · rcases br_e hE with ⟨_, hE⟩ | ⟨_, hE⟩
        · exact moX15_book_106 mk_38 mk_48 hE
        · obtain ⟨r_8, er_8, hE⟩ := cl_e hE
          obtain ⟨g_9, hE⟩ := gd_e hE
          rcases br_e hE with ⟨_, hE⟩ | ⟨_, hE⟩
          · exact moX15_book_135 mk_38 mk_48 hE
          · obtain ⟨r_11, er_11, hE⟩ := cl_e hE
            obtain ⟨g_12, hE⟩ := gd_e hE
            rcases br_e hE with ⟨_, hE⟩ | ⟨_, hE⟩
            · exact moX15_book_106 mk_38 mk_48 hE
            · exact moX15_book_135 mk_38 mk_48 hE
set_option maxRecDepth 20000 in
theorem moX15_book_38 {o : Int32 × Hp} {F : Nat} : ∀ (f : Nat) {h : Hp} {x0 : Nat} {x1 : Int32} {x2 : Int32} {x3 : Int32} {x4 : Int32}, sX15_book_38 F f h x0 x1 x2 x3 x4 = some o → Le h o.2 := by
  intro f
  induction f with
  | zero =>
    intro h x0 x1 x2 x3 x4 hE
    rw [sX15_book_38] at hE
    cases hE
  | succ f ih =>
    intro h x0 x1 x2 x3 x4 hE
    rw [sX15_book_38] at hE
    have mk_38 : ∀ (h : Hp) (x0 : Nat) (x1 : Int32) (x2 : Int32) (x3 : Int32) (x4 : Int32), sX15_book_38 F f h x0 x1 x2 x3 x4 = some o → Le h o.2 := fun h x0 x1 x2 x3 x4 hE => ih hE
    rcases br_e hE with ⟨_, hE⟩ | ⟨_, hE⟩
    · exact le_some2 hE
    · exact moX15_book_48 mk_38 _ hE
set_option maxRecDepth 20000 in
theorem moX15_book_33 {o : Int32 × Hp} {F : Nat} {h : Hp} {x0 : Nat} {x1 : Int32} {x2 : Int32} (hE : sX15_book_33 F h x0 x1 x2 = some o) : Le h o.2 := by
  exact moX15_book_38 _ hE
set_option maxRecDepth 20000 in
theorem moX15_book_5 {o : Int32 × Hp} {F : Nat} {h : Hp} {x0 : Nat} {x1 : Int32} {x2 : Int32} {t0 : Int32} (hE : sX15_book_5 F h x0 x1 x2 t0 = some o) : Le h o.2 := by
  rcases br_e hE with ⟨_, hE⟩ | ⟨_, hE⟩
  · exact moX15_book_30 hE
  · rcases br_e hE with ⟨_, hE⟩ | ⟨_, hE⟩
    · exact moX15_book_33 hE
    · rcases br_e hE with ⟨_, hE⟩ | ⟨_, hE⟩
      · exact moX15_book_30 hE
      · obtain ⟨r_4, er_4, hE⟩ := cl_e hE
        rcases br_e hE with ⟨_, hE⟩ | ⟨_, hE⟩
        · exact moX15_book_33 hE
        · exact moX15_book_30 hE
set_option maxRecDepth 20000 in
theorem moX15_book {o : Int32 × Hp} {F : Nat} {h : Hp} {x0 : Nat} {x1 : Int32} {x2 : Int32} (hE : sX15_book F h x0 x1 x2 = some o) : Le h o.2 := by
  obtain ⟨o_1, eo_1, hE⟩ := cl_e hE
  refine (moX15_moves eo_1).tr ?_
  exact moX15_book_5 hE
set_option maxRecDepth 20000 in
theorem bX15_book_30 {p : Program} {l : Launch} {e : Env} {s : State} {m : MethodId} {args : Array Value} {below : List Frame} {meth : Method} {c : Code} {X : Ec} {h0 : Hp} {o : Int32 × Hp} {F : Nat} (C : Cx X p s m args meth c RX15 cX15_book 6 (some .int) "book") {h : Hp} {H : Heap} {locs : List Loc} (hkl : Kl h0 h) (hW : Wx X h H) (hZ : va_S (aA (eB X)) s.heap H locs) (ls : Array Slot) (hl : lv_has ls 6 []) (hE : sX15_book_30 F h  = some o) : W p l e (rmA 2 42 h0 o.2) s m args below meth c H locs (hS h - hS h0) (hL h - hL h0) (MQ below (QIA X h0 o.1 o.2) args s (hS o.2 - hS h0) (hL o.2 - hL h0) (aA (eB X))) (F0 m 30 ls []) := by
  refine lv_bipush (v := (-102 : Int32)) C.1 C.2.1 dX15_book_30 (by decide) ?_
  exact x_iretA C rfl rfl hW hZ hkl hE dX15_book_32
set_option maxRecDepth 20000 in
theorem bX15_book_141 {p : Program} {l : Launch} {e : Env} {s : State} {m : MethodId} {args : Array Value} {below : List Frame} {meth : Method} {c : Code} {X : Ec} {h0 : Hp} {o : Int32 × Hp} {k_38 : Hp → Nat → Int32 → Int32 → Int32 → Int32 → Option (Int32 × Hp)} {F : Nat} (C : Cx X p s m args meth c RX15 cX15_book 6 (some .int) "book") (hk_38 : ∀ (h : Hp) (x0 : Nat) (x1 : Int32) (x2 : Int32) (x3 : Int32) (x4 : Int32) (H : Heap) (locs : List Loc), hK h x0 = 15 → Kl h0 h → Wx X h H → va_S (aA (eB X)) s.heap H locs → ∀ (ls : Array Slot), lv_has ls 6 [(0, .ref x0), (1, .int x1), (2, .int x2), (3, .int x3), (4, .int x4)] → k_38 h x0 x1 x2 x3 x4 = some o → W p l e (rmA 2 42 h0 o.2) s m args below meth c H locs (hS h - hS h0) (hL h - hL h0) (MQ below (QIA X h0 o.1 o.2) args s (hS o.2 - hS h0) (hL o.2 - hL h0) (aA (eB X))) (F0 m 38 ls [])) (mk_38 : ∀ (h : Hp) (x0 : Nat) (x1 : Int32) (x2 : Int32) (x3 : Int32) (x4 : Int32), k_38 h x0 x1 x2 x3 x4 = some o → Le h o.2) {h : Hp} {x0 : Nat} {x1 : Int32} {x2 : Int32} {x3 : Int32} {x4 : Int32} {H : Heap} {locs : List Loc} (k_x0 : hK h x0 = 15) (hkl : Kl h0 h) (hW : Wx X h H) (hZ : va_S (aA (eB X)) s.heap H locs) (ls : Array Slot) (hl : lv_has ls 6 [(0, .ref x0), (1, .int x1), (2, .int x2), (3, .int x3), (4, .int x4)]) (hE : sX15_book_141 F k_38 h x0 x1 x2 x3 x4 = some o) : W p l e (rmA 2 42 h0 o.2) s m args below meth c H locs (hS h - hS h0) (hL h - hL h0) (MQ below (QIA X h0 o.1 o.2) args s (hS o.2 - hS h0) (hL o.2 - hL h0) (aA (eB X))) (F0 m 141 ls []) := by
  obtain ⟨v_1, ev_1, hE⟩ := nm_e2 hE
  refine lv_iinc (v := v_1) (lv' := [(4, .int v_1), (0, .ref x0), (1, .int x1), (2, .int x2), (3, .int x3)]) C.1 C.2.1 dX15_book_141 hl (k := 4) rfl (by rw [ev_1]; rfl) (by decide) rfl (fun ls hl => ?_)
  refine lv_goto (tgt := 38) C.1 C.2.1 dX15_book_144 (by decide) ?_
  exact hk_38 _ _ _ _ _ _ _ _ k_x0 hkl hW hZ _ (lv_sub hl [1, 2, 3, 4, 0] rfl) hE
set_option maxRecDepth 20000 in
theorem bX15_book_135 {p : Program} {l : Launch} {e : Env} {s : State} {m : MethodId} {args : Array Value} {below : List Frame} {meth : Method} {c : Code} {X : Ec} {h0 : Hp} {o : Int32 × Hp} {k_38 : Hp → Nat → Int32 → Int32 → Int32 → Int32 → Option (Int32 × Hp)} {k_48 : Hp → Nat → Int32 → Int32 → Int32 → Int32 → Int32 → Option (Int32 × Hp)} {F : Nat} (C : Cx X p s m args meth c RX15 cX15_book 6 (some .int) "book") (hk_38 : ∀ (h : Hp) (x0 : Nat) (x1 : Int32) (x2 : Int32) (x3 : Int32) (x4 : Int32) (H : Heap) (locs : List Loc), hK h x0 = 15 → Kl h0 h → Wx X h H → va_S (aA (eB X)) s.heap H locs → ∀ (ls : Array Slot), lv_has ls 6 [(0, .ref x0), (1, .int x1), (2, .int x2), (3, .int x3), (4, .int x4)] → k_38 h x0 x1 x2 x3 x4 = some o → W p l e (rmA 2 42 h0 o.2) s m args below meth c H locs (hS h - hS h0) (hL h - hL h0) (MQ below (QIA X h0 o.1 o.2) args s (hS o.2 - hS h0) (hL o.2 - hL h0) (aA (eB X))) (F0 m 38 ls [])) (hk_48 : ∀ (h : Hp) (x0 : Nat) (x1 : Int32) (x2 : Int32) (x3 : Int32) (x4 : Int32) (x5 : Int32) (H : Heap) (locs : List Loc), hK h x0 = 15 → Kl h0 h → Wx X h H → va_S (aA (eB X)) s.heap H locs → ∀ (ls : Array Slot), lv_has ls 6 [(0, .ref x0), (1, .int x1), (2, .int x2), (3, .int x3), (4, .int x4), (5, .int x5)] → k_48 h x0 x1 x2 x3 x4 x5 = some o → W p l e (rmA 2 42 h0 o.2) s m args below meth c H locs (hS h - hS h0) (hL h - hL h0) (MQ below (QIA X h0 o.1 o.2) args s (hS o.2 - hS h0) (hL o.2 - hL h0) (aA (eB X))) (F0 m 48 ls [])) (mk_38 : ∀ (h : Hp) (x0 : Nat) (x1 : Int32) (x2 : Int32) (x3 : Int32) (x4 : Int32), k_38 h x0 x1 x2 x3 x4 = some o → Le h o.2) (mk_48 : ∀ (h : Hp) (x0 : Nat) (x1 : Int32) (x2 : Int32) (x3 : Int32) (x4 : Int32) (x5 : Int32), k_48 h x0 x1 x2 x3 x4 x5 = some o → Le h o.2) {h : Hp} {x0 : Nat} {x1 : Int32} {x2 : Int32} {x3 : Int32} {x4 : Int32} {x5 : Int32} {H : Heap} {locs : List Loc} (k_x0 : hK h x0 = 15) (hkl : Kl h0 h) (hW : Wx X h H) (hZ : va_S (aA (eB X)) s.heap H locs) (ls : Array Slot) (hl : lv_has ls 6 [(0, .ref x0), (1, .int x1), (2, .int x2), (3, .int x3), (4, .int x4), (5, .int x5)]) (hE : sX15_book_135 F k_38 k_48 h x0 x1 x2 x3 x4 x5 = some o) : W p l e (rmA 2 42 h0 o.2) s m args below meth c H locs (hS h - hS h0) (hL h - hL h0) (MQ below (QIA X h0 o.1 o.2) args s (hS o.2 - hS h0) (hL o.2 - hL h0) (aA (eB X))) (F0 m 135 ls []) := by
  obtain ⟨v_1, ev_1, hE⟩ := nm_e2 hE
  refine lv_iinc (v := v_1) (lv' := [(5, .int v_1), (0, .ref x0), (1, .int x1), (2, .int x2), (3, .int x3), (4, .int x4)]) C.1 C.2.1 dX15_book_135 hl (k := 5) rfl (by rw [ev_1]; rfl) (by decide) rfl (fun ls hl => ?_)
  refine lv_goto (tgt := 48) C.1 C.2.1 dX15_book_138 (by decide) ?_
  exact hk_48 _ _ _ _ _ _ _ _ _ k_x0 hkl hW hZ _ (lv_sub hl [1, 2, 3, 4, 5, 0] rfl) hE
set_option maxRecDepth 20000 in
theorem bX15_book_106 {p : Program} {l : Launch} {e : Env} {s : State} {m : MethodId} {args : Array Value} {below : List Frame} {meth : Method} {c : Code} {X : Ec} {h0 : Hp} {o : Int32 × Hp} {k_38 : Hp → Nat → Int32 → Int32 → Int32 → Int32 → Option (Int32 × Hp)} {k_48 : Hp → Nat → Int32 → Int32 → Int32 → Int32 → Int32 → Option (Int32 × Hp)} {F : Nat} (C : Cx X p s m args meth c RX15 cX15_book 6 (some .int) "book") (hk_38 : ∀ (h : Hp) (x0 : Nat) (x1 : Int32) (x2 : Int32) (x3 : Int32) (x4 : Int32) (H : Heap) (locs : List Loc), hK h x0 = 15 → Kl h0 h → Wx X h H → va_S (aA (eB X)) s.heap H locs → ∀ (ls : Array Slot), lv_has ls 6 [(0, .ref x0), (1, .int x1), (2, .int x2), (3, .int x3), (4, .int x4)] → k_38 h x0 x1 x2 x3 x4 = some o → W p l e (rmA 2 42 h0 o.2) s m args below meth c H locs (hS h - hS h0) (hL h - hL h0) (MQ below (QIA X h0 o.1 o.2) args s (hS o.2 - hS h0) (hL o.2 - hL h0) (aA (eB X))) (F0 m 38 ls [])) (hk_48 : ∀ (h : Hp) (x0 : Nat) (x1 : Int32) (x2 : Int32) (x3 : Int32) (x4 : Int32) (x5 : Int32) (H : Heap) (locs : List Loc), hK h x0 = 15 → Kl h0 h → Wx X h H → va_S (aA (eB X)) s.heap H locs → ∀ (ls : Array Slot), lv_has ls 6 [(0, .ref x0), (1, .int x1), (2, .int x2), (3, .int x3), (4, .int x4), (5, .int x5)] → k_48 h x0 x1 x2 x3 x4 x5 = some o → W p l e (rmA 2 42 h0 o.2) s m args below meth c H locs (hS h - hS h0) (hL h - hL h0) (MQ below (QIA X h0 o.1 o.2) args s (hS o.2 - hS h0) (hL o.2 - hL h0) (aA (eB X))) (F0 m 48 ls [])) (mk_38 : ∀ (h : Hp) (x0 : Nat) (x1 : Int32) (x2 : Int32) (x3 : Int32) (x4 : Int32), k_38 h x0 x1 x2 x3 x4 = some o → Le h o.2) (mk_48 : ∀ (h : Hp) (x0 : Nat) (x1 : Int32) (x2 : Int32) (x3 : Int32) (x4 : Int32) (x5 : Int32), k_48 h x0 x1 x2 x3 x4 x5 = some o → Le h o.2) {h : Hp} {x0 : Nat} {x1 : Int32} {x2 : Int32} {x3 : Int32} {x4 : Int32} {x5 : Int32} {H : Heap} {locs : List Loc} (k_x0 : hK h x0 = 15) (hkl : Kl h0 h) (hW : Wx X h H) (hZ : va_S (aA (eB X)) s.heap H locs) (ls : Array Slot) (hl : lv_has ls 6 [(0, .ref x0), (1, .int x1), (2, .int x2), (3, .int x3), (4, .int x4), (5, .int x5)]) (hE : sX15_book_106 F k_38 k_48 h x0 x1 x2 x3 x4 x5 = some o) : W p l e (rmA 2 42 h0 o.2) s m args below meth c H locs (hS h - hS h0) (hL h - hL h0) (MQ below (QIA X h0 o.1 o.2) args s (hS o.2 - hS h0) (hL o.2 - hL h0) (aA (eB X))) (F0 m 106 ls []) := by
  refine lv_iload_n C.1 C.2.1 dX15_book_106 rfl (lv_at hl 3 rfl) ?_
  refine lv_aload_n C.1 C.2.1 dX15_book_107 rfl (lv_at hl 0 rfl) ?_
  refine lv_aload_n C.1 C.2.1 dX15_book_108 rfl (lv_at hl 0 rfl) ?_
  refine lv_iload C.1 C.2.1 dX15_book_109 (lv_at hl 4 rfl) ?_
  refine lv_iload C.1 C.2.1 dX15_book_111 (lv_at hl 5 rfl) ?_
  cases hE
set_option maxRecDepth 20000 in
theorem bX15_book_48 {p : Program} {l : Launch} {e : Env} {s : State} {m : MethodId} {args : Array Value} {below : List Frame} {meth : Method} {c : Code} {X : Ec} {h0 : Hp} {o : Int32 × Hp} {k_38 : Hp → Nat → Int32 → Int32 → Int32 → Int32 → Option (Int32 × Hp)} {F : Nat} (C : Cx X p s m args meth c RX15 cX15_book 6 (some .int) "book") (hk_38 : ∀ (h : Hp) (x0 : Nat) (x1 : Int32) (x2 : Int32) (x3 : Int32) (x4 : Int32) (H : Heap) (locs : List Loc), hK h x0 = 15 → Kl h0 h → Wx X h H → va_S (aA (eB X)) s.heap H locs → ∀ (ls : Array Slot), lv_has ls 6 [(0, .ref x0), (1, .int x1), (2, .int x2), (3, .int x3), (4, .int x4)] → k_38 h x0 x1 x2 x3 x4 = some o → W p l e (rmA 2 42 h0 o.2) s m args below meth c H locs (hS h - hS h0) (hL h - hL h0) (MQ below (QIA X h0 o.1 o.2) args s (hS o.2 - hS h0) (hL o.2 - hL h0) (aA (eB X))) (F0 m 38 ls [])) (mk_38 : ∀ (h : Hp) (x0 : Nat) (x1 : Int32) (x2 : Int32) (x3 : Int32) (x4 : Int32), k_38 h x0 x1 x2 x3 x4 = some o → Le h o.2) : ∀ (f : Nat) {h : Hp} {x0 : Nat} {x1 : Int32} {x2 : Int32} {x3 : Int32} {x4 : Int32} {x5 : Int32} {H : Heap} {locs : List Loc} (k_x0 : hK h x0 = 15), Kl h0 h → Wx X h H → va_S (aA (eB X)) s.heap H locs → ∀ (ls : Array Slot), lv_has ls 6 [(0, .ref x0), (1, .int x1), (2, .int x2), (3, .int x3), (4, .int x4), (5, .int x5)] → sX15_book_48 F k_38 f h x0 x1 x2 x3 x4 x5 = some o → W p l e (rmA 2 42 h0 o.2) s m args below meth c H locs (hS h - hS h0) (hL h - hL h0) (MQ below (QIA X h0 o.1 o.2) args s (hS o.2 - hS h0) (hL o.2 - hL h0) (aA (eB X))) (F0 m 48 ls []) := by
  intro f
  induction f with
  | zero =>
    intro h x0 x1 x2 x3 x4 x5 H locs k_x0 hkl hW hZ ls hl hE
    rw [sX15_book_48] at hE
    cases hE
  | succ f ih =>
    intro h x0 x1 x2 x3 x4 x5 H locs k_x0 hkl hW hZ ls hl hE
    rw [sX15_book_48] at hE
    have mk_48 : ∀ (h : Hp) (x0 : Nat) (x1 : Int32) (x2 : Int32) (x3 : Int32) (x4 : Int32) (x5 : Int32), sX15_book_48 F k_38 f h x0 x1 x2 x3 x4 x5 = some o → Le h o.2 := fun h x0 x1 x2 x3 x4 x5 hE => moX15_book_48 mk_38 _ hE
    have hk_48 : ∀ (h : Hp) (x0 : Nat) (x1 : Int32) (x2 : Int32) (x3 : Int32) (x4 : Int32) (x5 : Int32) (H : Heap) (locs : List Loc), hK h x0 = 15 → Kl h0 h → Wx X h H → va_S (aA (eB X)) s.heap H locs → ∀ (ls : Array Slot), lv_has ls 6 [(0, .ref x0), (1, .int x1), (2, .int x2), (3, .int x3), (4, .int x4), (5, .int x5)] → sX15_book_48 F k_38 f h x0 x1 x2 x3 x4 x5 = some o → W p l e (rmA 2 42 h0 o.2) s m args below meth c H locs (hS h - hS h0) (hL h - hL h0) (MQ below (QIA X h0 o.1 o.2) args s (hS o.2 - hS h0) (hL o.2 - hL h0) (aA (eB X))) (F0 m 48 ls []) := fun h x0 x1 x2 x3 x4 x5 H locs k_x0 a b c ls hl hE => ih k_x0 a b c ls hl hE
    refine lv_iload C.1 C.2.1 dX15_book_48 (lv_at hl 5 rfl) ?_
    refine lv_aload_n C.1 C.2.1 dX15_book_50 rfl (lv_at hl 0 rfl) ?_
    obtain ⟨r_1, er_1, hE⟩ := cl_e hE
    refine gf_X15_314 C hW k_x0 er_1 dX15_book_51 (fun k_r_1 => ?_)
    refine lv_iload C.1 C.2.1 dX15_book_54 (lv_at hl 4 rfl) ?_
    obtain ⟨g_2, hE⟩ := gd_e hE
    refine y_iald C hW k_r_1 g_2 dX15_book_56 ?_
    refine lv_icmp_gt (tgt := 141) C.1 C.2.1 dX15_book_57 (by decide) (fun c_3 => ?_) (fun c_3 => ?_)
    · have hE := br_p hE c_3
      exact bX15_book_141 C hk_38 mk_38 k_x0 hkl hW hZ _ (lv_sub hl [0, 1, 2, 3, 4] rfl) hE
    · have hE := br_n hE c_3
      refine lv_aload_n C.1 C.2.1 dX15_book_60 rfl (lv_at hl 0 rfl) ?_
      obtain ⟨r_4, er_4, hE⟩ := cl_e hE
      refine gf_X15_314 C hW k_x0 er_4 dX15_book_61 (fun k_r_4 => ?_)
      refine lv_iload C.1 C.2.1 dX15_book_64 (lv_at hl 4 rfl) ?_
      obtain ⟨g_5, hE⟩ := gd_e hE
      refine y_iald C hW k_r_4 g_5 dX15_book_66 ?_
      refine lv_iconst (v := (-1 : Int32)) C.1 C.2.1 dX15_book_67 (by decide) ?_
      refine lv_icmp_eq (tgt := 141) C.1 C.2.1 dX15_book_68 (by decide) (fun c_6 => ?_) (fun c_6 => ?_)
      · have hE := br_p hE c_6
        exact bX15_book_141 C hk_38 mk_38 k_x0 hkl hW hZ _ (lv_sub hl [0, 1, 2, 3, 4] rfl) hE
      · have hE := br_n hE c_6
        refine lv_iload_n C.1 C.2.1 dX15_book_71 rfl (lv_at hl 2 rfl) ?_
        refine lv_iconst (v := (-1 : Int32)) C.1 C.2.1 dX15_book_72 (by decide) ?_
        refine lv_icmp_eq (tgt := 106) C.1 C.2.1 dX15_book_73 (by decide) (fun c_7 => ?_) (fun c_7 => ?_)
        · have hE := br_p hE c_7
          exact bX15_book_106 C hk_38 hk_48 mk_38 mk_48 k_x0 hkl hW hZ _ (lv_sub hl [0, 1, 2, 3, 4, 5] rfl) hE
        · have hE := br_n hE c_7
          refine lv_iload C.1 C.2.1 dX15_book_76 (lv_at hl 5 rfl) ?_
          refine lv_aload_n C.1 C.2.1 dX15_book_78 rfl (lv_at hl 0 rfl) ?_
          obtain ⟨r_8, er_8, hE⟩ := cl_e hE
          refine gf_X15_314 C hW k_x0 er_8 dX15_book_79 (fun k_r_8 => ?_)
          refine lv_iload C.1 C.2.1 dX15_book_82 (lv_at hl 4 rfl) ?_
          obtain ⟨g_9, hE⟩ := gd_e hE
          refine y_iald C hW k_r_8 g_9 dX15_book_84 ?_
          refine lv_icmp_ge (tgt := 135) C.1 C.2.1 dX15_book_85 (by decide) (fun c_10 => ?_) (fun c_10 => ?_)
          · have hE := br_p hE c_10
            exact bX15_book_135 C hk_38 hk_48 mk_38 mk_48 k_x0 hkl hW hZ _ (lv_sub hl [0, 1, 2, 3, 4, 5] rfl) hE
          · have hE := br_n hE c_10
            refine lv_aload_n C.1 C.2.1 dX15_book_88 rfl (lv_at hl 0 rfl) ?_
            obtain ⟨r_11, er_11, hE⟩ := cl_e hE
            refine gf_X15_311 C hW k_x0 er_11 dX15_book_89 (fun k_r_11 => ?_)
            refine lv_iload C.1 C.2.1 dX15_book_92 (lv_at hl 4 rfl) ?_
            refine lv_sipush (v := (301 : Int32)) C.1 C.2.1 dX15_book_94 (by decide) ?_
            refine lv_imul C.1 C.2.1 dX15_book_97 ?_
            refine lv_iload C.1 C.2.1 dX15_book_98 (lv_at hl 5 rfl) ?_
            refine lv_iadd C.1 C.2.1 dX15_book_100 ?_
            obtain ⟨g_12, hE⟩ := gd_e hE
            refine y_iald C hW k_r_11 g_12 dX15_book_101 ?_
            refine lv_iload_n C.1 C.2.1 dX15_book_102 rfl (lv_at hl 2 rfl) ?_
            refine lv_icmp_ne (tgt := 135) C.1 C.2.1 dX15_book_103 (by decide) (fun c_13 => ?_) (fun c_13 => ?_)
            · have hE := br_n hE c_13
              exact bX15_book_135 C hk_38 hk_48 mk_38 mk_48 k_x0 hkl hW hZ _ (lv_sub hl [0, 1, 2, 3, 4, 5] rfl) hE
            · have hE := br_p hE c_13
              exact bX15_book_106 C hk_38 hk_48 mk_38 mk_48 k_x0 hkl hW hZ _ (lv_sub hl [0, 1, 2, 3, 4, 5] rfl) hE
set_option maxRecDepth 20000 in
theorem bX15_book_38 {p : Program} {l : Launch} {e : Env} {s : State} {m : MethodId} {args : Array Value} {below : List Frame} {meth : Method} {c : Code} {X : Ec} {h0 : Hp} {o : Int32 × Hp} {F : Nat} (C : Cx X p s m args meth c RX15 cX15_book 6 (some .int) "book") : ∀ (f : Nat) {h : Hp} {x0 : Nat} {x1 : Int32} {x2 : Int32} {x3 : Int32} {x4 : Int32} {H : Heap} {locs : List Loc} (k_x0 : hK h x0 = 15), Kl h0 h → Wx X h H → va_S (aA (eB X)) s.heap H locs → ∀ (ls : Array Slot), lv_has ls 6 [(0, .ref x0), (1, .int x1), (2, .int x2), (3, .int x3), (4, .int x4)] → sX15_book_38 F f h x0 x1 x2 x3 x4 = some o → W p l e (rmA 2 42 h0 o.2) s m args below meth c H locs (hS h - hS h0) (hL h - hL h0) (MQ below (QIA X h0 o.1 o.2) args s (hS o.2 - hS h0) (hL o.2 - hL h0) (aA (eB X))) (F0 m 38 ls []) := by
  intro f
  induction f with
  | zero =>
    intro h x0 x1 x2 x3 x4 H locs k_x0 hkl hW hZ ls hl hE
    rw [sX15_book_38] at hE
    cases hE
  | succ f ih =>
    intro h x0 x1 x2 x3 x4 H locs k_x0 hkl hW hZ ls hl hE
    rw [sX15_book_38] at hE
    have mk_38 : ∀ (h : Hp) (x0 : Nat) (x1 : Int32) (x2 : Int32) (x3 : Int32) (x4 : Int32), sX15_book_38 F f h x0 x1 x2 x3 x4 = some o → Le h o.2 := fun h x0 x1 x2 x3 x4 hE => moX15_book_38 _ hE
    have hk_38 : ∀ (h : Hp) (x0 : Nat) (x1 : Int32) (x2 : Int32) (x3 : Int32) (x4 : Int32) (H : Heap) (locs : List Loc), hK h x0 = 15 → Kl h0 h → Wx X h H → va_S (aA (eB X)) s.heap H locs → ∀ (ls : Array Slot), lv_has ls 6 [(0, .ref x0), (1, .int x1), (2, .int x2), (3, .int x3), (4, .int x4)] → sX15_book_38 F f h x0 x1 x2 x3 x4 = some o → W p l e (rmA 2 42 h0 o.2) s m args below meth c H locs (hS h - hS h0) (hL h - hL h0) (MQ below (QIA X h0 o.1 o.2) args s (hS o.2 - hS h0) (hL o.2 - hL h0) (aA (eB X))) (F0 m 38 ls []) := fun h x0 x1 x2 x3 x4 H locs k_x0 a b c ls hl hE => ih k_x0 a b c ls hl hE
    refine lv_iload C.1 C.2.1 dX15_book_38 (lv_at hl 4 rfl) ?_
    refine lv_bipush (v := (8 : Int32)) C.1 C.2.1 dX15_book_40 (by decide) ?_
    refine lv_icmp_ge (tgt := 147) C.1 C.2.1 dX15_book_42 (by decide) (fun c_1 => ?_) (fun c_1 => ?_)
    · have hE := br_p hE c_1
      refine lv_iload_n C.1 C.2.1 dX15_book_147 rfl (lv_at hl 3 rfl) ?_
      exact x_iretA C rfl rfl hW hZ hkl hE dX15_book_148
    · have hE := br_n hE c_1
      refine lv_iconst (v := (0 : Int32)) C.1 C.2.1 dX15_book_45 (by decide) ?_
      refine lv_istore (lv' := [(5, .int (0 : Int32)), (0, .ref x0), (1, .int x1), (2, .int x2), (3, .int x3), (4, .int x4)]) C.1 C.2.1 dX15_book_46 hl (by decide) rfl (fun ls hl => ?_)
      exact bX15_book_48 C hk_38 mk_38 F k_x0 hkl hW hZ _ (lv_sub hl [1, 2, 3, 4, 5, 0] rfl) hE
set_option maxRecDepth 20000 in
theorem bX15_book_33 {p : Program} {l : Launch} {e : Env} {s : State} {m : MethodId} {args : Array Value} {below : List Frame} {meth : Method} {c : Code} {X : Ec} {h0 : Hp} {o : Int32 × Hp} {F : Nat} (C : Cx X p s m args meth c RX15 cX15_book 6 (some .int) "book") {h : Hp} {x0 : Nat} {x1 : Int32} {x2 : Int32} {H : Heap} {locs : List Loc} (k_x0 : hK h x0 = 15) (hkl : Kl h0 h) (hW : Wx X h H) (hZ : va_S (aA (eB X)) s.heap H locs) (ls : Array Slot) (hl : lv_has ls 6 [(0, .ref x0), (1, .int x1), (2, .int x2)]) (hE : sX15_book_33 F h x0 x1 x2 = some o) : W p l e (rmA 2 42 h0 o.2) s m args below meth c H locs (hS h - hS h0) (hL h - hL h0) (MQ below (QIA X h0 o.1 o.2) args s (hS o.2 - hS h0) (hL o.2 - hL h0) (aA (eB X))) (F0 m 33 ls []) := by
  refine lv_iconst (v := (0 : Int32)) C.1 C.2.1 dX15_book_33 (by decide) ?_
  refine lv_istore_n (lv' := [(3, .int (0 : Int32)), (0, .ref x0), (1, .int x1), (2, .int x2)]) C.1 C.2.1 dX15_book_34 rfl hl (by decide) rfl (fun ls hl => ?_)
  refine lv_iconst (v := (0 : Int32)) C.1 C.2.1 dX15_book_35 (by decide) ?_
  refine lv_istore (lv' := [(4, .int (0 : Int32)), (3, .int (0 : Int32)), (0, .ref x0), (1, .int x1), (2, .int x2)]) C.1 C.2.1 dX15_book_36 hl (by decide) rfl (fun ls hl => ?_)
  exact bX15_book_38 C F k_x0 hkl hW hZ _ (lv_sub hl [2, 3, 4, 1, 0] rfl) hE
set_option maxRecDepth 20000 in
theorem bX15_book_5 {p : Program} {l : Launch} {e : Env} {s : State} {m : MethodId} {args : Array Value} {below : List Frame} {meth : Method} {c : Code} {X : Ec} {h0 : Hp} {o : Int32 × Hp} {F : Nat} (C : Cx X p s m args meth c RX15 cX15_book 6 (some .int) "book") {h : Hp} {x0 : Nat} {x1 : Int32} {x2 : Int32} {t0 : Int32} {H : Heap} {locs : List Loc} (k_x0 : hK h x0 = 15) (hkl : Kl h0 h) (hW : Wx X h H) (hZ : va_S (aA (eB X)) s.heap H locs) (ls : Array Slot) (hl : lv_has ls 6 [(0, .ref x0), (1, .int x1), (2, .int x2)]) (hE : sX15_book_5 F h x0 x1 x2 t0 = some o) : W p l e (rmA 2 42 h0 o.2) s m args below meth c H locs (hS h - hS h0) (hL h - hL h0) (MQ below (QIA X h0 o.1 o.2) args s (hS o.2 - hS h0) (hL o.2 - hL h0) (aA (eB X))) (F0 m 5 ls [.int t0]) := by
  refine lv_bipush (v := (-102 : Int32)) C.1 C.2.1 dX15_book_5 (by decide) ?_
  refine lv_icmp_eq (tgt := 30) C.1 C.2.1 dX15_book_7 (by decide) (fun c_1 => ?_) (fun c_1 => ?_)
  · have hE := br_p hE c_1
    exact bX15_book_30 C hkl hW hZ _ (lv_sub hl [] rfl) hE
  · have hE := br_n hE c_1
    refine lv_iload_n C.1 C.2.1 dX15_book_10 rfl (lv_at hl 2 rfl) ?_
    refine lv_iconst (v := (-1 : Int32)) C.1 C.2.1 dX15_book_11 (by decide) ?_
    refine lv_icmp_eq (tgt := 33) C.1 C.2.1 dX15_book_12 (by decide) (fun c_2 => ?_) (fun c_2 => ?_)
    · have hE := br_p hE c_2
      exact bX15_book_33 C k_x0 hkl hW hZ _ (lv_sub hl [0, 1, 2] rfl) hE
    · have hE := br_n hE c_2
      refine lv_iload_n C.1 C.2.1 dX15_book_15 rfl (lv_at hl 2 rfl) ?_
      refine lv_if_lt (tgt := 30) C.1 C.2.1 dX15_book_16 (by decide) (fun c_3 => ?_) (fun c_3 => ?_)
      · have hE := br_p hE c_3
        exact bX15_book_30 C hkl hW hZ _ (lv_sub hl [] rfl) hE
      · have hE := br_n hE c_3
        refine lv_iload_n C.1 C.2.1 dX15_book_19 rfl (lv_at hl 2 rfl) ?_
        refine lv_aload_n C.1 C.2.1 dX15_book_20 rfl (lv_at hl 0 rfl) ?_
        obtain ⟨r_4, er_4, hE⟩ := cl_e hE
        refine gf_X15_288 C hW k_x0 er_4 dX15_book_21 (fun k_r_4 => ?_)
        refine gf_X15_575 C hW k_r_4 dX15_book_24 ?_
        refine lv_icmp_lt (tgt := 33) C.1 C.2.1 dX15_book_27 (by decide) (fun c_5 => ?_) (fun c_5 => ?_)
        · have hE := br_p hE c_5
          exact bX15_book_33 C k_x0 hkl hW hZ _ (lv_sub hl [0, 1, 2] rfl) hE
        · have hE := br_n hE c_5
          exact bX15_book_30 C hkl hW hZ _ (lv_sub hl [] rfl) hE
set_option maxRecDepth 20000 in
theorem ct_X15_book (l : Launch) (X : Ec) (F : Nat) {h : Hp} {x0 : Nat} {x1 : Int32} {x2 : Int32} {o : Int32 × Hp} (k_x0 : hK h x0 = 15) (hE : sX15_book F h x0 x1 x2 = some o) : MetIA l yX15_book cX15_book 6 (some .int) 2 42 X [.ref x0, .int x1, .int x2] h o := by
  refine x_metA (oh := o.2) (by decide) (Nat.le_of_ble_eq_true rfl) ?_
  intro p e s m below meth c ls C hl hW hZ
  have hl : lv_has ls 6 [(0, .ref x0), (1, .int x1), (2, .int x2)] := hl
  have hkl : Kl h h := Kl.rf h
  refine lv_aload_n C.1 C.2.1 dX15_book_0 rfl (lv_at hl 0 rfl) ?_
  refine lv_iload_n C.1 C.2.1 dX15_book_1 rfl (lv_at hl 1 rfl) ?_
  obtain ⟨o_1, eo_1, hE⟩ := cl_e hE
  have m1 := moX15_moves eo_1
  have m2 := moX15_book_5 hE
  refine x_kI (o := o_1) (z_runV (As := [.int x1]) (rest := []) C (ct_X15_moves l X k_x0 eo_1) cw_X15_668 hW hZ k_x0 (by decide) rfl rfl rfl hl.1 (Nat.le_of_ble_eq_true rfl) rfl dX15_book_2 ⟨Nat.le_of_ble_eq_true rfl, Nat.le_of_ble_eq_true rfl⟩ (rm_ok0 hkl m1 m2)) hZ (fun _ _ hW km hZ => ?_)
  replace hkl := hkl.tr km.l
  refine x_wc km ?_
  replace k_x0 := km.at k_x0 (by decide)
  exact bX15_book_5 C k_x0 hkl hW hZ _ (lv_sub hl [0, 1, 2] rfl) hE
theorem dX15_sees_0 : decode cX15_sees 0 = .ok (.iload_n 2, 1) := by decide +kernel
theorem dX15_sees_1 : decode cX15_sees 1 = .ok (.ifCond .lt 20, 3) := by decide +kernel
theorem dX15_sees_4 : decode cX15_sees 4 = .ok (.iload_n 2, 1) := by decide +kernel
theorem dX15_sees_5 : decode cX15_sees 5 = .ok (.iconst 1, 1) := by decide +kernel
theorem dX15_sees_6 : decode cX15_sees 6 = .ok (.if_icmp .gt 15, 3) := by decide +kernel
theorem dX15_sees_9 : decode cX15_sees 9 = .ok (.iload_n 3, 1) := by decide +kernel
theorem dX15_sees_10 : decode cX15_sees 10 = .ok (.ifCond .lt 11, 3) := by decide +kernel
theorem dX15_sees_13 : decode cX15_sees 13 = .ok (.iload_n 3, 1) := by decide +kernel
theorem dX15_sees_14 : decode cX15_sees 14 = .ok (.aload_n 0, 1) := by decide +kernel
theorem dX15_sees_15 : decode cX15_sees 15 = .ok (.getfield 384, 3) := by decide +kernel
theorem dX15_sees_18 : decode cX15_sees 18 = .ok (.if_icmp .lt 6, 3) := by decide +kernel
theorem dX15_sees_21 : decode cX15_sees 21 = .ok (.bipush (-101), 2) := by decide +kernel
theorem dX15_sees_23 : decode cX15_sees 23 = .ok (.ireturn, 1) := by decide +kernel
theorem dX15_sees_24 : decode cX15_sees 24 = .ok (.aload_n 0, 1) := by decide +kernel
theorem dX15_sees_25 : decode cX15_sees 25 = .ok (.iload_n 1, 1) := by decide +kernel
theorem dX15_sees_26 : decode cX15_sees 26 = .ok (.invokevirtual 486, 3) := by decide +kernel
theorem dX15_sees_29 : decode cX15_sees 29 = .ok (.ifCond .ne 8, 3) := by decide +kernel
theorem dX15_sees_32 : decode cX15_sees 32 = .ok (.bipush (-102), 2) := by decide +kernel
theorem dX15_sees_34 : decode cX15_sees 34 = .ok (.goto 19, 3) := by decide +kernel
theorem dX15_sees_37 : decode cX15_sees 37 = .ok (.aload_n 0, 1) := by decide +kernel
theorem dX15_sees_38 : decode cX15_sees 38 = .ok (.aload_n 0, 1) := by decide +kernel
theorem dX15_sees_39 : decode cX15_sees 39 = .ok (.getfield 257, 3) := by decide +kernel
theorem dX15_sees_42 : decode cX15_sees 42 = .ok (.iload_n 1, 1) := by decide +kernel
theorem dX15_sees_43 : decode cX15_sees 43 = .ok (.aaload, 1) := by decide +kernel
theorem dX15_sees_53 : decode cX15_sees 53 = .ok (.ireturn, 1) := by decide +kernel
set_option maxRecDepth 20000 in
theorem moX15_sees_21 {o : Int32 × Hp} {h : Hp} (hE : sX15_sees_21 h  = some o) : Le h o.2 := by
  exact le_some2 hE
set_option maxRecDepth 20000 in
theorem moX15_sees_53 {o : Int32 × Hp} {h : Hp} {t0 : Int32} (hE : sX15_sees_53 h  t0 = some o) : Le h o.2 := by
  exact le_some2 hE
set_option maxRecDepth 20000 in
theorem moX15_sees {o : Int32 × Hp} {h : Hp} {x0 : Nat} {x1 : Int32} {x2 : Int32} {x3 : Int32} (hE : sX15_sees h x0 x1 x2 x3 = some o) : Le h o.2 := by
  rcases br_e hE with ⟨_, hE⟩ | ⟨_, hE⟩
  · exact moX15_sees_21 hE
  · rcases br_e hE with ⟨_, hE⟩ | ⟨_, hE⟩
    · exact moX15_sees_21 hE
    · rcases br_e hE with ⟨_, hE⟩ | ⟨_, hE⟩
      · exact moX15_sees_21 hE
      · rcases br_e hE with ⟨_, hE⟩ | ⟨_, hE⟩
        · obtain ⟨o_5, eo_5, hE⟩ := cl_e hE
          refine (moX15_has eo_5).tr ?_
          rcases br_e hE with ⟨_, hE⟩ | ⟨_, hE⟩
          · exact moX15_sees_53 hE
          · obtain ⟨r_7, er_7, hE⟩ := cl_e hE
            cases hE
        · exact moX15_sees_21 hE
set_option maxRecDepth 20000 in
theorem bX15_sees_21 {p : Program} {l : Launch} {e : Env} {s : State} {m : MethodId} {args : Array Value} {below : List Frame} {meth : Method} {c : Code} {X : Ec} {h0 : Hp} {o : Int32 × Hp} (C : Cx X p s m args meth c RX15 cX15_sees 4 (some .int) "sees") {h : Hp} {H : Heap} {locs : List Loc} (hkm : Km h0 h) (hW : Wx X h H) (hZ : va_S (aA (eB X)) s.heap H locs) (ls : Array Slot) (hl : lv_has ls 4 []) (hE : sX15_sees_21 h  = some o) : W p l e (rm 1 21) s m args below meth c H locs 0 0 (MQ below (QI X h0 o.1 o.2) args s 0 0 (aA (eB X))) (F0 m 21 ls []) := by
  refine lv_bipush (v := (-101 : Int32)) C.1 C.2.1 dX15_sees_21 (by decide) ?_
  exact x_iret C rfl rfl hW hZ hkm hE dX15_sees_23
set_option maxRecDepth 20000 in
theorem bX15_sees_53 {p : Program} {l : Launch} {e : Env} {s : State} {m : MethodId} {args : Array Value} {below : List Frame} {meth : Method} {c : Code} {X : Ec} {h0 : Hp} {o : Int32 × Hp} (C : Cx X p s m args meth c RX15 cX15_sees 4 (some .int) "sees") {h : Hp} {t0 : Int32} {H : Heap} {locs : List Loc} (hkm : Km h0 h) (hW : Wx X h H) (hZ : va_S (aA (eB X)) s.heap H locs) (ls : Array Slot) (hl : lv_has ls 4 []) (hE : sX15_sees_53 h  t0 = some o) : W p l e (rm 1 21) s m args below meth c H locs 0 0 (MQ below (QI X h0 o.1 o.2) args s 0 0 (aA (eB X))) (F0 m 53 ls [.int t0]) := by
  exact x_iret C rfl rfl hW hZ hkm hE dX15_sees_53
set_option maxRecDepth 20000 in
theorem ct_X15_sees (l : Launch) (X : Ec) {h : Hp} {x0 : Nat} {x1 : Int32} {x2 : Int32} {x3 : Int32} {o : Int32 × Hp} (k_x0 : hK h x0 = 15) (hE : sX15_sees h x0 x1 x2 x3 = some o) : MetI l yX15_sees cX15_sees 4 (some .int) 1 21 X [.ref x0, .int x1, .int x2, .int x3] h o := by
  refine x_met (by decide) (Nat.le_of_ble_eq_true rfl) ?_
  intro p e s m below meth c ls C hl hW hZ
  have hl : lv_has ls 4 [(0, .ref x0), (1, .int x1), (2, .int x2), (3, .int x3)] := hl
  have hkm : Km h h := Km.rf h
  refine lv_iload_n C.1 C.2.1 dX15_sees_0 rfl (lv_at hl 2 rfl) ?_
  refine lv_if_lt (tgt := 21) C.1 C.2.1 dX15_sees_1 (by decide) (fun c_1 => ?_) (fun c_1 => ?_)
  · have hE := br_p hE c_1
    exact bX15_sees_21 C hkm hW hZ _ (lv_sub hl [] rfl) hE
  · have hE := br_n hE c_1
    refine lv_iload_n C.1 C.2.1 dX15_sees_4 rfl (lv_at hl 2 rfl) ?_
    refine lv_iconst (v := (1 : Int32)) C.1 C.2.1 dX15_sees_5 (by decide) ?_
    refine lv_icmp_gt (tgt := 21) C.1 C.2.1 dX15_sees_6 (by decide) (fun c_2 => ?_) (fun c_2 => ?_)
    · have hE := br_p hE c_2
      exact bX15_sees_21 C hkm hW hZ _ (lv_sub hl [] rfl) hE
    · have hE := br_n hE c_2
      refine lv_iload_n C.1 C.2.1 dX15_sees_9 rfl (lv_at hl 3 rfl) ?_
      refine lv_if_lt (tgt := 21) C.1 C.2.1 dX15_sees_10 (by decide) (fun c_3 => ?_) (fun c_3 => ?_)
      · have hE := br_p hE c_3
        exact bX15_sees_21 C hkm hW hZ _ (lv_sub hl [] rfl) hE
      · have hE := br_n hE c_3
        refine lv_iload_n C.1 C.2.1 dX15_sees_13 rfl (lv_at hl 3 rfl) ?_
        refine lv_aload_n C.1 C.2.1 dX15_sees_14 rfl (lv_at hl 0 rfl) ?_
        refine gf_X15_384 C hW k_x0 dX15_sees_15 ?_
        refine lv_icmp_lt (tgt := 24) C.1 C.2.1 dX15_sees_18 (by decide) (fun c_4 => ?_) (fun c_4 => ?_)
        · have hE := br_p hE c_4
          refine lv_aload_n C.1 C.2.1 dX15_sees_24 rfl (lv_at hl 0 rfl) ?_
          refine lv_iload_n C.1 C.2.1 dX15_sees_25 rfl (lv_at hl 1 rfl) ?_
          obtain ⟨o_5, eo_5, hE⟩ := cl_e hE
          refine x_kI (o := o_5) (z_runV (As := [.int x1]) (rest := []) C (ct_X15_has l X k_x0 eo_5) cw_X15_486 hW hZ k_x0 (by decide) rfl rfl rfl hl.1 (Nat.le_of_ble_eq_true rfl) rfl dX15_sees_26 ⟨Nat.le_of_ble_eq_true rfl, Nat.le_of_ble_eq_true rfl⟩ ⟨Nat.le_refl _, Nat.le_refl _⟩) hZ (fun _ _ hW km hZ => ?_)
          replace hkm := hkm.tr km
          replace k_x0 := km.at k_x0 (by decide)
          refine lv_if_ne (tgt := 37) C.1 C.2.1 dX15_sees_29 (by decide) (fun c_6 => ?_) (fun c_6 => ?_)
          · have hE := br_n hE c_6
            refine lv_aload_n C.1 C.2.1 dX15_sees_37 rfl (lv_at hl 0 rfl) ?_
            refine lv_aload_n C.1 C.2.1 dX15_sees_38 rfl (lv_at hl 0 rfl) ?_
            obtain ⟨r_7, er_7, hE⟩ := cl_e hE
            refine gf_X15_257 C hW k_x0 er_7 dX15_sees_39 (fun k_r_7 => ?_)
            refine lv_iload_n C.1 C.2.1 dX15_sees_42 rfl (lv_at hl 1 rfl) ?_
            cases hE
          · have hE := br_p hE c_6
            refine lv_bipush (v := (-102 : Int32)) C.1 C.2.1 dX15_sees_32 (by decide) ?_
            refine lv_goto (tgt := 53) C.1 C.2.1 dX15_sees_34 (by decide) ?_
            exact bX15_sees_53 C hkm hW hZ _ (lv_sub hl [] rfl) hE
        · have hE := br_n hE c_4
          exact bX15_sees_21 C hkm hW hZ _ (lv_sub hl [] rfl) hE
theorem dX15_view_0 : decode cX15_view 0 = .ok (.iload_n 2, 1) := by decide +kernel
theorem dX15_view_1 : decode cX15_view 1 = .ok (.ifCond .lt 8, 3) := by decide +kernel
theorem dX15_view_4 : decode cX15_view 4 = .ok (.iload_n 2, 1) := by decide +kernel
theorem dX15_view_5 : decode cX15_view 5 = .ok (.iconst 1, 1) := by decide +kernel
theorem dX15_view_6 : decode cX15_view 6 = .ok (.if_icmp .le 6, 3) := by decide +kernel
theorem dX15_view_9 : decode cX15_view 9 = .ok (.bipush (-101), 2) := by decide +kernel
theorem dX15_view_11 : decode cX15_view 11 = .ok (.ireturn, 1) := by decide +kernel
theorem dX15_view_12 : decode cX15_view 12 = .ok (.aload_n 0, 1) := by decide +kernel
theorem dX15_view_13 : decode cX15_view 13 = .ok (.iload_n 1, 1) := by decide +kernel
theorem dX15_view_14 : decode cX15_view 14 = .ok (.invokevirtual 486, 3) := by decide +kernel
theorem dX15_view_17 : decode cX15_view 17 = .ok (.ifCond .ne 6, 3) := by decide +kernel
theorem dX15_view_20 : decode cX15_view 20 = .ok (.bipush (-102), 2) := by decide +kernel
theorem dX15_view_22 : decode cX15_view 22 = .ok (.ireturn, 1) := by decide +kernel
theorem dX15_view_23 : decode cX15_view 23 = .ok (.aload_n 0, 1) := by decide +kernel
theorem dX15_view_24 : decode cX15_view 24 = .ok (.aload_n 0, 1) := by decide +kernel
theorem dX15_view_25 : decode cX15_view 25 = .ok (.getfield 257, 3) := by decide +kernel
theorem dX15_view_28 : decode cX15_view 28 = .ok (.iload_n 1, 1) := by decide +kernel
theorem dX15_view_29 : decode cX15_view 29 = .ok (.aaload, 1) := by decide +kernel
set_option maxRecDepth 20000 in
theorem moX15_view_9 {o : Int32 × Hp} {h : Hp} (hE : sX15_view_9 h  = some o) : Le h o.2 := by
  exact le_some2 hE
set_option maxRecDepth 20000 in
theorem moX15_view {o : Int32 × Hp} {h : Hp} {x0 : Nat} {x1 : Int32} {x2 : Int32} (hE : sX15_view h x0 x1 x2 = some o) : Le h o.2 := by
  rcases br_e hE with ⟨_, hE⟩ | ⟨_, hE⟩
  · exact moX15_view_9 hE
  · rcases br_e hE with ⟨_, hE⟩ | ⟨_, hE⟩
    · obtain ⟨o_3, eo_3, hE⟩ := cl_e hE
      refine (moX15_has eo_3).tr ?_
      rcases br_e hE with ⟨_, hE⟩ | ⟨_, hE⟩
      · exact le_some2 hE
      · obtain ⟨r_5, er_5, hE⟩ := cl_e hE
        cases hE
    · exact moX15_view_9 hE
set_option maxRecDepth 20000 in
theorem bX15_view_9 {p : Program} {l : Launch} {e : Env} {s : State} {m : MethodId} {args : Array Value} {below : List Frame} {meth : Method} {c : Code} {X : Ec} {h0 : Hp} {o : Int32 × Hp} (C : Cx X p s m args meth c RX15 cX15_view 5 (some .int) "view") {h : Hp} {H : Heap} {locs : List Loc} (hkm : Km h0 h) (hW : Wx X h H) (hZ : va_S (aA (eB X)) s.heap H locs) (ls : Array Slot) (hl : lv_has ls 5 []) (hE : sX15_view_9 h  = some o) : W p l e (rm 1 21) s m args below meth c H locs 0 0 (MQ below (QI X h0 o.1 o.2) args s 0 0 (aA (eB X))) (F0 m 9 ls []) := by
  refine lv_bipush (v := (-101 : Int32)) C.1 C.2.1 dX15_view_9 (by decide) ?_
  exact x_iret C rfl rfl hW hZ hkm hE dX15_view_11
set_option maxRecDepth 20000 in
theorem ct_X15_view (l : Launch) (X : Ec) {h : Hp} {x0 : Nat} {x1 : Int32} {x2 : Int32} {o : Int32 × Hp} (k_x0 : hK h x0 = 15) (hE : sX15_view h x0 x1 x2 = some o) : MetI l yX15_view cX15_view 5 (some .int) 1 21 X [.ref x0, .int x1, .int x2] h o := by
  refine x_met (by decide) (Nat.le_of_ble_eq_true rfl) ?_
  intro p e s m below meth c ls C hl hW hZ
  have hl : lv_has ls 5 [(0, .ref x0), (1, .int x1), (2, .int x2)] := hl
  have hkm : Km h h := Km.rf h
  refine lv_iload_n C.1 C.2.1 dX15_view_0 rfl (lv_at hl 2 rfl) ?_
  refine lv_if_lt (tgt := 9) C.1 C.2.1 dX15_view_1 (by decide) (fun c_1 => ?_) (fun c_1 => ?_)
  · have hE := br_p hE c_1
    exact bX15_view_9 C hkm hW hZ _ (lv_sub hl [] rfl) hE
  · have hE := br_n hE c_1
    refine lv_iload_n C.1 C.2.1 dX15_view_4 rfl (lv_at hl 2 rfl) ?_
    refine lv_iconst (v := (1 : Int32)) C.1 C.2.1 dX15_view_5 (by decide) ?_
    refine lv_icmp_le (tgt := 12) C.1 C.2.1 dX15_view_6 (by decide) (fun c_2 => ?_) (fun c_2 => ?_)
    · have hE := br_p hE c_2
      refine lv_aload_n C.1 C.2.1 dX15_view_12 rfl (lv_at hl 0 rfl) ?_
      refine lv_iload_n C.1 C.2.1 dX15_view_13 rfl (lv_at hl 1 rfl) ?_
      obtain ⟨o_3, eo_3, hE⟩ := cl_e hE
      refine x_kI (o := o_3) (z_runV (As := [.int x1]) (rest := []) C (ct_X15_has l X k_x0 eo_3) cw_X15_486 hW hZ k_x0 (by decide) rfl rfl rfl hl.1 (Nat.le_of_ble_eq_true rfl) rfl dX15_view_14 ⟨Nat.le_of_ble_eq_true rfl, Nat.le_of_ble_eq_true rfl⟩ ⟨Nat.le_refl _, Nat.le_refl _⟩) hZ (fun _ _ hW km hZ => ?_)
      replace hkm := hkm.tr km
      replace k_x0 := km.at k_x0 (by decide)
      refine lv_if_ne (tgt := 23) C.1 C.2.1 dX15_view_17 (by decide) (fun c_4 => ?_) (fun c_4 => ?_)
      · have hE := br_n hE c_4
        refine lv_aload_n C.1 C.2.1 dX15_view_23 rfl (lv_at hl 0 rfl) ?_
        refine lv_aload_n C.1 C.2.1 dX15_view_24 rfl (lv_at hl 0 rfl) ?_
        obtain ⟨r_5, er_5, hE⟩ := cl_e hE
        refine gf_X15_257 C hW k_x0 er_5 dX15_view_25 (fun k_r_5 => ?_)
        refine lv_iload_n C.1 C.2.1 dX15_view_28 rfl (lv_at hl 1 rfl) ?_
        cases hE
      · have hE := br_p hE c_4
        refine lv_bipush (v := (-102 : Int32)) C.1 C.2.1 dX15_view_20 (by decide) ?_
        exact x_iret C rfl rfl hW hZ hkm hE dX15_view_22
    · have hE := br_n hE c_2
      exact bX15_view_9 C hkm hW hZ _ (lv_sub hl [] rfl) hE
