set_option maxRecDepth 100000 in
theorem m_2155 : Cond.fieldLink RX15 390 (TX15 44).1 (TX15 44).2.1 (TX15 44).2.2.1 ∈ W0 := w0_in (List.mem_append_right _ (List.mem_of_getElem? (i := 2155) rfl)) rfl
set_option maxRecDepth 100000 in
theorem m_2161 : Cond.fieldLink RX15 387 (TX15 50).1 (TX15 50).2.1 (TX15 50).2.2.1 ∈ W0 := w0_in (List.mem_append_right _ (List.mem_of_getElem? (i := 2161) rfl)) rfl
set_option maxRecDepth 100000 in
theorem m_2176 : Cond.fieldLink RX15 393 (TX15 65).1 (TX15 65).2.1 (TX15 65).2.2.1 ∈ W0 := w0_in (List.mem_append_right _ (List.mem_of_getElem? (i := 2176) rfl)) rfl
section
variable {p : Program} {l : Launch} {e : Env} {R : Room} {s : State} {m : MethodId} {args : Array Value} {below : List Frame} {meth : Method} {c : Code} {H : Heap} {locs : List Loc} {cells slots : Nat} {Q : State → Prop}
variable {cc : ByteArray} {pc : Nat} {ls : Array Slot} {rest : List Value} {X : Ec} {h h1 : Hp} {nL : Nat} {rt : Option FieldType} {mn : String}
theorem pf_X15_387 {a : Nat} {v : Int32} (C : Cx X p s m args meth c RX15 cc nL rt mn) (hW : Wx X h H) (hZ : va_S (aA (eB X)) s.heap H locs) (ha : hK h a = 15) (eh : h1 = wI h a 50 v) (hdg : decode cc pc = .ok (.putfield 387, 3)) (kk : ∀ (H1 : Heap) (locs1 : List Loc), Wx X h1 H1 → Km h h1 → va_S (aA (eB X)) s.heap H1 locs1 → W p l e R s m args below meth c H1 locs1 cells slots Q (F0 m (pc + 3) ls rest)) : W p l e R s m args below meth c H locs cells slots Q (F0 m pc ls (.int v :: .ref a :: rest)) :=
  y_puti (ty := .int) C hW hZ ha i_X15 tyX15 tyX15_ok nmX15 (by decide) rfl rfl (by decide) m_2161 rfl (by decide +kernel) rfl rfl rfl eh hdg kk
theorem pf_X15_390 {a : Nat} {v : Int32} (C : Cx X p s m args meth c RX15 cc nL rt mn) (hW : Wx X h H) (hZ : va_S (aA (eB X)) s.heap H locs) (ha : hK h a = 15) (eh : h1 = wI h a 44 v) (hdg : decode cc pc = .ok (.putfield 390, 3)) (kk : ∀ (H1 : Heap) (locs1 : List Loc), Wx X h1 H1 → Km h h1 → va_S (aA (eB X)) s.heap H1 locs1 → W p l e R s m args below meth c H1 locs1 cells slots Q (F0 m (pc + 3) ls rest)) : W p l e R s m args below meth c H locs cells slots Q (F0 m pc ls (.int v :: .ref a :: rest)) :=
  y_puti (ty := .int) C hW hZ ha i_X15 tyX15 tyX15_ok nmX15 (by decide) rfl rfl (by decide) m_2155 rfl (by decide +kernel) rfl rfl rfl eh hdg kk
theorem pf_X15_393 {a : Nat} {v : Int32} (C : Cx X p s m args meth c RX15 cc nL rt mn) (hW : Wx X h H) (hZ : va_S (aA (eB X)) s.heap H locs) (ha : hK h a = 15) (eh : h1 = wI h a 65 v) (hdg : decode cc pc = .ok (.putfield 393, 3)) (kk : ∀ (H1 : Heap) (locs1 : List Loc), Wx X h1 H1 → Km h h1 → va_S (aA (eB X)) s.heap H1 locs1 → W p l e R s m args below meth c H1 locs1 cells slots Q (F0 m (pc + 3) ls rest)) : W p l e R s m args below meth c H locs cells slots Q (F0 m pc ls (.int v :: .ref a :: rest)) :=
  y_puti (ty := .int) C hW hZ ha i_X15 tyX15 tyX15_ok nmX15 (by decide) rfl rfl (by decide) m_2176 rfl (by decide +kernel) rfl rfl rfl eh hdg kk
theorem gf_X15_314 {a r : Nat} (C : Cx X p s m args meth c RX15 cc nL rt mn) (hW : Wx X h H) (ha : hK h a = 15) (hr : hR h a 39 = some r) (hdg : decode cc pc = .ok (.getfield 314, 3)) (kk : hK h r = 17 → W p l e R s m args below meth c H locs cells slots Q (F0 m (pc + 3) ls (.ref r :: rest))) : W p l e R s m args below meth c H locs cells slots Q (F0 m pc ls (.ref a :: rest)) :=
  y_getr C hW ha i_X15 (by decide) rfl (by decide) m_2150 rfl rfl hr hdg kk
end
theorem dX15_rules_0 : decode cX15_rules 0 = .ok (.aload_n 0, 1) := by decide +kernel
theorem dX15_rules_1 : decode cX15_rules 1 = .ok (.getfield 1, 3) := by decide +kernel
theorem dX15_rules_4 : decode cX15_rules 4 = .ok (.istore_n 1, 1) := by decide +kernel
theorem dX15_rules_5 : decode cX15_rules 5 = .ok (.aload_n 0, 1) := by decide +kernel
theorem dX15_rules_6 : decode cX15_rules 6 = .ok (.iconst 0, 1) := by decide +kernel
theorem dX15_rules_7 : decode cX15_rules 7 = .ok (.putfield 1, 3) := by decide +kernel
theorem dX15_rules_10 : decode cX15_rules 10 = .ok (.aload_n 0, 1) := by decide +kernel
theorem dX15_rules_11 : decode cX15_rules 11 = .ok (.aload_n 0, 1) := by decide +kernel
theorem dX15_rules_12 : decode cX15_rules 12 = .ok (.getfield 7, 3) := by decide +kernel
theorem dX15_rules_15 : decode cX15_rules 15 = .ok (.iload_n 1, 1) := by decide +kernel
theorem dX15_rules_16 : decode cX15_rules 16 = .ok (.invokevirtual 376, 3) := by decide +kernel
theorem dX15_rules_19 : decode cX15_rules 19 = .ok (.ifCond .ne 10, 3) := by decide +kernel
theorem dX15_rules_22 : decode cX15_rules 22 = .ok (.iconst (-1), 1) := by decide +kernel
theorem dX15_rules_23 : decode cX15_rules 23 = .ok (.aload_n 0, 1) := by decide +kernel
theorem dX15_rules_24 : decode cX15_rules 24 = .ok (.getfield 27, 3) := by decide +kernel
theorem dX15_rules_27 : decode cX15_rules 27 = .ok (.isub, 1) := by decide +kernel
theorem dX15_rules_28 : decode cX15_rules 28 = .ok (.ireturn, 1) := by decide +kernel
theorem dX15_rules_29 : decode cX15_rules 29 = .ok (.aload_n 0, 1) := by decide +kernel
theorem dX15_rules_30 : decode cX15_rules 30 = .ok (.invokevirtual 379, 3) := by decide +kernel
theorem dX15_rules_33 : decode cX15_rules 33 = .ok (.iconst 0, 1) := by decide +kernel
theorem dX15_rules_34 : decode cX15_rules 34 = .ok (.istore_n 2, 1) := by decide +kernel
theorem dX15_rules_35 : decode cX15_rules 35 = .ok (.iload_n 2, 1) := by decide +kernel
theorem dX15_rules_36 : decode cX15_rules 36 = .ok (.bipush 60, 2) := by decide +kernel
theorem dX15_rules_38 : decode cX15_rules 38 = .ok (.if_icmp .ge 16, 3) := by decide +kernel
theorem dX15_rules_41 : decode cX15_rules 41 = .ok (.aload_n 0, 1) := by decide +kernel
theorem dX15_rules_42 : decode cX15_rules 42 = .ok (.getfield 261, 3) := by decide +kernel
theorem dX15_rules_45 : decode cX15_rules 45 = .ok (.iload_n 2, 1) := by decide +kernel
theorem dX15_rules_46 : decode cX15_rules 46 = .ok (.iconst 0, 1) := by decide +kernel
theorem dX15_rules_47 : decode cX15_rules 47 = .ok (.iastore, 1) := by decide +kernel
theorem dX15_rules_48 : decode cX15_rules 48 = .ok (.iinc 2 1, 3) := by decide +kernel
theorem dX15_rules_51 : decode cX15_rules 51 = .ok (.goto (-16), 3) := by decide +kernel
theorem dX15_rules_54 : decode cX15_rules 54 = .ok (.iconst 0, 1) := by decide +kernel
theorem dX15_rules_55 : decode cX15_rules 55 = .ok (.istore_n 2, 1) := by decide +kernel
theorem dX15_rules_56 : decode cX15_rules 56 = .ok (.iload_n 2, 1) := by decide +kernel
theorem dX15_rules_57 : decode cX15_rules 57 = .ok (.bipush 8, 2) := by decide +kernel
theorem dX15_rules_59 : decode cX15_rules 59 = .ok (.if_icmp .ge 16, 3) := by decide +kernel
theorem dX15_rules_62 : decode cX15_rules 62 = .ok (.aload_n 0, 1) := by decide +kernel
theorem dX15_rules_63 : decode cX15_rules 63 = .ok (.getfield 314, 3) := by decide +kernel
theorem dX15_rules_66 : decode cX15_rules 66 = .ok (.iload_n 2, 1) := by decide +kernel
theorem dX15_rules_67 : decode cX15_rules 67 = .ok (.iconst (-1), 1) := by decide +kernel
theorem dX15_rules_68 : decode cX15_rules 68 = .ok (.iastore, 1) := by decide +kernel
theorem dX15_rules_69 : decode cX15_rules 69 = .ok (.iinc 2 1, 3) := by decide +kernel
theorem dX15_rules_72 : decode cX15_rules 72 = .ok (.goto (-16), 3) := by decide +kernel
theorem dX15_rules_75 : decode cX15_rules 75 = .ok (.aload_n 0, 1) := by decide +kernel
theorem dX15_rules_76 : decode cX15_rules 76 = .ok (.iconst 0, 1) := by decide +kernel
theorem dX15_rules_77 : decode cX15_rules 77 = .ok (.putfield 387, 3) := by decide +kernel
theorem dX15_rules_80 : decode cX15_rules 80 = .ok (.aload_n 0, 1) := by decide +kernel
theorem dX15_rules_81 : decode cX15_rules 81 = .ok (.iconst 0, 1) := by decide +kernel
theorem dX15_rules_82 : decode cX15_rules 82 = .ok (.putfield 390, 3) := by decide +kernel
theorem dX15_rules_85 : decode cX15_rules 85 = .ok (.aload_n 0, 1) := by decide +kernel
theorem dX15_rules_86 : decode cX15_rules 86 = .ok (.iconst 0, 1) := by decide +kernel
theorem dX15_rules_87 : decode cX15_rules 87 = .ok (.putfield 393, 3) := by decide +kernel
theorem dX15_rules_90 : decode cX15_rules 90 = .ok (.aload_n 0, 1) := by decide +kernel
theorem dX15_rules_91 : decode cX15_rules 91 = .ok (.getfield 252, 3) := by decide +kernel
theorem dX15_rules_94 : decode cX15_rules 94 = .ok (.getfield 169, 3) := by decide +kernel
theorem dX15_rules_97 : decode cX15_rules 97 = .ok (.ireturn, 1) := by decide +kernel
set_option maxRecDepth 20000 in
theorem moX15_rules_56 {o : Int32 × Hp} {F : Nat} : ∀ (f : Nat) {h : Hp} {x0 : Nat} {x2 : Int32}, sX15_rules_56 F f h x0 x2 = some o → Le h o.2 := by
  intro f
  induction f with
  | zero =>
    intro h x0 x2 hE
    rw [sX15_rules_56] at hE
    cases hE
  | succ f ih =>
    intro h x0 x2 hE
    rw [sX15_rules_56] at hE
    have mk_56 : ∀ (h : Hp) (x0 : Nat) (x2 : Int32), sX15_rules_56 F f h x0 x2 = some o → Le h o.2 := fun h x0 x2 hE => ih hE
    rcases br_e hE with ⟨_, hE⟩ | ⟨_, hE⟩
    · obtain ⟨h_2, eh_2, hE⟩ := nm_e2 hE
      refine (le_I eh_2).tr ?_
      obtain ⟨h_3, eh_3, hE⟩ := nm_e2 hE
      refine (le_I eh_3).tr ?_
      obtain ⟨h_4, eh_4, hE⟩ := nm_e2 hE
      refine (le_I eh_4).tr ?_
      obtain ⟨r_5, er_5, hE⟩ := cl_e hE
      exact le_some2 hE
    · obtain ⟨r_6, er_6, hE⟩ := cl_e hE
      obtain ⟨g_7, hE⟩ := gd_e hE
      obtain ⟨h_8, eh_8, hE⟩ := nm_e2 hE
      refine (le_I eh_8).tr ?_
      obtain ⟨v_9, ev_9, hE⟩ := nm_e2 hE
      exact mk_56 _ _ _ hE
set_option maxRecDepth 20000 in
theorem moX15_rules_35 {o : Int32 × Hp} {F : Nat} : ∀ (f : Nat) {h : Hp} {x0 : Nat} {x2 : Int32}, sX15_rules_35 F f h x0 x2 = some o → Le h o.2 := by
  intro f
  induction f with
  | zero =>
    intro h x0 x2 hE
    rw [sX15_rules_35] at hE
    cases hE
  | succ f ih =>
    intro h x0 x2 hE
    rw [sX15_rules_35] at hE
    have mk_35 : ∀ (h : Hp) (x0 : Nat) (x2 : Int32), sX15_rules_35 F f h x0 x2 = some o → Le h o.2 := fun h x0 x2 hE => ih hE
    rcases br_e hE with ⟨_, hE⟩ | ⟨_, hE⟩
    · exact moX15_rules_56 _ hE
    · obtain ⟨r_2, er_2, hE⟩ := cl_e hE
      obtain ⟨g_3, hE⟩ := gd_e hE
      obtain ⟨h_4, eh_4, hE⟩ := nm_e2 hE
      refine (le_I eh_4).tr ?_
      obtain ⟨v_5, ev_5, hE⟩ := nm_e2 hE
      exact mk_35 _ _ _ hE
set_option maxRecDepth 20000 in
theorem moX15_rules {o : Int32 × Hp} {F : Nat} {h : Hp} {x0 : Nat} (hE : sX15_rules F h x0 = some o) : Le h o.2 := by
  obtain ⟨v_1, ev_1, hE⟩ := nm_e2 hE
  obtain ⟨h_2, eh_2, hE⟩ := nm_e2 hE
  refine (le_I eh_2).tr ?_
  obtain ⟨r_3, er_3, hE⟩ := cl_e hE
  obtain ⟨o_4, eo_4, hE⟩ := cl_e hE
  refine (moX15_isRules eo_4).tr ?_
  rcases br_e hE with ⟨_, hE⟩ | ⟨_, hE⟩
  · exact le_some2 hE
  · obtain ⟨o_6, eo_6, hE⟩ := cl_e hE
    refine (moX15_take eo_6).tr ?_
    exact moX15_rules_35 _ hE
set_option maxRecDepth 20000 in
theorem bX15_rules_56 {p : Program} {l : Launch} {e : Env} {s : State} {m : MethodId} {args : Array Value} {below : List Frame} {meth : Method} {c : Code} {X : Ec} {h0 : Hp} {o : Int32 × Hp} {F : Nat} (C : Cx X p s m args meth c RX15 cX15_rules 3 (some .int) "rules") : ∀ (f : Nat) {h : Hp} {x0 : Nat} {x2 : Int32} {H : Heap} {locs : List Loc} (k_x0 : hK h x0 = 15), Km h0 h → Wx X h H → va_S (aA (eB X)) s.heap H locs → ∀ (ls : Array Slot), lv_has ls 3 [(0, .ref x0), (2, .int x2)] → sX15_rules_56 F f h x0 x2 = some o → W p l e (rm 10 222) s m args below meth c H locs 0 0 (MQ below (QI X h0 o.1 o.2) args s 0 0 (aA (eB X))) (F0 m 56 ls []) := by
  intro f
  induction f with
  | zero =>
    intro h x0 x2 H locs k_x0 hkm hW hZ ls hl hE
    rw [sX15_rules_56] at hE
    cases hE
  | succ f ih =>
    intro h x0 x2 H locs k_x0 hkm hW hZ ls hl hE
    rw [sX15_rules_56] at hE
    have hk_56 : ∀ (h : Hp) (x0 : Nat) (x2 : Int32) (H : Heap) (locs : List Loc), hK h x0 = 15 → Km h0 h → Wx X h H → va_S (aA (eB X)) s.heap H locs → ∀ (ls : Array Slot), lv_has ls 3 [(0, .ref x0), (2, .int x2)] → sX15_rules_56 F f h x0 x2 = some o → W p l e (rm 10 222) s m args below meth c H locs 0 0 (MQ below (QI X h0 o.1 o.2) args s 0 0 (aA (eB X))) (F0 m 56 ls []) := fun h x0 x2 H locs k_x0 a b c ls hl hE => ih k_x0 a b c ls hl hE
    refine lv_iload_n C.1 C.2.1 dX15_rules_56 rfl (lv_at hl 1 rfl) ?_
    refine lv_bipush (v := (8 : Int32)) C.1 C.2.1 dX15_rules_57 (by decide) ?_
    refine lv_icmp_ge (tgt := 75) C.1 C.2.1 dX15_rules_59 (by decide) (fun c_1 => ?_) (fun c_1 => ?_)
    · have hE := br_p hE c_1
      refine lv_aload_n C.1 C.2.1 dX15_rules_75 rfl (lv_at hl 0 rfl) ?_
      refine lv_iconst (v := (0 : Int32)) C.1 C.2.1 dX15_rules_76 (by decide) ?_
      obtain ⟨h_2, eh_2, hE⟩ := nm_e2 hE
      refine pf_X15_387 C hW hZ k_x0 eh_2 dX15_rules_77 (fun _ _ hW km hZ => ?_)
      replace hkm := hkm.tr km
      replace k_x0 := km.at k_x0 (by decide)
      refine lv_aload_n C.1 C.2.1 dX15_rules_80 rfl (lv_at hl 0 rfl) ?_
      refine lv_iconst (v := (0 : Int32)) C.1 C.2.1 dX15_rules_81 (by decide) ?_
      obtain ⟨h_3, eh_3, hE⟩ := nm_e2 hE
      refine pf_X15_390 C hW hZ k_x0 eh_3 dX15_rules_82 (fun _ _ hW km hZ => ?_)
      replace hkm := hkm.tr km
      replace k_x0 := km.at k_x0 (by decide)
      refine lv_aload_n C.1 C.2.1 dX15_rules_85 rfl (lv_at hl 0 rfl) ?_
      refine lv_iconst (v := (0 : Int32)) C.1 C.2.1 dX15_rules_86 (by decide) ?_
      obtain ⟨h_4, eh_4, hE⟩ := nm_e2 hE
      refine pf_X15_393 C hW hZ k_x0 eh_4 dX15_rules_87 (fun _ _ hW km hZ => ?_)
      replace hkm := hkm.tr km
      replace k_x0 := km.at k_x0 (by decide)
      refine lv_aload_n C.1 C.2.1 dX15_rules_90 rfl (lv_at hl 0 rfl) ?_
      obtain ⟨r_5, er_5, hE⟩ := cl_e hE
      refine gf_X15_252 C hW k_x0 er_5 dX15_rules_91 (fun k_r_5 => ?_)
      refine gf_X15_169 C hW k_r_5 dX15_rules_94 ?_
      exact x_iret C rfl rfl hW hZ hkm hE dX15_rules_97
    · have hE := br_n hE c_1
      refine lv_aload_n C.1 C.2.1 dX15_rules_62 rfl (lv_at hl 0 rfl) ?_
      obtain ⟨r_6, er_6, hE⟩ := cl_e hE
      refine gf_X15_314 C hW k_x0 er_6 dX15_rules_63 (fun k_r_6 => ?_)
      refine lv_iload_n C.1 C.2.1 dX15_rules_66 rfl (lv_at hl 1 rfl) ?_
      refine lv_iconst (v := (-1 : Int32)) C.1 C.2.1 dX15_rules_67 (by decide) ?_
      obtain ⟨g_7, hE⟩ := gd_e hE
      obtain ⟨h_8, eh_8, hE⟩ := nm_e2 hE
      refine y_iast C hW hZ k_r_6 g_7 eh_8 dX15_rules_68 (fun _ _ hW km hZ => ?_)
      replace hkm := hkm.tr km
      replace k_x0 := km.at k_x0 (by decide)
      obtain ⟨v_9, ev_9, hE⟩ := nm_e2 hE
      refine lv_iinc (v := v_9) (lv' := [(2, .int v_9), (0, .ref x0)]) C.1 C.2.1 dX15_rules_69 hl (k := 1) rfl (by rw [ev_9]; rfl) (by decide) rfl (fun ls hl => ?_)
      refine lv_goto (tgt := 56) C.1 C.2.1 dX15_rules_72 (by decide) ?_
      exact hk_56 _ _ _ _ _ k_x0 hkm hW hZ _ (lv_sub hl [1, 0] rfl) hE
set_option maxRecDepth 20000 in
theorem bX15_rules_35 {p : Program} {l : Launch} {e : Env} {s : State} {m : MethodId} {args : Array Value} {below : List Frame} {meth : Method} {c : Code} {X : Ec} {h0 : Hp} {o : Int32 × Hp} {F : Nat} (C : Cx X p s m args meth c RX15 cX15_rules 3 (some .int) "rules") : ∀ (f : Nat) {h : Hp} {x0 : Nat} {x2 : Int32} {H : Heap} {locs : List Loc} (k_x0 : hK h x0 = 15), Km h0 h → Wx X h H → va_S (aA (eB X)) s.heap H locs → ∀ (ls : Array Slot), lv_has ls 3 [(0, .ref x0), (2, .int x2)] → sX15_rules_35 F f h x0 x2 = some o → W p l e (rm 10 222) s m args below meth c H locs 0 0 (MQ below (QI X h0 o.1 o.2) args s 0 0 (aA (eB X))) (F0 m 35 ls []) := by
  intro f
  induction f with
  | zero =>
    intro h x0 x2 H locs k_x0 hkm hW hZ ls hl hE
    rw [sX15_rules_35] at hE
    cases hE
  | succ f ih =>
    intro h x0 x2 H locs k_x0 hkm hW hZ ls hl hE
    rw [sX15_rules_35] at hE
    have hk_35 : ∀ (h : Hp) (x0 : Nat) (x2 : Int32) (H : Heap) (locs : List Loc), hK h x0 = 15 → Km h0 h → Wx X h H → va_S (aA (eB X)) s.heap H locs → ∀ (ls : Array Slot), lv_has ls 3 [(0, .ref x0), (2, .int x2)] → sX15_rules_35 F f h x0 x2 = some o → W p l e (rm 10 222) s m args below meth c H locs 0 0 (MQ below (QI X h0 o.1 o.2) args s 0 0 (aA (eB X))) (F0 m 35 ls []) := fun h x0 x2 H locs k_x0 a b c ls hl hE => ih k_x0 a b c ls hl hE
    refine lv_iload_n C.1 C.2.1 dX15_rules_35 rfl (lv_at hl 1 rfl) ?_
    refine lv_bipush (v := (60 : Int32)) C.1 C.2.1 dX15_rules_36 (by decide) ?_
    refine lv_icmp_ge (tgt := 54) C.1 C.2.1 dX15_rules_38 (by decide) (fun c_1 => ?_) (fun c_1 => ?_)
    · have hE := br_p hE c_1
      refine lv_iconst (v := (0 : Int32)) C.1 C.2.1 dX15_rules_54 (by decide) ?_
      refine lv_istore_n (lv' := [(2, .int (0 : Int32)), (0, .ref x0)]) C.1 C.2.1 dX15_rules_55 rfl hl (by decide) rfl (fun ls hl => ?_)
      exact bX15_rules_56 C F k_x0 hkm hW hZ _ (lv_sub hl [1, 0] rfl) hE
    · have hE := br_n hE c_1
      refine lv_aload_n C.1 C.2.1 dX15_rules_41 rfl (lv_at hl 0 rfl) ?_
      obtain ⟨r_2, er_2, hE⟩ := cl_e hE
      refine gf_X15_261 C hW k_x0 er_2 dX15_rules_42 (fun k_r_2 => ?_)
      refine lv_iload_n C.1 C.2.1 dX15_rules_45 rfl (lv_at hl 1 rfl) ?_
      refine lv_iconst (v := (0 : Int32)) C.1 C.2.1 dX15_rules_46 (by decide) ?_
      obtain ⟨g_3, hE⟩ := gd_e hE
      obtain ⟨h_4, eh_4, hE⟩ := nm_e2 hE
      refine y_iast C hW hZ k_r_2 g_3 eh_4 dX15_rules_47 (fun _ _ hW km hZ => ?_)
      replace hkm := hkm.tr km
      replace k_x0 := km.at k_x0 (by decide)
      obtain ⟨v_5, ev_5, hE⟩ := nm_e2 hE
      refine lv_iinc (v := v_5) (lv' := [(2, .int v_5), (0, .ref x0)]) C.1 C.2.1 dX15_rules_48 hl (k := 1) rfl (by rw [ev_5]; rfl) (by decide) rfl (fun ls hl => ?_)
      refine lv_goto (tgt := 35) C.1 C.2.1 dX15_rules_51 (by decide) ?_
      exact hk_35 _ _ _ _ _ k_x0 hkm hW hZ _ (lv_sub hl [1, 0] rfl) hE
set_option maxRecDepth 20000 in
theorem ct_X15_rules (l : Launch) (X : Ec) (F : Nat) {h : Hp} {x0 : Nat} {o : Int32 × Hp} (k_x0 : hK h x0 = 15) (hE : sX15_rules F h x0 = some o) : MetI l yX15_rules cX15_rules 3 (some .int) 10 222 X [.ref x0] h o := by
  refine x_met (by decide) (Nat.le_of_ble_eq_true rfl) ?_
  intro p e s m below meth c ls C hl hW hZ
  have hl : lv_has ls 3 [(0, .ref x0)] := hl
  have hkm : Km h h := Km.rf h
  refine lv_aload_n C.1 C.2.1 dX15_rules_0 rfl (lv_at hl 0 rfl) ?_
  refine gf_X15_1 C hW k_x0 dX15_rules_1 ?_
  obtain ⟨v_1, ev_1, hE⟩ := nm_e2 hE
  refine x_nmI ev_1 ?_
  refine lv_istore_n (lv' := [(1, .int v_1), (0, .ref x0)]) C.1 C.2.1 dX15_rules_4 rfl hl (by decide) rfl (fun ls hl => ?_)
  refine lv_aload_n C.1 C.2.1 dX15_rules_5 rfl (lv_at hl 1 rfl) ?_
  refine lv_iconst (v := (0 : Int32)) C.1 C.2.1 dX15_rules_6 (by decide) ?_
  obtain ⟨h_2, eh_2, hE⟩ := nm_e2 hE
  refine pf_X15_1 C hW hZ k_x0 eh_2 dX15_rules_7 (fun _ _ hW km hZ => ?_)
  replace hkm := hkm.tr km
  replace k_x0 := km.at k_x0 (by decide)
  refine lv_aload_n C.1 C.2.1 dX15_rules_10 rfl (lv_at hl 1 rfl) ?_
  refine lv_aload_n C.1 C.2.1 dX15_rules_11 rfl (lv_at hl 1 rfl) ?_
  obtain ⟨r_3, er_3, hE⟩ := cl_e hE
  refine gf_X15_7 C hW k_x0 er_3 dX15_rules_12 (fun k_r_3 => ?_)
  refine lv_iload_n C.1 C.2.1 dX15_rules_15 rfl (lv_at hl 0 rfl) ?_
  obtain ⟨o_4, eo_4, hE⟩ := cl_e hE
  refine x_kI (o := o_4) (z_runV (As := [.ref r_3, .int v_1]) (rest := []) C (ct_X15_isRules l X F k_x0 k_r_3 eo_4) cw_X15_376 hW hZ k_x0 (by decide) rfl rfl rfl hl.1 (Nat.le_of_ble_eq_true rfl) rfl dX15_rules_16 ⟨Nat.le_of_ble_eq_true rfl, Nat.le_of_ble_eq_true rfl⟩ ⟨Nat.le_refl _, Nat.le_refl _⟩) hZ (fun _ _ hW km hZ => ?_)
  replace hkm := hkm.tr km
  replace k_x0 := km.at k_x0 (by decide)
  refine lv_if_ne (tgt := 29) C.1 C.2.1 dX15_rules_19 (by decide) (fun c_5 => ?_) (fun c_5 => ?_)
  · have hE := br_n hE c_5
    refine lv_aload_n C.1 C.2.1 dX15_rules_29 rfl (lv_at hl 1 rfl) ?_
    obtain ⟨o_6, eo_6, hE⟩ := cl_e hE
    refine x_kV (o := o_6) (z_runV (As := []) (rest := []) C (ct_X15_take l X k_x0 eo_6) cw_X15_379 hW hZ k_x0 (by decide) rfl rfl rfl hl.1 (Nat.le_of_ble_eq_true rfl) rfl dX15_rules_30 ⟨Nat.le_of_ble_eq_true rfl, Nat.le_of_ble_eq_true rfl⟩ ⟨Nat.le_refl _, Nat.le_refl _⟩) hZ (fun _ _ hW km hZ => ?_)
    replace hkm := hkm.tr km
    replace k_x0 := km.at k_x0 (by decide)
    refine lv_iconst (v := (0 : Int32)) C.1 C.2.1 dX15_rules_33 (by decide) ?_
    refine lv_istore_n (lv' := [(2, .int (0 : Int32)), (1, .int v_1), (0, .ref x0)]) C.1 C.2.1 dX15_rules_34 rfl hl (by decide) rfl (fun ls hl => ?_)
    exact bX15_rules_35 C F k_x0 hkm hW hZ _ (lv_sub hl [2, 0] rfl) hE
  · have hE := br_p hE c_5
    refine lv_iconst (v := (-1 : Int32)) C.1 C.2.1 dX15_rules_22 (by decide) ?_
    refine lv_aload_n C.1 C.2.1 dX15_rules_23 rfl (lv_at hl 1 rfl) ?_
    refine gf_X15_27 C hW k_x0 dX15_rules_24 ?_
    refine lv_isub C.1 C.2.1 dX15_rules_27 ?_
    exact x_iret C rfl rfl hW hZ hkm hE dX15_rules_28
theorem dX15_told_0 : decode cX15_told 0 = .ok (.iconst 0, 1) := by decide +kernel
theorem dX15_told_1 : decode cX15_told 1 = .ok (.istore_n 2, 1) := by decide +kernel
theorem dX15_told_2 : decode cX15_told 2 = .ok (.iconst 0, 1) := by decide +kernel
theorem dX15_told_3 : decode cX15_told 3 = .ok (.istore_n 3, 1) := by decide +kernel
theorem dX15_told_4 : decode cX15_told 4 = .ok (.iload_n 3, 1) := by decide +kernel
theorem dX15_told_5 : decode cX15_told 5 = .ok (.bipush 60, 2) := by decide +kernel
theorem dX15_told_7 : decode cX15_told 7 = .ok (.if_icmp .ge 26, 3) := by decide +kernel
theorem dX15_told_10 : decode cX15_told 10 = .ok (.iload_n 2, 1) := by decide +kernel
theorem dX15_told_11 : decode cX15_told 11 = .ok (.aload_n 0, 1) := by decide +kernel
theorem dX15_told_12 : decode cX15_told 12 = .ok (.getfield 261, 3) := by decide +kernel
theorem dX15_told_15 : decode cX15_told 15 = .ok (.iload_n 3, 1) := by decide +kernel
theorem dX15_told_16 : decode cX15_told 16 = .ok (.iaload, 1) := by decide +kernel
theorem dX15_told_17 : decode cX15_told 17 = .ok (.ifCond .le 7, 3) := by decide +kernel
theorem dX15_told_20 : decode cX15_told 20 = .ok (.iconst 1, 1) := by decide +kernel
theorem dX15_told_21 : decode cX15_told 21 = .ok (.goto 4, 3) := by decide +kernel
theorem dX15_told_24 : decode cX15_told 24 = .ok (.iconst 0, 1) := by decide +kernel
theorem dX15_told_25 : decode cX15_told 25 = .ok (.iadd, 1) := by decide +kernel
theorem dX15_told_26 : decode cX15_told 26 = .ok (.istore_n 2, 1) := by decide +kernel
theorem dX15_told_27 : decode cX15_told 27 = .ok (.iinc 3 1, 3) := by decide +kernel
theorem dX15_told_30 : decode cX15_told 30 = .ok (.goto (-26), 3) := by decide +kernel
theorem dX15_told_33 : decode cX15_told 33 = .ok (.bipush 8, 2) := by decide +kernel
theorem dX15_told_35 : decode cX15_told 35 = .ok (.newarray .int, 2) := by decide +kernel
theorem dX15_told_37 : decode cX15_told 37 = .ok (.dup, 1) := by decide +kernel
theorem dX15_told_38 : decode cX15_told 38 = .ok (.iconst 0, 1) := by decide +kernel
theorem dX15_told_39 : decode cX15_told 39 = .ok (.aload_n 0, 1) := by decide +kernel
theorem dX15_told_40 : decode cX15_told 40 = .ok (.getfield 382, 3) := by decide +kernel
theorem dX15_told_43 : decode cX15_told 43 = .ok (.iastore, 1) := by decide +kernel
theorem dX15_told_44 : decode cX15_told 44 = .ok (.dup, 1) := by decide +kernel
theorem dX15_told_45 : decode cX15_told 45 = .ok (.iconst 1, 1) := by decide +kernel
theorem dX15_told_46 : decode cX15_told 46 = .ok (.aload_n 0, 1) := by decide +kernel
theorem dX15_told_47 : decode cX15_told 47 = .ok (.getfield 383, 3) := by decide +kernel
theorem dX15_told_50 : decode cX15_told 50 = .ok (.iastore, 1) := by decide +kernel
theorem dX15_told_51 : decode cX15_told 51 = .ok (.dup, 1) := by decide +kernel
theorem dX15_told_52 : decode cX15_told 52 = .ok (.iconst 2, 1) := by decide +kernel
theorem dX15_told_53 : decode cX15_told 53 = .ok (.aload_n 0, 1) := by decide +kernel
theorem dX15_told_54 : decode cX15_told 54 = .ok (.getfield 252, 3) := by decide +kernel
theorem dX15_told_57 : decode cX15_told 57 = .ok (.getfield 169, 3) := by decide +kernel
theorem dX15_told_60 : decode cX15_told 60 = .ok (.iastore, 1) := by decide +kernel
theorem dX15_told_61 : decode cX15_told 61 = .ok (.dup, 1) := by decide +kernel
theorem dX15_told_62 : decode cX15_told 62 = .ok (.iconst 3, 1) := by decide +kernel
theorem dX15_told_63 : decode cX15_told 63 = .ok (.aload_n 0, 1) := by decide +kernel
theorem dX15_told_64 : decode cX15_told 64 = .ok (.getfield 252, 3) := by decide +kernel
theorem dX15_told_67 : decode cX15_told 67 = .ok (.getfield 221, 3) := by decide +kernel
theorem dX15_told_70 : decode cX15_told 70 = .ok (.iastore, 1) := by decide +kernel
theorem dX15_told_71 : decode cX15_told 71 = .ok (.dup, 1) := by decide +kernel
theorem dX15_told_72 : decode cX15_told 72 = .ok (.iconst 4, 1) := by decide +kernel
theorem dX15_told_73 : decode cX15_told 73 = .ok (.aload_n 0, 1) := by decide +kernel
theorem dX15_told_74 : decode cX15_told 74 = .ok (.getfield 252, 3) := by decide +kernel
theorem dX15_told_77 : decode cX15_told 77 = .ok (.getfield 225, 3) := by decide +kernel
theorem dX15_told_80 : decode cX15_told 80 = .ok (.iastore, 1) := by decide +kernel
theorem dX15_told_81 : decode cX15_told 81 = .ok (.dup, 1) := by decide +kernel
theorem dX15_told_82 : decode cX15_told 82 = .ok (.iconst 5, 1) := by decide +kernel
theorem dX15_told_83 : decode cX15_told 83 = .ok (.iload_n 2, 1) := by decide +kernel
theorem dX15_told_84 : decode cX15_told 84 = .ok (.iastore, 1) := by decide +kernel
theorem dX15_told_85 : decode cX15_told 85 = .ok (.dup, 1) := by decide +kernel
theorem dX15_told_86 : decode cX15_told 86 = .ok (.bipush 6, 2) := by decide +kernel
theorem dX15_told_88 : decode cX15_told 88 = .ok (.aload_n 0, 1) := by decide +kernel
theorem dX15_told_89 : decode cX15_told 89 = .ok (.getfield 11, 3) := by decide +kernel
theorem dX15_told_92 : decode cX15_told 92 = .ok (.iastore, 1) := by decide +kernel
theorem dX15_told_93 : decode cX15_told 93 = .ok (.dup, 1) := by decide +kernel
theorem dX15_told_94 : decode cX15_told 94 = .ok (.bipush 7, 2) := by decide +kernel
theorem dX15_told_96 : decode cX15_told 96 = .ok (.aload_n 0, 1) := by decide +kernel
theorem dX15_told_97 : decode cX15_told 97 = .ok (.getfield 1, 3) := by decide +kernel
theorem dX15_told_100 : decode cX15_told 100 = .ok (.iastore, 1) := by decide +kernel
theorem dX15_told_101 : decode cX15_told 101 = .ok (.astore_n 3, 1) := by decide +kernel
theorem dX15_told_102 : decode cX15_told 102 = .ok (.iload_n 1, 1) := by decide +kernel
theorem dX15_told_103 : decode cX15_told 103 = .ok (.ifCond .lt 9, 3) := by decide +kernel
theorem dX15_told_106 : decode cX15_told 106 = .ok (.iload_n 1, 1) := by decide +kernel
theorem dX15_told_107 : decode cX15_told 107 = .ok (.bipush 7, 2) := by decide +kernel
theorem dX15_told_109 : decode cX15_told 109 = .ok (.if_icmp .le 8, 3) := by decide +kernel
theorem dX15_told_112 : decode cX15_told 112 = .ok (.bipush (-101), 2) := by decide +kernel
theorem dX15_told_114 : decode cX15_told 114 = .ok (.goto 6, 3) := by decide +kernel
theorem dX15_told_117 : decode cX15_told 117 = .ok (.aload_n 3, 1) := by decide +kernel
theorem dX15_told_118 : decode cX15_told 118 = .ok (.iload_n 1, 1) := by decide +kernel
theorem dX15_told_119 : decode cX15_told 119 = .ok (.iaload, 1) := by decide +kernel
theorem dX15_told_120 : decode cX15_told 120 = .ok (.ireturn, 1) := by decide +kernel
set_option maxRecDepth 20000 in
theorem moX15_told_120 {o : Int32 × Hp} {F : Nat} {h : Hp} {t0 : Int32} (hE : sX15_told_120 F h  t0 = some o) : Le h o.2 := by
  exact le_some2 hE
set_option maxRecDepth 20000 in
theorem moX15_told_112 {o : Int32 × Hp} {F : Nat} {h : Hp} (hE : sX15_told_112 F h  = some o) : Le h o.2 := by
  exact moX15_told_120 hE
set_option maxRecDepth 20000 in
theorem moX15_told_37 {o : Int32 × Hp} {F : Nat} {h : Hp} {x0 : Nat} {x1 : Int32} {x2 : Int32} {t0 : Nat} (hE : sX15_told_37 F h x0 x1 x2 t0 = some o) : Le h o.2 := by
  obtain ⟨g_1, hE⟩ := gd_e hE
  obtain ⟨h_2, eh_2, hE⟩ := nm_e2 hE
  refine (le_I eh_2).tr ?_
  obtain ⟨g_3, hE⟩ := gd_e hE
  obtain ⟨h_4, eh_4, hE⟩ := nm_e2 hE
  refine (le_I eh_4).tr ?_
  obtain ⟨r_5, er_5, hE⟩ := cl_e hE
  obtain ⟨g_6, hE⟩ := gd_e hE
  obtain ⟨h_7, eh_7, hE⟩ := nm_e2 hE
  refine (le_I eh_7).tr ?_
  obtain ⟨r_8, er_8, hE⟩ := cl_e hE
  obtain ⟨g_9, hE⟩ := gd_e hE
  obtain ⟨h_10, eh_10, hE⟩ := nm_e2 hE
  refine (le_I eh_10).tr ?_
  obtain ⟨r_11, er_11, hE⟩ := cl_e hE
  obtain ⟨g_12, hE⟩ := gd_e hE
  obtain ⟨h_13, eh_13, hE⟩ := nm_e2 hE
  refine (le_I eh_13).tr ?_
  obtain ⟨g_14, hE⟩ := gd_e hE
  obtain ⟨h_15, eh_15, hE⟩ := nm_e2 hE
  refine (le_I eh_15).tr ?_
  obtain ⟨g_16, hE⟩ := gd_e hE
  obtain ⟨h_17, eh_17, hE⟩ := nm_e2 hE
  refine (le_I eh_17).tr ?_
  obtain ⟨g_18, hE⟩ := gd_e hE
  obtain ⟨h_19, eh_19, hE⟩ := nm_e2 hE
  refine (le_I eh_19).tr ?_
  rcases br_e hE with ⟨_, hE⟩ | ⟨_, hE⟩
  · exact moX15_told_112 hE
  · rcases br_e hE with ⟨_, hE⟩ | ⟨_, hE⟩
    · obtain ⟨g_22, hE⟩ := gd_e hE
      exact moX15_told_120 hE
    · exact moX15_told_112 hE
set_option maxRecDepth 20000 in
theorem moX15_told_25 {o : Int32 × Hp} {k_4 : Hp → Nat → Int32 → Int32 → Int32 → Option (Int32 × Hp)} {F : Nat} (mk_4 : ∀ (h : Hp) (x0 : Nat) (x1 : Int32) (x2 : Int32) (x3 : Int32), k_4 h x0 x1 x2 x3 = some o → Le h o.2) {h : Hp} {x0 : Nat} {x1 : Int32} {x3 : Int32} {t0 : Int32} {t1 : Int32} (hE : sX15_told_25 F k_4 h x0 x1 x3 t0 t1 = some o) : Le h o.2 := by
  obtain ⟨v_1, ev_1, hE⟩ := nm_e2 hE
  obtain ⟨v_2, ev_2, hE⟩ := nm_e2 hE
  exact mk_4 _ _ _ _ _ hE
set_option maxRecDepth 20000 in
theorem moX15_told_4 {o : Int32 × Hp} {F : Nat} : ∀ (f : Nat) {h : Hp} {x0 : Nat} {x1 : Int32} {x2 : Int32} {x3 : Int32}, sX15_told_4 F f h x0 x1 x2 x3 = some o → Le h o.2 := by
  intro f
  induction f with
  | zero =>
    intro h x0 x1 x2 x3 hE
    rw [sX15_told_4] at hE
    cases hE
  | succ f ih =>
    intro h x0 x1 x2 x3 hE
    rw [sX15_told_4] at hE
    have mk_4 : ∀ (h : Hp) (x0 : Nat) (x1 : Int32) (x2 : Int32) (x3 : Int32), sX15_told_4 F f h x0 x1 x2 x3 = some o → Le h o.2 := fun h x0 x1 x2 x3 hE => ih hE
    rcases br_e hE with ⟨_, hE⟩ | ⟨_, hE⟩
    · obtain ⟨a_2, ea_2, hE⟩ := nm_e2 hE
      obtain ⟨h_3, eh_3, hE⟩ := nm_e2 hE
      refine (le_C eh_3).tr ?_
      exact moX15_told_37 hE
    · obtain ⟨r_4, er_4, hE⟩ := cl_e hE
      obtain ⟨g_5, hE⟩ := gd_e hE
      rcases br_e hE with ⟨_, hE⟩ | ⟨_, hE⟩
      · exact moX15_told_25 mk_4 hE
      · exact moX15_told_25 mk_4 hE
set_option maxRecDepth 20000 in
theorem moX15_told {o : Int32 × Hp} {F : Nat} {h : Hp} {x0 : Nat} {x1 : Int32} (hE : sX15_told F h x0 x1 = some o) : Le h o.2 := by
  exact moX15_told_4 _ hE
set_option maxRecDepth 20000 in
theorem bX15_told_120 {p : Program} {l : Launch} {e : Env} {s : State} {m : MethodId} {args : Array Value} {below : List Frame} {meth : Method} {c : Code} {X : Ec} {h0 : Hp} {o : Int32 × Hp} {F : Nat} (C : Cx X p s m args meth c RX15 cX15_told 4 (some .int) "told") {h : Hp} {t0 : Int32} {H : Heap} {locs : List Loc} (hkl : Kl h0 h) (hW : Wx X h H) (hZ : va_S (aA (eB X)) s.heap H locs) (ls : Array Slot) (hl : lv_has ls 4 []) (hE : sX15_told_120 F h  t0 = some o) : W p l e (rmA 0 0 h0 o.2) s m args below meth c H locs (hS h - hS h0) (hL h - hL h0) (MQ below (QIA X h0 o.1 o.2) args s (hS o.2 - hS h0) (hL o.2 - hL h0) (aA (eB X))) (F0 m 120 ls [.int t0]) := by
  exact x_iretA C rfl rfl hW hZ hkl hE dX15_told_120
set_option maxRecDepth 20000 in
theorem bX15_told_112 {p : Program} {l : Launch} {e : Env} {s : State} {m : MethodId} {args : Array Value} {below : List Frame} {meth : Method} {c : Code} {X : Ec} {h0 : Hp} {o : Int32 × Hp} {F : Nat} (C : Cx X p s m args meth c RX15 cX15_told 4 (some .int) "told") {h : Hp} {H : Heap} {locs : List Loc} (hkl : Kl h0 h) (hW : Wx X h H) (hZ : va_S (aA (eB X)) s.heap H locs) (ls : Array Slot) (hl : lv_has ls 4 []) (hE : sX15_told_112 F h  = some o) : W p l e (rmA 0 0 h0 o.2) s m args below meth c H locs (hS h - hS h0) (hL h - hL h0) (MQ below (QIA X h0 o.1 o.2) args s (hS o.2 - hS h0) (hL o.2 - hL h0) (aA (eB X))) (F0 m 112 ls []) := by
  refine lv_bipush (v := (-101 : Int32)) C.1 C.2.1 dX15_told_112 (by decide) ?_
  refine lv_goto (tgt := 120) C.1 C.2.1 dX15_told_114 (by decide) ?_
  exact bX15_told_120 C hkl hW hZ _ (lv_sub hl [] rfl) hE
set_option maxRecDepth 20000 in
theorem bX15_told_37 {p : Program} {l : Launch} {e : Env} {s : State} {m : MethodId} {args : Array Value} {below : List Frame} {meth : Method} {c : Code} {X : Ec} {h0 : Hp} {o : Int32 × Hp} {F : Nat} (C : Cx X p s m args meth c RX15 cX15_told 4 (some .int) "told") {h : Hp} {x0 : Nat} {x1 : Int32} {x2 : Int32} {t0 : Nat} {H : Heap} {locs : List Loc} (k_x0 : hK h x0 = 15) (k_t0 : hK h t0 = 17) (hkl : Kl h0 h) (hW : Wx X h H) (hZ : va_S (aA (eB X)) s.heap H locs) (ls : Array Slot) (hl : lv_has ls 4 [(0, .ref x0), (1, .int x1), (2, .int x2)]) (hE : sX15_told_37 F h x0 x1 x2 t0 = some o) : W p l e (rmA 0 0 h0 o.2) s m args below meth c H locs (hS h - hS h0) (hL h - hL h0) (MQ below (QIA X h0 o.1 o.2) args s (hS o.2 - hS h0) (hL o.2 - hL h0) (aA (eB X))) (F0 m 37 ls [.ref t0]) := by
  refine lv_dup C.1 C.2.1 dX15_told_37 rfl ?_
  refine lv_iconst (v := (0 : Int32)) C.1 C.2.1 dX15_told_38 (by decide) ?_
  refine lv_aload_n C.1 C.2.1 dX15_told_39 rfl (lv_at hl 0 rfl) ?_
  refine gf_X15_382 C hW k_x0 dX15_told_40 ?_
  obtain ⟨g_1, hE⟩ := gd_e hE
  obtain ⟨h_2, eh_2, hE⟩ := nm_e2 hE
  refine y_iast C hW hZ k_t0 g_1 eh_2 dX15_told_43 (fun _ _ hW km hZ => ?_)
  replace hkl := hkl.tr km.l
  refine x_wc km ?_
  replace k_x0 := km.at k_x0 (by decide)
  replace k_t0 := km.at k_t0 (by decide)
  refine lv_dup C.1 C.2.1 dX15_told_44 rfl ?_
  refine lv_iconst (v := (1 : Int32)) C.1 C.2.1 dX15_told_45 (by decide) ?_
  refine lv_aload_n C.1 C.2.1 dX15_told_46 rfl (lv_at hl 0 rfl) ?_
  refine gf_X15_383 C hW k_x0 dX15_told_47 ?_
  obtain ⟨g_3, hE⟩ := gd_e hE
  obtain ⟨h_4, eh_4, hE⟩ := nm_e2 hE
  refine y_iast C hW hZ k_t0 g_3 eh_4 dX15_told_50 (fun _ _ hW km hZ => ?_)
  replace hkl := hkl.tr km.l
  refine x_wc km ?_
  replace k_x0 := km.at k_x0 (by decide)
  replace k_t0 := km.at k_t0 (by decide)
  refine lv_dup C.1 C.2.1 dX15_told_51 rfl ?_
  refine lv_iconst (v := (2 : Int32)) C.1 C.2.1 dX15_told_52 (by decide) ?_
  refine lv_aload_n C.1 C.2.1 dX15_told_53 rfl (lv_at hl 0 rfl) ?_
  obtain ⟨r_5, er_5, hE⟩ := cl_e hE
  refine gf_X15_252 C hW k_x0 er_5 dX15_told_54 (fun k_r_5 => ?_)
  refine gf_X15_169 C hW k_r_5 dX15_told_57 ?_
  obtain ⟨g_6, hE⟩ := gd_e hE
  obtain ⟨h_7, eh_7, hE⟩ := nm_e2 hE
  refine y_iast C hW hZ k_t0 g_6 eh_7 dX15_told_60 (fun _ _ hW km hZ => ?_)
  replace hkl := hkl.tr km.l
  refine x_wc km ?_
  replace k_x0 := km.at k_x0 (by decide)
  replace k_t0 := km.at k_t0 (by decide)
  refine lv_dup C.1 C.2.1 dX15_told_61 rfl ?_
  refine lv_iconst (v := (3 : Int32)) C.1 C.2.1 dX15_told_62 (by decide) ?_
  refine lv_aload_n C.1 C.2.1 dX15_told_63 rfl (lv_at hl 0 rfl) ?_
  obtain ⟨r_8, er_8, hE⟩ := cl_e hE
  refine gf_X15_252 C hW k_x0 er_8 dX15_told_64 (fun k_r_8 => ?_)
  refine gf_X15_221 C hW k_r_8 dX15_told_67 ?_
  obtain ⟨g_9, hE⟩ := gd_e hE
  obtain ⟨h_10, eh_10, hE⟩ := nm_e2 hE
  refine y_iast C hW hZ k_t0 g_9 eh_10 dX15_told_70 (fun _ _ hW km hZ => ?_)
  replace hkl := hkl.tr km.l
  refine x_wc km ?_
  replace k_x0 := km.at k_x0 (by decide)
  replace k_t0 := km.at k_t0 (by decide)
  refine lv_dup C.1 C.2.1 dX15_told_71 rfl ?_
  refine lv_iconst (v := (4 : Int32)) C.1 C.2.1 dX15_told_72 (by decide) ?_
  refine lv_aload_n C.1 C.2.1 dX15_told_73 rfl (lv_at hl 0 rfl) ?_
  obtain ⟨r_11, er_11, hE⟩ := cl_e hE
  refine gf_X15_252 C hW k_x0 er_11 dX15_told_74 (fun k_r_11 => ?_)
  refine gf_X15_225 C hW k_r_11 dX15_told_77 ?_
  obtain ⟨g_12, hE⟩ := gd_e hE
  obtain ⟨h_13, eh_13, hE⟩ := nm_e2 hE
  refine y_iast C hW hZ k_t0 g_12 eh_13 dX15_told_80 (fun _ _ hW km hZ => ?_)
  replace hkl := hkl.tr km.l
  refine x_wc km ?_
  replace k_x0 := km.at k_x0 (by decide)
  replace k_t0 := km.at k_t0 (by decide)
  refine lv_dup C.1 C.2.1 dX15_told_81 rfl ?_
  refine lv_iconst (v := (5 : Int32)) C.1 C.2.1 dX15_told_82 (by decide) ?_
  refine lv_iload_n C.1 C.2.1 dX15_told_83 rfl (lv_at hl 2 rfl) ?_
  obtain ⟨g_14, hE⟩ := gd_e hE
  obtain ⟨h_15, eh_15, hE⟩ := nm_e2 hE
  refine y_iast C hW hZ k_t0 g_14 eh_15 dX15_told_84 (fun _ _ hW km hZ => ?_)
  replace hkl := hkl.tr km.l
  refine x_wc km ?_
  replace k_x0 := km.at k_x0 (by decide)
  replace k_t0 := km.at k_t0 (by decide)
  refine lv_dup C.1 C.2.1 dX15_told_85 rfl ?_
  refine lv_bipush (v := (6 : Int32)) C.1 C.2.1 dX15_told_86 (by decide) ?_
  refine lv_aload_n C.1 C.2.1 dX15_told_88 rfl (lv_at hl 0 rfl) ?_
  refine gf_X15_11 C hW k_x0 dX15_told_89 ?_
  obtain ⟨g_16, hE⟩ := gd_e hE
  obtain ⟨h_17, eh_17, hE⟩ := nm_e2 hE
  refine y_iast C hW hZ k_t0 g_16 eh_17 dX15_told_92 (fun _ _ hW km hZ => ?_)
  replace hkl := hkl.tr km.l
  refine x_wc km ?_
  replace k_x0 := km.at k_x0 (by decide)
  replace k_t0 := km.at k_t0 (by decide)
  refine lv_dup C.1 C.2.1 dX15_told_93 rfl ?_
  refine lv_bipush (v := (7 : Int32)) C.1 C.2.1 dX15_told_94 (by decide) ?_
  refine lv_aload_n C.1 C.2.1 dX15_told_96 rfl (lv_at hl 0 rfl) ?_
  refine gf_X15_1 C hW k_x0 dX15_told_97 ?_
  obtain ⟨g_18, hE⟩ := gd_e hE
  obtain ⟨h_19, eh_19, hE⟩ := nm_e2 hE
  refine y_iast C hW hZ k_t0 g_18 eh_19 dX15_told_100 (fun _ _ hW km hZ => ?_)
  replace hkl := hkl.tr km.l
  refine x_wc km ?_
  replace k_x0 := km.at k_x0 (by decide)
  replace k_t0 := km.at k_t0 (by decide)
  refine lv_astore_n (lv' := [(3, .ref t0), (0, .ref x0), (1, .int x1), (2, .int x2)]) C.1 C.2.1 dX15_told_101 rfl hl (by decide) rfl (fun ls hl => ?_)
  refine lv_iload_n C.1 C.2.1 dX15_told_102 rfl (lv_at hl 2 rfl) ?_
  refine lv_if_lt (tgt := 112) C.1 C.2.1 dX15_told_103 (by decide) (fun c_20 => ?_) (fun c_20 => ?_)
  · have hE := br_p hE c_20
    exact bX15_told_112 C hkl hW hZ _ (lv_sub hl [] rfl) hE
  · have hE := br_n hE c_20
    refine lv_iload_n C.1 C.2.1 dX15_told_106 rfl (lv_at hl 2 rfl) ?_
    refine lv_bipush (v := (7 : Int32)) C.1 C.2.1 dX15_told_107 (by decide) ?_
    refine lv_icmp_le (tgt := 117) C.1 C.2.1 dX15_told_109 (by decide) (fun c_21 => ?_) (fun c_21 => ?_)
    · have hE := br_p hE c_21
      refine lv_aload_n C.1 C.2.1 dX15_told_117 rfl (lv_at hl 0 rfl) ?_
      refine lv_iload_n C.1 C.2.1 dX15_told_118 rfl (lv_at hl 2 rfl) ?_
      obtain ⟨g_22, hE⟩ := gd_e hE
      refine y_iald C hW k_t0 g_22 dX15_told_119 ?_
      exact bX15_told_120 C hkl hW hZ _ (lv_sub hl [] rfl) hE
    · have hE := br_n hE c_21
      exact bX15_told_112 C hkl hW hZ _ (lv_sub hl [] rfl) hE
set_option maxRecDepth 20000 in
theorem bX15_told_25 {p : Program} {l : Launch} {e : Env} {s : State} {m : MethodId} {args : Array Value} {below : List Frame} {meth : Method} {c : Code} {X : Ec} {h0 : Hp} {o : Int32 × Hp} {k_4 : Hp → Nat → Int32 → Int32 → Int32 → Option (Int32 × Hp)} {F : Nat} (C : Cx X p s m args meth c RX15 cX15_told 4 (some .int) "told") (hk_4 : ∀ (h : Hp) (x0 : Nat) (x1 : Int32) (x2 : Int32) (x3 : Int32) (H : Heap) (locs : List Loc), hK h x0 = 15 → Kl h0 h → Wx X h H → va_S (aA (eB X)) s.heap H locs → ∀ (ls : Array Slot), lv_has ls 4 [(0, .ref x0), (1, .int x1), (2, .int x2), (3, .int x3)] → k_4 h x0 x1 x2 x3 = some o → W p l e (rmA 0 0 h0 o.2) s m args below meth c H locs (hS h - hS h0) (hL h - hL h0) (MQ below (QIA X h0 o.1 o.2) args s (hS o.2 - hS h0) (hL o.2 - hL h0) (aA (eB X))) (F0 m 4 ls [])) (mk_4 : ∀ (h : Hp) (x0 : Nat) (x1 : Int32) (x2 : Int32) (x3 : Int32), k_4 h x0 x1 x2 x3 = some o → Le h o.2) {h : Hp} {x0 : Nat} {x1 : Int32} {x3 : Int32} {t0 : Int32} {t1 : Int32} {H : Heap} {locs : List Loc} (k_x0 : hK h x0 = 15) (hkl : Kl h0 h) (hW : Wx X h H) (hZ : va_S (aA (eB X)) s.heap H locs) (ls : Array Slot) (hl : lv_has ls 4 [(0, .ref x0), (1, .int x1), (3, .int x3)]) (hE : sX15_told_25 F k_4 h x0 x1 x3 t0 t1 = some o) : W p l e (rmA 0 0 h0 o.2) s m args below meth c H locs (hS h - hS h0) (hL h - hL h0) (MQ below (QIA X h0 o.1 o.2) args s (hS o.2 - hS h0) (hL o.2 - hL h0) (aA (eB X))) (F0 m 25 ls [.int t0, .int t1]) := by
  refine lv_iadd C.1 C.2.1 dX15_told_25 ?_
  obtain ⟨v_1, ev_1, hE⟩ := nm_e2 hE
  refine x_nmI ev_1 ?_
  refine lv_istore_n (lv' := [(2, .int v_1), (0, .ref x0), (1, .int x1), (3, .int x3)]) C.1 C.2.1 dX15_told_26 rfl hl (by decide) rfl (fun ls hl => ?_)
  obtain ⟨v_2, ev_2, hE⟩ := nm_e2 hE
  refine lv_iinc (v := v_2) (lv' := [(3, .int v_2), (2, .int v_1), (0, .ref x0), (1, .int x1)]) C.1 C.2.1 dX15_told_27 hl (k := 3) rfl (by rw [ev_2]; rfl) (by decide) rfl (fun ls hl => ?_)
  refine lv_goto (tgt := 4) C.1 C.2.1 dX15_told_30 (by decide) ?_
  exact hk_4 _ _ _ _ _ _ _ k_x0 hkl hW hZ _ (lv_sub hl [2, 3, 1, 0] rfl) hE
set_option maxRecDepth 20000 in
theorem bX15_told_4 {p : Program} {l : Launch} {e : Env} {s : State} {m : MethodId} {args : Array Value} {below : List Frame} {meth : Method} {c : Code} {X : Ec} {h0 : Hp} {o : Int32 × Hp} {F : Nat} (C : Cx X p s m args meth c RX15 cX15_told 4 (some .int) "told") : ∀ (f : Nat) {h : Hp} {x0 : Nat} {x1 : Int32} {x2 : Int32} {x3 : Int32} {H : Heap} {locs : List Loc} (k_x0 : hK h x0 = 15), Kl h0 h → Wx X h H → va_S (aA (eB X)) s.heap H locs → ∀ (ls : Array Slot), lv_has ls 4 [(0, .ref x0), (1, .int x1), (2, .int x2), (3, .int x3)] → sX15_told_4 F f h x0 x1 x2 x3 = some o → W p l e (rmA 0 0 h0 o.2) s m args below meth c H locs (hS h - hS h0) (hL h - hL h0) (MQ below (QIA X h0 o.1 o.2) args s (hS o.2 - hS h0) (hL o.2 - hL h0) (aA (eB X))) (F0 m 4 ls []) := by
  intro f
  induction f with
  | zero =>
    intro h x0 x1 x2 x3 H locs k_x0 hkl hW hZ ls hl hE
    rw [sX15_told_4] at hE
    cases hE
  | succ f ih =>
    intro h x0 x1 x2 x3 H locs k_x0 hkl hW hZ ls hl hE
    rw [sX15_told_4] at hE
    have mk_4 : ∀ (h : Hp) (x0 : Nat) (x1 : Int32) (x2 : Int32) (x3 : Int32), sX15_told_4 F f h x0 x1 x2 x3 = some o → Le h o.2 := fun h x0 x1 x2 x3 hE => moX15_told_4 _ hE
    have hk_4 : ∀ (h : Hp) (x0 : Nat) (x1 : Int32) (x2 : Int32) (x3 : Int32) (H : Heap) (locs : List Loc), hK h x0 = 15 → Kl h0 h → Wx X h H → va_S (aA (eB X)) s.heap H locs → ∀ (ls : Array Slot), lv_has ls 4 [(0, .ref x0), (1, .int x1), (2, .int x2), (3, .int x3)] → sX15_told_4 F f h x0 x1 x2 x3 = some o → W p l e (rmA 0 0 h0 o.2) s m args below meth c H locs (hS h - hS h0) (hL h - hL h0) (MQ below (QIA X h0 o.1 o.2) args s (hS o.2 - hS h0) (hL o.2 - hL h0) (aA (eB X))) (F0 m 4 ls []) := fun h x0 x1 x2 x3 H locs k_x0 a b c ls hl hE => ih k_x0 a b c ls hl hE
    refine lv_iload_n C.1 C.2.1 dX15_told_4 rfl (lv_at hl 3 rfl) ?_
    refine lv_bipush (v := (60 : Int32)) C.1 C.2.1 dX15_told_5 (by decide) ?_
    refine lv_icmp_ge (tgt := 33) C.1 C.2.1 dX15_told_7 (by decide) (fun c_1 => ?_) (fun c_1 => ?_)
    · have hE := br_p hE c_1
      refine lv_bipush (v := (8 : Int32)) C.1 C.2.1 dX15_told_33 (by decide) ?_
      obtain ⟨a_2, ea_2, hE⟩ := nm_e2 hE
      obtain ⟨h_3, eh_3, hE⟩ := nm_e2 hE
      refine y_newa (k := 17) (ty := .int) (t0 := 1) C hW hZ hkl (moX15_told_37 hE) ⟨rfl, rfl⟩ (by decide) (by decide) rfl rfl (by intro C hC; cases hC) hdef_17 m_54 (by decide) (by decide) eh_3 dX15_told_35 (fun _ hW km k_a_2 hZ => ?_)
      replace hkl := hkl.tr km
      refine x_nmA ea_2 ?_
      rw [← ea_2] at k_a_2
      replace k_x0 := km.at k_x0 (by decide)
      exact bX15_told_37 C k_x0 k_a_2 hkl hW hZ _ (lv_sub hl [0, 1, 2] rfl) hE
    · have hE := br_n hE c_1
      refine lv_iload_n C.1 C.2.1 dX15_told_10 rfl (lv_at hl 2 rfl) ?_
      refine lv_aload_n C.1 C.2.1 dX15_told_11 rfl (lv_at hl 0 rfl) ?_
      obtain ⟨r_4, er_4, hE⟩ := cl_e hE
      refine gf_X15_261 C hW k_x0 er_4 dX15_told_12 (fun k_r_4 => ?_)
      refine lv_iload_n C.1 C.2.1 dX15_told_15 rfl (lv_at hl 3 rfl) ?_
      obtain ⟨g_5, hE⟩ := gd_e hE
      refine y_iald C hW k_r_4 g_5 dX15_told_16 ?_
      refine lv_if_le (tgt := 24) C.1 C.2.1 dX15_told_17 (by decide) (fun c_6 => ?_) (fun c_6 => ?_)
      · have hE := br_p hE c_6
        refine lv_iconst (v := (0 : Int32)) C.1 C.2.1 dX15_told_24 (by decide) ?_
        exact bX15_told_25 C hk_4 mk_4 k_x0 hkl hW hZ _ (lv_sub hl [0, 1, 3] rfl) hE
      · have hE := br_n hE c_6
        refine lv_iconst (v := (1 : Int32)) C.1 C.2.1 dX15_told_20 (by decide) ?_
        refine lv_goto (tgt := 25) C.1 C.2.1 dX15_told_21 (by decide) ?_
        exact bX15_told_25 C hk_4 mk_4 k_x0 hkl hW hZ _ (lv_sub hl [0, 1, 3] rfl) hE
set_option maxRecDepth 20000 in
theorem ct_X15_told (l : Launch) (X : Ec) (F : Nat) {h : Hp} {x0 : Nat} {x1 : Int32} {o : Int32 × Hp} (k_x0 : hK h x0 = 15) (hE : sX15_told F h x0 x1 = some o) : MetIA l yX15_told cX15_told 4 (some .int) 0 0 X [.ref x0, .int x1] h o := by
  refine x_metA (oh := o.2) (by decide) (Nat.le_of_ble_eq_true rfl) ?_
  intro p e s m below meth c ls C hl hW hZ
  have hl : lv_has ls 4 [(0, .ref x0), (1, .int x1)] := hl
  have hkl : Kl h h := Kl.rf h
  refine lv_iconst (v := (0 : Int32)) C.1 C.2.1 dX15_told_0 (by decide) ?_
  refine lv_istore_n (lv' := [(2, .int (0 : Int32)), (0, .ref x0), (1, .int x1)]) C.1 C.2.1 dX15_told_1 rfl hl (by decide) rfl (fun ls hl => ?_)
  refine lv_iconst (v := (0 : Int32)) C.1 C.2.1 dX15_told_2 (by decide) ?_
  refine lv_istore_n (lv' := [(3, .int (0 : Int32)), (2, .int (0 : Int32)), (0, .ref x0), (1, .int x1)]) C.1 C.2.1 dX15_told_3 rfl hl (by decide) rfl (fun ls hl => ?_)
  exact bX15_told_4 C F k_x0 hkl hW hZ _ (lv_sub hl [2, 3, 1, 0] rfl) hE
theorem dX15_freePlace_0 : decode cX15_freePlace 0 = .ok (.iconst 0, 1) := by decide +kernel
theorem dX15_freePlace_1 : decode cX15_freePlace 1 = .ok (.istore_n 1, 1) := by decide +kernel
theorem dX15_freePlace_2 : decode cX15_freePlace 2 = .ok (.iload_n 1, 1) := by decide +kernel
theorem dX15_freePlace_3 : decode cX15_freePlace 3 = .ok (.bipush 60, 2) := by decide +kernel
theorem dX15_freePlace_5 : decode cX15_freePlace 5 = .ok (.if_icmp .ge 20, 3) := by decide +kernel
theorem dX15_freePlace_8 : decode cX15_freePlace 8 = .ok (.aload_n 0, 1) := by decide +kernel
theorem dX15_freePlace_9 : decode cX15_freePlace 9 = .ok (.getfield 261, 3) := by decide +kernel
theorem dX15_freePlace_12 : decode cX15_freePlace 12 = .ok (.iload_n 1, 1) := by decide +kernel
theorem dX15_freePlace_13 : decode cX15_freePlace 13 = .ok (.iaload, 1) := by decide +kernel
theorem dX15_freePlace_14 : decode cX15_freePlace 14 = .ok (.ifCond .ne 5, 3) := by decide +kernel
theorem dX15_freePlace_17 : decode cX15_freePlace 17 = .ok (.iload_n 1, 1) := by decide +kernel
theorem dX15_freePlace_18 : decode cX15_freePlace 18 = .ok (.ireturn, 1) := by decide +kernel
theorem dX15_freePlace_19 : decode cX15_freePlace 19 = .ok (.iinc 1 1, 3) := by decide +kernel
theorem dX15_freePlace_22 : decode cX15_freePlace 22 = .ok (.goto (-20), 3) := by decide +kernel
theorem dX15_freePlace_25 : decode cX15_freePlace 25 = .ok (.iconst (-1), 1) := by decide +kernel
theorem dX15_freePlace_26 : decode cX15_freePlace 26 = .ok (.ireturn, 1) := by decide +kernel
set_option maxRecDepth 20000 in
theorem moX15_freePlace_2 {o : Int32 × Hp} {F : Nat} : ∀ (f : Nat) {h : Hp} {x0 : Nat} {x1 : Int32}, sX15_freePlace_2 F f h x0 x1 = some o → Le h o.2 := by
  intro f
  induction f with
  | zero =>
    intro h x0 x1 hE
    rw [sX15_freePlace_2] at hE
    cases hE
  | succ f ih =>
    intro h x0 x1 hE
    rw [sX15_freePlace_2] at hE
    have mk_2 : ∀ (h : Hp) (x0 : Nat) (x1 : Int32), sX15_freePlace_2 F f h x0 x1 = some o → Le h o.2 := fun h x0 x1 hE => ih hE
    rcases br_e hE with ⟨_, hE⟩ | ⟨_, hE⟩
    · exact le_some2 hE
    · obtain ⟨r_2, er_2, hE⟩ := cl_e hE
      obtain ⟨g_3, hE⟩ := gd_e hE
      rcases br_e hE with ⟨_, hE⟩ | ⟨_, hE⟩
      · exact le_some2 hE
      · obtain ⟨v_5, ev_5, hE⟩ := nm_e2 hE
        exact mk_2 _ _ _ hE
set_option maxRecDepth 20000 in
theorem moX15_freePlace {o : Int32 × Hp} {F : Nat} {h : Hp} {x0 : Nat} (hE : sX15_freePlace F h x0 = some o) : Le h o.2 := by
  exact moX15_freePlace_2 _ hE
set_option maxRecDepth 20000 in
theorem bX15_freePlace_2 {p : Program} {l : Launch} {e : Env} {s : State} {m : MethodId} {args : Array Value} {below : List Frame} {meth : Method} {c : Code} {X : Ec} {h0 : Hp} {o : Int32 × Hp} {F : Nat} (C : Cx X p s m args meth c RX15 cX15_freePlace 2 (some .int) "freePlace") : ∀ (f : Nat) {h : Hp} {x0 : Nat} {x1 : Int32} {H : Heap} {locs : List Loc} (k_x0 : hK h x0 = 15), Km h0 h → Wx X h H → va_S (aA (eB X)) s.heap H locs → ∀ (ls : Array Slot), lv_has ls 2 [(0, .ref x0), (1, .int x1)] → sX15_freePlace_2 F f h x0 x1 = some o → W p l e (rm 0 0) s m args below meth c H locs 0 0 (MQ below (QI X h0 o.1 o.2) args s 0 0 (aA (eB X))) (F0 m 2 ls []) := by
  intro f
  induction f with
  | zero =>
    intro h x0 x1 H locs k_x0 hkm hW hZ ls hl hE
    rw [sX15_freePlace_2] at hE
    cases hE
  | succ f ih =>
    intro h x0 x1 H locs k_x0 hkm hW hZ ls hl hE
    rw [sX15_freePlace_2] at hE
    have hk_2 : ∀ (h : Hp) (x0 : Nat) (x1 : Int32) (H : Heap) (locs : List Loc), hK h x0 = 15 → Km h0 h → Wx X h H → va_S (aA (eB X)) s.heap H locs → ∀ (ls : Array Slot), lv_has ls 2 [(0, .ref x0), (1, .int x1)] → sX15_freePlace_2 F f h x0 x1 = some o → W p l e (rm 0 0) s m args below meth c H locs 0 0 (MQ below (QI X h0 o.1 o.2) args s 0 0 (aA (eB X))) (F0 m 2 ls []) := fun h x0 x1 H locs k_x0 a b c ls hl hE => ih k_x0 a b c ls hl hE
    refine lv_iload_n C.1 C.2.1 dX15_freePlace_2 rfl (lv_at hl 1 rfl) ?_
    refine lv_bipush (v := (60 : Int32)) C.1 C.2.1 dX15_freePlace_3 (by decide) ?_
    refine lv_icmp_ge (tgt := 25) C.1 C.2.1 dX15_freePlace_5 (by decide) (fun c_1 => ?_) (fun c_1 => ?_)
    · have hE := br_p hE c_1
      refine lv_iconst (v := (-1 : Int32)) C.1 C.2.1 dX15_freePlace_25 (by decide) ?_
      exact x_iret C rfl rfl hW hZ hkm hE dX15_freePlace_26
    · have hE := br_n hE c_1
      refine lv_aload_n C.1 C.2.1 dX15_freePlace_8 rfl (lv_at hl 0 rfl) ?_
      obtain ⟨r_2, er_2, hE⟩ := cl_e hE
      refine gf_X15_261 C hW k_x0 er_2 dX15_freePlace_9 (fun k_r_2 => ?_)
      refine lv_iload_n C.1 C.2.1 dX15_freePlace_12 rfl (lv_at hl 1 rfl) ?_
      obtain ⟨g_3, hE⟩ := gd_e hE
      refine y_iald C hW k_r_2 g_3 dX15_freePlace_13 ?_
      refine lv_if_ne (tgt := 19) C.1 C.2.1 dX15_freePlace_14 (by decide) (fun c_4 => ?_) (fun c_4 => ?_)
      · have hE := br_n hE c_4
        obtain ⟨v_5, ev_5, hE⟩ := nm_e2 hE
        refine lv_iinc (v := v_5) (lv' := [(1, .int v_5), (0, .ref x0)]) C.1 C.2.1 dX15_freePlace_19 hl (k := 1) rfl (by rw [ev_5]; rfl) (by decide) rfl (fun ls hl => ?_)
        refine lv_goto (tgt := 2) C.1 C.2.1 dX15_freePlace_22 (by decide) ?_
        exact hk_2 _ _ _ _ _ k_x0 hkm hW hZ _ (lv_sub hl [1, 0] rfl) hE
      · have hE := br_p hE c_4
        refine lv_iload_n C.1 C.2.1 dX15_freePlace_17 rfl (lv_at hl 1 rfl) ?_
        exact x_iret C rfl rfl hW hZ hkm hE dX15_freePlace_18
set_option maxRecDepth 20000 in
theorem ct_X15_freePlace (l : Launch) (X : Ec) (F : Nat) {h : Hp} {x0 : Nat} {o : Int32 × Hp} (k_x0 : hK h x0 = 15) (hE : sX15_freePlace F h x0 = some o) : MetI l yX15_freePlace cX15_freePlace 2 (some .int) 0 0 X [.ref x0] h o := by
  refine x_met (by decide) (Nat.le_of_ble_eq_true rfl) ?_
  intro p e s m below meth c ls C hl hW hZ
  have hl : lv_has ls 2 [(0, .ref x0)] := hl
  have hkm : Km h h := Km.rf h
  refine lv_iconst (v := (0 : Int32)) C.1 C.2.1 dX15_freePlace_0 (by decide) ?_
  refine lv_istore_n (lv' := [(1, .int (0 : Int32)), (0, .ref x0)]) C.1 C.2.1 dX15_freePlace_1 rfl hl (by decide) rfl (fun ls hl => ?_)
  exact bX15_freePlace_2 C F k_x0 hkm hW hZ _ (lv_sub hl [1, 0] rfl) hE
set_option maxRecDepth 100000 in
theorem m_2128 : Cond.fieldLink RX15 418 (TX15 17).1 (TX15 17).2.1 (TX15 17).2.2.1 ∈ W0 := w0_in (List.mem_append_right _ (List.mem_of_getElem? (i := 2128) rfl)) rfl
set_option maxRecDepth 100000 in
theorem m_2129 : Cond.fieldLink RX15 415 (TX15 18).1 (TX15 18).2.1 (TX15 18).2.2.1 ∈ W0 := w0_in (List.mem_append_right _ (List.mem_of_getElem? (i := 2129) rfl)) rfl
set_option maxRecDepth 100000 in
theorem m_2130 : Cond.fieldLink RX15 412 (TX15 19).1 (TX15 19).2.1 (TX15 19).2.2.1 ∈ W0 := w0_in (List.mem_append_right _ (List.mem_of_getElem? (i := 2130) rfl)) rfl
section
variable {p : Program} {l : Launch} {e : Env} {R : Room} {s : State} {m : MethodId} {args : Array Value} {below : List Frame} {meth : Method} {c : Code} {H : Heap} {locs : List Loc} {cells slots : Nat} {Q : State → Prop}
variable {cc : ByteArray} {pc : Nat} {ls : Array Slot} {rest : List Value} {X : Ec} {h h1 : Hp} {nL : Nat} {rt : Option FieldType} {mn : String}
theorem gf_X15_412 {a : Nat} (C : Cx X p s m args meth c RX15 cc nL rt mn) (hW : Wx X h H) (ha : hK h a = 15) (hdg : decode cc pc = .ok (.getfield 412, 3)) (kk : W p l e R s m args below meth c H locs cells slots Q (F0 m (pc + 3) ls (.int (hI h a 19) :: rest))) : W p l e R s m args below meth c H locs cells slots Q (F0 m pc ls (.ref a :: rest)) :=
  y_geti C hW ha i_X15 (by decide) rfl (by decide) m_2130 rfl hdg kk
theorem gf_X15_415 {a : Nat} (C : Cx X p s m args meth c RX15 cc nL rt mn) (hW : Wx X h H) (ha : hK h a = 15) (hdg : decode cc pc = .ok (.getfield 415, 3)) (kk : W p l e R s m args below meth c H locs cells slots Q (F0 m (pc + 3) ls (.int (hI h a 18) :: rest))) : W p l e R s m args below meth c H locs cells slots Q (F0 m pc ls (.ref a :: rest)) :=
  y_geti C hW ha i_X15 (by decide) rfl (by decide) m_2129 rfl hdg kk
theorem gf_X15_418 {a r : Nat} (C : Cx X p s m args meth c RX15 cc nL rt mn) (hW : Wx X h H) (ha : hK h a = 15) (hr : hR h a 17 = some r) (hdg : decode cc pc = .ok (.getfield 418, 3)) (kk : hK h r = 16 → W p l e R s m args below meth c H locs cells slots Q (F0 m (pc + 3) ls (.ref r :: rest))) : W p l e R s m args below meth c H locs cells slots Q (F0 m pc ls (.ref a :: rest)) :=
  y_getr C hW ha i_X15 (by decide) rfl (by decide) m_2128 rfl rfl hr hdg kk
end
theorem dX15_look_0 : decode cX15_look 0 = .ok (.aload_n 0, 1) := by decide +kernel
theorem dX15_look_1 : decode cX15_look 1 = .ok (.getfield 412, 3) := by decide +kernel
theorem dX15_look_4 : decode cX15_look 4 = .ok (.aload_n 0, 1) := by decide +kernel
theorem dX15_look_5 : decode cX15_look 5 = .ok (.getfield 415, 3) := by decide +kernel
theorem dX15_look_8 : decode cX15_look 8 = .ok (.if_icmp .ge 15, 3) := by decide +kernel
theorem dX15_look_11 : decode cX15_look 11 = .ok (.aload_n 0, 1) := by decide +kernel
theorem dX15_look_12 : decode cX15_look 12 = .ok (.getfield 418, 3) := by decide +kernel
theorem dX15_look_15 : decode cX15_look 15 = .ok (.aload_n 0, 1) := by decide +kernel
theorem dX15_look_16 : decode cX15_look 16 = .ok (.getfield 412, 3) := by decide +kernel
theorem dX15_look_19 : decode cX15_look 19 = .ok (.baload, 1) := by decide +kernel
theorem dX15_look_20 : decode cX15_look 20 = .ok (.goto 4, 3) := by decide +kernel
theorem dX15_look_23 : decode cX15_look 23 = .ok (.iconst (-1), 1) := by decide +kernel
theorem dX15_look_24 : decode cX15_look 24 = .ok (.ireturn, 1) := by decide +kernel
set_option maxRecDepth 20000 in
theorem moX15_look_24 {o : Int32 × Hp} {h : Hp} {t0 : Int32} (hE : sX15_look_24 h  t0 = some o) : Le h o.2 := by
  exact le_some2 hE
set_option maxRecDepth 20000 in
theorem moX15_look {o : Int32 × Hp} {h : Hp} {x0 : Nat} (hE : sX15_look h x0 = some o) : Le h o.2 := by
  rcases br_e hE with ⟨_, hE⟩ | ⟨_, hE⟩
  · exact moX15_look_24 hE
  · obtain ⟨r_2, er_2, hE⟩ := cl_e hE
    obtain ⟨g_3, hE⟩ := gd_e hE
    exact moX15_look_24 hE
set_option maxRecDepth 20000 in
theorem bX15_look_24 {p : Program} {l : Launch} {e : Env} {s : State} {m : MethodId} {args : Array Value} {below : List Frame} {meth : Method} {c : Code} {X : Ec} {h0 : Hp} {o : Int32 × Hp} (C : Cx X p s m args meth c RX15 cX15_look 1 (some .int) "look") {h : Hp} {t0 : Int32} {H : Heap} {locs : List Loc} (hkm : Km h0 h) (hW : Wx X h H) (hZ : va_S (aA (eB X)) s.heap H locs) (ls : Array Slot) (hl : lv_has ls 1 []) (hE : sX15_look_24 h  t0 = some o) : W p l e (rm 0 0) s m args below meth c H locs 0 0 (MQ below (QI X h0 o.1 o.2) args s 0 0 (aA (eB X))) (F0 m 24 ls [.int t0]) := by
  exact x_iret C rfl rfl hW hZ hkm hE dX15_look_24
set_option maxRecDepth 20000 in
theorem ct_X15_look (l : Launch) (X : Ec) {h : Hp} {x0 : Nat} {o : Int32 × Hp} (k_x0 : hK h x0 = 15) (hE : sX15_look h x0 = some o) : MetI l yX15_look cX15_look 1 (some .int) 0 0 X [.ref x0] h o := by
  refine x_met (by decide) (Nat.le_of_ble_eq_true rfl) ?_
  intro p e s m below meth c ls C hl hW hZ
  have hl : lv_has ls 1 [(0, .ref x0)] := hl
  have hkm : Km h h := Km.rf h
  refine lv_aload_n C.1 C.2.1 dX15_look_0 rfl (lv_at hl 0 rfl) ?_
  refine gf_X15_412 C hW k_x0 dX15_look_1 ?_
  refine lv_aload_n C.1 C.2.1 dX15_look_4 rfl (lv_at hl 0 rfl) ?_
  refine gf_X15_415 C hW k_x0 dX15_look_5 ?_
  refine lv_icmp_ge (tgt := 23) C.1 C.2.1 dX15_look_8 (by decide) (fun c_1 => ?_) (fun c_1 => ?_)
  · have hE := br_p hE c_1
    refine lv_iconst (v := (-1 : Int32)) C.1 C.2.1 dX15_look_23 (by decide) ?_
    exact bX15_look_24 C hkm hW hZ _ (lv_sub hl [] rfl) hE
  · have hE := br_n hE c_1
    refine lv_aload_n C.1 C.2.1 dX15_look_11 rfl (lv_at hl 0 rfl) ?_
    obtain ⟨r_2, er_2, hE⟩ := cl_e hE
    refine gf_X15_418 C hW k_x0 er_2 dX15_look_12 (fun k_r_2 => ?_)
    refine lv_aload_n C.1 C.2.1 dX15_look_15 rfl (lv_at hl 0 rfl) ?_
    refine gf_X15_412 C hW k_x0 dX15_look_16 ?_
    obtain ⟨g_3, hE⟩ := gd_e hE
    refine y_bald C hW k_r_2 g_3 dX15_look_19 ?_
    refine lv_goto (tgt := 24) C.1 C.2.1 dX15_look_20 (by decide) ?_
    exact bX15_look_24 C hkm hW hZ _ (lv_sub hl [] rfl) hE
theorem dX15_valueOf_0 : decode cX15_valueOf 0 = .ok (.iconst 1, 1) := by decide +kernel
theorem dX15_valueOf_1 : decode cX15_valueOf 1 = .ok (.iconst 2, 1) := by decide +kernel
theorem dX15_valueOf_2 : decode cX15_valueOf 2 = .ok (.iload_n 0, 1) := by decide +kernel
theorem dX15_valueOf_3 : decode cX15_valueOf 3 = .ok (.imul, 1) := by decide +kernel
theorem dX15_valueOf_4 : decode cX15_valueOf 4 = .ok (.iadd, 1) := by decide +kernel
theorem dX15_valueOf_5 : decode cX15_valueOf 5 = .ok (.iload_n 1, 1) := by decide +kernel
theorem dX15_valueOf_6 : decode cX15_valueOf 6 = .ok (.iadd, 1) := by decide +kernel
theorem dX15_valueOf_7 : decode cX15_valueOf 7 = .ok (.ireturn, 1) := by decide +kernel
set_option maxRecDepth 20000 in
theorem moX15_valueOf {o : Int32 × Hp} {h : Hp} {x0 : Int32} {x1 : Int32} (hE : sX15_valueOf h x0 x1 = some o) : Le h o.2 := by
  exact le_some2 hE
set_option maxRecDepth 20000 in
theorem ct_X15_valueOf (l : Launch) (X : Ec) {h : Hp} {x0 : Int32} {x1 : Int32} {o : Int32 × Hp} (hE : sX15_valueOf h x0 x1 = some o) : MetI l yX15_valueOf cX15_valueOf 2 (some .int) 0 0 X [.int x0, .int x1] h o := by
  refine x_met (by decide) (Nat.le_of_ble_eq_true rfl) ?_
  intro p e s m below meth c ls C hl hW hZ
  have hl : lv_has ls 2 [(0, .int x0), (1, .int x1)] := hl
  have hkm : Km h h := Km.rf h
  refine lv_iconst (v := (1 : Int32)) C.1 C.2.1 dX15_valueOf_0 (by decide) ?_
  refine lv_iconst (v := (2 : Int32)) C.1 C.2.1 dX15_valueOf_1 (by decide) ?_
  refine lv_iload_n C.1 C.2.1 dX15_valueOf_2 rfl (lv_at hl 0 rfl) ?_
  refine lv_imul C.1 C.2.1 dX15_valueOf_3 ?_
  refine lv_iadd C.1 C.2.1 dX15_valueOf_4 ?_
  refine lv_iload_n C.1 C.2.1 dX15_valueOf_5 rfl (lv_at hl 1 rfl) ?_
  refine lv_iadd C.1 C.2.1 dX15_valueOf_6 ?_
  exact x_iret C rfl rfl hW hZ hkm hE dX15_valueOf_7
set_option maxRecDepth 100000 in
theorem m_2361 : Cond.methodLink RX15 398 yX15_valueOf ∈ W0 := w0_in (List.mem_append_right _ (List.mem_of_getElem? (i := 2361) rfl)) rfl
set_option maxRecDepth 100000 in
theorem m_2362 : Cond.static yX15_valueOf ∈ W0 := w0_in (List.mem_append_right _ (List.mem_of_getElem? (i := 2362) rfl)) rfl
set_option maxRecDepth 100000 in
theorem m_2363 : Cond.code yX15_valueOf cX15_valueOf 2 (some .int) ∈ W0 := w0_in (List.mem_append_right _ (List.mem_of_getElem? (i := 2363) rfl)) rfl
theorem cw_X15_398 : cwd RX15 398 yX15_valueOf cX15_valueOf 2 (some .int) true 2 := ⟨m_2363, m_2361, m_19, m_2362, by decide, by decide, by decide +kernel⟩
theorem dX15_manLetter_0 : decode cX15_manLetter 0 = .ok (.iconst 0, 1) := by decide +kernel
theorem dX15_manLetter_1 : decode cX15_manLetter 1 = .ok (.istore_n 2, 1) := by decide +kernel
theorem dX15_manLetter_2 : decode cX15_manLetter 2 = .ok (.iload_n 2, 1) := by decide +kernel
theorem dX15_manLetter_3 : decode cX15_manLetter 3 = .ok (.aload_n 0, 1) := by decide +kernel
theorem dX15_manLetter_4 : decode cX15_manLetter 4 = .ok (.getfield 252, 3) := by decide +kernel
theorem dX15_manLetter_7 : decode cX15_manLetter 7 = .ok (.getfield 169, 3) := by decide +kernel
theorem dX15_manLetter_10 : decode cX15_manLetter 10 = .ok (.if_icmp .ge 50, 3) := by decide +kernel
theorem dX15_manLetter_13 : decode cX15_manLetter 13 = .ok (.iload_n 1, 1) := by decide +kernel
theorem dX15_manLetter_14 : decode cX15_manLetter 14 = .ok (.aload_n 0, 1) := by decide +kernel
theorem dX15_manLetter_15 : decode cX15_manLetter 15 = .ok (.getfield 252, 3) := by decide +kernel
theorem dX15_manLetter_18 : decode cX15_manLetter 18 = .ok (.getfield 172, 3) := by decide +kernel
theorem dX15_manLetter_21 : decode cX15_manLetter 21 = .ok (.iload_n 2, 1) := by decide +kernel
theorem dX15_manLetter_22 : decode cX15_manLetter 22 = .ok (.iaload, 1) := by decide +kernel
theorem dX15_manLetter_23 : decode cX15_manLetter 23 = .ok (.if_icmp .ne 9, 3) := by decide +kernel
theorem dX15_manLetter_26 : decode cX15_manLetter 26 = .ok (.iload_n 2, 1) := by decide +kernel
theorem dX15_manLetter_27 : decode cX15_manLetter 27 = .ok (.iconst 1, 1) := by decide +kernel
theorem dX15_manLetter_28 : decode cX15_manLetter 28 = .ok (.invokestatic 398, 3) := by decide +kernel
theorem dX15_manLetter_31 : decode cX15_manLetter 31 = .ok (.ireturn, 1) := by decide +kernel
theorem dX15_manLetter_32 : decode cX15_manLetter 32 = .ok (.iload_n 1, 1) := by decide +kernel
theorem dX15_manLetter_33 : decode cX15_manLetter 33 = .ok (.aload_n 0, 1) := by decide +kernel
theorem dX15_manLetter_34 : decode cX15_manLetter 34 = .ok (.getfield 252, 3) := by decide +kernel
theorem dX15_manLetter_37 : decode cX15_manLetter 37 = .ok (.getfield 172, 3) := by decide +kernel
theorem dX15_manLetter_40 : decode cX15_manLetter 40 = .ok (.iload_n 2, 1) := by decide +kernel
theorem dX15_manLetter_41 : decode cX15_manLetter 41 = .ok (.iaload, 1) := by decide +kernel
theorem dX15_manLetter_42 : decode cX15_manLetter 42 = .ok (.bipush 32, 2) := by decide +kernel
theorem dX15_manLetter_44 : decode cX15_manLetter 44 = .ok (.isub, 1) := by decide +kernel
theorem dX15_manLetter_45 : decode cX15_manLetter 45 = .ok (.if_icmp .ne 9, 3) := by decide +kernel
theorem dX15_manLetter_48 : decode cX15_manLetter 48 = .ok (.iload_n 2, 1) := by decide +kernel
theorem dX15_manLetter_49 : decode cX15_manLetter 49 = .ok (.iconst 0, 1) := by decide +kernel
theorem dX15_manLetter_50 : decode cX15_manLetter 50 = .ok (.invokestatic 398, 3) := by decide +kernel
theorem dX15_manLetter_53 : decode cX15_manLetter 53 = .ok (.ireturn, 1) := by decide +kernel
theorem dX15_manLetter_54 : decode cX15_manLetter 54 = .ok (.iinc 2 1, 3) := by decide +kernel
theorem dX15_manLetter_57 : decode cX15_manLetter 57 = .ok (.goto (-55), 3) := by decide +kernel
theorem dX15_manLetter_60 : decode cX15_manLetter 60 = .ok (.iconst 0, 1) := by decide +kernel
theorem dX15_manLetter_61 : decode cX15_manLetter 61 = .ok (.ireturn, 1) := by decide +kernel
set_option maxRecDepth 20000 in
theorem moX15_manLetter_2 {o : Int32 × Hp} {F : Nat} : ∀ (f : Nat) {h : Hp} {x0 : Nat} {x1 : Int32} {x2 : Int32}, sX15_manLetter_2 F f h x0 x1 x2 = some o → Le h o.2 := by
  intro f
  induction f with
  | zero =>
    intro h x0 x1 x2 hE
    rw [sX15_manLetter_2] at hE
    cases hE
  | succ f ih =>
    intro h x0 x1 x2 hE
    rw [sX15_manLetter_2] at hE
    have mk_2 : ∀ (h : Hp) (x0 : Nat) (x1 : Int32) (x2 : Int32), sX15_manLetter_2 F f h x0 x1 x2 = some o → Le h o.2 := fun h x0 x1 x2 hE => ih hE
    obtain ⟨r_1, er_1, hE⟩ := cl_e hE
    rcases br_e hE with ⟨_, hE⟩ | ⟨_, hE⟩
    · exact le_some2 hE
    · obtain ⟨r_3, er_3, hE⟩ := cl_e hE
      obtain ⟨r_4, er_4, hE⟩ := cl_e hE
      obtain ⟨g_5, hE⟩ := gd_e hE
      rcases br_e hE with ⟨_, hE⟩ | ⟨_, hE⟩
      · obtain ⟨o_13, eo_13, hE⟩ := cl_e hE
        refine (moX15_valueOf eo_13).tr ?_
        exact le_some2 hE
      · obtain ⟨r_7, er_7, hE⟩ := cl_e hE
        obtain ⟨r_8, er_8, hE⟩ := cl_e hE
        obtain ⟨g_9, hE⟩ := gd_e hE
        rcases br_e hE with ⟨_, hE⟩ | ⟨_, hE⟩
        · obtain ⟨o_12, eo_12, hE⟩ := cl_e hE
          refine (moX15_valueOf eo_12).tr ?_
          exact le_some2 hE
        · obtain ⟨v_11, ev_11, hE⟩ := nm_e2 hE
          exact mk_2 _ _ _ _ hE
set_option maxRecDepth 20000 in
theorem moX15_manLetter {o : Int32 × Hp} {F : Nat} {h : Hp} {x0 : Nat} {x1 : Int32} (hE : sX15_manLetter F h x0 x1 = some o) : Le h o.2 := by
  exact moX15_manLetter_2 _ hE
set_option maxRecDepth 20000 in
theorem bX15_manLetter_2 {p : Program} {l : Launch} {e : Env} {s : State} {m : MethodId} {args : Array Value} {below : List Frame} {meth : Method} {c : Code} {X : Ec} {h0 : Hp} {o : Int32 × Hp} {F : Nat} (C : Cx X p s m args meth c RX15 cX15_manLetter 3 (some .int) "manLetter") : ∀ (f : Nat) {h : Hp} {x0 : Nat} {x1 : Int32} {x2 : Int32} {H : Heap} {locs : List Loc} (k_x0 : hK h x0 = 15), Km h0 h → Wx X h H → va_S (aA (eB X)) s.heap H locs → ∀ (ls : Array Slot), lv_has ls 3 [(0, .ref x0), (1, .int x1), (2, .int x2)] → sX15_manLetter_2 F f h x0 x1 x2 = some o → W p l e (rm 1 21) s m args below meth c H locs 0 0 (MQ below (QI X h0 o.1 o.2) args s 0 0 (aA (eB X))) (F0 m 2 ls []) := by
  intro f
  induction f with
  | zero =>
    intro h x0 x1 x2 H locs k_x0 hkm hW hZ ls hl hE
    rw [sX15_manLetter_2] at hE
    cases hE
  | succ f ih =>
    intro h x0 x1 x2 H locs k_x0 hkm hW hZ ls hl hE
    rw [sX15_manLetter_2] at hE
    have hk_2 : ∀ (h : Hp) (x0 : Nat) (x1 : Int32) (x2 : Int32) (H : Heap) (locs : List Loc), hK h x0 = 15 → Km h0 h → Wx X h H → va_S (aA (eB X)) s.heap H locs → ∀ (ls : Array Slot), lv_has ls 3 [(0, .ref x0), (1, .int x1), (2, .int x2)] → sX15_manLetter_2 F f h x0 x1 x2 = some o → W p l e (rm 1 21) s m args below meth c H locs 0 0 (MQ below (QI X h0 o.1 o.2) args s 0 0 (aA (eB X))) (F0 m 2 ls []) := fun h x0 x1 x2 H locs k_x0 a b c ls hl hE => ih k_x0 a b c ls hl hE
    refine lv_iload_n C.1 C.2.1 dX15_manLetter_2 rfl (lv_at hl 2 rfl) ?_
    refine lv_aload_n C.1 C.2.1 dX15_manLetter_3 rfl (lv_at hl 0 rfl) ?_
    obtain ⟨r_1, er_1, hE⟩ := cl_e hE
    refine gf_X15_252 C hW k_x0 er_1 dX15_manLetter_4 (fun k_r_1 => ?_)
    refine gf_X15_169 C hW k_r_1 dX15_manLetter_7 ?_
    refine lv_icmp_ge (tgt := 60) C.1 C.2.1 dX15_manLetter_10 (by decide) (fun c_2 => ?_) (fun c_2 => ?_)
    · have hE := br_p hE c_2
      refine lv_iconst (v := (0 : Int32)) C.1 C.2.1 dX15_manLetter_60 (by decide) ?_
      exact x_iret C rfl rfl hW hZ hkm hE dX15_manLetter_61
    · have hE := br_n hE c_2
      refine lv_iload_n C.1 C.2.1 dX15_manLetter_13 rfl (lv_at hl 1 rfl) ?_
      refine lv_aload_n C.1 C.2.1 dX15_manLetter_14 rfl (lv_at hl 0 rfl) ?_
      obtain ⟨r_3, er_3, hE⟩ := cl_e hE
      refine gf_X15_252 C hW k_x0 er_3 dX15_manLetter_15 (fun k_r_3 => ?_)
      obtain ⟨r_4, er_4, hE⟩ := cl_e hE
      refine gf_X15_172 C hW k_r_3 er_4 dX15_manLetter_18 (fun k_r_4 => ?_)
      refine lv_iload_n C.1 C.2.1 dX15_manLetter_21 rfl (lv_at hl 2 rfl) ?_
      obtain ⟨g_5, hE⟩ := gd_e hE
      refine y_iald C hW k_r_4 g_5 dX15_manLetter_22 ?_
      refine lv_icmp_ne (tgt := 32) C.1 C.2.1 dX15_manLetter_23 (by decide) (fun c_6 => ?_) (fun c_6 => ?_)
      · have hE := br_n hE c_6
        refine lv_iload_n C.1 C.2.1 dX15_manLetter_32 rfl (lv_at hl 1 rfl) ?_
        refine lv_aload_n C.1 C.2.1 dX15_manLetter_33 rfl (lv_at hl 0 rfl) ?_
        obtain ⟨r_7, er_7, hE⟩ := cl_e hE
        refine gf_X15_252 C hW k_x0 er_7 dX15_manLetter_34 (fun k_r_7 => ?_)
        obtain ⟨r_8, er_8, hE⟩ := cl_e hE
        refine gf_X15_172 C hW k_r_7 er_8 dX15_manLetter_37 (fun k_r_8 => ?_)
        refine lv_iload_n C.1 C.2.1 dX15_manLetter_40 rfl (lv_at hl 2 rfl) ?_
        obtain ⟨g_9, hE⟩ := gd_e hE
        refine y_iald C hW k_r_8 g_9 dX15_manLetter_41 ?_
        refine lv_bipush (v := (32 : Int32)) C.1 C.2.1 dX15_manLetter_42 (by decide) ?_
        refine lv_isub C.1 C.2.1 dX15_manLetter_44 ?_
        refine lv_icmp_ne (tgt := 54) C.1 C.2.1 dX15_manLetter_45 (by decide) (fun c_10 => ?_) (fun c_10 => ?_)
        · have hE := br_n hE c_10
          obtain ⟨v_11, ev_11, hE⟩ := nm_e2 hE
          refine lv_iinc (v := v_11) (lv' := [(2, .int v_11), (0, .ref x0), (1, .int x1)]) C.1 C.2.1 dX15_manLetter_54 hl (k := 2) rfl (by rw [ev_11]; rfl) (by decide) rfl (fun ls hl => ?_)
          refine lv_goto (tgt := 2) C.1 C.2.1 dX15_manLetter_57 (by decide) ?_
          exact hk_2 _ _ _ _ _ _ k_x0 hkm hW hZ _ (lv_sub hl [1, 2, 0] rfl) hE
        · have hE := br_p hE c_10
          refine lv_iload_n C.1 C.2.1 dX15_manLetter_48 rfl (lv_at hl 2 rfl) ?_
          refine lv_iconst (v := (0 : Int32)) C.1 C.2.1 dX15_manLetter_49 (by decide) ?_
          obtain ⟨o_12, eo_12, hE⟩ := cl_e hE
          refine x_kI (o := o_12) (z_runS (As := [.int x2, .int (0 : Int32)]) (rest := []) C (ct_X15_valueOf l X eo_12) cw_X15_398 hW hZ rfl hl.1 (Nat.le_of_ble_eq_true rfl) rfl dX15_manLetter_50 ⟨Nat.le_of_ble_eq_true rfl, Nat.le_of_ble_eq_true rfl⟩ ⟨Nat.le_refl _, Nat.le_refl _⟩) hZ (fun _ _ hW km hZ => ?_)
          replace hkm := hkm.tr km
          replace k_x0 := km.at k_x0 (by decide)
          exact x_iret C rfl rfl hW hZ hkm hE dX15_manLetter_53
      · have hE := br_p hE c_6
        refine lv_iload_n C.1 C.2.1 dX15_manLetter_26 rfl (lv_at hl 2 rfl) ?_
        refine lv_iconst (v := (1 : Int32)) C.1 C.2.1 dX15_manLetter_27 (by decide) ?_
        obtain ⟨o_13, eo_13, hE⟩ := cl_e hE
        refine x_kI (o := o_13) (z_runS (As := [.int x2, .int (1 : Int32)]) (rest := []) C (ct_X15_valueOf l X eo_13) cw_X15_398 hW hZ rfl hl.1 (Nat.le_of_ble_eq_true rfl) rfl dX15_manLetter_28 ⟨Nat.le_of_ble_eq_true rfl, Nat.le_of_ble_eq_true rfl⟩ ⟨Nat.le_refl _, Nat.le_refl _⟩) hZ (fun _ _ hW km hZ => ?_)
        replace hkm := hkm.tr km
        replace k_x0 := km.at k_x0 (by decide)
        exact x_iret C rfl rfl hW hZ hkm hE dX15_manLetter_31
set_option maxRecDepth 20000 in
theorem ct_X15_manLetter (l : Launch) (X : Ec) (F : Nat) {h : Hp} {x0 : Nat} {x1 : Int32} {o : Int32 × Hp} (k_x0 : hK h x0 = 15) (hE : sX15_manLetter F h x0 x1 = some o) : MetI l yX15_manLetter cX15_manLetter 3 (some .int) 1 21 X [.ref x0, .int x1] h o := by
  refine x_met (by decide) (Nat.le_of_ble_eq_true rfl) ?_
  intro p e s m below meth c ls C hl hW hZ
  have hl : lv_has ls 3 [(0, .ref x0), (1, .int x1)] := hl
  have hkm : Km h h := Km.rf h
  refine lv_iconst (v := (0 : Int32)) C.1 C.2.1 dX15_manLetter_0 (by decide) ?_
  refine lv_istore_n (lv' := [(2, .int (0 : Int32)), (0, .ref x0), (1, .int x1)]) C.1 C.2.1 dX15_manLetter_1 rfl hl (by decide) rfl (fun ls hl => ?_)
  exact bX15_manLetter_2 C F k_x0 hkm hW hZ _ (lv_sub hl [1, 2, 0] rfl) hE
set_option maxRecDepth 100000 in
theorem ms_137 : Cond.selects RX15 yX15_look yX15_look ∈ W0 := w0_in (List.mem_append_left _ (List.mem_of_getElem? (i := 137) rfl)) rfl
set_option maxRecDepth 100000 in
theorem m_2353 : Cond.methodLink RX15 421 yX15_look ∈ W0 := w0_in (List.mem_append_right _ (List.mem_of_getElem? (i := 2353) rfl)) rfl
set_option maxRecDepth 100000 in
theorem m_2355 : Cond.instanceMethod yX15_look ∈ W0 := w0_in (List.mem_append_right _ (List.mem_of_getElem? (i := 2355) rfl)) rfl
set_option maxRecDepth 100000 in
theorem m_2356 : Cond.code yX15_look cX15_look 1 (some .int) ∈ W0 := w0_in (List.mem_append_right _ (List.mem_of_getElem? (i := 2356) rfl)) rfl
section
variable {p : Program} {l : Launch} {e : Env} {R : Room} {s : State} {m : MethodId} {args : Array Value} {below : List Frame} {meth : Method} {c : Code} {H : Heap} {locs : List Loc} {cells slots : Nat} {Q : State → Prop}
variable {cc : ByteArray} {pc : Nat} {ls : Array Slot} {rest : List Value} {X : Ec} {h h1 : Hp} {nL : Nat} {rt : Option FieldType} {mn : String}
theorem pf_X15_412 {a : Nat} {v : Int32} (C : Cx X p s m args meth c RX15 cc nL rt mn) (hW : Wx X h H) (hZ : va_S (aA (eB X)) s.heap H locs) (ha : hK h a = 15) (eh : h1 = wI h a 19 v) (hdg : decode cc pc = .ok (.putfield 412, 3)) (kk : ∀ (H1 : Heap) (locs1 : List Loc), Wx X h1 H1 → Km h h1 → va_S (aA (eB X)) s.heap H1 locs1 → W p l e R s m args below meth c H1 locs1 cells slots Q (F0 m (pc + 3) ls rest)) : W p l e R s m args below meth c H locs cells slots Q (F0 m pc ls (.int v :: .ref a :: rest)) :=
  y_puti (ty := .int) C hW hZ ha i_X15 tyX15 tyX15_ok nmX15 (by decide) rfl rfl (by decide) m_2130 rfl (by decide +kernel) rfl rfl rfl eh hdg kk
end
theorem cw_X15_421 : cwd RX15 421 yX15_look cX15_look 1 (some .int) false 0 := ⟨m_2356, m_2353, m_19, ⟨m_2355, ms_137⟩, by decide, by decide, by decide +kernel⟩
theorem dX15_reads_0 : decode cX15_reads 0 = .ok (.aload_n 0, 1) := by decide +kernel
theorem dX15_reads_1 : decode cX15_reads 1 = .ok (.invokevirtual 421, 3) := by decide +kernel
theorem dX15_reads_4 : decode cX15_reads 4 = .ok (.iload_n 1, 1) := by decide +kernel
theorem dX15_reads_5 : decode cX15_reads 5 = .ok (.if_icmp .eq 5, 3) := by decide +kernel
theorem dX15_reads_8 : decode cX15_reads 8 = .ok (.iconst 0, 1) := by decide +kernel
theorem dX15_reads_9 : decode cX15_reads 9 = .ok (.ireturn, 1) := by decide +kernel
theorem dX15_reads_10 : decode cX15_reads 10 = .ok (.aload_n 0, 1) := by decide +kernel
theorem dX15_reads_11 : decode cX15_reads 11 = .ok (.dup, 1) := by decide +kernel
theorem dX15_reads_12 : decode cX15_reads 12 = .ok (.getfield 412, 3) := by decide +kernel
theorem dX15_reads_15 : decode cX15_reads 15 = .ok (.iconst 1, 1) := by decide +kernel
theorem dX15_reads_16 : decode cX15_reads 16 = .ok (.iadd, 1) := by decide +kernel
theorem dX15_reads_17 : decode cX15_reads 17 = .ok (.putfield 412, 3) := by decide +kernel
theorem dX15_reads_20 : decode cX15_reads 20 = .ok (.iconst 1, 1) := by decide +kernel
theorem dX15_reads_21 : decode cX15_reads 21 = .ok (.ireturn, 1) := by decide +kernel
set_option maxRecDepth 20000 in
theorem moX15_reads {o : Int32 × Hp} {h : Hp} {x0 : Nat} {x1 : Int32} (hE : sX15_reads h x0 x1 = some o) : Le h o.2 := by
  obtain ⟨o_1, eo_1, hE⟩ := cl_e hE
  refine (moX15_look eo_1).tr ?_
  rcases br_e hE with ⟨_, hE⟩ | ⟨_, hE⟩
  · obtain ⟨h_3, eh_3, hE⟩ := nm_e2 hE
    refine (le_I eh_3).tr ?_
    exact le_some2 hE
  · exact le_some2 hE
set_option maxRecDepth 20000 in
theorem ct_X15_reads (l : Launch) (X : Ec) {h : Hp} {x0 : Nat} {x1 : Int32} {o : Int32 × Hp} (k_x0 : hK h x0 = 15) (hE : sX15_reads h x0 x1 = some o) : MetI l yX15_reads cX15_reads 2 (some .boolean) 1 20 X [.ref x0, .int x1] h o := by
  refine x_met (by decide) (Nat.le_of_ble_eq_true rfl) ?_
  intro p e s m below meth c ls C hl hW hZ
  have hl : lv_has ls 2 [(0, .ref x0), (1, .int x1)] := hl
  have hkm : Km h h := Km.rf h
  refine lv_aload_n C.1 C.2.1 dX15_reads_0 rfl (lv_at hl 0 rfl) ?_
  obtain ⟨o_1, eo_1, hE⟩ := cl_e hE
  refine x_kI (o := o_1) (z_runV (As := []) (rest := []) C (ct_X15_look l X k_x0 eo_1) cw_X15_421 hW hZ k_x0 (by decide) rfl rfl rfl hl.1 (Nat.le_of_ble_eq_true rfl) rfl dX15_reads_1 ⟨Nat.le_of_ble_eq_true rfl, Nat.le_of_ble_eq_true rfl⟩ ⟨Nat.le_refl _, Nat.le_refl _⟩) hZ (fun _ _ hW km hZ => ?_)
  replace hkm := hkm.tr km
  replace k_x0 := km.at k_x0 (by decide)
  refine lv_iload_n C.1 C.2.1 dX15_reads_4 rfl (lv_at hl 1 rfl) ?_
  refine lv_icmp_eq (tgt := 10) C.1 C.2.1 dX15_reads_5 (by decide) (fun c_2 => ?_) (fun c_2 => ?_)
  · have hE := br_p hE c_2
    refine lv_aload_n C.1 C.2.1 dX15_reads_10 rfl (lv_at hl 0 rfl) ?_
    refine lv_dup C.1 C.2.1 dX15_reads_11 rfl ?_
    refine gf_X15_412 C hW k_x0 dX15_reads_12 ?_
    refine lv_iconst (v := (1 : Int32)) C.1 C.2.1 dX15_reads_15 (by decide) ?_
    refine lv_iadd C.1 C.2.1 dX15_reads_16 ?_
    obtain ⟨h_3, eh_3, hE⟩ := nm_e2 hE
    refine pf_X15_412 C hW hZ k_x0 eh_3 dX15_reads_17 (fun _ _ hW km hZ => ?_)
    replace hkm := hkm.tr km
    replace k_x0 := km.at k_x0 (by decide)
    refine lv_iconst (v := (1 : Int32)) C.1 C.2.1 dX15_reads_20 (by decide) ?_
    exact x_iret C rfl (by decide) hW hZ hkm hE dX15_reads_21
  · have hE := br_n hE c_2
    refine lv_iconst (v := (0 : Int32)) C.1 C.2.1 dX15_reads_8 (by decide) ?_
    exact x_iret C rfl (by decide) hW hZ hkm hE dX15_reads_9
set_option maxRecDepth 100000 in
theorem ms_139 : Cond.selects RX15 yX15_reads yX15_reads ∈ W0 := w0_in (List.mem_append_left _ (List.mem_of_getElem? (i := 139) rfl)) rfl
set_option maxRecDepth 100000 in
theorem ms_138 : Cond.selects RX15 yX15_manLetter yX15_manLetter ∈ W0 := w0_in (List.mem_append_left _ (List.mem_of_getElem? (i := 138) rfl)) rfl
set_option maxRecDepth 100000 in
theorem n_1909 : Cond.fieldLinkNest RX15 396 (TX12 0).1 (TX12 0).2.1 (TX12 0).2.2.1 "GameRulesModel" ∈ tables_1 := List.mem_of_getElem? (i := 1909) rfl
set_option maxRecDepth 100000 in
theorem m_2357 : Cond.methodLink RX15 424 yX15_manLetter ∈ W0 := w0_in (List.mem_append_right _ (List.mem_of_getElem? (i := 2357) rfl)) rfl
set_option maxRecDepth 100000 in
theorem m_2359 : Cond.instanceMethod yX15_manLetter ∈ W0 := w0_in (List.mem_append_right _ (List.mem_of_getElem? (i := 2359) rfl)) rfl
set_option maxRecDepth 100000 in
theorem m_2360 : Cond.code yX15_manLetter cX15_manLetter 3 (some .int) ∈ W0 := w0_in (List.mem_append_right _ (List.mem_of_getElem? (i := 2360) rfl)) rfl
set_option maxRecDepth 100000 in
theorem m_2364 : Cond.methodLink RX15 427 yX15_reads ∈ W0 := w0_in (List.mem_append_right _ (List.mem_of_getElem? (i := 2364) rfl)) rfl
set_option maxRecDepth 100000 in
theorem m_2366 : Cond.instanceMethod yX15_reads ∈ W0 := w0_in (List.mem_append_right _ (List.mem_of_getElem? (i := 2366) rfl)) rfl
set_option maxRecDepth 100000 in
theorem m_2367 : Cond.code yX15_reads cX15_reads 2 (some .boolean) ∈ W0 := w0_in (List.mem_append_right _ (List.mem_of_getElem? (i := 2367) rfl)) rfl
section
variable {p : Program} {l : Launch} {e : Env} {R : Room} {s : State} {m : MethodId} {args : Array Value} {below : List Frame} {meth : Method} {c : Code} {H : Heap} {locs : List Loc} {cells slots : Nat} {Q : State → Prop}
variable {cc : ByteArray} {pc : Nat} {ls : Array Slot} {rest : List Value} {X : Ec} {h h1 : Hp} {nL : Nat} {rt : Option FieldType} {mn : String}
theorem gf_X15_396 {a r : Nat} (C : Cx X p s m args meth c RX15 cc nL rt mn) (hW : Wx X h H) (ha : hK h a = 12) (hr : hR h a 0 = some r) (hdg : decode cc pc = .ok (.getfield 396, 3)) (kk : hK h r = 17 → W p l e R s m args below meth c H locs cells slots Q (F0 m (pc + 3) ls (.ref r :: rest))) : W p l e R s m args below meth c H locs cells slots Q (F0 m pc ls (.ref a :: rest)) :=
  y_getrN C hW ha i_X12 (by decide) rfl (by decide) n_1909 rfl rfl hr hdg kk
end
theorem cw_X15_427 : cwd RX15 427 yX15_reads cX15_reads 2 (some .boolean) false 1 := ⟨m_2367, m_2364, m_19, ⟨m_2366, ms_139⟩, by decide, by decide, by decide +kernel⟩
theorem cw_X15_424 : cwd RX15 424 yX15_manLetter cX15_manLetter 3 (some .int) false 1 := ⟨m_2360, m_2357, m_19, ⟨m_2359, ms_138⟩, by decide, by decide, by decide +kernel⟩
theorem dX15_readMen_0 : decode cX15_readMen 0 = .ok (.aload_n 0, 1) := by decide +kernel
theorem dX15_readMen_1 : decode cX15_readMen 1 = .ok (.getfield 383, 3) := by decide +kernel
theorem dX15_readMen_4 : decode cX15_readMen 4 = .ok (.iconst 1, 1) := by decide +kernel
theorem dX15_readMen_5 : decode cX15_readMen 5 = .ok (.isub, 1) := by decide +kernel
theorem dX15_readMen_6 : decode cX15_readMen 6 = .ok (.istore_n 2, 1) := by decide +kernel
theorem dX15_readMen_7 : decode cX15_readMen 7 = .ok (.iload_n 2, 1) := by decide +kernel
theorem dX15_readMen_8 : decode cX15_readMen 8 = .ok (.ifCond .lt 128, 3) := by decide +kernel
theorem dX15_readMen_11 : decode cX15_readMen 11 = .ok (.iconst 0, 1) := by decide +kernel
theorem dX15_readMen_12 : decode cX15_readMen 12 = .ok (.istore_n 3, 1) := by decide +kernel
theorem dX15_readMen_13 : decode cX15_readMen 13 = .ok (.iload_n 3, 1) := by decide +kernel
theorem dX15_readMen_14 : decode cX15_readMen 14 = .ok (.aload_n 0, 1) := by decide +kernel
theorem dX15_readMen_15 : decode cX15_readMen 15 = .ok (.getfield 382, 3) := by decide +kernel
theorem dX15_readMen_18 : decode cX15_readMen 18 = .ok (.if_icmp .ge 97, 3) := by decide +kernel
theorem dX15_readMen_21 : decode cX15_readMen 21 = .ok (.aload_n 0, 1) := by decide +kernel
theorem dX15_readMen_22 : decode cX15_readMen 22 = .ok (.invokevirtual 421, 3) := by decide +kernel
theorem dX15_readMen_25 : decode cX15_readMen 25 = .ok (.istore 4, 2) := by decide +kernel
theorem dX15_readMen_27 : decode cX15_readMen 27 = .ok (.aload_n 0, 1) := by decide +kernel
theorem dX15_readMen_28 : decode cX15_readMen 28 = .ok (.iload 4, 2) := by decide +kernel
theorem dX15_readMen_30 : decode cX15_readMen 30 = .ok (.invokevirtual 424, 3) := by decide +kernel
theorem dX15_readMen_33 : decode cX15_readMen 33 = .ok (.istore 5, 2) := by decide +kernel
theorem dX15_readMen_35 : decode cX15_readMen 35 = .ok (.iload 5, 2) := by decide +kernel
theorem dX15_readMen_37 : decode cX15_readMen 37 = .ok (.ifCond .le 24, 3) := by decide +kernel
theorem dX15_readMen_40 : decode cX15_readMen 40 = .ok (.aload_n 1, 1) := by decide +kernel
theorem dX15_readMen_41 : decode cX15_readMen 41 = .ok (.getfield 396, 3) := by decide +kernel
theorem dX15_readMen_44 : decode cX15_readMen 44 = .ok (.iload_n 2, 1) := by decide +kernel
theorem dX15_readMen_45 : decode cX15_readMen 45 = .ok (.aload_n 0, 1) := by decide +kernel
theorem dX15_readMen_46 : decode cX15_readMen 46 = .ok (.getfield 382, 3) := by decide +kernel
theorem dX15_readMen_49 : decode cX15_readMen 49 = .ok (.imul, 1) := by decide +kernel
theorem dX15_readMen_50 : decode cX15_readMen 50 = .ok (.iload_n 3, 1) := by decide +kernel
theorem dX15_readMen_51 : decode cX15_readMen 51 = .ok (.iadd, 1) := by decide +kernel
theorem dX15_readMen_52 : decode cX15_readMen 52 = .ok (.iload 5, 2) := by decide +kernel
theorem dX15_readMen_54 : decode cX15_readMen 54 = .ok (.iastore, 1) := by decide +kernel
theorem dX15_readMen_55 : decode cX15_readMen 55 = .ok (.iinc 3 1, 3) := by decide +kernel
theorem dX15_readMen_58 : decode cX15_readMen 58 = .ok (.goto 44, 3) := by decide +kernel
theorem dX15_readMen_61 : decode cX15_readMen 61 = .ok (.iload 4, 2) := by decide +kernel
theorem dX15_readMen_63 : decode cX15_readMen 63 = .ok (.bipush 49, 2) := by decide +kernel
theorem dX15_readMen_65 : decode cX15_readMen 65 = .ok (.if_icmp .lt 35, 3) := by decide +kernel
theorem dX15_readMen_68 : decode cX15_readMen 68 = .ok (.iload 4, 2) := by decide +kernel
theorem dX15_readMen_70 : decode cX15_readMen 70 = .ok (.bipush 56, 2) := by decide +kernel
theorem dX15_readMen_72 : decode cX15_readMen 72 = .ok (.if_icmp .gt 28, 3) := by decide +kernel
theorem dX15_readMen_75 : decode cX15_readMen 75 = .ok (.iload_n 3, 1) := by decide +kernel
theorem dX15_readMen_76 : decode cX15_readMen 76 = .ok (.iload 4, 2) := by decide +kernel
theorem dX15_readMen_78 : decode cX15_readMen 78 = .ok (.iadd, 1) := by decide +kernel
theorem dX15_readMen_79 : decode cX15_readMen 79 = .ok (.bipush 48, 2) := by decide +kernel
theorem dX15_readMen_81 : decode cX15_readMen 81 = .ok (.isub, 1) := by decide +kernel
theorem dX15_readMen_82 : decode cX15_readMen 82 = .ok (.aload_n 0, 1) := by decide +kernel
theorem dX15_readMen_83 : decode cX15_readMen 83 = .ok (.getfield 382, 3) := by decide +kernel
theorem dX15_readMen_86 : decode cX15_readMen 86 = .ok (.if_icmp .gt 14, 3) := by decide +kernel
theorem dX15_readMen_89 : decode cX15_readMen 89 = .ok (.iload_n 3, 1) := by decide +kernel
theorem dX15_readMen_90 : decode cX15_readMen 90 = .ok (.iload 4, 2) := by decide +kernel
theorem dX15_readMen_92 : decode cX15_readMen 92 = .ok (.bipush 48, 2) := by decide +kernel
theorem dX15_readMen_94 : decode cX15_readMen 94 = .ok (.isub, 1) := by decide +kernel
theorem dX15_readMen_95 : decode cX15_readMen 95 = .ok (.iadd, 1) := by decide +kernel
theorem dX15_readMen_96 : decode cX15_readMen 96 = .ok (.istore_n 3, 1) := by decide +kernel
theorem dX15_readMen_97 : decode cX15_readMen 97 = .ok (.goto 5, 3) := by decide +kernel
theorem dX15_readMen_100 : decode cX15_readMen 100 = .ok (.iconst 0, 1) := by decide +kernel
theorem dX15_readMen_101 : decode cX15_readMen 101 = .ok (.ireturn, 1) := by decide +kernel
theorem dX15_readMen_102 : decode cX15_readMen 102 = .ok (.aload_n 0, 1) := by decide +kernel
theorem dX15_readMen_103 : decode cX15_readMen 103 = .ok (.dup, 1) := by decide +kernel
theorem dX15_readMen_104 : decode cX15_readMen 104 = .ok (.getfield 412, 3) := by decide +kernel
theorem dX15_readMen_107 : decode cX15_readMen 107 = .ok (.iconst 1, 1) := by decide +kernel
theorem dX15_readMen_108 : decode cX15_readMen 108 = .ok (.iadd, 1) := by decide +kernel
theorem dX15_readMen_109 : decode cX15_readMen 109 = .ok (.putfield 412, 3) := by decide +kernel
theorem dX15_readMen_112 : decode cX15_readMen 112 = .ok (.goto (-99), 3) := by decide +kernel
theorem dX15_readMen_115 : decode cX15_readMen 115 = .ok (.iload_n 2, 1) := by decide +kernel
theorem dX15_readMen_116 : decode cX15_readMen 116 = .ok (.ifCond .le 14, 3) := by decide +kernel
theorem dX15_readMen_119 : decode cX15_readMen 119 = .ok (.aload_n 0, 1) := by decide +kernel
theorem dX15_readMen_120 : decode cX15_readMen 120 = .ok (.bipush 47, 2) := by decide +kernel
theorem dX15_readMen_122 : decode cX15_readMen 122 = .ok (.invokevirtual 427, 3) := by decide +kernel
theorem dX15_readMen_125 : decode cX15_readMen 125 = .ok (.ifCond .ne 5, 3) := by decide +kernel
theorem dX15_readMen_128 : decode cX15_readMen 128 = .ok (.iconst 0, 1) := by decide +kernel
theorem dX15_readMen_129 : decode cX15_readMen 129 = .ok (.ireturn, 1) := by decide +kernel
theorem dX15_readMen_130 : decode cX15_readMen 130 = .ok (.iinc 2 (-1), 3) := by decide +kernel
theorem dX15_readMen_133 : decode cX15_readMen 133 = .ok (.goto (-126), 3) := by decide +kernel
theorem dX15_readMen_136 : decode cX15_readMen 136 = .ok (.aload_n 0, 1) := by decide +kernel
theorem dX15_readMen_137 : decode cX15_readMen 137 = .ok (.bipush 32, 2) := by decide +kernel
theorem dX15_readMen_139 : decode cX15_readMen 139 = .ok (.invokevirtual 427, 3) := by decide +kernel
theorem dX15_readMen_142 : decode cX15_readMen 142 = .ok (.ireturn, 1) := by decide +kernel
set_option maxRecDepth 20000 in
theorem moX15_readMen_130 {o : Int32 × Hp} {k_7 : Hp → Nat → Nat → Int32 → Option (Int32 × Hp)} {F : Nat} (mk_7 : ∀ (h : Hp) (x0 : Nat) (x1 : Nat) (x2 : Int32), k_7 h x0 x1 x2 = some o → Le h o.2) {h : Hp} {x0 : Nat} {x1 : Nat} {x2 : Int32} (hE : sX15_readMen_130 F k_7 h x0 x1 x2 = some o) : Le h o.2 := by
  obtain ⟨v_1, ev_1, hE⟩ := nm_e2 hE
  exact mk_7 _ _ _ _ hE
set_option maxRecDepth 20000 in
theorem moX15_readMen_100 {o : Int32 × Hp} {F : Nat} {h : Hp} (hE : sX15_readMen_100 F h  = some o) : Le h o.2 := by
  exact le_some2 hE
set_option maxRecDepth 20000 in
theorem moX15_readMen_102 {o : Int32 × Hp} {k_7 : Hp → Nat → Nat → Int32 → Option (Int32 × Hp)} {k_13 : Hp → Nat → Nat → Int32 → Int32 → Option (Int32 × Hp)} {F : Nat} (mk_7 : ∀ (h : Hp) (x0 : Nat) (x1 : Nat) (x2 : Int32), k_7 h x0 x1 x2 = some o → Le h o.2) (mk_13 : ∀ (h : Hp) (x0 : Nat) (x1 : Nat) (x2 : Int32) (x3 : Int32), k_13 h x0 x1 x2 x3 = some o → Le h o.2) {h : Hp} {x0 : Nat} {x1 : Nat} {x2 : Int32} {x3 : Int32} (hE : sX15_readMen_102 F k_7 k_13 h x0 x1 x2 x3 = some o) : Le h o.2 := by
  obtain ⟨h_1, eh_1, hE⟩ := nm_e2 hE
  refine (le_I eh_1).tr ?_
  exact mk_13 _ _ _ _ _ hE
set_option maxRecDepth 20000 in
theorem moX15_readMen_13 {o : Int32 × Hp} {k_7 : Hp → Nat → Nat → Int32 → Option (Int32 × Hp)} {F : Nat} (mk_7 : ∀ (h : Hp) (x0 : Nat) (x1 : Nat) (x2 : Int32), k_7 h x0 x1 x2 = some o → Le h o.2) : ∀ (f : Nat) {h : Hp} {x0 : Nat} {x1 : Nat} {x2 : Int32} {x3 : Int32}, sX15_readMen_13 F k_7 f h x0 x1 x2 x3 = some o → Le h o.2 := by
  intro f
  induction f with
  | zero =>
    intro h x0 x1 x2 x3 hE
    rw [sX15_readMen_13] at hE
    cases hE
  | succ f ih =>
    intro h x0 x1 x2 x3 hE
    rw [sX15_readMen_13] at hE
    have mk_13 : ∀ (h : Hp) (x0 : Nat) (x1 : Nat) (x2 : Int32) (x3 : Int32), sX15_readMen_13 F k_7 f h x0 x1 x2 x3 = some o → Le h o.2 := fun h x0 x1 x2 x3 hE => ih hE
    rcases br_e hE with ⟨_, hE⟩ | ⟨_, hE⟩
    · rcases br_e hE with ⟨_, hE⟩ | ⟨_, hE⟩
      · exact moX15_readMen_130 mk_7 hE
      · obtain ⟨o_3, eo_3, hE⟩ := cl_e hE
        refine (moX15_reads eo_3).tr ?_
        rcases br_e hE with ⟨_, hE⟩ | ⟨_, hE⟩
        · exact le_some2 hE
        · exact moX15_readMen_130 mk_7 hE
    · obtain ⟨o_5, eo_5, hE⟩ := cl_e hE
      refine (moX15_look eo_5).tr ?_
      obtain ⟨o_6, eo_6, hE⟩ := cl_e hE
      refine (moX15_manLetter eo_6).tr ?_
      rcases br_e hE with ⟨_, hE⟩ | ⟨_, hE⟩
      · rcases br_e hE with ⟨_, hE⟩ | ⟨_, hE⟩
        · exact moX15_readMen_100 hE
        · rcases br_e hE with ⟨_, hE⟩ | ⟨_, hE⟩
          · exact moX15_readMen_100 hE
          · rcases br_e hE with ⟨_, hE⟩ | ⟨_, hE⟩
            · exact moX15_readMen_100 hE
            · obtain ⟨v_11, ev_11, hE⟩ := nm_e2 hE
              exact moX15_readMen_102 mk_7 mk_13 hE
      · obtain ⟨r_12, er_12, hE⟩ := cl_e hE
        obtain ⟨g_13, hE⟩ := gd_e hE
        obtain ⟨h_14, eh_14, hE⟩ := nm_e2 hE
        refine (le_I eh_14).tr ?_
        obtain ⟨v_15, ev_15, hE⟩ := nm_e2 hE
        exact moX15_readMen_102 mk_7 mk_13 hE
set_option maxRecDepth 20000 in
theorem moX15_readMen_7 {o : Int32 × Hp} {F : Nat} : ∀ (f : Nat) {h : Hp} {x0 : Nat} {x1 : Nat} {x2 : Int32}, sX15_readMen_7 F f h x0 x1 x2 = some o → Le h o.2 := by
  intro f
  induction f with
  | zero =>
    intro h x0 x1 x2 hE
    rw [sX15_readMen_7] at hE
    cases hE
  | succ f ih =>
    intro h x0 x1 x2 hE
    rw [sX15_readMen_7] at hE
    have mk_7 : ∀ (h : Hp) (x0 : Nat) (x1 : Nat) (x2 : Int32), sX15_readMen_7 F f h x0 x1 x2 = some o → Le h o.2 := fun h x0 x1 x2 hE => ih hE
    rcases br_e hE with ⟨_, hE⟩ | ⟨_, hE⟩
    · obtain ⟨o_2, eo_2, hE⟩ := cl_e hE
      refine (moX15_reads eo_2).tr ?_
      obtain ⟨g_3, hE⟩ := gd_e hE
      exact le_some2 hE
    · exact moX15_readMen_13 mk_7 _ hE
set_option maxRecDepth 20000 in
theorem moX15_readMen {o : Int32 × Hp} {F : Nat} {h : Hp} {x0 : Nat} {x1 : Nat} (hE : sX15_readMen F h x0 x1 = some o) : Le h o.2 := by
  obtain ⟨v_1, ev_1, hE⟩ := nm_e2 hE
  exact moX15_readMen_7 _ hE
set_option maxRecDepth 20000 in
theorem bX15_readMen_130 {p : Program} {l : Launch} {e : Env} {s : State} {m : MethodId} {args : Array Value} {below : List Frame} {meth : Method} {c : Code} {X : Ec} {h0 : Hp} {o : Int32 × Hp} {k_7 : Hp → Nat → Nat → Int32 → Option (Int32 × Hp)} {F : Nat} (C : Cx X p s m args meth c RX15 cX15_readMen 6 (some .boolean) "readMen") (hk_7 : ∀ (h : Hp) (x0 : Nat) (x1 : Nat) (x2 : Int32) (H : Heap) (locs : List Loc), hK h x0 = 15 → hK h x1 = 12 → Km h0 h → Wx X h H → va_S (aA (eB X)) s.heap H locs → ∀ (ls : Array Slot), lv_has ls 6 [(0, .ref x0), (1, .ref x1), (2, .int x2)] → k_7 h x0 x1 x2 = some o → W p l e (rm 2 43) s m args below meth c H locs 0 0 (MQ below (QI X h0 o.1 o.2) args s 0 0 (aA (eB X))) (F0 m 7 ls [])) {h : Hp} {x0 : Nat} {x1 : Nat} {x2 : Int32} {H : Heap} {locs : List Loc} (k_x0 : hK h x0 = 15) (k_x1 : hK h x1 = 12) (hkm : Km h0 h) (hW : Wx X h H) (hZ : va_S (aA (eB X)) s.heap H locs) (ls : Array Slot) (hl : lv_has ls 6 [(0, .ref x0), (1, .ref x1), (2, .int x2)]) (hE : sX15_readMen_130 F k_7 h x0 x1 x2 = some o) : W p l e (rm 2 43) s m args below meth c H locs 0 0 (MQ below (QI X h0 o.1 o.2) args s 0 0 (aA (eB X))) (F0 m 130 ls []) := by
  obtain ⟨v_1, ev_1, hE⟩ := nm_e2 hE
  refine lv_iinc (v := v_1) (lv' := [(2, .int v_1), (0, .ref x0), (1, .ref x1)]) C.1 C.2.1 dX15_readMen_130 hl (k := 2) rfl (by rw [ev_1]; rfl) (by decide) rfl (fun ls hl => ?_)
  refine lv_goto (tgt := 7) C.1 C.2.1 dX15_readMen_133 (by decide) ?_
  exact hk_7 _ _ _ _ _ _ k_x0 k_x1 hkm hW hZ _ (lv_sub hl [1, 2, 0] rfl) hE
set_option maxRecDepth 20000 in
theorem bX15_readMen_100 {p : Program} {l : Launch} {e : Env} {s : State} {m : MethodId} {args : Array Value} {below : List Frame} {meth : Method} {c : Code} {X : Ec} {h0 : Hp} {o : Int32 × Hp} {F : Nat} (C : Cx X p s m args meth c RX15 cX15_readMen 6 (some .boolean) "readMen") {h : Hp} {H : Heap} {locs : List Loc} (hkm : Km h0 h) (hW : Wx X h H) (hZ : va_S (aA (eB X)) s.heap H locs) (ls : Array Slot) (hl : lv_has ls 6 []) (hE : sX15_readMen_100 F h  = some o) : W p l e (rm 2 43) s m args below meth c H locs 0 0 (MQ below (QI X h0 o.1 o.2) args s 0 0 (aA (eB X))) (F0 m 100 ls []) := by
  refine lv_iconst (v := (0 : Int32)) C.1 C.2.1 dX15_readMen_100 (by decide) ?_
  exact x_iret C rfl (by decide) hW hZ hkm hE dX15_readMen_101
set_option maxRecDepth 20000 in
theorem bX15_readMen_102 {p : Program} {l : Launch} {e : Env} {s : State} {m : MethodId} {args : Array Value} {below : List Frame} {meth : Method} {c : Code} {X : Ec} {h0 : Hp} {o : Int32 × Hp} {k_7 : Hp → Nat → Nat → Int32 → Option (Int32 × Hp)} {k_13 : Hp → Nat → Nat → Int32 → Int32 → Option (Int32 × Hp)} {F : Nat} (C : Cx X p s m args meth c RX15 cX15_readMen 6 (some .boolean) "readMen") (hk_7 : ∀ (h : Hp) (x0 : Nat) (x1 : Nat) (x2 : Int32) (H : Heap) (locs : List Loc), hK h x0 = 15 → hK h x1 = 12 → Km h0 h → Wx X h H → va_S (aA (eB X)) s.heap H locs → ∀ (ls : Array Slot), lv_has ls 6 [(0, .ref x0), (1, .ref x1), (2, .int x2)] → k_7 h x0 x1 x2 = some o → W p l e (rm 2 43) s m args below meth c H locs 0 0 (MQ below (QI X h0 o.1 o.2) args s 0 0 (aA (eB X))) (F0 m 7 ls [])) (hk_13 : ∀ (h : Hp) (x0 : Nat) (x1 : Nat) (x2 : Int32) (x3 : Int32) (H : Heap) (locs : List Loc), hK h x0 = 15 → hK h x1 = 12 → Km h0 h → Wx X h H → va_S (aA (eB X)) s.heap H locs → ∀ (ls : Array Slot), lv_has ls 6 [(0, .ref x0), (1, .ref x1), (2, .int x2), (3, .int x3)] → k_13 h x0 x1 x2 x3 = some o → W p l e (rm 2 43) s m args below meth c H locs 0 0 (MQ below (QI X h0 o.1 o.2) args s 0 0 (aA (eB X))) (F0 m 13 ls [])) {h : Hp} {x0 : Nat} {x1 : Nat} {x2 : Int32} {x3 : Int32} {H : Heap} {locs : List Loc} (k_x0 : hK h x0 = 15) (k_x1 : hK h x1 = 12) (hkm : Km h0 h) (hW : Wx X h H) (hZ : va_S (aA (eB X)) s.heap H locs) (ls : Array Slot) (hl : lv_has ls 6 [(0, .ref x0), (1, .ref x1), (2, .int x2), (3, .int x3)]) (hE : sX15_readMen_102 F k_7 k_13 h x0 x1 x2 x3 = some o) : W p l e (rm 2 43) s m args below meth c H locs 0 0 (MQ below (QI X h0 o.1 o.2) args s 0 0 (aA (eB X))) (F0 m 102 ls []) := by
  refine lv_aload_n C.1 C.2.1 dX15_readMen_102 rfl (lv_at hl 0 rfl) ?_
  refine lv_dup C.1 C.2.1 dX15_readMen_103 rfl ?_
  refine gf_X15_412 C hW k_x0 dX15_readMen_104 ?_
  refine lv_iconst (v := (1 : Int32)) C.1 C.2.1 dX15_readMen_107 (by decide) ?_
  refine lv_iadd C.1 C.2.1 dX15_readMen_108 ?_
  obtain ⟨h_1, eh_1, hE⟩ := nm_e2 hE
  refine pf_X15_412 C hW hZ k_x0 eh_1 dX15_readMen_109 (fun _ _ hW km hZ => ?_)
  replace hkm := hkm.tr km
  replace k_x0 := km.at k_x0 (by decide)
  replace k_x1 := km.at k_x1 (by decide)
  refine lv_goto (tgt := 13) C.1 C.2.1 dX15_readMen_112 (by decide) ?_
  exact hk_13 _ _ _ _ _ _ _ k_x0 k_x1 hkm hW hZ _ (lv_sub hl [0, 1, 2, 3] rfl) hE
set_option maxRecDepth 20000 in
theorem bX15_readMen_13 {p : Program} {l : Launch} {e : Env} {s : State} {m : MethodId} {args : Array Value} {below : List Frame} {meth : Method} {c : Code} {X : Ec} {h0 : Hp} {o : Int32 × Hp} {k_7 : Hp → Nat → Nat → Int32 → Option (Int32 × Hp)} {F : Nat} (C : Cx X p s m args meth c RX15 cX15_readMen 6 (some .boolean) "readMen") (hk_7 : ∀ (h : Hp) (x0 : Nat) (x1 : Nat) (x2 : Int32) (H : Heap) (locs : List Loc), hK h x0 = 15 → hK h x1 = 12 → Km h0 h → Wx X h H → va_S (aA (eB X)) s.heap H locs → ∀ (ls : Array Slot), lv_has ls 6 [(0, .ref x0), (1, .ref x1), (2, .int x2)] → k_7 h x0 x1 x2 = some o → W p l e (rm 2 43) s m args below meth c H locs 0 0 (MQ below (QI X h0 o.1 o.2) args s 0 0 (aA (eB X))) (F0 m 7 ls [])) : ∀ (f : Nat) {h : Hp} {x0 : Nat} {x1 : Nat} {x2 : Int32} {x3 : Int32} {H : Heap} {locs : List Loc} (k_x0 : hK h x0 = 15) (k_x1 : hK h x1 = 12), Km h0 h → Wx X h H → va_S (aA (eB X)) s.heap H locs → ∀ (ls : Array Slot), lv_has ls 6 [(0, .ref x0), (1, .ref x1), (2, .int x2), (3, .int x3)] → sX15_readMen_13 F k_7 f h x0 x1 x2 x3 = some o → W p l e (rm 2 43) s m args below meth c H locs 0 0 (MQ below (QI X h0 o.1 o.2) args s 0 0 (aA (eB X))) (F0 m 13 ls []) := by
  intro f
  induction f with
  | zero =>
    intro h x0 x1 x2 x3 H locs k_x0 k_x1 hkm hW hZ ls hl hE
    rw [sX15_readMen_13] at hE
    cases hE
  | succ f ih =>
    intro h x0 x1 x2 x3 H locs k_x0 k_x1 hkm hW hZ ls hl hE
    rw [sX15_readMen_13] at hE
    have hk_13 : ∀ (h : Hp) (x0 : Nat) (x1 : Nat) (x2 : Int32) (x3 : Int32) (H : Heap) (locs : List Loc), hK h x0 = 15 → hK h x1 = 12 → Km h0 h → Wx X h H → va_S (aA (eB X)) s.heap H locs → ∀ (ls : Array Slot), lv_has ls 6 [(0, .ref x0), (1, .ref x1), (2, .int x2), (3, .int x3)] → sX15_readMen_13 F k_7 f h x0 x1 x2 x3 = some o → W p l e (rm 2 43) s m args below meth c H locs 0 0 (MQ below (QI X h0 o.1 o.2) args s 0 0 (aA (eB X))) (F0 m 13 ls []) := fun h x0 x1 x2 x3 H locs k_x0 k_x1 a b c ls hl hE => ih k_x0 k_x1 a b c ls hl hE
    refine lv_iload_n C.1 C.2.1 dX15_readMen_13 rfl (lv_at hl 3 rfl) ?_
    refine lv_aload_n C.1 C.2.1 dX15_readMen_14 rfl (lv_at hl 0 rfl) ?_
    refine gf_X15_382 C hW k_x0 dX15_readMen_15 ?_
    refine lv_icmp_ge (tgt := 115) C.1 C.2.1 dX15_readMen_18 (by decide) (fun c_1 => ?_) (fun c_1 => ?_)
    · have hE := br_p hE c_1
      refine lv_iload_n C.1 C.2.1 dX15_readMen_115 rfl (lv_at hl 2 rfl) ?_
      refine lv_if_le (tgt := 130) C.1 C.2.1 dX15_readMen_116 (by decide) (fun c_2 => ?_) (fun c_2 => ?_)
      · have hE := br_p hE c_2
        exact bX15_readMen_130 C hk_7 k_x0 k_x1 hkm hW hZ _ (lv_sub hl [0, 1, 2] rfl) hE
      · have hE := br_n hE c_2
        refine lv_aload_n C.1 C.2.1 dX15_readMen_119 rfl (lv_at hl 0 rfl) ?_
        refine lv_bipush (v := (47 : Int32)) C.1 C.2.1 dX15_readMen_120 (by decide) ?_
        obtain ⟨o_3, eo_3, hE⟩ := cl_e hE
        refine x_kI (o := o_3) (z_runV (As := [.int (47 : Int32)]) (rest := []) C (ct_X15_reads l X k_x0 eo_3) cw_X15_427 hW hZ k_x0 (by decide) rfl rfl rfl hl.1 (Nat.le_of_ble_eq_true rfl) rfl dX15_readMen_122 ⟨Nat.le_of_ble_eq_true rfl, Nat.le_of_ble_eq_true rfl⟩ ⟨Nat.le_refl _, Nat.le_refl _⟩) hZ (fun _ _ hW km hZ => ?_)
        replace hkm := hkm.tr km
        replace k_x0 := km.at k_x0 (by decide)
        replace k_x1 := km.at k_x1 (by decide)
        refine lv_if_ne (tgt := 130) C.1 C.2.1 dX15_readMen_125 (by decide) (fun c_4 => ?_) (fun c_4 => ?_)
        · have hE := br_n hE c_4
          exact bX15_readMen_130 C hk_7 k_x0 k_x1 hkm hW hZ _ (lv_sub hl [0, 1, 2] rfl) hE
        · have hE := br_p hE c_4
          refine lv_iconst (v := (0 : Int32)) C.1 C.2.1 dX15_readMen_128 (by decide) ?_
          exact x_iret C rfl (by decide) hW hZ hkm hE dX15_readMen_129
    · have hE := br_n hE c_1
      refine lv_aload_n C.1 C.2.1 dX15_readMen_21 rfl (lv_at hl 0 rfl) ?_
      obtain ⟨o_5, eo_5, hE⟩ := cl_e hE
      refine x_kI (o := o_5) (z_runV (As := []) (rest := []) C (ct_X15_look l X k_x0 eo_5) cw_X15_421 hW hZ k_x0 (by decide) rfl rfl rfl hl.1 (Nat.le_of_ble_eq_true rfl) rfl dX15_readMen_22 ⟨Nat.le_of_ble_eq_true rfl, Nat.le_of_ble_eq_true rfl⟩ ⟨Nat.le_refl _, Nat.le_refl _⟩) hZ (fun _ _ hW km hZ => ?_)
      replace hkm := hkm.tr km
      replace k_x0 := km.at k_x0 (by decide)
      replace k_x1 := km.at k_x1 (by decide)
      refine lv_istore (lv' := [(4, .int o_5.1), (0, .ref x0), (1, .ref x1), (2, .int x2), (3, .int x3)]) C.1 C.2.1 dX15_readMen_25 hl (by decide) rfl (fun ls hl => ?_)
      refine lv_aload_n C.1 C.2.1 dX15_readMen_27 rfl (lv_at hl 1 rfl) ?_
      refine lv_iload C.1 C.2.1 dX15_readMen_28 (lv_at hl 0 rfl) ?_
      obtain ⟨o_6, eo_6, hE⟩ := cl_e hE
      refine x_kI (o := o_6) (z_runV (As := [.int o_5.1]) (rest := []) C (ct_X15_manLetter l X F k_x0 eo_6) cw_X15_424 hW hZ k_x0 (by decide) rfl rfl rfl hl.1 (Nat.le_of_ble_eq_true rfl) rfl dX15_readMen_30 ⟨Nat.le_of_ble_eq_true rfl, Nat.le_of_ble_eq_true rfl⟩ ⟨Nat.le_refl _, Nat.le_refl _⟩) hZ (fun _ _ hW km hZ => ?_)
      replace hkm := hkm.tr km
      replace k_x0 := km.at k_x0 (by decide)
      replace k_x1 := km.at k_x1 (by decide)
      refine lv_istore (lv' := [(5, .int o_6.1), (4, .int o_5.1), (0, .ref x0), (1, .ref x1), (2, .int x2), (3, .int x3)]) C.1 C.2.1 dX15_readMen_33 hl (by decide) rfl (fun ls hl => ?_)
      refine lv_iload C.1 C.2.1 dX15_readMen_35 (lv_at hl 0 rfl) ?_
      refine lv_if_le (tgt := 61) C.1 C.2.1 dX15_readMen_37 (by decide) (fun c_7 => ?_) (fun c_7 => ?_)
      · have hE := br_p hE c_7
        refine lv_iload C.1 C.2.1 dX15_readMen_61 (lv_at hl 1 rfl) ?_
        refine lv_bipush (v := (49 : Int32)) C.1 C.2.1 dX15_readMen_63 (by decide) ?_
        refine lv_icmp_lt (tgt := 100) C.1 C.2.1 dX15_readMen_65 (by decide) (fun c_8 => ?_) (fun c_8 => ?_)
        · have hE := br_p hE c_8
          exact bX15_readMen_100 C hkm hW hZ _ (lv_sub hl [] rfl) hE
        · have hE := br_n hE c_8
          refine lv_iload C.1 C.2.1 dX15_readMen_68 (lv_at hl 1 rfl) ?_
          refine lv_bipush (v := (56 : Int32)) C.1 C.2.1 dX15_readMen_70 (by decide) ?_
          refine lv_icmp_gt (tgt := 100) C.1 C.2.1 dX15_readMen_72 (by decide) (fun c_9 => ?_) (fun c_9 => ?_)
          · have hE := br_p hE c_9
            exact bX15_readMen_100 C hkm hW hZ _ (lv_sub hl [] rfl) hE
          · have hE := br_n hE c_9
            refine lv_iload_n C.1 C.2.1 dX15_readMen_75 rfl (lv_at hl 5 rfl) ?_
            refine lv_iload C.1 C.2.1 dX15_readMen_76 (lv_at hl 1 rfl) ?_
            refine lv_iadd C.1 C.2.1 dX15_readMen_78 ?_
            refine lv_bipush (v := (48 : Int32)) C.1 C.2.1 dX15_readMen_79 (by decide) ?_
            refine lv_isub C.1 C.2.1 dX15_readMen_81 ?_
            refine lv_aload_n C.1 C.2.1 dX15_readMen_82 rfl (lv_at hl 2 rfl) ?_
            refine gf_X15_382 C hW k_x0 dX15_readMen_83 ?_
            refine lv_icmp_gt (tgt := 100) C.1 C.2.1 dX15_readMen_86 (by decide) (fun c_10 => ?_) (fun c_10 => ?_)
            · have hE := br_p hE c_10
              exact bX15_readMen_100 C hkm hW hZ _ (lv_sub hl [] rfl) hE
            · have hE := br_n hE c_10
              refine lv_iload_n C.1 C.2.1 dX15_readMen_89 rfl (lv_at hl 5 rfl) ?_
              refine lv_iload C.1 C.2.1 dX15_readMen_90 (lv_at hl 1 rfl) ?_
              refine lv_bipush (v := (48 : Int32)) C.1 C.2.1 dX15_readMen_92 (by decide) ?_
              refine lv_isub C.1 C.2.1 dX15_readMen_94 ?_
              refine lv_iadd C.1 C.2.1 dX15_readMen_95 ?_
              obtain ⟨v_11, ev_11, hE⟩ := nm_e2 hE
              refine x_nmI ev_11 ?_
              refine lv_istore_n (lv' := [(3, .int v_11), (5, .int o_6.1), (4, .int o_5.1), (0, .ref x0), (1, .ref x1), (2, .int x2)]) C.1 C.2.1 dX15_readMen_96 rfl hl (by decide) rfl (fun ls hl => ?_)
              refine lv_goto (tgt := 102) C.1 C.2.1 dX15_readMen_97 (by decide) ?_
              exact bX15_readMen_102 C hk_7 hk_13 k_x0 k_x1 hkm hW hZ _ (lv_sub hl [3, 4, 5, 0] rfl) hE
      · have hE := br_n hE c_7
        refine lv_aload_n C.1 C.2.1 dX15_readMen_40 rfl (lv_at hl 3 rfl) ?_
        obtain ⟨r_12, er_12, hE⟩ := cl_e hE
        refine gf_X15_396 C hW k_x1 er_12 dX15_readMen_41 (fun k_r_12 => ?_)
        refine lv_iload_n C.1 C.2.1 dX15_readMen_44 rfl (lv_at hl 4 rfl) ?_
        refine lv_aload_n C.1 C.2.1 dX15_readMen_45 rfl (lv_at hl 2 rfl) ?_
        refine gf_X15_382 C hW k_x0 dX15_readMen_46 ?_
        refine lv_imul C.1 C.2.1 dX15_readMen_49 ?_
        refine lv_iload_n C.1 C.2.1 dX15_readMen_50 rfl (lv_at hl 5 rfl) ?_
        refine lv_iadd C.1 C.2.1 dX15_readMen_51 ?_
        refine lv_iload C.1 C.2.1 dX15_readMen_52 (lv_at hl 0 rfl) ?_
        obtain ⟨g_13, hE⟩ := gd_e hE
        obtain ⟨h_14, eh_14, hE⟩ := nm_e2 hE
        refine y_iast C hW hZ k_r_12 g_13 eh_14 dX15_readMen_54 (fun _ _ hW km hZ => ?_)
        replace hkm := hkm.tr km
        replace k_x0 := km.at k_x0 (by decide)
        replace k_x1 := km.at k_x1 (by decide)
        obtain ⟨v_15, ev_15, hE⟩ := nm_e2 hE
        refine lv_iinc (v := v_15) (lv' := [(3, .int v_15), (5, .int o_6.1), (4, .int o_5.1), (0, .ref x0), (1, .ref x1), (2, .int x2)]) C.1 C.2.1 dX15_readMen_55 hl (k := 5) rfl (by rw [ev_15]; rfl) (by decide) rfl (fun ls hl => ?_)
        refine lv_goto (tgt := 102) C.1 C.2.1 dX15_readMen_58 (by decide) ?_
        exact bX15_readMen_102 C hk_7 hk_13 k_x0 k_x1 hkm hW hZ _ (lv_sub hl [3, 4, 5, 0] rfl) hE
set_option maxRecDepth 20000 in
theorem bX15_readMen_7 {p : Program} {l : Launch} {e : Env} {s : State} {m : MethodId} {args : Array Value} {below : List Frame} {meth : Method} {c : Code} {X : Ec} {h0 : Hp} {o : Int32 × Hp} {F : Nat} (C : Cx X p s m args meth c RX15 cX15_readMen 6 (some .boolean) "readMen") : ∀ (f : Nat) {h : Hp} {x0 : Nat} {x1 : Nat} {x2 : Int32} {H : Heap} {locs : List Loc} (k_x0 : hK h x0 = 15) (k_x1 : hK h x1 = 12), Km h0 h → Wx X h H → va_S (aA (eB X)) s.heap H locs → ∀ (ls : Array Slot), lv_has ls 6 [(0, .ref x0), (1, .ref x1), (2, .int x2)] → sX15_readMen_7 F f h x0 x1 x2 = some o → W p l e (rm 2 43) s m args below meth c H locs 0 0 (MQ below (QI X h0 o.1 o.2) args s 0 0 (aA (eB X))) (F0 m 7 ls []) := by
  intro f
  induction f with
  | zero =>
    intro h x0 x1 x2 H locs k_x0 k_x1 hkm hW hZ ls hl hE
    rw [sX15_readMen_7] at hE
    cases hE
  | succ f ih =>
    intro h x0 x1 x2 H locs k_x0 k_x1 hkm hW hZ ls hl hE
    rw [sX15_readMen_7] at hE
    have hk_7 : ∀ (h : Hp) (x0 : Nat) (x1 : Nat) (x2 : Int32) (H : Heap) (locs : List Loc), hK h x0 = 15 → hK h x1 = 12 → Km h0 h → Wx X h H → va_S (aA (eB X)) s.heap H locs → ∀ (ls : Array Slot), lv_has ls 6 [(0, .ref x0), (1, .ref x1), (2, .int x2)] → sX15_readMen_7 F f h x0 x1 x2 = some o → W p l e (rm 2 43) s m args below meth c H locs 0 0 (MQ below (QI X h0 o.1 o.2) args s 0 0 (aA (eB X))) (F0 m 7 ls []) := fun h x0 x1 x2 H locs k_x0 k_x1 a b c ls hl hE => ih k_x0 k_x1 a b c ls hl hE
    refine lv_iload_n C.1 C.2.1 dX15_readMen_7 rfl (lv_at hl 2 rfl) ?_
    refine lv_if_lt (tgt := 136) C.1 C.2.1 dX15_readMen_8 (by decide) (fun c_1 => ?_) (fun c_1 => ?_)
    · have hE := br_p hE c_1
      refine lv_aload_n C.1 C.2.1 dX15_readMen_136 rfl (lv_at hl 0 rfl) ?_
      refine lv_bipush (v := (32 : Int32)) C.1 C.2.1 dX15_readMen_137 (by decide) ?_
      obtain ⟨o_2, eo_2, hE⟩ := cl_e hE
      refine x_kI (o := o_2) (z_runV (As := [.int (32 : Int32)]) (rest := []) C (ct_X15_reads l X k_x0 eo_2) cw_X15_427 hW hZ k_x0 (by decide) rfl rfl rfl hl.1 (Nat.le_of_ble_eq_true rfl) rfl dX15_readMen_139 ⟨Nat.le_of_ble_eq_true rfl, Nat.le_of_ble_eq_true rfl⟩ ⟨Nat.le_refl _, Nat.le_refl _⟩) hZ (fun _ _ hW km hZ => ?_)
      replace hkm := hkm.tr km
      replace k_x0 := km.at k_x0 (by decide)
      replace k_x1 := km.at k_x1 (by decide)
      obtain ⟨g_3, hE⟩ := gd_e hE
      exact x_iret C rfl (narB g_3) hW hZ hkm hE dX15_readMen_142
    · have hE := br_n hE c_1
      refine lv_iconst (v := (0 : Int32)) C.1 C.2.1 dX15_readMen_11 (by decide) ?_
      refine lv_istore_n (lv' := [(3, .int (0 : Int32)), (0, .ref x0), (1, .ref x1), (2, .int x2)]) C.1 C.2.1 dX15_readMen_12 rfl hl (by decide) rfl (fun ls hl => ?_)
      exact bX15_readMen_13 C hk_7 F k_x0 k_x1 hkm hW hZ _ (lv_sub hl [1, 2, 3, 0] rfl) hE
set_option maxRecDepth 20000 in
theorem ct_X15_readMen (l : Launch) (X : Ec) (F : Nat) {h : Hp} {x0 : Nat} {x1 : Nat} {o : Int32 × Hp} (k_x0 : hK h x0 = 15) (k_x1 : hK h x1 = 12) (hE : sX15_readMen F h x0 x1 = some o) : MetI l yX15_readMen cX15_readMen 6 (some .boolean) 2 43 X [.ref x0, .ref x1] h o := by
  refine x_met (by decide) (Nat.le_of_ble_eq_true rfl) ?_
  intro p e s m below meth c ls C hl hW hZ
  have hl : lv_has ls 6 [(0, .ref x0), (1, .ref x1)] := hl
  have hkm : Km h h := Km.rf h
  refine lv_aload_n C.1 C.2.1 dX15_readMen_0 rfl (lv_at hl 0 rfl) ?_
  refine gf_X15_383 C hW k_x0 dX15_readMen_1 ?_
  refine lv_iconst (v := (1 : Int32)) C.1 C.2.1 dX15_readMen_4 (by decide) ?_
  refine lv_isub C.1 C.2.1 dX15_readMen_5 ?_
  obtain ⟨v_1, ev_1, hE⟩ := nm_e2 hE
  refine x_nmI ev_1 ?_
  refine lv_istore_n (lv' := [(2, .int v_1), (0, .ref x0), (1, .ref x1)]) C.1 C.2.1 dX15_readMen_6 rfl hl (by decide) rfl (fun ls hl => ?_)
  exact bX15_readMen_7 C F k_x0 k_x1 hkm hW hZ _ (lv_sub hl [1, 2, 0] rfl) hE
set_option maxRecDepth 100000 in
theorem n_1911 : Cond.fieldLinkNest RX15 452 (TX12 1).1 (TX12 1).2.1 (TX12 1).2.2.1 "GameRulesModel" ∈ tables_1 := List.mem_of_getElem? (i := 1911) rfl
section
variable {p : Program} {l : Launch} {e : Env} {R : Room} {s : State} {m : MethodId} {args : Array Value} {below : List Frame} {meth : Method} {c : Code} {H : Heap} {locs : List Loc} {cells slots : Nat} {Q : State → Prop}
variable {cc : ByteArray} {pc : Nat} {ls : Array Slot} {rest : List Value} {X : Ec} {h h1 : Hp} {nL : Nat} {rt : Option FieldType} {mn : String}
theorem pf_X15_452 {a : Nat} {v : Int32} (C : Cx X p s m args meth c RX15 cc nL rt mn) (hW : Wx X h H) (hZ : va_S (aA (eB X)) s.heap H locs) (ha : hK h a = 12) (eh : h1 = wI h a 1 v) (hdg : decode cc pc = .ok (.putfield 452, 3)) (kk : ∀ (H1 : Heap) (locs1 : List Loc), Wx X h1 H1 → Km h h1 → va_S (aA (eB X)) s.heap H1 locs1 → W p l e R s m args below meth c H1 locs1 cells slots Q (F0 m (pc + 3) ls rest)) : W p l e R s m args below meth c H locs cells slots Q (F0 m pc ls (.int v :: .ref a :: rest)) :=
  y_putiN (ty := .int) C hW hZ ha i_X12 tyX12 tyX12_ok nmX12 (by decide) rfl rfl (by decide) n_1911 rfl (by decide +kernel) rfl rfl rfl eh hdg kk
end
theorem dX15_readSide_0 : decode cX15_readSide 0 = .ok (.aload_n 0, 1) := by decide +kernel
theorem dX15_readSide_1 : decode cX15_readSide 1 = .ok (.invokevirtual 421, 3) := by decide +kernel
theorem dX15_readSide_4 : decode cX15_readSide 4 = .ok (.bipush 119, 2) := by decide +kernel
theorem dX15_readSide_6 : decode cX15_readSide 6 = .ok (.if_icmp .eq 14, 3) := by decide +kernel
theorem dX15_readSide_9 : decode cX15_readSide 9 = .ok (.aload_n 0, 1) := by decide +kernel
theorem dX15_readSide_10 : decode cX15_readSide 10 = .ok (.invokevirtual 421, 3) := by decide +kernel
theorem dX15_readSide_13 : decode cX15_readSide 13 = .ok (.bipush 98, 2) := by decide +kernel
theorem dX15_readSide_15 : decode cX15_readSide 15 = .ok (.if_icmp .eq 5, 3) := by decide +kernel
theorem dX15_readSide_18 : decode cX15_readSide 18 = .ok (.iconst 0, 1) := by decide +kernel
theorem dX15_readSide_19 : decode cX15_readSide 19 = .ok (.ireturn, 1) := by decide +kernel
theorem dX15_readSide_20 : decode cX15_readSide 20 = .ok (.aload_n 1, 1) := by decide +kernel
theorem dX15_readSide_21 : decode cX15_readSide 21 = .ok (.aload_n 0, 1) := by decide +kernel
theorem dX15_readSide_22 : decode cX15_readSide 22 = .ok (.invokevirtual 421, 3) := by decide +kernel
theorem dX15_readSide_25 : decode cX15_readSide 25 = .ok (.bipush 119, 2) := by decide +kernel
theorem dX15_readSide_27 : decode cX15_readSide 27 = .ok (.if_icmp .ne 7, 3) := by decide +kernel
theorem dX15_readSide_30 : decode cX15_readSide 30 = .ok (.iconst 0, 1) := by decide +kernel
theorem dX15_readSide_31 : decode cX15_readSide 31 = .ok (.goto 4, 3) := by decide +kernel
theorem dX15_readSide_34 : decode cX15_readSide 34 = .ok (.iconst 1, 1) := by decide +kernel
theorem dX15_readSide_35 : decode cX15_readSide 35 = .ok (.putfield 452, 3) := by decide +kernel
theorem dX15_readSide_38 : decode cX15_readSide 38 = .ok (.aload_n 0, 1) := by decide +kernel
theorem dX15_readSide_39 : decode cX15_readSide 39 = .ok (.dup, 1) := by decide +kernel
theorem dX15_readSide_40 : decode cX15_readSide 40 = .ok (.getfield 412, 3) := by decide +kernel
theorem dX15_readSide_43 : decode cX15_readSide 43 = .ok (.iconst 1, 1) := by decide +kernel
theorem dX15_readSide_44 : decode cX15_readSide 44 = .ok (.iadd, 1) := by decide +kernel
theorem dX15_readSide_45 : decode cX15_readSide 45 = .ok (.putfield 412, 3) := by decide +kernel
theorem dX15_readSide_48 : decode cX15_readSide 48 = .ok (.aload_n 0, 1) := by decide +kernel
theorem dX15_readSide_49 : decode cX15_readSide 49 = .ok (.bipush 32, 2) := by decide +kernel
theorem dX15_readSide_51 : decode cX15_readSide 51 = .ok (.invokevirtual 427, 3) := by decide +kernel
theorem dX15_readSide_54 : decode cX15_readSide 54 = .ok (.ireturn, 1) := by decide +kernel
set_option maxRecDepth 20000 in
theorem moX15_readSide_35 {o : Int32 × Hp} {h : Hp} {x0 : Nat} {t0 : Int32} {t1 : Nat} (hE : sX15_readSide_35 h x0 t0 t1 = some o) : Le h o.2 := by
  obtain ⟨h_1, eh_1, hE⟩ := nm_e2 hE
  refine (le_I eh_1).tr ?_
  obtain ⟨h_2, eh_2, hE⟩ := nm_e2 hE
  refine (le_I eh_2).tr ?_
  obtain ⟨o_3, eo_3, hE⟩ := cl_e hE
  refine (moX15_reads eo_3).tr ?_
  obtain ⟨g_4, hE⟩ := gd_e hE
  exact le_some2 hE
set_option maxRecDepth 20000 in
theorem moX15_readSide_20 {o : Int32 × Hp} {h : Hp} {x0 : Nat} {x1 : Nat} (hE : sX15_readSide_20 h x0 x1 = some o) : Le h o.2 := by
  obtain ⟨o_1, eo_1, hE⟩ := cl_e hE
  refine (moX15_look eo_1).tr ?_
  rcases br_e hE with ⟨_, hE⟩ | ⟨_, hE⟩
  · exact moX15_readSide_35 hE
  · exact moX15_readSide_35 hE
set_option maxRecDepth 20000 in
theorem moX15_readSide {o : Int32 × Hp} {h : Hp} {x0 : Nat} {x1 : Nat} (hE : sX15_readSide h x0 x1 = some o) : Le h o.2 := by
  obtain ⟨o_1, eo_1, hE⟩ := cl_e hE
  refine (moX15_look eo_1).tr ?_
  rcases br_e hE with ⟨_, hE⟩ | ⟨_, hE⟩
  · exact moX15_readSide_20 hE
  · obtain ⟨o_3, eo_3, hE⟩ := cl_e hE
    refine (moX15_look eo_3).tr ?_
    rcases br_e hE with ⟨_, hE⟩ | ⟨_, hE⟩
    · exact moX15_readSide_20 hE
    · exact le_some2 hE
set_option maxRecDepth 20000 in
theorem bX15_readSide_35 {p : Program} {l : Launch} {e : Env} {s : State} {m : MethodId} {args : Array Value} {below : List Frame} {meth : Method} {c : Code} {X : Ec} {h0 : Hp} {o : Int32 × Hp} (C : Cx X p s m args meth c RX15 cX15_readSide 2 (some .boolean) "readSide") {h : Hp} {x0 : Nat} {t0 : Int32} {t1 : Nat} {H : Heap} {locs : List Loc} (k_x0 : hK h x0 = 15) (k_t1 : hK h t1 = 12) (hkm : Km h0 h) (hW : Wx X h H) (hZ : va_S (aA (eB X)) s.heap H locs) (ls : Array Slot) (hl : lv_has ls 2 [(0, .ref x0)]) (hE : sX15_readSide_35 h x0 t0 t1 = some o) : W p l e (rm 2 41) s m args below meth c H locs 0 0 (MQ below (QI X h0 o.1 o.2) args s 0 0 (aA (eB X))) (F0 m 35 ls [.int t0, .ref t1]) := by
  obtain ⟨h_1, eh_1, hE⟩ := nm_e2 hE
  refine pf_X15_452 C hW hZ k_t1 eh_1 dX15_readSide_35 (fun _ _ hW km hZ => ?_)
  replace hkm := hkm.tr km
  replace k_x0 := km.at k_x0 (by decide)
  refine lv_aload_n C.1 C.2.1 dX15_readSide_38 rfl (lv_at hl 0 rfl) ?_
  refine lv_dup C.1 C.2.1 dX15_readSide_39 rfl ?_
  refine gf_X15_412 C hW k_x0 dX15_readSide_40 ?_
  refine lv_iconst (v := (1 : Int32)) C.1 C.2.1 dX15_readSide_43 (by decide) ?_
  refine lv_iadd C.1 C.2.1 dX15_readSide_44 ?_
  obtain ⟨h_2, eh_2, hE⟩ := nm_e2 hE
  refine pf_X15_412 C hW hZ k_x0 eh_2 dX15_readSide_45 (fun _ _ hW km hZ => ?_)
  replace hkm := hkm.tr km
  replace k_x0 := km.at k_x0 (by decide)
  refine lv_aload_n C.1 C.2.1 dX15_readSide_48 rfl (lv_at hl 0 rfl) ?_
  refine lv_bipush (v := (32 : Int32)) C.1 C.2.1 dX15_readSide_49 (by decide) ?_
  obtain ⟨o_3, eo_3, hE⟩ := cl_e hE
  refine x_kI (o := o_3) (z_runV (As := [.int (32 : Int32)]) (rest := []) C (ct_X15_reads l X k_x0 eo_3) cw_X15_427 hW hZ k_x0 (by decide) rfl rfl rfl hl.1 (Nat.le_of_ble_eq_true rfl) rfl dX15_readSide_51 ⟨Nat.le_of_ble_eq_true rfl, Nat.le_of_ble_eq_true rfl⟩ ⟨Nat.le_refl _, Nat.le_refl _⟩) hZ (fun _ _ hW km hZ => ?_)
  replace hkm := hkm.tr km
  replace k_x0 := km.at k_x0 (by decide)
  obtain ⟨g_4, hE⟩ := gd_e hE
  exact x_iret C rfl (narB g_4) hW hZ hkm hE dX15_readSide_54
set_option maxRecDepth 20000 in
theorem bX15_readSide_20 {p : Program} {l : Launch} {e : Env} {s : State} {m : MethodId} {args : Array Value} {below : List Frame} {meth : Method} {c : Code} {X : Ec} {h0 : Hp} {o : Int32 × Hp} (C : Cx X p s m args meth c RX15 cX15_readSide 2 (some .boolean) "readSide") {h : Hp} {x0 : Nat} {x1 : Nat} {H : Heap} {locs : List Loc} (k_x0 : hK h x0 = 15) (k_x1 : hK h x1 = 12) (hkm : Km h0 h) (hW : Wx X h H) (hZ : va_S (aA (eB X)) s.heap H locs) (ls : Array Slot) (hl : lv_has ls 2 [(0, .ref x0), (1, .ref x1)]) (hE : sX15_readSide_20 h x0 x1 = some o) : W p l e (rm 2 41) s m args below meth c H locs 0 0 (MQ below (QI X h0 o.1 o.2) args s 0 0 (aA (eB X))) (F0 m 20 ls []) := by
  refine lv_aload_n C.1 C.2.1 dX15_readSide_20 rfl (lv_at hl 1 rfl) ?_
  refine lv_aload_n C.1 C.2.1 dX15_readSide_21 rfl (lv_at hl 0 rfl) ?_
  obtain ⟨o_1, eo_1, hE⟩ := cl_e hE
  refine x_kI (o := o_1) (z_runV (As := []) (rest := [.ref x1]) C (ct_X15_look l X k_x0 eo_1) cw_X15_421 hW hZ k_x0 (by decide) rfl rfl rfl hl.1 (Nat.le_of_ble_eq_true rfl) rfl dX15_readSide_22 ⟨Nat.le_of_ble_eq_true rfl, Nat.le_of_ble_eq_true rfl⟩ ⟨Nat.le_refl _, Nat.le_refl _⟩) hZ (fun _ _ hW km hZ => ?_)
  replace hkm := hkm.tr km
  replace k_x0 := km.at k_x0 (by decide)
  replace k_x1 := km.at k_x1 (by decide)
  refine lv_bipush (v := (119 : Int32)) C.1 C.2.1 dX15_readSide_25 (by decide) ?_
  refine lv_icmp_ne (tgt := 34) C.1 C.2.1 dX15_readSide_27 (by decide) (fun c_2 => ?_) (fun c_2 => ?_)
  · have hE := br_n hE c_2
    refine lv_iconst (v := (1 : Int32)) C.1 C.2.1 dX15_readSide_34 (by decide) ?_
    exact bX15_readSide_35 C k_x0 k_x1 hkm hW hZ _ (lv_sub hl [0] rfl) hE
  · have hE := br_p hE c_2
    refine lv_iconst (v := (0 : Int32)) C.1 C.2.1 dX15_readSide_30 (by decide) ?_
    refine lv_goto (tgt := 35) C.1 C.2.1 dX15_readSide_31 (by decide) ?_
    exact bX15_readSide_35 C k_x0 k_x1 hkm hW hZ _ (lv_sub hl [0] rfl) hE
set_option maxRecDepth 20000 in
theorem ct_X15_readSide (l : Launch) (X : Ec) {h : Hp} {x0 : Nat} {x1 : Nat} {o : Int32 × Hp} (k_x0 : hK h x0 = 15) (k_x1 : hK h x1 = 12) (hE : sX15_readSide h x0 x1 = some o) : MetI l yX15_readSide cX15_readSide 2 (some .boolean) 2 41 X [.ref x0, .ref x1] h o := by
  refine x_met (by decide) (Nat.le_of_ble_eq_true rfl) ?_
  intro p e s m below meth c ls C hl hW hZ
  have hl : lv_has ls 2 [(0, .ref x0), (1, .ref x1)] := hl
  have hkm : Km h h := Km.rf h
  refine lv_aload_n C.1 C.2.1 dX15_readSide_0 rfl (lv_at hl 0 rfl) ?_
  obtain ⟨o_1, eo_1, hE⟩ := cl_e hE
  refine x_kI (o := o_1) (z_runV (As := []) (rest := []) C (ct_X15_look l X k_x0 eo_1) cw_X15_421 hW hZ k_x0 (by decide) rfl rfl rfl hl.1 (Nat.le_of_ble_eq_true rfl) rfl dX15_readSide_1 ⟨Nat.le_of_ble_eq_true rfl, Nat.le_of_ble_eq_true rfl⟩ ⟨Nat.le_refl _, Nat.le_refl _⟩) hZ (fun _ _ hW km hZ => ?_)
  replace hkm := hkm.tr km
  replace k_x0 := km.at k_x0 (by decide)
  replace k_x1 := km.at k_x1 (by decide)
  refine lv_bipush (v := (119 : Int32)) C.1 C.2.1 dX15_readSide_4 (by decide) ?_
  refine lv_icmp_eq (tgt := 20) C.1 C.2.1 dX15_readSide_6 (by decide) (fun c_2 => ?_) (fun c_2 => ?_)
  · have hE := br_p hE c_2
    exact bX15_readSide_20 C k_x0 k_x1 hkm hW hZ _ (lv_sub hl [0, 1] rfl) hE
  · have hE := br_n hE c_2
    refine lv_aload_n C.1 C.2.1 dX15_readSide_9 rfl (lv_at hl 0 rfl) ?_
    obtain ⟨o_3, eo_3, hE⟩ := cl_e hE
    refine x_kI (o := o_3) (z_runV (As := []) (rest := []) C (ct_X15_look l X k_x0 eo_3) cw_X15_421 hW hZ k_x0 (by decide) rfl rfl rfl hl.1 (Nat.le_of_ble_eq_true rfl) rfl dX15_readSide_10 ⟨Nat.le_of_ble_eq_true rfl, Nat.le_of_ble_eq_true rfl⟩ ⟨Nat.le_refl _, Nat.le_refl _⟩) hZ (fun _ _ hW km hZ => ?_)
    replace hkm := hkm.tr km
    replace k_x0 := km.at k_x0 (by decide)
    replace k_x1 := km.at k_x1 (by decide)
    refine lv_bipush (v := (98 : Int32)) C.1 C.2.1 dX15_readSide_13 (by decide) ?_
    refine lv_icmp_eq (tgt := 20) C.1 C.2.1 dX15_readSide_15 (by decide) (fun c_4 => ?_) (fun c_4 => ?_)
    · have hE := br_p hE c_4
      exact bX15_readSide_20 C k_x0 k_x1 hkm hW hZ _ (lv_sub hl [0, 1] rfl) hE
    · have hE := br_n hE c_4
      refine lv_iconst (v := (0 : Int32)) C.1 C.2.1 dX15_readSide_18 (by decide) ?_
      exact x_iret C rfl (by decide) hW hZ hkm hE dX15_readSide_19
