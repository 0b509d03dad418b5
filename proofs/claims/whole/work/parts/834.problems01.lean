set_option maxRecDepth 100000 in
theorem m_1765 : Cond.methodLink RX4 136 arraycopyName ∈ W0 := w0_in (List.mem_append_right _ (List.mem_of_getElem? (i := 1765) rfl)) rfl
section
variable {p : Program} {l : Launch} {e : Env} {R : Room} {s : State} {m : MethodId} {args : Array Value} {below : List Frame} {meth : Method} {c : Code} {H : Heap} {locs : List Loc} {cells slots : Nat} {Q : State → Prop}
variable {cc : ByteArray} {pc : Nat} {ls : Array Slot} {rest : List Value} {X : Ec} {h h1 : Hp} {nL : Nat} {rt : Option FieldType} {mn : String}
theorem gf_X4_38 {a r : Nat} (C : Cx X p s m args meth c RX4 cc nL rt mn) (hW : Wx X h H) (ha : hK h a = 4) (hr : hR h a 13 = some r) (hdg : decode cc pc = .ok (.getfield 38, 3)) (kk : hK h r = 17 → W p l e R s m args below meth c H locs cells slots Q (F0 m (pc + 3) ls (.ref r :: rest))) : W p l e R s m args below meth c H locs cells slots Q (F0 m pc ls (.ref a :: rest)) :=
  y_getr C hW ha i_X4 (by decide) rfl (by decide) m_543 rfl rfl hr hdg kk
theorem gf_X4_133 {a : Nat} (C : Cx X p s m args meth c RX4 cc nL rt mn) (hW : Wx X h H) (ha : hK h a = 4) (hdg : decode cc pc = .ok (.getfield 133, 3)) (kk : W p l e R s m args below meth c H locs cells slots Q (F0 m (pc + 3) ls (.int (hI h a 15) :: rest))) : W p l e R s m args below meth c H locs cells slots Q (F0 m pc ls (.ref a :: rest)) :=
  y_geti C hW ha i_X4 (by decide) rfl (by decide) m_545 rfl hdg kk
theorem gf_X4_35 {a r : Nat} (C : Cx X p s m args meth c RX4 cc nL rt mn) (hW : Wx X h H) (ha : hK h a = 4) (hr : hR h a 12 = some r) (hdg : decode cc pc = .ok (.getfield 35, 3)) (kk : hK h r = 17 → W p l e R s m args below meth c H locs cells slots Q (F0 m (pc + 3) ls (.ref r :: rest))) : W p l e R s m args below meth c H locs cells slots Q (F0 m pc ls (.ref a :: rest)) :=
  y_getr C hW ha i_X4 (by decide) rfl (by decide) m_542 rfl rfl hr hdg kk
theorem gf_X4_130 {a : Nat} (C : Cx X p s m args meth c RX4 cc nL rt mn) (hW : Wx X h H) (ha : hK h a = 4) (hdg : decode cc pc = .ok (.getfield 130, 3)) (kk : W p l e R s m args below meth c H locs cells slots Q (F0 m (pc + 3) ls (.int (hI h a 14) :: rest))) : W p l e R s m args below meth c H locs cells slots Q (F0 m pc ls (.ref a :: rest)) :=
  y_geti C hW ha i_X4 (by decide) rfl (by decide) m_544 rfl hdg kk
end
theorem dX4_keep_0 : decode cX4_keep 0 = .ok (.aload_n 0, 1) := by decide +kernel
theorem dX4_keep_1 : decode cX4_keep 1 = .ok (.iload_n 1, 1) := by decide +kernel
theorem dX4_keep_2 : decode cX4_keep 2 = .ok (.putfield 41, 3) := by decide +kernel
theorem dX4_keep_5 : decode cX4_keep 5 = .ok (.aload_n 0, 1) := by decide +kernel
theorem dX4_keep_6 : decode cX4_keep 6 = .ok (.iconst 0, 1) := by decide +kernel
theorem dX4_keep_7 : decode cX4_keep 7 = .ok (.putfield 130, 3) := by decide +kernel
theorem dX4_keep_10 : decode cX4_keep 10 = .ok (.iconst 0, 1) := by decide +kernel
theorem dX4_keep_11 : decode cX4_keep 11 = .ok (.istore_n 2, 1) := by decide +kernel
theorem dX4_keep_12 : decode cX4_keep 12 = .ok (.iload_n 2, 1) := by decide +kernel
theorem dX4_keep_13 : decode cX4_keep 13 = .ok (.aload_n 0, 1) := by decide +kernel
theorem dX4_keep_14 : decode cX4_keep 14 = .ok (.getfield 83, 3) := by decide +kernel
theorem dX4_keep_17 : decode cX4_keep 17 = .ok (.if_icmp .ge 38, 3) := by decide +kernel
theorem dX4_keep_20 : decode cX4_keep 20 = .ok (.aload_n 0, 1) := by decide +kernel
theorem dX4_keep_21 : decode cX4_keep 21 = .ok (.getfield 29, 3) := by decide +kernel
theorem dX4_keep_24 : decode cX4_keep 24 = .ok (.iload_n 2, 1) := by decide +kernel
theorem dX4_keep_25 : decode cX4_keep 25 = .ok (.iaload, 1) := by decide +kernel
theorem dX4_keep_26 : decode cX4_keep 26 = .ok (.ifCond .le 23, 3) := by decide +kernel
theorem dX4_keep_29 : decode cX4_keep 29 = .ok (.aload_n 0, 1) := by decide +kernel
theorem dX4_keep_30 : decode cX4_keep 30 = .ok (.getfield 35, 3) := by decide +kernel
theorem dX4_keep_33 : decode cX4_keep 33 = .ok (.aload_n 0, 1) := by decide +kernel
theorem dX4_keep_34 : decode cX4_keep 34 = .ok (.getfield 130, 3) := by decide +kernel
theorem dX4_keep_37 : decode cX4_keep 37 = .ok (.iload_n 2, 1) := by decide +kernel
theorem dX4_keep_38 : decode cX4_keep 38 = .ok (.iastore, 1) := by decide +kernel
theorem dX4_keep_39 : decode cX4_keep 39 = .ok (.aload_n 0, 1) := by decide +kernel
theorem dX4_keep_40 : decode cX4_keep 40 = .ok (.dup, 1) := by decide +kernel
theorem dX4_keep_41 : decode cX4_keep 41 = .ok (.getfield 130, 3) := by decide +kernel
theorem dX4_keep_44 : decode cX4_keep 44 = .ok (.iconst 1, 1) := by decide +kernel
theorem dX4_keep_45 : decode cX4_keep 45 = .ok (.iadd, 1) := by decide +kernel
theorem dX4_keep_46 : decode cX4_keep 46 = .ok (.putfield 130, 3) := by decide +kernel
theorem dX4_keep_49 : decode cX4_keep 49 = .ok (.iinc 2 1, 3) := by decide +kernel
theorem dX4_keep_52 : decode cX4_keep 52 = .ok (.goto (-40), 3) := by decide +kernel
theorem dX4_keep_55 : decode cX4_keep 55 = .ok (.aload_n 0, 1) := by decide +kernel
theorem dX4_keep_56 : decode cX4_keep 56 = .ok (.aload_n 0, 1) := by decide +kernel
theorem dX4_keep_57 : decode cX4_keep 57 = .ok (.getfield 50, 3) := by decide +kernel
theorem dX4_keep_60 : decode cX4_keep 60 = .ok (.ifCond .eq 11, 3) := by decide +kernel
theorem dX4_keep_63 : decode cX4_keep 63 = .ok (.aload_n 0, 1) := by decide +kernel
theorem dX4_keep_64 : decode cX4_keep 64 = .ok (.getfield 50, 3) := by decide +kernel
theorem dX4_keep_67 : decode cX4_keep 67 = .ok (.iconst 1, 1) := by decide +kernel
theorem dX4_keep_68 : decode cX4_keep 68 = .ok (.if_icmp .ne 10, 3) := by decide +kernel
theorem dX4_keep_71 : decode cX4_keep 71 = .ok (.aload_n 0, 1) := by decide +kernel
theorem dX4_keep_72 : decode cX4_keep 72 = .ok (.getfield 83, 3) := by decide +kernel
theorem dX4_keep_75 : decode cX4_keep 75 = .ok (.goto 4, 3) := by decide +kernel
theorem dX4_keep_78 : decode cX4_keep 78 = .ok (.iconst 0, 1) := by decide +kernel
theorem dX4_keep_79 : decode cX4_keep 79 = .ok (.putfield 133, 3) := by decide +kernel
theorem dX4_keep_82 : decode cX4_keep 82 = .ok (.aload_n 0, 1) := by decide +kernel
theorem dX4_keep_83 : decode cX4_keep 83 = .ok (.getfield 32, 3) := by decide +kernel
theorem dX4_keep_86 : decode cX4_keep 86 = .ok (.iconst 0, 1) := by decide +kernel
theorem dX4_keep_87 : decode cX4_keep 87 = .ok (.aload_n 0, 1) := by decide +kernel
theorem dX4_keep_88 : decode cX4_keep 88 = .ok (.getfield 38, 3) := by decide +kernel
theorem dX4_keep_91 : decode cX4_keep 91 = .ok (.iconst 0, 1) := by decide +kernel
theorem dX4_keep_92 : decode cX4_keep 92 = .ok (.aload_n 0, 1) := by decide +kernel
theorem dX4_keep_93 : decode cX4_keep 93 = .ok (.getfield 133, 3) := by decide +kernel
theorem dX4_keep_96 : decode cX4_keep 96 = .ok (.invokestatic 136, 3) := by decide +kernel
theorem dX4_keep_99 : decode cX4_keep 99 = .ok (.return_, 1) := by decide +kernel
set_option maxRecDepth 20000 in
theorem moX4_keep_79 {o : Hp} {F : Nat} {h : Hp} {x0 : Nat} {t0 : Int32} {t1 : Nat} (hE : sX4_keep_79 F h x0 t0 t1 = some o) : Le h o := by
  obtain ⟨h_1, eh_1, hE⟩ := nm_e2 hE
  refine (le_I eh_1).tr ?_
  obtain ⟨r_2, er_2, hE⟩ := cl_e hE
  obtain ⟨r_3, er_3, hE⟩ := cl_e hE
  obtain ⟨g_4, hE⟩ := gd_e hE
  obtain ⟨g_5, hE⟩ := gd_e hE
  obtain ⟨g_6, hE⟩ := gd_e hE
  obtain ⟨g_7, hE⟩ := gd_e hE
  obtain ⟨g_8, hE⟩ := gd_e hE
  obtain ⟨h_9, eh_9, hE⟩ := nm_e2 hE
  refine (le_cI eh_9).tr ?_
  exact le_some1 hE
set_option maxRecDepth 20000 in
theorem moX4_keep_71 {o : Hp} {F : Nat} {h : Hp} {x0 : Nat} {t0 : Nat} (hE : sX4_keep_71 F h x0 t0 = some o) : Le h o := by
  exact moX4_keep_79 hE
set_option maxRecDepth 20000 in
theorem moX4_keep_49 {o : Hp} {k_12 : Hp → Nat → Int32 → Option (Hp)} {F : Nat} (mk_12 : ∀ (h : Hp) (x0 : Nat) (x2 : Int32), k_12 h x0 x2 = some o → Le h o) {h : Hp} {x0 : Nat} {x2 : Int32} (hE : sX4_keep_49 F k_12 h x0 x2 = some o) : Le h o := by
  obtain ⟨v_1, ev_1, hE⟩ := nm_e2 hE
  exact mk_12 _ _ _ hE
set_option maxRecDepth 20000 in
theorem moX4_keep_12 {o : Hp} {F : Nat} : ∀ (f : Nat) {h : Hp} {x0 : Nat} {x2 : Int32}, sX4_keep_12 F f h x0 x2 = some o → Le h o := by
  intro f
  induction f with
  | zero =>
    intro h x0 x2 hE
    rw [sX4_keep_12] at hE
    cases hE
  | succ f ih =>
    intro h x0 x2 hE
    rw [sX4_keep_12] at hE
    have mk_12 : ∀ (h : Hp) (x0 : Nat) (x2 : Int32), sX4_keep_12 F f h x0 x2 = some o → Le h o := fun h x0 x2 hE => ih hE
    rcases br_e hE with ⟨_, hE⟩ | ⟨_, hE⟩
    · rcases br_e hE with ⟨_, hE⟩ | ⟨_, hE⟩
      · exact moX4_keep_71 hE
      · rcases br_e hE with ⟨_, hE⟩ | ⟨_, hE⟩
        · exact moX4_keep_71 hE
        · exact moX4_keep_79 hE
    · obtain ⟨r_4, er_4, hE⟩ := cl_e hE
      obtain ⟨g_5, hE⟩ := gd_e hE
      rcases br_e hE with ⟨_, hE⟩ | ⟨_, hE⟩
      · exact moX4_keep_49 mk_12 hE
      · obtain ⟨r_7, er_7, hE⟩ := cl_e hE
        obtain ⟨g_8, hE⟩ := gd_e hE
        obtain ⟨h_9, eh_9, hE⟩ := nm_e2 hE
        refine (le_I eh_9).tr ?_
        obtain ⟨h_10, eh_10, hE⟩ := nm_e2 hE
        refine (le_I eh_10).tr ?_
        exact moX4_keep_49 mk_12 hE
set_option maxRecDepth 20000 in
theorem moX4_keep {o : Hp} {F : Nat} {h : Hp} {x0 : Nat} {x1 : Int32} (hE : sX4_keep F h x0 x1 = some o) : Le h o := by
  obtain ⟨h_1, eh_1, hE⟩ := nm_e2 hE
  refine (le_I eh_1).tr ?_
  obtain ⟨h_2, eh_2, hE⟩ := nm_e2 hE
  refine (le_I eh_2).tr ?_
  exact moX4_keep_12 _ hE
set_option maxRecDepth 20000 in
theorem bX4_keep_79 {p : Program} {l : Launch} {e : Env} {s : State} {m : MethodId} {args : Array Value} {below : List Frame} {meth : Method} {c : Code} {X : Ec} {h0 : Hp} {o : Hp} {F : Nat} (C : Cx X p s m args meth c RX4 cX4_keep 3 none "keep") {h : Hp} {x0 : Nat} {t0 : Int32} {t1 : Nat} {H : Heap} {locs : List Loc} (k_x0 : hK h x0 = 4) (k_t1 : hK h t1 = 4) (hkm : Km h0 h) (hW : Wx X h H) (hZ : va_S (aA (eB X)) s.heap H locs) (ls : Array Slot) (hl : lv_has ls 3 [(0, .ref x0)]) (hE : sX4_keep_79 F h x0 t0 t1 = some o) : W p l e (rm 1 64) s m args below meth c H locs 0 0 (MQ below (QV X h0 o) args s 0 0 (aA (eB X))) (F0 m 79 ls [.int t0, .ref t1]) := by
  obtain ⟨h_1, eh_1, hE⟩ := nm_e2 hE
  refine pf_X4_133 C hW hZ k_t1 eh_1 dX4_keep_79 (fun _ _ hW km hZ => ?_)
  replace hkm := hkm.tr km
  replace k_x0 := km.at k_x0 (by decide)
  refine lv_aload_n C.1 C.2.1 dX4_keep_82 rfl (lv_at hl 0 rfl) ?_
  obtain ⟨r_2, er_2, hE⟩ := cl_e hE
  refine gf_X4_32 C hW k_x0 er_2 dX4_keep_83 (fun k_r_2 => ?_)
  refine lv_iconst (v := (0 : Int32)) C.1 C.2.1 dX4_keep_86 (by decide) ?_
  refine lv_aload_n C.1 C.2.1 dX4_keep_87 rfl (lv_at hl 0 rfl) ?_
  obtain ⟨r_3, er_3, hE⟩ := cl_e hE
  refine gf_X4_38 C hW k_x0 er_3 dX4_keep_88 (fun k_r_3 => ?_)
  refine lv_iconst (v := (0 : Int32)) C.1 C.2.1 dX4_keep_91 (by decide) ?_
  refine lv_aload_n C.1 C.2.1 dX4_keep_92 rfl (lv_at hl 0 rfl) ?_
  refine gf_X4_133 C hW k_x0 dX4_keep_93 ?_
  obtain ⟨g_4, hE⟩ := gd_e hE
  obtain ⟨g_5, hE⟩ := gd_e hE
  obtain ⟨g_6, hE⟩ := gd_e hE
  obtain ⟨g_7, hE⟩ := gd_e hE
  obtain ⟨g_8, hE⟩ := gd_e hE
  obtain ⟨h_9, eh_9, hE⟩ := nm_e2 hE
  refine y_cpyI (ty := .int) C hW hZ hl.1 m_1765 m_1235 m_1234 m_23 k_r_2 k_r_3 (Or.inr (Or.inl ⟨rfl, rfl⟩)) g_4 g_5 g_6 g_7 g_8 (fun _ _ => rfl) (Nat.le_of_ble_eq_true rfl) (Nat.le_of_ble_eq_true rfl) eh_9 dX4_keep_96 (fun _ _ hW km hZ => ?_)
  replace hkm := hkm.tr km
  replace k_x0 := km.at k_x0 (by decide)
  exact x_vret C rfl hW hZ hkm hE dX4_keep_99
set_option maxRecDepth 20000 in
theorem bX4_keep_71 {p : Program} {l : Launch} {e : Env} {s : State} {m : MethodId} {args : Array Value} {below : List Frame} {meth : Method} {c : Code} {X : Ec} {h0 : Hp} {o : Hp} {F : Nat} (C : Cx X p s m args meth c RX4 cX4_keep 3 none "keep") {h : Hp} {x0 : Nat} {t0 : Nat} {H : Heap} {locs : List Loc} (k_x0 : hK h x0 = 4) (k_t0 : hK h t0 = 4) (hkm : Km h0 h) (hW : Wx X h H) (hZ : va_S (aA (eB X)) s.heap H locs) (ls : Array Slot) (hl : lv_has ls 3 [(0, .ref x0)]) (hE : sX4_keep_71 F h x0 t0 = some o) : W p l e (rm 1 64) s m args below meth c H locs 0 0 (MQ below (QV X h0 o) args s 0 0 (aA (eB X))) (F0 m 71 ls [.ref t0]) := by
  refine lv_aload_n C.1 C.2.1 dX4_keep_71 rfl (lv_at hl 0 rfl) ?_
  refine gf_X4_83 C hW k_x0 dX4_keep_72 ?_
  refine lv_goto (tgt := 79) C.1 C.2.1 dX4_keep_75 (by decide) ?_
  exact bX4_keep_79 C k_x0 k_t0 hkm hW hZ _ (lv_sub hl [0] rfl) hE
set_option maxRecDepth 20000 in
theorem bX4_keep_49 {p : Program} {l : Launch} {e : Env} {s : State} {m : MethodId} {args : Array Value} {below : List Frame} {meth : Method} {c : Code} {X : Ec} {h0 : Hp} {o : Hp} {k_12 : Hp → Nat → Int32 → Option (Hp)} {F : Nat} (C : Cx X p s m args meth c RX4 cX4_keep 3 none "keep") (hk_12 : ∀ (h : Hp) (x0 : Nat) (x2 : Int32) (H : Heap) (locs : List Loc), hK h x0 = 4 → Km h0 h → Wx X h H → va_S (aA (eB X)) s.heap H locs → ∀ (ls : Array Slot), lv_has ls 3 [(0, .ref x0), (2, .int x2)] → k_12 h x0 x2 = some o → W p l e (rm 1 64) s m args below meth c H locs 0 0 (MQ below (QV X h0 o) args s 0 0 (aA (eB X))) (F0 m 12 ls [])) {h : Hp} {x0 : Nat} {x2 : Int32} {H : Heap} {locs : List Loc} (k_x0 : hK h x0 = 4) (hkm : Km h0 h) (hW : Wx X h H) (hZ : va_S (aA (eB X)) s.heap H locs) (ls : Array Slot) (hl : lv_has ls 3 [(0, .ref x0), (2, .int x2)]) (hE : sX4_keep_49 F k_12 h x0 x2 = some o) : W p l e (rm 1 64) s m args below meth c H locs 0 0 (MQ below (QV X h0 o) args s 0 0 (aA (eB X))) (F0 m 49 ls []) := by
  obtain ⟨v_1, ev_1, hE⟩ := nm_e2 hE
  refine lv_iinc (v := v_1) (lv' := [(2, .int v_1), (0, .ref x0)]) C.1 C.2.1 dX4_keep_49 hl (k := 1) rfl (by rw [ev_1]; rfl) (by decide) rfl (fun ls hl => ?_)
  refine lv_goto (tgt := 12) C.1 C.2.1 dX4_keep_52 (by decide) ?_
  exact hk_12 _ _ _ _ _ k_x0 hkm hW hZ _ (lv_sub hl [1, 0] rfl) hE
set_option maxRecDepth 20000 in
theorem bX4_keep_12 {p : Program} {l : Launch} {e : Env} {s : State} {m : MethodId} {args : Array Value} {below : List Frame} {meth : Method} {c : Code} {X : Ec} {h0 : Hp} {o : Hp} {F : Nat} (C : Cx X p s m args meth c RX4 cX4_keep 3 none "keep") : ∀ (f : Nat) {h : Hp} {x0 : Nat} {x2 : Int32} {H : Heap} {locs : List Loc} (k_x0 : hK h x0 = 4), Km h0 h → Wx X h H → va_S (aA (eB X)) s.heap H locs → ∀ (ls : Array Slot), lv_has ls 3 [(0, .ref x0), (2, .int x2)] → sX4_keep_12 F f h x0 x2 = some o → W p l e (rm 1 64) s m args below meth c H locs 0 0 (MQ below (QV X h0 o) args s 0 0 (aA (eB X))) (F0 m 12 ls []) := by
  intro f
  induction f with
  | zero =>
    intro h x0 x2 H locs k_x0 hkm hW hZ ls hl hE
    rw [sX4_keep_12] at hE
    cases hE
  | succ f ih =>
    intro h x0 x2 H locs k_x0 hkm hW hZ ls hl hE
    rw [sX4_keep_12] at hE
    have hk_12 : ∀ (h : Hp) (x0 : Nat) (x2 : Int32) (H : Heap) (locs : List Loc), hK h x0 = 4 → Km h0 h → Wx X h H → va_S (aA (eB X)) s.heap H locs → ∀ (ls : Array Slot), lv_has ls 3 [(0, .ref x0), (2, .int x2)] → sX4_keep_12 F f h x0 x2 = some o → W p l e (rm 1 64) s m args below meth c H locs 0 0 (MQ below (QV X h0 o) args s 0 0 (aA (eB X))) (F0 m 12 ls []) := fun h x0 x2 H locs k_x0 a b c ls hl hE => ih k_x0 a b c ls hl hE
    refine lv_iload_n C.1 C.2.1 dX4_keep_12 rfl (lv_at hl 1 rfl) ?_
    refine lv_aload_n C.1 C.2.1 dX4_keep_13 rfl (lv_at hl 0 rfl) ?_
    refine gf_X4_83 C hW k_x0 dX4_keep_14 ?_
    refine lv_icmp_ge (tgt := 55) C.1 C.2.1 dX4_keep_17 (by decide) (fun c_1 => ?_) (fun c_1 => ?_)
    · have hE := br_p hE c_1
      refine lv_aload_n C.1 C.2.1 dX4_keep_55 rfl (lv_at hl 0 rfl) ?_
      refine lv_aload_n C.1 C.2.1 dX4_keep_56 rfl (lv_at hl 0 rfl) ?_
      refine gf_X4_50 C hW k_x0 dX4_keep_57 ?_
      refine lv_if_eq (tgt := 71) C.1 C.2.1 dX4_keep_60 (by decide) (fun c_2 => ?_) (fun c_2 => ?_)
      · have hE := br_p hE c_2
        exact bX4_keep_71 C k_x0 k_x0 hkm hW hZ _ (lv_sub hl [0] rfl) hE
      · have hE := br_n hE c_2
        refine lv_aload_n C.1 C.2.1 dX4_keep_63 rfl (lv_at hl 0 rfl) ?_
        refine gf_X4_50 C hW k_x0 dX4_keep_64 ?_
        refine lv_iconst (v := (1 : Int32)) C.1 C.2.1 dX4_keep_67 (by decide) ?_
        refine lv_icmp_ne (tgt := 78) C.1 C.2.1 dX4_keep_68 (by decide) (fun c_3 => ?_) (fun c_3 => ?_)
        · have hE := br_n hE c_3
          refine lv_iconst (v := (0 : Int32)) C.1 C.2.1 dX4_keep_78 (by decide) ?_
          exact bX4_keep_79 C k_x0 k_x0 hkm hW hZ _ (lv_sub hl [0] rfl) hE
        · have hE := br_p hE c_3
          exact bX4_keep_71 C k_x0 k_x0 hkm hW hZ _ (lv_sub hl [0] rfl) hE
    · have hE := br_n hE c_1
      refine lv_aload_n C.1 C.2.1 dX4_keep_20 rfl (lv_at hl 0 rfl) ?_
      obtain ⟨r_4, er_4, hE⟩ := cl_e hE
      refine gf_X4_29 C hW k_x0 er_4 dX4_keep_21 (fun k_r_4 => ?_)
      refine lv_iload_n C.1 C.2.1 dX4_keep_24 rfl (lv_at hl 1 rfl) ?_
      obtain ⟨g_5, hE⟩ := gd_e hE
      refine y_iald C hW k_r_4 g_5 dX4_keep_25 ?_
      refine lv_if_le (tgt := 49) C.1 C.2.1 dX4_keep_26 (by decide) (fun c_6 => ?_) (fun c_6 => ?_)
      · have hE := br_p hE c_6
        exact bX4_keep_49 C hk_12 k_x0 hkm hW hZ _ (lv_sub hl [0, 1] rfl) hE
      · have hE := br_n hE c_6
        refine lv_aload_n C.1 C.2.1 dX4_keep_29 rfl (lv_at hl 0 rfl) ?_
        obtain ⟨r_7, er_7, hE⟩ := cl_e hE
        refine gf_X4_35 C hW k_x0 er_7 dX4_keep_30 (fun k_r_7 => ?_)
        refine lv_aload_n C.1 C.2.1 dX4_keep_33 rfl (lv_at hl 0 rfl) ?_
        refine gf_X4_130 C hW k_x0 dX4_keep_34 ?_
        refine lv_iload_n C.1 C.2.1 dX4_keep_37 rfl (lv_at hl 1 rfl) ?_
        obtain ⟨g_8, hE⟩ := gd_e hE
        obtain ⟨h_9, eh_9, hE⟩ := nm_e2 hE
        refine y_iast C hW hZ k_r_7 g_8 eh_9 dX4_keep_38 (fun _ _ hW km hZ => ?_)
        replace hkm := hkm.tr km
        replace k_x0 := km.at k_x0 (by decide)
        refine lv_aload_n C.1 C.2.1 dX4_keep_39 rfl (lv_at hl 0 rfl) ?_
        refine lv_dup C.1 C.2.1 dX4_keep_40 rfl ?_
        refine gf_X4_130 C hW k_x0 dX4_keep_41 ?_
        refine lv_iconst (v := (1 : Int32)) C.1 C.2.1 dX4_keep_44 (by decide) ?_
        refine lv_iadd C.1 C.2.1 dX4_keep_45 ?_
        obtain ⟨h_10, eh_10, hE⟩ := nm_e2 hE
        refine pf_X4_130 C hW hZ k_x0 eh_10 dX4_keep_46 (fun _ _ hW km hZ => ?_)
        replace hkm := hkm.tr km
        replace k_x0 := km.at k_x0 (by decide)
        exact bX4_keep_49 C hk_12 k_x0 hkm hW hZ _ (lv_sub hl [0, 1] rfl) hE
set_option maxRecDepth 20000 in
theorem ct_X4_keep (l : Launch) (X : Ec) (F : Nat) {h : Hp} {x0 : Nat} {x1 : Int32} {o : Hp} (k_x0 : hK h x0 = 4) (hE : sX4_keep F h x0 x1 = some o) : MetV l yX4_keep cX4_keep 3 none 1 64 X [.ref x0, .int x1] h o := by
  refine x_met (by decide) (Nat.le_of_ble_eq_true rfl) ?_
  intro p e s m below meth c ls C hl hW hZ
  have hl : lv_has ls 3 [(0, .ref x0), (1, .int x1)] := hl
  have hkm : Km h h := Km.rf h
  refine lv_aload_n C.1 C.2.1 dX4_keep_0 rfl (lv_at hl 0 rfl) ?_
  refine lv_iload_n C.1 C.2.1 dX4_keep_1 rfl (lv_at hl 1 rfl) ?_
  obtain ⟨h_1, eh_1, hE⟩ := nm_e2 hE
  refine pf_X4_41 C hW hZ k_x0 eh_1 dX4_keep_2 (fun _ _ hW km hZ => ?_)
  replace hkm := hkm.tr km
  replace k_x0 := km.at k_x0 (by decide)
  refine lv_aload_n C.1 C.2.1 dX4_keep_5 rfl (lv_at hl 0 rfl) ?_
  refine lv_iconst (v := (0 : Int32)) C.1 C.2.1 dX4_keep_6 (by decide) ?_
  obtain ⟨h_2, eh_2, hE⟩ := nm_e2 hE
  refine pf_X4_130 C hW hZ k_x0 eh_2 dX4_keep_7 (fun _ _ hW km hZ => ?_)
  replace hkm := hkm.tr km
  replace k_x0 := km.at k_x0 (by decide)
  refine lv_iconst (v := (0 : Int32)) C.1 C.2.1 dX4_keep_10 (by decide) ?_
  refine lv_istore_n (lv' := [(2, .int (0 : Int32)), (0, .ref x0), (1, .int x1)]) C.1 C.2.1 dX4_keep_11 rfl hl (by decide) rfl (fun ls hl => ?_)
  exact bX4_keep_12 C F k_x0 hkm hW hZ _ (lv_sub hl [1, 0] rfl) hE
theorem dX4_keyAt_0 : decode cX4_keyAt 0 = .ok (.iload_n 1, 1) := by decide +kernel
theorem dX4_keyAt_1 : decode cX4_keyAt 1 = .ok (.ifCond .lt 20, 3) := by decide +kernel
theorem dX4_keyAt_4 : decode cX4_keyAt 4 = .ok (.iload_n 1, 1) := by decide +kernel
theorem dX4_keyAt_5 : decode cX4_keyAt 5 = .ok (.aload_n 0, 1) := by decide +kernel
theorem dX4_keyAt_6 : decode cX4_keyAt 6 = .ok (.getfield 130, 3) := by decide +kernel
theorem dX4_keyAt_9 : decode cX4_keyAt 9 = .ok (.if_icmp .ge 12, 3) := by decide +kernel
theorem dX4_keyAt_12 : decode cX4_keyAt 12 = .ok (.aload_n 0, 1) := by decide +kernel
theorem dX4_keyAt_13 : decode cX4_keyAt 13 = .ok (.getfield 35, 3) := by decide +kernel
theorem dX4_keyAt_16 : decode cX4_keyAt 16 = .ok (.iload_n 1, 1) := by decide +kernel
theorem dX4_keyAt_17 : decode cX4_keyAt 17 = .ok (.iaload, 1) := by decide +kernel
theorem dX4_keyAt_18 : decode cX4_keyAt 18 = .ok (.goto 4, 3) := by decide +kernel
theorem dX4_keyAt_21 : decode cX4_keyAt 21 = .ok (.iconst (-1), 1) := by decide +kernel
theorem dX4_keyAt_22 : decode cX4_keyAt 22 = .ok (.ireturn, 1) := by decide +kernel
set_option maxRecDepth 20000 in
theorem moX4_keyAt_22 {o : Int32 × Hp} {h : Hp} {t0 : Int32} (hE : sX4_keyAt_22 h  t0 = some o) : Le h o.2 := by
  exact le_some2 hE
set_option maxRecDepth 20000 in
theorem moX4_keyAt_21 {o : Int32 × Hp} {h : Hp} (hE : sX4_keyAt_21 h  = some o) : Le h o.2 := by
  exact moX4_keyAt_22 hE
set_option maxRecDepth 20000 in
theorem moX4_keyAt {o : Int32 × Hp} {h : Hp} {x0 : Nat} {x1 : Int32} (hE : sX4_keyAt h x0 x1 = some o) : Le h o.2 := by
  rcases br_e hE with ⟨_, hE⟩ | ⟨_, hE⟩
  · exact moX4_keyAt_21 hE
  · rcases br_e hE with ⟨_, hE⟩ | ⟨_, hE⟩
    · exact moX4_keyAt_21 hE
    · obtain ⟨r_3, er_3, hE⟩ := cl_e hE
      obtain ⟨g_4, hE⟩ := gd_e hE
      exact moX4_keyAt_22 hE
set_option maxRecDepth 20000 in
theorem bX4_keyAt_22 {p : Program} {l : Launch} {e : Env} {s : State} {m : MethodId} {args : Array Value} {below : List Frame} {meth : Method} {c : Code} {X : Ec} {h0 : Hp} {o : Int32 × Hp} (C : Cx X p s m args meth c RX4 cX4_keyAt 2 (some .int) "keyAt") {h : Hp} {t0 : Int32} {H : Heap} {locs : List Loc} (hkm : Km h0 h) (hW : Wx X h H) (hZ : va_S (aA (eB X)) s.heap H locs) (ls : Array Slot) (hl : lv_has ls 2 []) (hE : sX4_keyAt_22 h  t0 = some o) : W p l e (rm 0 0) s m args below meth c H locs 0 0 (MQ below (QI X h0 o.1 o.2) args s 0 0 (aA (eB X))) (F0 m 22 ls [.int t0]) := by
  exact x_iret C rfl rfl hW hZ hkm hE dX4_keyAt_22
set_option maxRecDepth 20000 in
theorem bX4_keyAt_21 {p : Program} {l : Launch} {e : Env} {s : State} {m : MethodId} {args : Array Value} {below : List Frame} {meth : Method} {c : Code} {X : Ec} {h0 : Hp} {o : Int32 × Hp} (C : Cx X p s m args meth c RX4 cX4_keyAt 2 (some .int) "keyAt") {h : Hp} {H : Heap} {locs : List Loc} (hkm : Km h0 h) (hW : Wx X h H) (hZ : va_S (aA (eB X)) s.heap H locs) (ls : Array Slot) (hl : lv_has ls 2 []) (hE : sX4_keyAt_21 h  = some o) : W p l e (rm 0 0) s m args below meth c H locs 0 0 (MQ below (QI X h0 o.1 o.2) args s 0 0 (aA (eB X))) (F0 m 21 ls []) := by
  refine lv_iconst (v := (-1 : Int32)) C.1 C.2.1 dX4_keyAt_21 (by decide) ?_
  exact bX4_keyAt_22 C hkm hW hZ _ (lv_sub hl [] rfl) hE
set_option maxRecDepth 20000 in
theorem ct_X4_keyAt (l : Launch) (X : Ec) {h : Hp} {x0 : Nat} {x1 : Int32} {o : Int32 × Hp} (k_x0 : hK h x0 = 4) (hE : sX4_keyAt h x0 x1 = some o) : MetI l yX4_keyAt cX4_keyAt 2 (some .int) 0 0 X [.ref x0, .int x1] h o := by
  refine x_met (by decide) (Nat.le_of_ble_eq_true rfl) ?_
  intro p e s m below meth c ls C hl hW hZ
  have hl : lv_has ls 2 [(0, .ref x0), (1, .int x1)] := hl
  have hkm : Km h h := Km.rf h
  refine lv_iload_n C.1 C.2.1 dX4_keyAt_0 rfl (lv_at hl 1 rfl) ?_
  refine lv_if_lt (tgt := 21) C.1 C.2.1 dX4_keyAt_1 (by decide) (fun c_1 => ?_) (fun c_1 => ?_)
  · have hE := br_p hE c_1
    exact bX4_keyAt_21 C hkm hW hZ _ (lv_sub hl [] rfl) hE
  · have hE := br_n hE c_1
    refine lv_iload_n C.1 C.2.1 dX4_keyAt_4 rfl (lv_at hl 1 rfl) ?_
    refine lv_aload_n C.1 C.2.1 dX4_keyAt_5 rfl (lv_at hl 0 rfl) ?_
    refine gf_X4_130 C hW k_x0 dX4_keyAt_6 ?_
    refine lv_icmp_ge (tgt := 21) C.1 C.2.1 dX4_keyAt_9 (by decide) (fun c_2 => ?_) (fun c_2 => ?_)
    · have hE := br_p hE c_2
      exact bX4_keyAt_21 C hkm hW hZ _ (lv_sub hl [] rfl) hE
    · have hE := br_n hE c_2
      refine lv_aload_n C.1 C.2.1 dX4_keyAt_12 rfl (lv_at hl 0 rfl) ?_
      obtain ⟨r_3, er_3, hE⟩ := cl_e hE
      refine gf_X4_35 C hW k_x0 er_3 dX4_keyAt_13 (fun k_r_3 => ?_)
      refine lv_iload_n C.1 C.2.1 dX4_keyAt_16 rfl (lv_at hl 1 rfl) ?_
      obtain ⟨g_4, hE⟩ := gd_e hE
      refine y_iald C hW k_r_3 g_4 dX4_keyAt_17 ?_
      refine lv_goto (tgt := 22) C.1 C.2.1 dX4_keyAt_18 (by decide) ?_
      exact bX4_keyAt_22 C hkm hW hZ _ (lv_sub hl [] rfl) hE
theorem dX4_refutesOf_0 : decode cX4_refutesOf 0 = .ok (.iload_n 1, 1) := by decide +kernel
theorem dX4_refutesOf_1 : decode cX4_refutesOf 1 = .ok (.ifCond .lt 20, 3) := by decide +kernel
theorem dX4_refutesOf_4 : decode cX4_refutesOf 4 = .ok (.iload_n 1, 1) := by decide +kernel
theorem dX4_refutesOf_5 : decode cX4_refutesOf 5 = .ok (.aload_n 0, 1) := by decide +kernel
theorem dX4_refutesOf_6 : decode cX4_refutesOf 6 = .ok (.getfield 133, 3) := by decide +kernel
theorem dX4_refutesOf_9 : decode cX4_refutesOf 9 = .ok (.if_icmp .ge 12, 3) := by decide +kernel
theorem dX4_refutesOf_12 : decode cX4_refutesOf 12 = .ok (.aload_n 0, 1) := by decide +kernel
theorem dX4_refutesOf_13 : decode cX4_refutesOf 13 = .ok (.getfield 38, 3) := by decide +kernel
theorem dX4_refutesOf_16 : decode cX4_refutesOf 16 = .ok (.iload_n 1, 1) := by decide +kernel
theorem dX4_refutesOf_17 : decode cX4_refutesOf 17 = .ok (.iaload, 1) := by decide +kernel
theorem dX4_refutesOf_18 : decode cX4_refutesOf 18 = .ok (.goto 4, 3) := by decide +kernel
theorem dX4_refutesOf_21 : decode cX4_refutesOf 21 = .ok (.iconst (-1), 1) := by decide +kernel
theorem dX4_refutesOf_22 : decode cX4_refutesOf 22 = .ok (.ireturn, 1) := by decide +kernel
set_option maxRecDepth 20000 in
theorem moX4_refutesOf_22 {o : Int32 × Hp} {h : Hp} {t0 : Int32} (hE : sX4_refutesOf_22 h  t0 = some o) : Le h o.2 := by
  exact le_some2 hE
set_option maxRecDepth 20000 in
theorem moX4_refutesOf_21 {o : Int32 × Hp} {h : Hp} (hE : sX4_refutesOf_21 h  = some o) : Le h o.2 := by
  exact moX4_refutesOf_22 hE
set_option maxRecDepth 20000 in
theorem moX4_refutesOf {o : Int32 × Hp} {h : Hp} {x0 : Nat} {x1 : Int32} (hE : sX4_refutesOf h x0 x1 = some o) : Le h o.2 := by
  rcases br_e hE with ⟨_, hE⟩ | ⟨_, hE⟩
  · exact moX4_refutesOf_21 hE
  · rcases br_e hE with ⟨_, hE⟩ | ⟨_, hE⟩
    · exact moX4_refutesOf_21 hE
    · obtain ⟨r_3, er_3, hE⟩ := cl_e hE
      obtain ⟨g_4, hE⟩ := gd_e hE
      exact moX4_refutesOf_22 hE
set_option maxRecDepth 20000 in
theorem bX4_refutesOf_22 {p : Program} {l : Launch} {e : Env} {s : State} {m : MethodId} {args : Array Value} {below : List Frame} {meth : Method} {c : Code} {X : Ec} {h0 : Hp} {o : Int32 × Hp} (C : Cx X p s m args meth c RX4 cX4_refutesOf 2 (some .int) "refutesOf") {h : Hp} {t0 : Int32} {H : Heap} {locs : List Loc} (hkm : Km h0 h) (hW : Wx X h H) (hZ : va_S (aA (eB X)) s.heap H locs) (ls : Array Slot) (hl : lv_has ls 2 []) (hE : sX4_refutesOf_22 h  t0 = some o) : W p l e (rm 0 0) s m args below meth c H locs 0 0 (MQ below (QI X h0 o.1 o.2) args s 0 0 (aA (eB X))) (F0 m 22 ls [.int t0]) := by
  exact x_iret C rfl rfl hW hZ hkm hE dX4_refutesOf_22
set_option maxRecDepth 20000 in
theorem bX4_refutesOf_21 {p : Program} {l : Launch} {e : Env} {s : State} {m : MethodId} {args : Array Value} {below : List Frame} {meth : Method} {c : Code} {X : Ec} {h0 : Hp} {o : Int32 × Hp} (C : Cx X p s m args meth c RX4 cX4_refutesOf 2 (some .int) "refutesOf") {h : Hp} {H : Heap} {locs : List Loc} (hkm : Km h0 h) (hW : Wx X h H) (hZ : va_S (aA (eB X)) s.heap H locs) (ls : Array Slot) (hl : lv_has ls 2 []) (hE : sX4_refutesOf_21 h  = some o) : W p l e (rm 0 0) s m args below meth c H locs 0 0 (MQ below (QI X h0 o.1 o.2) args s 0 0 (aA (eB X))) (F0 m 21 ls []) := by
  refine lv_iconst (v := (-1 : Int32)) C.1 C.2.1 dX4_refutesOf_21 (by decide) ?_
  exact bX4_refutesOf_22 C hkm hW hZ _ (lv_sub hl [] rfl) hE
set_option maxRecDepth 20000 in
theorem ct_X4_refutesOf (l : Launch) (X : Ec) {h : Hp} {x0 : Nat} {x1 : Int32} {o : Int32 × Hp} (k_x0 : hK h x0 = 4) (hE : sX4_refutesOf h x0 x1 = some o) : MetI l yX4_refutesOf cX4_refutesOf 2 (some .int) 0 0 X [.ref x0, .int x1] h o := by
  refine x_met (by decide) (Nat.le_of_ble_eq_true rfl) ?_
  intro p e s m below meth c ls C hl hW hZ
  have hl : lv_has ls 2 [(0, .ref x0), (1, .int x1)] := hl
  have hkm : Km h h := Km.rf h
  refine lv_iload_n C.1 C.2.1 dX4_refutesOf_0 rfl (lv_at hl 1 rfl) ?_
  refine lv_if_lt (tgt := 21) C.1 C.2.1 dX4_refutesOf_1 (by decide) (fun c_1 => ?_) (fun c_1 => ?_)
  · have hE := br_p hE c_1
    exact bX4_refutesOf_21 C hkm hW hZ _ (lv_sub hl [] rfl) hE
  · have hE := br_n hE c_1
    refine lv_iload_n C.1 C.2.1 dX4_refutesOf_4 rfl (lv_at hl 1 rfl) ?_
    refine lv_aload_n C.1 C.2.1 dX4_refutesOf_5 rfl (lv_at hl 0 rfl) ?_
    refine gf_X4_133 C hW k_x0 dX4_refutesOf_6 ?_
    refine lv_icmp_ge (tgt := 21) C.1 C.2.1 dX4_refutesOf_9 (by decide) (fun c_2 => ?_) (fun c_2 => ?_)
    · have hE := br_p hE c_2
      exact bX4_refutesOf_21 C hkm hW hZ _ (lv_sub hl [] rfl) hE
    · have hE := br_n hE c_2
      refine lv_aload_n C.1 C.2.1 dX4_refutesOf_12 rfl (lv_at hl 0 rfl) ?_
      obtain ⟨r_3, er_3, hE⟩ := cl_e hE
      refine gf_X4_38 C hW k_x0 er_3 dX4_refutesOf_13 (fun k_r_3 => ?_)
      refine lv_iload_n C.1 C.2.1 dX4_refutesOf_16 rfl (lv_at hl 1 rfl) ?_
      obtain ⟨g_4, hE⟩ := gd_e hE
      refine y_iald C hW k_r_3 g_4 dX4_refutesOf_17 ?_
      refine lv_goto (tgt := 22) C.1 C.2.1 dX4_refutesOf_18 (by decide) ?_
      exact bX4_refutesOf_22 C hkm hW hZ _ (lv_sub hl [] rfl) hE
