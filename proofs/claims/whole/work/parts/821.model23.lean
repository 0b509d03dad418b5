theorem dX15_sizeOf_0 : decode cX15_sizeOf 0 = .ok (.iconst 2, 1) := by decide +kernel
theorem dX15_sizeOf_1 : decode cX15_sizeOf 1 = .ok (.istore_n 2, 1) := by decide +kernel
theorem dX15_sizeOf_2 : decode cX15_sizeOf 2 = .ok (.iconst 0, 1) := by decide +kernel
theorem dX15_sizeOf_3 : decode cX15_sizeOf 3 = .ok (.istore_n 3, 1) := by decide +kernel
theorem dX15_sizeOf_4 : decode cX15_sizeOf 4 = .ok (.iload_n 3, 1) := by decide +kernel
theorem dX15_sizeOf_5 : decode cX15_sizeOf 5 = .ok (.aload_n 0, 1) := by decide +kernel
theorem dX15_sizeOf_6 : decode cX15_sizeOf 6 = .ok (.getfield 333, 3) := by decide +kernel
theorem dX15_sizeOf_9 : decode cX15_sizeOf 9 = .ok (.iload_n 1, 1) := by decide +kernel
theorem dX15_sizeOf_10 : decode cX15_sizeOf 10 = .ok (.iaload, 1) := by decide +kernel
theorem dX15_sizeOf_11 : decode cX15_sizeOf 11 = .ok (.if_icmp .ge 16, 3) := by decide +kernel
theorem dX15_sizeOf_14 : decode cX15_sizeOf 14 = .ok (.iload_n 2, 1) := by decide +kernel
theorem dX15_sizeOf_15 : decode cX15_sizeOf 15 = .ok (.aload_n 0, 1) := by decide +kernel
theorem dX15_sizeOf_16 : decode cX15_sizeOf 16 = .ok (.getfield 384, 3) := by decide +kernel
theorem dX15_sizeOf_19 : decode cX15_sizeOf 19 = .ok (.imul, 1) := by decide +kernel
theorem dX15_sizeOf_20 : decode cX15_sizeOf 20 = .ok (.istore_n 2, 1) := by decide +kernel
theorem dX15_sizeOf_21 : decode cX15_sizeOf 21 = .ok (.iinc 3 1, 3) := by decide +kernel
theorem dX15_sizeOf_24 : decode cX15_sizeOf 24 = .ok (.goto (-20), 3) := by decide +kernel
theorem dX15_sizeOf_27 : decode cX15_sizeOf 27 = .ok (.iload_n 2, 1) := by decide +kernel
theorem dX15_sizeOf_28 : decode cX15_sizeOf 28 = .ok (.ireturn, 1) := by decide +kernel
set_option maxRecDepth 20000 in
theorem moX15_sizeOf_4 {o : Int32 × Hp} {F : Nat} : ∀ (f : Nat) {h : Hp} {x0 : Nat} {x1 : Int32} {x2 : Int32} {x3 : Int32}, sX15_sizeOf_4 F f h x0 x1 x2 x3 = some o → Le h o.2 := by
  intro f
  induction f with
  | zero =>
    intro h x0 x1 x2 x3 hE
    rw [sX15_sizeOf_4] at hE
    cases hE
  | succ f ih =>
    intro h x0 x1 x2 x3 hE
    rw [sX15_sizeOf_4] at hE
    have mk_4 : ∀ (h : Hp) (x0 : Nat) (x1 : Int32) (x2 : Int32) (x3 : Int32), sX15_sizeOf_4 F f h x0 x1 x2 x3 = some o → Le h o.2 := fun h x0 x1 x2 x3 hE => ih hE
    obtain ⟨r_1, er_1, hE⟩ := cl_e hE
    obtain ⟨g_2, hE⟩ := gd_e hE
    rcases br_e hE with ⟨_, hE⟩ | ⟨_, hE⟩
    · exact le_some2 hE
    · obtain ⟨v_4, ev_4, hE⟩ := nm_e2 hE
      obtain ⟨v_5, ev_5, hE⟩ := nm_e2 hE
      exact mk_4 _ _ _ _ _ hE
set_option maxRecDepth 20000 in
theorem moX15_sizeOf {o : Int32 × Hp} {F : Nat} {h : Hp} {x0 : Nat} {x1 : Int32} (hE : sX15_sizeOf F h x0 x1 = some o) : Le h o.2 := by
  exact moX15_sizeOf_4 _ hE
set_option maxRecDepth 20000 in
theorem bX15_sizeOf_4 {p : Program} {l : Launch} {e : Env} {s : State} {m : MethodId} {args : Array Value} {below : List Frame} {meth : Method} {c : Code} {X : Ec} {h0 : Hp} {o : Int32 × Hp} {F : Nat} (C : Cx X p s m args meth c RX15 cX15_sizeOf 4 (some .int) "sizeOf") : ∀ (f : Nat) {h : Hp} {x0 : Nat} {x1 : Int32} {x2 : Int32} {x3 : Int32} {H : Heap} {locs : List Loc} (k_x0 : hK h x0 = 15), Km h0 h → Wx X h H → va_S (aA (eB X)) s.heap H locs → ∀ (ls : Array Slot), lv_has ls 4 [(0, .ref x0), (1, .int x1), (2, .int x2), (3, .int x3)] → sX15_sizeOf_4 F f h x0 x1 x2 x3 = some o → W p l e (rm 0 0) s m args below meth c H locs 0 0 (MQ below (QI X h0 o.1 o.2) args s 0 0 (aA (eB X))) (F0 m 4 ls []) := by
  intro f
  induction f with
  | zero =>
    intro h x0 x1 x2 x3 H locs k_x0 hkm hW hZ ls hl hE
    rw [sX15_sizeOf_4] at hE
    cases hE
  | succ f ih =>
    intro h x0 x1 x2 x3 H locs k_x0 hkm hW hZ ls hl hE
    rw [sX15_sizeOf_4] at hE
    have hk_4 : ∀ (h : Hp) (x0 : Nat) (x1 : Int32) (x2 : Int32) (x3 : Int32) (H : Heap) (locs : List Loc), hK h x0 = 15 → Km h0 h → Wx X h H → va_S (aA (eB X)) s.heap H locs → ∀ (ls : Array Slot), lv_has ls 4 [(0, .ref x0), (1, .int x1), (2, .int x2), (3, .int x3)] → sX15_sizeOf_4 F f h x0 x1 x2 x3 = some o → W p l e (rm 0 0) s m args below meth c H locs 0 0 (MQ below (QI X h0 o.1 o.2) args s 0 0 (aA (eB X))) (F0 m 4 ls []) := fun h x0 x1 x2 x3 H locs k_x0 a b c ls hl hE => ih k_x0 a b c ls hl hE
    refine lv_iload_n C.1 C.2.1 dX15_sizeOf_4 rfl (lv_at hl 3 rfl) ?_
    refine lv_aload_n C.1 C.2.1 dX15_sizeOf_5 rfl (lv_at hl 0 rfl) ?_
    obtain ⟨r_1, er_1, hE⟩ := cl_e hE
    refine gf_X15_333 C hW k_x0 er_1 dX15_sizeOf_6 (fun k_r_1 => ?_)
    refine lv_iload_n C.1 C.2.1 dX15_sizeOf_9 rfl (lv_at hl 1 rfl) ?_
    obtain ⟨g_2, hE⟩ := gd_e hE
    refine y_iald C hW k_r_1 g_2 dX15_sizeOf_10 ?_
    refine lv_icmp_ge (tgt := 27) C.1 C.2.1 dX15_sizeOf_11 (by decide) (fun c_3 => ?_) (fun c_3 => ?_)
    · have hE := br_p hE c_3
      refine lv_iload_n C.1 C.2.1 dX15_sizeOf_27 rfl (lv_at hl 2 rfl) ?_
      exact x_iret C rfl rfl hW hZ hkm hE dX15_sizeOf_28
    · have hE := br_n hE c_3
      refine lv_iload_n C.1 C.2.1 dX15_sizeOf_14 rfl (lv_at hl 2 rfl) ?_
      refine lv_aload_n C.1 C.2.1 dX15_sizeOf_15 rfl (lv_at hl 0 rfl) ?_
      refine gf_X15_384 C hW k_x0 dX15_sizeOf_16 ?_
      refine lv_imul C.1 C.2.1 dX15_sizeOf_19 ?_
      obtain ⟨v_4, ev_4, hE⟩ := nm_e2 hE
      refine x_nmI ev_4 ?_
      refine lv_istore_n (lv' := [(2, .int v_4), (0, .ref x0), (1, .int x1), (3, .int x3)]) C.1 C.2.1 dX15_sizeOf_20 rfl hl (by decide) rfl (fun ls hl => ?_)
      obtain ⟨v_5, ev_5, hE⟩ := nm_e2 hE
      refine lv_iinc (v := v_5) (lv' := [(3, .int v_5), (2, .int v_4), (0, .ref x0), (1, .int x1)]) C.1 C.2.1 dX15_sizeOf_21 hl (k := 3) rfl (by rw [ev_5]; rfl) (by decide) rfl (fun ls hl => ?_)
      refine lv_goto (tgt := 4) C.1 C.2.1 dX15_sizeOf_24 (by decide) ?_
      exact hk_4 _ _ _ _ _ _ _ k_x0 hkm hW hZ _ (lv_sub hl [2, 3, 1, 0] rfl) hE
set_option maxRecDepth 20000 in
theorem ct_X15_sizeOf (l : Launch) (X : Ec) (F : Nat) {h : Hp} {x0 : Nat} {x1 : Int32} {o : Int32 × Hp} (k_x0 : hK h x0 = 15) (hE : sX15_sizeOf F h x0 x1 = some o) : MetI l yX15_sizeOf cX15_sizeOf 4 (some .int) 0 0 X [.ref x0, .int x1] h o := by
  refine x_met (by decide) (Nat.le_of_ble_eq_true rfl) ?_
  intro p e s m below meth c ls C hl hW hZ
  have hl : lv_has ls 4 [(0, .ref x0), (1, .int x1)] := hl
  have hkm : Km h h := Km.rf h
  refine lv_iconst (v := (2 : Int32)) C.1 C.2.1 dX15_sizeOf_0 (by decide) ?_
  refine lv_istore_n (lv' := [(2, .int (2 : Int32)), (0, .ref x0), (1, .int x1)]) C.1 C.2.1 dX15_sizeOf_1 rfl hl (by decide) rfl (fun ls hl => ?_)
  refine lv_iconst (v := (0 : Int32)) C.1 C.2.1 dX15_sizeOf_2 (by decide) ?_
  refine lv_istore_n (lv' := [(3, .int (0 : Int32)), (2, .int (2 : Int32)), (0, .ref x0), (1, .int x1)]) C.1 C.2.1 dX15_sizeOf_3 rfl hl (by decide) rfl (fun ls hl => ?_)
  exact bX15_sizeOf_4 C F k_x0 hkm hW hZ _ (lv_sub hl [2, 3, 1, 0] rfl) hE
section
variable {p : Program} {l : Launch} {e : Env} {R : Room} {s : State} {m : MethodId} {args : Array Value} {below : List Frame} {meth : Method} {c : Code} {H : Heap} {locs : List Loc} {cells slots : Nat} {Q : State → Prop}
variable {cc : ByteArray} {pc : Nat} {ls : Array Slot} {rest : List Value} {X : Ec} {h h1 : Hp} {nL : Nat} {rt : Option FieldType} {mn : String}
theorem gf_X15_365 {a r : Nat} (C : Cx X p s m args meth c RX15 cc nL rt mn) (hW : Wx X h H) (ha : hK h a = 15) (hr : hR h a 60 = some r) (hdg : decode cc pc = .ok (.getfield 365, 3)) (kk : hK h r = 12 → W p l e R s m args below meth c H locs cells slots Q (F0 m (pc + 3) ls (.ref r :: rest))) : W p l e R s m args below meth c H locs cells slots Q (F0 m pc ls (.ref a :: rest)) :=
  y_getr C hW ha i_X15 (by decide) rfl (by decide) m_2171 rfl rfl hr hdg kk
end
theorem dX15_layState_0 : decode cX15_layState 0 = .ok (.aload_n 0, 1) := by decide +kernel
theorem dX15_layState_1 : decode cX15_layState 1 = .ok (.getfield 365, 3) := by decide +kernel
theorem dX15_layState_4 : decode cX15_layState 4 = .ok (.invokevirtual 455, 3) := by decide +kernel
theorem dX15_layState_7 : decode cX15_layState 7 = .ok (.aload_n 0, 1) := by decide +kernel
theorem dX15_layState_8 : decode cX15_layState 8 = .ok (.getfield 365, 3) := by decide +kernel
theorem dX15_layState_11 : decode cX15_layState 11 = .ok (.iload_n 2, 1) := by decide +kernel
theorem dX15_layState_12 : decode cX15_layState 12 = .ok (.iconst 1, 1) := by decide +kernel
theorem dX15_layState_13 : decode cX15_layState 13 = .ok (.iand, 1) := by decide +kernel
theorem dX15_layState_14 : decode cX15_layState 14 = .ok (.putfield 452, 3) := by decide +kernel
theorem dX15_layState_17 : decode cX15_layState 17 = .ok (.iload_n 2, 1) := by decide +kernel
theorem dX15_layState_18 : decode cX15_layState 18 = .ok (.iconst 1, 1) := by decide +kernel
theorem dX15_layState_19 : decode cX15_layState 19 = .ok (.ishr, 1) := by decide +kernel
theorem dX15_layState_20 : decode cX15_layState 20 = .ok (.istore_n 3, 1) := by decide +kernel
theorem dX15_layState_21 : decode cX15_layState 21 = .ok (.iconst (-1), 1) := by decide +kernel
theorem dX15_layState_22 : decode cX15_layState 22 = .ok (.istore 4, 2) := by decide +kernel
theorem dX15_layState_24 : decode cX15_layState 24 = .ok (.iconst 0, 1) := by decide +kernel
theorem dX15_layState_25 : decode cX15_layState 25 = .ok (.istore 5, 2) := by decide +kernel
theorem dX15_layState_27 : decode cX15_layState 27 = .ok (.iload 5, 2) := by decide +kernel
theorem dX15_layState_29 : decode cX15_layState 29 = .ok (.aload_n 0, 1) := by decide +kernel
theorem dX15_layState_30 : decode cX15_layState 30 = .ok (.getfield 333, 3) := by decide +kernel
theorem dX15_layState_33 : decode cX15_layState 33 = .ok (.iload_n 1, 1) := by decide +kernel
theorem dX15_layState_34 : decode cX15_layState 34 = .ok (.iaload, 1) := by decide +kernel
theorem dX15_layState_35 : decode cX15_layState 35 = .ok (.if_icmp .ge 98, 3) := by decide +kernel
theorem dX15_layState_38 : decode cX15_layState 38 = .ok (.iload_n 3, 1) := by decide +kernel
theorem dX15_layState_39 : decode cX15_layState 39 = .ok (.aload_n 0, 1) := by decide +kernel
theorem dX15_layState_40 : decode cX15_layState 40 = .ok (.getfield 384, 3) := by decide +kernel
theorem dX15_layState_43 : decode cX15_layState 43 = .ok (.irem, 1) := by decide +kernel
theorem dX15_layState_44 : decode cX15_layState 44 = .ok (.istore 6, 2) := by decide +kernel
theorem dX15_layState_46 : decode cX15_layState 46 = .ok (.iload_n 3, 1) := by decide +kernel
theorem dX15_layState_47 : decode cX15_layState 47 = .ok (.aload_n 0, 1) := by decide +kernel
theorem dX15_layState_48 : decode cX15_layState 48 = .ok (.getfield 384, 3) := by decide +kernel
theorem dX15_layState_51 : decode cX15_layState 51 = .ok (.idiv, 1) := by decide +kernel
theorem dX15_layState_52 : decode cX15_layState 52 = .ok (.istore_n 3, 1) := by decide +kernel
theorem dX15_layState_53 : decode cX15_layState 53 = .ok (.aload_n 0, 1) := by decide +kernel
theorem dX15_layState_54 : decode cX15_layState 54 = .ok (.getfield 336, 3) := by decide +kernel
theorem dX15_layState_57 : decode cX15_layState 57 = .ok (.iconst 5, 1) := by decide +kernel
theorem dX15_layState_58 : decode cX15_layState 58 = .ok (.iload_n 1, 1) := by decide +kernel
theorem dX15_layState_59 : decode cX15_layState 59 = .ok (.imul, 1) := by decide +kernel
theorem dX15_layState_60 : decode cX15_layState 60 = .ok (.iload 5, 2) := by decide +kernel
theorem dX15_layState_62 : decode cX15_layState 62 = .ok (.iadd, 1) := by decide +kernel
theorem dX15_layState_63 : decode cX15_layState 63 = .ok (.iaload, 1) := by decide +kernel
theorem dX15_layState_64 : decode cX15_layState 64 = .ok (.istore 7, 2) := by decide +kernel
theorem dX15_layState_66 : decode cX15_layState 66 = .ok (.aload_n 0, 1) := by decide +kernel
theorem dX15_layState_67 : decode cX15_layState 67 = .ok (.getfield 365, 3) := by decide +kernel
theorem dX15_layState_70 : decode cX15_layState 70 = .ok (.getfield 396, 3) := by decide +kernel
theorem dX15_layState_73 : decode cX15_layState 73 = .ok (.iload 6, 2) := by decide +kernel
theorem dX15_layState_75 : decode cX15_layState 75 = .ok (.iaload, 1) := by decide +kernel
theorem dX15_layState_76 : decode cX15_layState 76 = .ok (.ifCond .gt 33, 3) := by decide +kernel
theorem dX15_layState_79 : decode cX15_layState 79 = .ok (.iload 5, 2) := by decide +kernel
theorem dX15_layState_81 : decode cX15_layState 81 = .ok (.ifCond .le 30, 3) := by decide +kernel
theorem dX15_layState_84 : decode cX15_layState 84 = .ok (.aload_n 0, 1) := by decide +kernel
theorem dX15_layState_85 : decode cX15_layState 85 = .ok (.getfield 336, 3) := by decide +kernel
theorem dX15_layState_88 : decode cX15_layState 88 = .ok (.iconst 5, 1) := by decide +kernel
theorem dX15_layState_89 : decode cX15_layState 89 = .ok (.iload_n 1, 1) := by decide +kernel
theorem dX15_layState_90 : decode cX15_layState 90 = .ok (.imul, 1) := by decide +kernel
theorem dX15_layState_91 : decode cX15_layState 91 = .ok (.iload 5, 2) := by decide +kernel
theorem dX15_layState_93 : decode cX15_layState 93 = .ok (.iadd, 1) := by decide +kernel
theorem dX15_layState_94 : decode cX15_layState 94 = .ok (.iconst 1, 1) := by decide +kernel
theorem dX15_layState_95 : decode cX15_layState 95 = .ok (.isub, 1) := by decide +kernel
theorem dX15_layState_96 : decode cX15_layState 96 = .ok (.iaload, 1) := by decide +kernel
theorem dX15_layState_97 : decode cX15_layState 97 = .ok (.iload 7, 2) := by decide +kernel
theorem dX15_layState_99 : decode cX15_layState 99 = .ok (.if_icmp .ne 12, 3) := by decide +kernel
theorem dX15_layState_102 : decode cX15_layState 102 = .ok (.iload 6, 2) := by decide +kernel
theorem dX15_layState_104 : decode cX15_layState 104 = .ok (.iload 4, 2) := by decide +kernel
theorem dX15_layState_106 : decode cX15_layState 106 = .ok (.if_icmp .ge 5, 3) := by decide +kernel
theorem dX15_layState_109 : decode cX15_layState 109 = .ok (.iconst 0, 1) := by decide +kernel
theorem dX15_layState_110 : decode cX15_layState 110 = .ok (.ireturn, 1) := by decide +kernel
theorem dX15_layState_111 : decode cX15_layState 111 = .ok (.aload_n 0, 1) := by decide +kernel
theorem dX15_layState_112 : decode cX15_layState 112 = .ok (.getfield 365, 3) := by decide +kernel
theorem dX15_layState_115 : decode cX15_layState 115 = .ok (.getfield 396, 3) := by decide +kernel
theorem dX15_layState_118 : decode cX15_layState 118 = .ok (.iload 6, 2) := by decide +kernel
theorem dX15_layState_120 : decode cX15_layState 120 = .ok (.iload 7, 2) := by decide +kernel
theorem dX15_layState_122 : decode cX15_layState 122 = .ok (.iastore, 1) := by decide +kernel
theorem dX15_layState_123 : decode cX15_layState 123 = .ok (.iload 6, 2) := by decide +kernel
theorem dX15_layState_125 : decode cX15_layState 125 = .ok (.istore 4, 2) := by decide +kernel
theorem dX15_layState_127 : decode cX15_layState 127 = .ok (.iinc 5 1, 3) := by decide +kernel
theorem dX15_layState_130 : decode cX15_layState 130 = .ok (.goto (-103), 3) := by decide +kernel
theorem dX15_layState_133 : decode cX15_layState 133 = .ok (.iconst 1, 1) := by decide +kernel
theorem dX15_layState_134 : decode cX15_layState 134 = .ok (.ireturn, 1) := by decide +kernel
set_option maxRecDepth 20000 in
theorem moX15_layState_109 {o : Int32 × Hp} {F : Nat} {h : Hp} (hE : sX15_layState_109 F h  = some o) : Le h o.2 := by
  exact le_some2 hE
set_option maxRecDepth 20000 in
theorem moX15_layState_111 {o : Int32 × Hp} {k_27 : Hp → Nat → Int32 → Int32 → Int32 → Int32 → Option (Int32 × Hp)} {F : Nat} (mk_27 : ∀ (h : Hp) (x0 : Nat) (x1 : Int32) (x3 : Int32) (x4 : Int32) (x5 : Int32), k_27 h x0 x1 x3 x4 x5 = some o → Le h o.2) {h : Hp} {x0 : Nat} {x1 : Int32} {x3 : Int32} {x5 : Int32} {x6 : Int32} {x7 : Int32} (hE : sX15_layState_111 F k_27 h x0 x1 x3 x5 x6 x7 = some o) : Le h o.2 := by
  obtain ⟨r_1, er_1, hE⟩ := cl_e hE
  obtain ⟨r_2, er_2, hE⟩ := cl_e hE
  obtain ⟨g_3, hE⟩ := gd_e hE
  obtain ⟨h_4, eh_4, hE⟩ := nm_e2 hE
  refine (le_I eh_4).tr ?_
  obtain ⟨v_5, ev_5, hE⟩ := nm_e2 hE
  exact mk_27 _ _ _ _ _ _ hE
set_option maxRecDepth 20000 in
theorem moX15_layState_27 {o : Int32 × Hp} {F : Nat} : ∀ (f : Nat) {h : Hp} {x0 : Nat} {x1 : Int32} {x3 : Int32} {x4 : Int32} {x5 : Int32}, sX15_layState_27 F f h x0 x1 x3 x4 x5 = some o → Le h o.2 := by
  intro f
  induction f with
  | zero =>
    intro h x0 x1 x3 x4 x5 hE
    rw [sX15_layState_27] at hE
    cases hE
  | succ f ih =>
    intro h x0 x1 x3 x4 x5 hE
    rw [sX15_layState_27] at hE
    have mk_27 : ∀ (h : Hp) (x0 : Nat) (x1 : Int32) (x3 : Int32) (x4 : Int32) (x5 : Int32), sX15_layState_27 F f h x0 x1 x3 x4 x5 = some o → Le h o.2 := fun h x0 x1 x3 x4 x5 hE => ih hE
    obtain ⟨r_1, er_1, hE⟩ := cl_e hE
    obtain ⟨g_2, hE⟩ := gd_e hE
    rcases br_e hE with ⟨_, hE⟩ | ⟨_, hE⟩
    · exact le_some2 hE
    · obtain ⟨g_4, hE⟩ := gd_e hE
      obtain ⟨v_5, ev_5, hE⟩ := nm_e2 hE
      obtain ⟨g_6, hE⟩ := gd_e hE
      obtain ⟨v_7, ev_7, hE⟩ := nm_e2 hE
      obtain ⟨r_8, er_8, hE⟩ := cl_e hE
      obtain ⟨g_9, hE⟩ := gd_e hE
      obtain ⟨v_10, ev_10, hE⟩ := nm_e2 hE
      obtain ⟨r_11, er_11, hE⟩ := cl_e hE
      obtain ⟨r_12, er_12, hE⟩ := cl_e hE
      obtain ⟨g_13, hE⟩ := gd_e hE
      rcases br_e hE with ⟨_, hE⟩ | ⟨_, hE⟩
      · exact moX15_layState_109 hE
      · rcases br_e hE with ⟨_, hE⟩ | ⟨_, hE⟩
        · exact moX15_layState_111 mk_27 hE
        · obtain ⟨r_16, er_16, hE⟩ := cl_e hE
          obtain ⟨g_17, hE⟩ := gd_e hE
          rcases br_e hE with ⟨_, hE⟩ | ⟨_, hE⟩
          · rcases br_e hE with ⟨_, hE⟩ | ⟨_, hE⟩
            · exact moX15_layState_111 mk_27 hE
            · exact moX15_layState_109 hE
          · exact moX15_layState_111 mk_27 hE
set_option maxRecDepth 20000 in
theorem moX15_layState {o : Int32 × Hp} {F : Nat} {h : Hp} {x0 : Nat} {x1 : Int32} {x2 : Int32} (hE : sX15_layState F h x0 x1 x2 = some o) : Le h o.2 := by
  obtain ⟨r_1, er_1, hE⟩ := cl_e hE
  obtain ⟨o_2, eo_2, hE⟩ := cl_e hE
  refine (moX12_clear eo_2).tr ?_
  obtain ⟨r_3, er_3, hE⟩ := cl_e hE
  obtain ⟨h_4, eh_4, hE⟩ := nm_e2 hE
  refine (le_I eh_4).tr ?_
  obtain ⟨v_5, ev_5, hE⟩ := nm_e2 hE
  exact moX15_layState_27 _ hE
set_option maxRecDepth 20000 in
theorem bX15_layState_109 {p : Program} {l : Launch} {e : Env} {s : State} {m : MethodId} {args : Array Value} {below : List Frame} {meth : Method} {c : Code} {X : Ec} {h0 : Hp} {o : Int32 × Hp} {F : Nat} (C : Cx X p s m args meth c RX15 cX15_layState 8 (some .boolean) "layState") {h : Hp} {H : Heap} {locs : List Loc} (hkm : Km h0 h) (hW : Wx X h H) (hZ : va_S (aA (eB X)) s.heap H locs) (ls : Array Slot) (hl : lv_has ls 8 []) (hE : sX15_layState_109 F h  = some o) : W p l e (rm 1 21) s m args below meth c H locs 0 0 (MQ below (QI X h0 o.1 o.2) args s 0 0 (aA (eB X))) (F0 m 109 ls []) := by
  refine lv_iconst (v := (0 : Int32)) C.1 C.2.1 dX15_layState_109 (by decide) ?_
  exact x_iret C rfl (by decide) hW hZ hkm hE dX15_layState_110
set_option maxRecDepth 20000 in
theorem bX15_layState_111 {p : Program} {l : Launch} {e : Env} {s : State} {m : MethodId} {args : Array Value} {below : List Frame} {meth : Method} {c : Code} {X : Ec} {h0 : Hp} {o : Int32 × Hp} {k_27 : Hp → Nat → Int32 → Int32 → Int32 → Int32 → Option (Int32 × Hp)} {F : Nat} (C : Cx X p s m args meth c RX15 cX15_layState 8 (some .boolean) "layState") (hk_27 : ∀ (h : Hp) (x0 : Nat) (x1 : Int32) (x3 : Int32) (x4 : Int32) (x5 : Int32) (H : Heap) (locs : List Loc), hK h x0 = 15 → Km h0 h → Wx X h H → va_S (aA (eB X)) s.heap H locs → ∀ (ls : Array Slot), lv_has ls 8 [(0, .ref x0), (1, .int x1), (3, .int x3), (4, .int x4), (5, .int x5)] → k_27 h x0 x1 x3 x4 x5 = some o → W p l e (rm 1 21) s m args below meth c H locs 0 0 (MQ below (QI X h0 o.1 o.2) args s 0 0 (aA (eB X))) (F0 m 27 ls [])) {h : Hp} {x0 : Nat} {x1 : Int32} {x3 : Int32} {x5 : Int32} {x6 : Int32} {x7 : Int32} {H : Heap} {locs : List Loc} (k_x0 : hK h x0 = 15) (hkm : Km h0 h) (hW : Wx X h H) (hZ : va_S (aA (eB X)) s.heap H locs) (ls : Array Slot) (hl : lv_has ls 8 [(0, .ref x0), (1, .int x1), (3, .int x3), (5, .int x5), (6, .int x6), (7, .int x7)]) (hE : sX15_layState_111 F k_27 h x0 x1 x3 x5 x6 x7 = some o) : W p l e (rm 1 21) s m args below meth c H locs 0 0 (MQ below (QI X h0 o.1 o.2) args s 0 0 (aA (eB X))) (F0 m 111 ls []) := by
  refine lv_aload_n C.1 C.2.1 dX15_layState_111 rfl (lv_at hl 0 rfl) ?_
  obtain ⟨r_1, er_1, hE⟩ := cl_e hE
  refine gf_X15_365 C hW k_x0 er_1 dX15_layState_112 (fun k_r_1 => ?_)
  obtain ⟨r_2, er_2, hE⟩ := cl_e hE
  refine gf_X15_396 C hW k_r_1 er_2 dX15_layState_115 (fun k_r_2 => ?_)
  refine lv_iload C.1 C.2.1 dX15_layState_118 (lv_at hl 4 rfl) ?_
  refine lv_iload C.1 C.2.1 dX15_layState_120 (lv_at hl 5 rfl) ?_
  obtain ⟨g_3, hE⟩ := gd_e hE
  obtain ⟨h_4, eh_4, hE⟩ := nm_e2 hE
  refine y_iast C hW hZ k_r_2 g_3 eh_4 dX15_layState_122 (fun _ _ hW km hZ => ?_)
  replace hkm := hkm.tr km
  replace k_x0 := km.at k_x0 (by decide)
  refine lv_iload C.1 C.2.1 dX15_layState_123 (lv_at hl 4 rfl) ?_
  refine lv_istore (lv' := [(4, .int x6), (0, .ref x0), (1, .int x1), (3, .int x3), (5, .int x5), (6, .int x6), (7, .int x7)]) C.1 C.2.1 dX15_layState_125 hl (by decide) rfl (fun ls hl => ?_)
  obtain ⟨v_5, ev_5, hE⟩ := nm_e2 hE
  refine lv_iinc (v := v_5) (lv' := [(5, .int v_5), (4, .int x6), (0, .ref x0), (1, .int x1), (3, .int x3), (6, .int x6), (7, .int x7)]) C.1 C.2.1 dX15_layState_127 hl (k := 4) rfl (by rw [ev_5]; rfl) (by decide) rfl (fun ls hl => ?_)
  refine lv_goto (tgt := 27) C.1 C.2.1 dX15_layState_130 (by decide) ?_
  exact hk_27 _ _ _ _ _ _ _ _ k_x0 hkm hW hZ _ (lv_sub hl [2, 3, 4, 1, 0] rfl) hE
set_option maxRecDepth 20000 in
theorem bX15_layState_27 {p : Program} {l : Launch} {e : Env} {s : State} {m : MethodId} {args : Array Value} {below : List Frame} {meth : Method} {c : Code} {X : Ec} {h0 : Hp} {o : Int32 × Hp} {F : Nat} (C : Cx X p s m args meth c RX15 cX15_layState 8 (some .boolean) "layState") : ∀ (f : Nat) {h : Hp} {x0 : Nat} {x1 : Int32} {x3 : Int32} {x4 : Int32} {x5 : Int32} {H : Heap} {locs : List Loc} (k_x0 : hK h x0 = 15), Km h0 h → Wx X h H → va_S (aA (eB X)) s.heap H locs → ∀ (ls : Array Slot), lv_has ls 8 [(0, .ref x0), (1, .int x1), (3, .int x3), (4, .int x4), (5, .int x5)] → sX15_layState_27 F f h x0 x1 x3 x4 x5 = some o → W p l e (rm 1 21) s m args below meth c H locs 0 0 (MQ below (QI X h0 o.1 o.2) args s 0 0 (aA (eB X))) (F0 m 27 ls []) := by
  intro f
  induction f with
  | zero =>
    intro h x0 x1 x3 x4 x5 H locs k_x0 hkm hW hZ ls hl hE
    rw [sX15_layState_27] at hE
    cases hE
  | succ f ih =>
    intro h x0 x1 x3 x4 x5 H locs k_x0 hkm hW hZ ls hl hE
    rw [sX15_layState_27] at hE
    have hk_27 : ∀ (h : Hp) (x0 : Nat) (x1 : Int32) (x3 : Int32) (x4 : Int32) (x5 : Int32) (H : Heap) (locs : List Loc), hK h x0 = 15 → Km h0 h → Wx X h H → va_S (aA (eB X)) s.heap H locs → ∀ (ls : Array Slot), lv_has ls 8 [(0, .ref x0), (1, .int x1), (3, .int x3), (4, .int x4), (5, .int x5)] → sX15_layState_27 F f h x0 x1 x3 x4 x5 = some o → W p l e (rm 1 21) s m args below meth c H locs 0 0 (MQ below (QI X h0 o.1 o.2) args s 0 0 (aA (eB X))) (F0 m 27 ls []) := fun h x0 x1 x3 x4 x5 H locs k_x0 a b c ls hl hE => ih k_x0 a b c ls hl hE
    refine lv_iload C.1 C.2.1 dX15_layState_27 (lv_at hl 4 rfl) ?_
    refine lv_aload_n C.1 C.2.1 dX15_layState_29 rfl (lv_at hl 0 rfl) ?_
    obtain ⟨r_1, er_1, hE⟩ := cl_e hE
    refine gf_X15_333 C hW k_x0 er_1 dX15_layState_30 (fun k_r_1 => ?_)
    refine lv_iload_n C.1 C.2.1 dX15_layState_33 rfl (lv_at hl 1 rfl) ?_
    obtain ⟨g_2, hE⟩ := gd_e hE
    refine y_iald C hW k_r_1 g_2 dX15_layState_34 ?_
    refine lv_icmp_ge (tgt := 133) C.1 C.2.1 dX15_layState_35 (by decide) (fun c_3 => ?_) (fun c_3 => ?_)
    · have hE := br_p hE c_3
      refine lv_iconst (v := (1 : Int32)) C.1 C.2.1 dX15_layState_133 (by decide) ?_
      exact x_iret C rfl (by decide) hW hZ hkm hE dX15_layState_134
    · have hE := br_n hE c_3
      refine lv_iload_n C.1 C.2.1 dX15_layState_38 rfl (lv_at hl 2 rfl) ?_
      refine lv_aload_n C.1 C.2.1 dX15_layState_39 rfl (lv_at hl 0 rfl) ?_
      refine gf_X15_384 C hW k_x0 dX15_layState_40 ?_
      obtain ⟨g_4, hE⟩ := gd_e hE
      refine lv_irem C.1 C.2.1 dX15_layState_43 g_4 ?_
      obtain ⟨v_5, ev_5, hE⟩ := nm_e2 hE
      refine x_nmI ev_5 ?_
      refine lv_istore (lv' := [(6, .int v_5), (0, .ref x0), (1, .int x1), (3, .int x3), (4, .int x4), (5, .int x5)]) C.1 C.2.1 dX15_layState_44 hl (by decide) rfl (fun ls hl => ?_)
      refine lv_iload_n C.1 C.2.1 dX15_layState_46 rfl (lv_at hl 3 rfl) ?_
      refine lv_aload_n C.1 C.2.1 dX15_layState_47 rfl (lv_at hl 1 rfl) ?_
      refine gf_X15_384 C hW k_x0 dX15_layState_48 ?_
      obtain ⟨g_6, hE⟩ := gd_e hE
      refine lv_idiv C.1 C.2.1 dX15_layState_51 g_6 ?_
      obtain ⟨v_7, ev_7, hE⟩ := nm_e2 hE
      refine x_nmI ev_7 ?_
      refine lv_istore_n (lv' := [(3, .int v_7), (6, .int v_5), (0, .ref x0), (1, .int x1), (4, .int x4), (5, .int x5)]) C.1 C.2.1 dX15_layState_52 rfl hl (by decide) rfl (fun ls hl => ?_)
      refine lv_aload_n C.1 C.2.1 dX15_layState_53 rfl (lv_at hl 2 rfl) ?_
      obtain ⟨r_8, er_8, hE⟩ := cl_e hE
      refine gf_X15_336 C hW k_x0 er_8 dX15_layState_54 (fun k_r_8 => ?_)
      refine lv_iconst (v := (5 : Int32)) C.1 C.2.1 dX15_layState_57 (by decide) ?_
      refine lv_iload_n C.1 C.2.1 dX15_layState_58 rfl (lv_at hl 3 rfl) ?_
      refine lv_imul C.1 C.2.1 dX15_layState_59 ?_
      refine lv_iload C.1 C.2.1 dX15_layState_60 (lv_at hl 5 rfl) ?_
      refine lv_iadd C.1 C.2.1 dX15_layState_62 ?_
      obtain ⟨g_9, hE⟩ := gd_e hE
      refine y_iald C hW k_r_8 g_9 dX15_layState_63 ?_
      obtain ⟨v_10, ev_10, hE⟩ := nm_e2 hE
      refine x_nmI ev_10 ?_
      refine lv_istore (lv' := [(7, .int v_10), (3, .int v_7), (6, .int v_5), (0, .ref x0), (1, .int x1), (4, .int x4), (5, .int x5)]) C.1 C.2.1 dX15_layState_64 hl (by decide) rfl (fun ls hl => ?_)
      refine lv_aload_n C.1 C.2.1 dX15_layState_66 rfl (lv_at hl 3 rfl) ?_
      obtain ⟨r_11, er_11, hE⟩ := cl_e hE
      refine gf_X15_365 C hW k_x0 er_11 dX15_layState_67 (fun k_r_11 => ?_)
      obtain ⟨r_12, er_12, hE⟩ := cl_e hE
      refine gf_X15_396 C hW k_r_11 er_12 dX15_layState_70 (fun k_r_12 => ?_)
      refine lv_iload C.1 C.2.1 dX15_layState_73 (lv_at hl 2 rfl) ?_
      obtain ⟨g_13, hE⟩ := gd_e hE
      refine y_iald C hW k_r_12 g_13 dX15_layState_75 ?_
      refine lv_if_gt (tgt := 109) C.1 C.2.1 dX15_layState_76 (by decide) (fun c_14 => ?_) (fun c_14 => ?_)
      · have hE := br_p hE c_14
        exact bX15_layState_109 C hkm hW hZ _ (lv_sub hl [] rfl) hE
      · have hE := br_n hE c_14
        refine lv_iload C.1 C.2.1 dX15_layState_79 (lv_at hl 6 rfl) ?_
        refine lv_if_le (tgt := 111) C.1 C.2.1 dX15_layState_81 (by decide) (fun c_15 => ?_) (fun c_15 => ?_)
        · have hE := br_p hE c_15
          exact bX15_layState_111 C hk_27 k_x0 hkm hW hZ _ (lv_sub hl [3, 4, 1, 6, 2, 0] rfl) hE
        · have hE := br_n hE c_15
          refine lv_aload_n C.1 C.2.1 dX15_layState_84 rfl (lv_at hl 3 rfl) ?_
          obtain ⟨r_16, er_16, hE⟩ := cl_e hE
          refine gf_X15_336 C hW k_x0 er_16 dX15_layState_85 (fun k_r_16 => ?_)
          refine lv_iconst (v := (5 : Int32)) C.1 C.2.1 dX15_layState_88 (by decide) ?_
          refine lv_iload_n C.1 C.2.1 dX15_layState_89 rfl (lv_at hl 4 rfl) ?_
          refine lv_imul C.1 C.2.1 dX15_layState_90 ?_
          refine lv_iload C.1 C.2.1 dX15_layState_91 (lv_at hl 6 rfl) ?_
          refine lv_iadd C.1 C.2.1 dX15_layState_93 ?_
          refine lv_iconst (v := (1 : Int32)) C.1 C.2.1 dX15_layState_94 (by decide) ?_
          refine lv_isub C.1 C.2.1 dX15_layState_95 ?_
          obtain ⟨g_17, hE⟩ := gd_e hE
          refine y_iald C hW k_r_16 g_17 dX15_layState_96 ?_
          refine lv_iload C.1 C.2.1 dX15_layState_97 (lv_at hl 0 rfl) ?_
          refine lv_icmp_ne (tgt := 111) C.1 C.2.1 dX15_layState_99 (by decide) (fun c_18 => ?_) (fun c_18 => ?_)
          · have hE := br_n hE c_18
            exact bX15_layState_111 C hk_27 k_x0 hkm hW hZ _ (lv_sub hl [3, 4, 1, 6, 2, 0] rfl) hE
          · have hE := br_p hE c_18
            refine lv_iload C.1 C.2.1 dX15_layState_102 (lv_at hl 2 rfl) ?_
            refine lv_iload C.1 C.2.1 dX15_layState_104 (lv_at hl 5 rfl) ?_
            refine lv_icmp_ge (tgt := 111) C.1 C.2.1 dX15_layState_106 (by decide) (fun c_19 => ?_) (fun c_19 => ?_)
            · have hE := br_p hE c_19
              exact bX15_layState_111 C hk_27 k_x0 hkm hW hZ _ (lv_sub hl [3, 4, 1, 6, 2, 0] rfl) hE
            · have hE := br_n hE c_19
              exact bX15_layState_109 C hkm hW hZ _ (lv_sub hl [] rfl) hE
set_option maxRecDepth 20000 in
theorem ct_X15_layState (l : Launch) (X : Ec) (F : Nat) {h : Hp} {x0 : Nat} {x1 : Int32} {x2 : Int32} {o : Int32 × Hp} (k_x0 : hK h x0 = 15) (hE : sX15_layState F h x0 x1 x2 = some o) : MetI l yX15_layState cX15_layState 8 (some .boolean) 1 21 X [.ref x0, .int x1, .int x2] h o := by
  refine x_met (by decide) (Nat.le_of_ble_eq_true rfl) ?_
  intro p e s m below meth c ls C hl hW hZ
  have hl : lv_has ls 8 [(0, .ref x0), (1, .int x1), (2, .int x2)] := hl
  have hkm : Km h h := Km.rf h
  refine lv_aload_n C.1 C.2.1 dX15_layState_0 rfl (lv_at hl 0 rfl) ?_
  obtain ⟨r_1, er_1, hE⟩ := cl_e hE
  refine gf_X15_365 C hW k_x0 er_1 dX15_layState_1 (fun k_r_1 => ?_)
  obtain ⟨o_2, eo_2, hE⟩ := cl_e hE
  refine x_kV (o := o_2) (z_runV (As := []) (rest := []) C (ct_X12_clear l X F k_r_1 eo_2) cw_X15_455 hW hZ k_r_1 (by decide) rfl rfl rfl hl.1 (Nat.le_of_ble_eq_true rfl) rfl dX15_layState_4 ⟨Nat.le_of_ble_eq_true rfl, Nat.le_of_ble_eq_true rfl⟩ ⟨Nat.le_refl _, Nat.le_refl _⟩) hZ (fun _ _ hW km hZ => ?_)
  replace hkm := hkm.tr km
  replace k_x0 := km.at k_x0 (by decide)
  refine lv_aload_n C.1 C.2.1 dX15_layState_7 rfl (lv_at hl 0 rfl) ?_
  obtain ⟨r_3, er_3, hE⟩ := cl_e hE
  refine gf_X15_365 C hW k_x0 er_3 dX15_layState_8 (fun k_r_3 => ?_)
  refine lv_iload_n C.1 C.2.1 dX15_layState_11 rfl (lv_at hl 2 rfl) ?_
  refine lv_iconst (v := (1 : Int32)) C.1 C.2.1 dX15_layState_12 (by decide) ?_
  refine lv_iand C.1 C.2.1 dX15_layState_13 ?_
  obtain ⟨h_4, eh_4, hE⟩ := nm_e2 hE
  refine pf_X15_452 C hW hZ k_r_3 eh_4 dX15_layState_14 (fun _ _ hW km hZ => ?_)
  replace hkm := hkm.tr km
  replace k_x0 := km.at k_x0 (by decide)
  refine lv_iload_n C.1 C.2.1 dX15_layState_17 rfl (lv_at hl 2 rfl) ?_
  refine lv_iconst (v := (1 : Int32)) C.1 C.2.1 dX15_layState_18 (by decide) ?_
  refine lv_ishr C.1 C.2.1 dX15_layState_19 ?_
  obtain ⟨v_5, ev_5, hE⟩ := nm_e2 hE
  refine x_nmI ev_5 ?_
  refine lv_istore_n (lv' := [(3, .int v_5), (0, .ref x0), (1, .int x1), (2, .int x2)]) C.1 C.2.1 dX15_layState_20 rfl hl (by decide) rfl (fun ls hl => ?_)
  refine lv_iconst (v := (-1 : Int32)) C.1 C.2.1 dX15_layState_21 (by decide) ?_
  refine lv_istore (lv' := [(4, .int (-1 : Int32)), (3, .int v_5), (0, .ref x0), (1, .int x1), (2, .int x2)]) C.1 C.2.1 dX15_layState_22 hl (by decide) rfl (fun ls hl => ?_)
  refine lv_iconst (v := (0 : Int32)) C.1 C.2.1 dX15_layState_24 (by decide) ?_
  refine lv_istore (lv' := [(5, .int (0 : Int32)), (4, .int (-1 : Int32)), (3, .int v_5), (0, .ref x0), (1, .int x1), (2, .int x2)]) C.1 C.2.1 dX15_layState_25 hl (by decide) rfl (fun ls hl => ?_)
  exact bX15_layState_27 C F k_x0 hkm hW hZ _ (lv_sub hl [3, 4, 2, 1, 0] rfl) hE
section
variable {p : Program} {l : Launch} {e : Env} {R : Room} {s : State} {m : MethodId} {args : Array Value} {below : List Frame} {meth : Method} {c : Code} {H : Heap} {locs : List Loc} {cells slots : Nat} {Q : State → Prop}
variable {cc : ByteArray} {pc : Nat} {ls : Array Slot} {rest : List Value} {X : Ec} {h h1 : Hp} {nL : Nat} {rt : Option FieldType} {mn : String}
theorem gf_X15_346 {a r : Nat} (C : Cx X p s m args meth c RX15 cc nL rt mn) (hW : Wx X h H) (ha : hK h a = 15) (hr : hR h a 53 = some r) (hdg : decode cc pc = .ok (.getfield 346, 3)) (kk : hK h r = 17 → W p l e R s m args below meth c H locs cells slots Q (F0 m (pc + 3) ls (.ref r :: rest))) : W p l e R s m args below meth c H locs cells slots Q (F0 m pc ls (.ref a :: rest)) :=
  y_getr C hW ha i_X15 (by decide) rfl (by decide) m_2164 rfl rfl hr hdg kk
end
theorem dX15_maskOf_0 : decode cX15_maskOf 0 = .ok (.iload_n 2, 1) := by decide +kernel
theorem dX15_maskOf_1 : decode cX15_maskOf 1 = .ok (.iconst 1, 1) := by decide +kernel
theorem dX15_maskOf_2 : decode cX15_maskOf 2 = .ok (.iand, 1) := by decide +kernel
theorem dX15_maskOf_3 : decode cX15_maskOf 3 = .ok (.istore 4, 2) := by decide +kernel
theorem dX15_maskOf_5 : decode cX15_maskOf 5 = .ok (.iconst 0, 1) := by decide +kernel
theorem dX15_maskOf_6 : decode cX15_maskOf 6 = .ok (.istore 5, 2) := by decide +kernel
theorem dX15_maskOf_8 : decode cX15_maskOf 8 = .ok (.iconst 0, 1) := by decide +kernel
theorem dX15_maskOf_9 : decode cX15_maskOf 9 = .ok (.istore 6, 2) := by decide +kernel
theorem dX15_maskOf_11 : decode cX15_maskOf 11 = .ok (.iload 6, 2) := by decide +kernel
theorem dX15_maskOf_13 : decode cX15_maskOf 13 = .ok (.aload_n 0, 1) := by decide +kernel
theorem dX15_maskOf_14 : decode cX15_maskOf 14 = .ok (.getfield 333, 3) := by decide +kernel
theorem dX15_maskOf_17 : decode cX15_maskOf 17 = .ok (.iload_n 1, 1) := by decide +kernel
theorem dX15_maskOf_18 : decode cX15_maskOf 18 = .ok (.iaload, 1) := by decide +kernel
theorem dX15_maskOf_19 : decode cX15_maskOf 19 = .ok (.if_icmp .ge 55, 3) := by decide +kernel
theorem dX15_maskOf_22 : decode cX15_maskOf 22 = .ok (.aload_n 0, 1) := by decide +kernel
theorem dX15_maskOf_23 : decode cX15_maskOf 23 = .ok (.getfield 336, 3) := by decide +kernel
theorem dX15_maskOf_26 : decode cX15_maskOf 26 = .ok (.iconst 5, 1) := by decide +kernel
theorem dX15_maskOf_27 : decode cX15_maskOf 27 = .ok (.iload_n 1, 1) := by decide +kernel
theorem dX15_maskOf_28 : decode cX15_maskOf 28 = .ok (.imul, 1) := by decide +kernel
theorem dX15_maskOf_29 : decode cX15_maskOf 29 = .ok (.iload 6, 2) := by decide +kernel
theorem dX15_maskOf_31 : decode cX15_maskOf 31 = .ok (.iadd, 1) := by decide +kernel
theorem dX15_maskOf_32 : decode cX15_maskOf 32 = .ok (.iaload, 1) := by decide +kernel
theorem dX15_maskOf_33 : decode cX15_maskOf 33 = .ok (.invokestatic 489, 3) := by decide +kernel
theorem dX15_maskOf_36 : decode cX15_maskOf 36 = .ok (.istore 7, 2) := by decide +kernel
theorem dX15_maskOf_38 : decode cX15_maskOf 38 = .ok (.iload 5, 2) := by decide +kernel
theorem dX15_maskOf_40 : decode cX15_maskOf 40 = .ok (.iload 7, 2) := by decide +kernel
theorem dX15_maskOf_42 : decode cX15_maskOf 42 = .ok (.iload 4, 2) := by decide +kernel
theorem dX15_maskOf_44 : decode cX15_maskOf 44 = .ok (.if_icmp .lt 16, 3) := by decide +kernel
theorem dX15_maskOf_47 : decode cX15_maskOf 47 = .ok (.iload 7, 2) := by decide +kernel
theorem dX15_maskOf_49 : decode cX15_maskOf 49 = .ok (.iload 4, 2) := by decide +kernel
theorem dX15_maskOf_51 : decode cX15_maskOf 51 = .ok (.if_icmp .ne 13, 3) := by decide +kernel
theorem dX15_maskOf_54 : decode cX15_maskOf 54 = .ok (.iload 6, 2) := by decide +kernel
theorem dX15_maskOf_56 : decode cX15_maskOf 56 = .ok (.iload_n 3, 1) := by decide +kernel
theorem dX15_maskOf_57 : decode cX15_maskOf 57 = .ok (.if_icmp .ge 7, 3) := by decide +kernel
theorem dX15_maskOf_60 : decode cX15_maskOf 60 = .ok (.iconst 1, 1) := by decide +kernel
theorem dX15_maskOf_61 : decode cX15_maskOf 61 = .ok (.goto 4, 3) := by decide +kernel
theorem dX15_maskOf_64 : decode cX15_maskOf 64 = .ok (.iconst 0, 1) := by decide +kernel
theorem dX15_maskOf_65 : decode cX15_maskOf 65 = .ok (.iadd, 1) := by decide +kernel
theorem dX15_maskOf_66 : decode cX15_maskOf 66 = .ok (.istore 5, 2) := by decide +kernel
theorem dX15_maskOf_68 : decode cX15_maskOf 68 = .ok (.iinc 6 1, 3) := by decide +kernel
theorem dX15_maskOf_71 : decode cX15_maskOf 71 = .ok (.goto (-60), 3) := by decide +kernel
theorem dX15_maskOf_74 : decode cX15_maskOf 74 = .ok (.aload_n 0, 1) := by decide +kernel
theorem dX15_maskOf_75 : decode cX15_maskOf 75 = .ok (.getfield 346, 3) := by decide +kernel
theorem dX15_maskOf_78 : decode cX15_maskOf 78 = .ok (.iload_n 1, 1) := by decide +kernel
theorem dX15_maskOf_79 : decode cX15_maskOf 79 = .ok (.iaload, 1) := by decide +kernel
theorem dX15_maskOf_80 : decode cX15_maskOf 80 = .ok (.aload_n 0, 1) := by decide +kernel
theorem dX15_maskOf_81 : decode cX15_maskOf 81 = .ok (.getfield 333, 3) := by decide +kernel
theorem dX15_maskOf_84 : decode cX15_maskOf 84 = .ok (.iload_n 1, 1) := by decide +kernel
theorem dX15_maskOf_85 : decode cX15_maskOf 85 = .ok (.iaload, 1) := by decide +kernel
theorem dX15_maskOf_86 : decode cX15_maskOf 86 = .ok (.iload_n 2, 1) := by decide +kernel
theorem dX15_maskOf_87 : decode cX15_maskOf 87 = .ok (.iconst 1, 1) := by decide +kernel
theorem dX15_maskOf_88 : decode cX15_maskOf 88 = .ok (.ishr, 1) := by decide +kernel
theorem dX15_maskOf_89 : decode cX15_maskOf 89 = .ok (.imul, 1) := by decide +kernel
theorem dX15_maskOf_90 : decode cX15_maskOf 90 = .ok (.iadd, 1) := by decide +kernel
theorem dX15_maskOf_91 : decode cX15_maskOf 91 = .ok (.iload 5, 2) := by decide +kernel
theorem dX15_maskOf_93 : decode cX15_maskOf 93 = .ok (.iadd, 1) := by decide +kernel
theorem dX15_maskOf_94 : decode cX15_maskOf 94 = .ok (.ireturn, 1) := by decide +kernel
set_option maxRecDepth 20000 in
theorem moX15_maskOf_65 {o : Int32 × Hp} {k_11 : Hp → Nat → Int32 → Int32 → Int32 → Int32 → Int32 → Int32 → Option (Int32 × Hp)} {F : Nat} (mk_11 : ∀ (h : Hp) (x0 : Nat) (x1 : Int32) (x2 : Int32) (x3 : Int32) (x4 : Int32) (x5 : Int32) (x6 : Int32), k_11 h x0 x1 x2 x3 x4 x5 x6 = some o → Le h o.2) {h : Hp} {x0 : Nat} {x1 : Int32} {x2 : Int32} {x3 : Int32} {x4 : Int32} {x6 : Int32} {t0 : Int32} {t1 : Int32} (hE : sX15_maskOf_65 F k_11 h x0 x1 x2 x3 x4 x6 t0 t1 = some o) : Le h o.2 := by
  obtain ⟨v_1, ev_1, hE⟩ := nm_e2 hE
  obtain ⟨v_2, ev_2, hE⟩ := nm_e2 hE
  exact mk_11 _ _ _ _ _ _ _ _ hE
set_option maxRecDepth 20000 in
theorem moX15_maskOf_60 {o : Int32 × Hp} {k_11 : Hp → Nat → Int32 → Int32 → Int32 → Int32 → Int32 → Int32 → Option (Int32 × Hp)} {F : Nat} (mk_11 : ∀ (h : Hp) (x0 : Nat) (x1 : Int32) (x2 : Int32) (x3 : Int32) (x4 : Int32) (x5 : Int32) (x6 : Int32), k_11 h x0 x1 x2 x3 x4 x5 x6 = some o → Le h o.2) {h : Hp} {x0 : Nat} {x1 : Int32} {x2 : Int32} {x3 : Int32} {x4 : Int32} {x6 : Int32} {t0 : Int32} (hE : sX15_maskOf_60 F k_11 h x0 x1 x2 x3 x4 x6 t0 = some o) : Le h o.2 := by
  exact moX15_maskOf_65 mk_11 hE
set_option maxRecDepth 20000 in
theorem moX15_maskOf_64 {o : Int32 × Hp} {k_11 : Hp → Nat → Int32 → Int32 → Int32 → Int32 → Int32 → Int32 → Option (Int32 × Hp)} {F : Nat} (mk_11 : ∀ (h : Hp) (x0 : Nat) (x1 : Int32) (x2 : Int32) (x3 : Int32) (x4 : Int32) (x5 : Int32) (x6 : Int32), k_11 h x0 x1 x2 x3 x4 x5 x6 = some o → Le h o.2) {h : Hp} {x0 : Nat} {x1 : Int32} {x2 : Int32} {x3 : Int32} {x4 : Int32} {x6 : Int32} {t0 : Int32} (hE : sX15_maskOf_64 F k_11 h x0 x1 x2 x3 x4 x6 t0 = some o) : Le h o.2 := by
  exact moX15_maskOf_65 mk_11 hE
set_option maxRecDepth 20000 in
theorem moX15_maskOf_11 {o : Int32 × Hp} {F : Nat} : ∀ (f : Nat) {h : Hp} {x0 : Nat} {x1 : Int32} {x2 : Int32} {x3 : Int32} {x4 : Int32} {x5 : Int32} {x6 : Int32}, sX15_maskOf_11 F f h x0 x1 x2 x3 x4 x5 x6 = some o → Le h o.2 := by
  intro f
  induction f with
  | zero =>
    intro h x0 x1 x2 x3 x4 x5 x6 hE
    rw [sX15_maskOf_11] at hE
    cases hE
  | succ f ih =>
    intro h x0 x1 x2 x3 x4 x5 x6 hE
    rw [sX15_maskOf_11] at hE
    have mk_11 : ∀ (h : Hp) (x0 : Nat) (x1 : Int32) (x2 : Int32) (x3 : Int32) (x4 : Int32) (x5 : Int32) (x6 : Int32), sX15_maskOf_11 F f h x0 x1 x2 x3 x4 x5 x6 = some o → Le h o.2 := fun h x0 x1 x2 x3 x4 x5 x6 hE => ih hE
    obtain ⟨r_1, er_1, hE⟩ := cl_e hE
    obtain ⟨g_2, hE⟩ := gd_e hE
    rcases br_e hE with ⟨_, hE⟩ | ⟨_, hE⟩
    · obtain ⟨r_4, er_4, hE⟩ := cl_e hE
      obtain ⟨g_5, hE⟩ := gd_e hE
      obtain ⟨r_6, er_6, hE⟩ := cl_e hE
      obtain ⟨g_7, hE⟩ := gd_e hE
      exact le_some2 hE
    · obtain ⟨r_8, er_8, hE⟩ := cl_e hE
      obtain ⟨g_9, hE⟩ := gd_e hE
      obtain ⟨o_10, eo_10, hE⟩ := cl_e hE
      refine (moX15_sideOf eo_10).tr ?_
      rcases br_e hE with ⟨_, hE⟩ | ⟨_, hE⟩
      · exact moX15_maskOf_60 mk_11 hE
      · rcases br_e hE with ⟨_, hE⟩ | ⟨_, hE⟩
        · rcases br_e hE with ⟨_, hE⟩ | ⟨_, hE⟩
          · exact moX15_maskOf_64 mk_11 hE
          · exact moX15_maskOf_60 mk_11 hE
        · exact moX15_maskOf_64 mk_11 hE
set_option maxRecDepth 20000 in
theorem moX15_maskOf {o : Int32 × Hp} {F : Nat} {h : Hp} {x0 : Nat} {x1 : Int32} {x2 : Int32} {x3 : Int32} (hE : sX15_maskOf F h x0 x1 x2 x3 = some o) : Le h o.2 := by
  obtain ⟨v_1, ev_1, hE⟩ := nm_e2 hE
  exact moX15_maskOf_11 _ hE
set_option maxRecDepth 20000 in
theorem bX15_maskOf_65 {p : Program} {l : Launch} {e : Env} {s : State} {m : MethodId} {args : Array Value} {below : List Frame} {meth : Method} {c : Code} {X : Ec} {h0 : Hp} {o : Int32 × Hp} {k_11 : Hp → Nat → Int32 → Int32 → Int32 → Int32 → Int32 → Int32 → Option (Int32 × Hp)} {F : Nat} (C : Cx X p s m args meth c RX15 cX15_maskOf 8 (some .int) "maskOf") (hk_11 : ∀ (h : Hp) (x0 : Nat) (x1 : Int32) (x2 : Int32) (x3 : Int32) (x4 : Int32) (x5 : Int32) (x6 : Int32) (H : Heap) (locs : List Loc), hK h x0 = 15 → Km h0 h → Wx X h H → va_S (aA (eB X)) s.heap H locs → ∀ (ls : Array Slot), lv_has ls 8 [(0, .ref x0), (1, .int x1), (2, .int x2), (3, .int x3), (4, .int x4), (5, .int x5), (6, .int x6)] → k_11 h x0 x1 x2 x3 x4 x5 x6 = some o → W p l e (rm 1 20) s m args below meth c H locs 0 0 (MQ below (QI X h0 o.1 o.2) args s 0 0 (aA (eB X))) (F0 m 11 ls [])) {h : Hp} {x0 : Nat} {x1 : Int32} {x2 : Int32} {x3 : Int32} {x4 : Int32} {x6 : Int32} {t0 : Int32} {t1 : Int32} {H : Heap} {locs : List Loc} (k_x0 : hK h x0 = 15) (hkm : Km h0 h) (hW : Wx X h H) (hZ : va_S (aA (eB X)) s.heap H locs) (ls : Array Slot) (hl : lv_has ls 8 [(0, .ref x0), (1, .int x1), (2, .int x2), (3, .int x3), (4, .int x4), (6, .int x6)]) (hE : sX15_maskOf_65 F k_11 h x0 x1 x2 x3 x4 x6 t0 t1 = some o) : W p l e (rm 1 20) s m args below meth c H locs 0 0 (MQ below (QI X h0 o.1 o.2) args s 0 0 (aA (eB X))) (F0 m 65 ls [.int t0, .int t1]) := by
  refine lv_iadd C.1 C.2.1 dX15_maskOf_65 ?_
  obtain ⟨v_1, ev_1, hE⟩ := nm_e2 hE
  refine x_nmI ev_1 ?_
  refine lv_istore (lv' := [(5, .int v_1), (0, .ref x0), (1, .int x1), (2, .int x2), (3, .int x3), (4, .int x4), (6, .int x6)]) C.1 C.2.1 dX15_maskOf_66 hl (by decide) rfl (fun ls hl => ?_)
  obtain ⟨v_2, ev_2, hE⟩ := nm_e2 hE
  refine lv_iinc (v := v_2) (lv' := [(6, .int v_2), (5, .int v_1), (0, .ref x0), (1, .int x1), (2, .int x2), (3, .int x3), (4, .int x4)]) C.1 C.2.1 dX15_maskOf_68 hl (k := 6) rfl (by rw [ev_2]; rfl) (by decide) rfl (fun ls hl => ?_)
  refine lv_goto (tgt := 11) C.1 C.2.1 dX15_maskOf_71 (by decide) ?_
  exact hk_11 _ _ _ _ _ _ _ _ _ _ k_x0 hkm hW hZ _ (lv_sub hl [2, 3, 4, 5, 6, 1, 0] rfl) hE
set_option maxRecDepth 20000 in
theorem bX15_maskOf_60 {p : Program} {l : Launch} {e : Env} {s : State} {m : MethodId} {args : Array Value} {below : List Frame} {meth : Method} {c : Code} {X : Ec} {h0 : Hp} {o : Int32 × Hp} {k_11 : Hp → Nat → Int32 → Int32 → Int32 → Int32 → Int32 → Int32 → Option (Int32 × Hp)} {F : Nat} (C : Cx X p s m args meth c RX15 cX15_maskOf 8 (some .int) "maskOf") (hk_11 : ∀ (h : Hp) (x0 : Nat) (x1 : Int32) (x2 : Int32) (x3 : Int32) (x4 : Int32) (x5 : Int32) (x6 : Int32) (H : Heap) (locs : List Loc), hK h x0 = 15 → Km h0 h → Wx X h H → va_S (aA (eB X)) s.heap H locs → ∀ (ls : Array Slot), lv_has ls 8 [(0, .ref x0), (1, .int x1), (2, .int x2), (3, .int x3), (4, .int x4), (5, .int x5), (6, .int x6)] → k_11 h x0 x1 x2 x3 x4 x5 x6 = some o → W p l e (rm 1 20) s m args below meth c H locs 0 0 (MQ below (QI X h0 o.1 o.2) args s 0 0 (aA (eB X))) (F0 m 11 ls [])) {h : Hp} {x0 : Nat} {x1 : Int32} {x2 : Int32} {x3 : Int32} {x4 : Int32} {x6 : Int32} {t0 : Int32} {H : Heap} {locs : List Loc} (k_x0 : hK h x0 = 15) (hkm : Km h0 h) (hW : Wx X h H) (hZ : va_S (aA (eB X)) s.heap H locs) (ls : Array Slot) (hl : lv_has ls 8 [(0, .ref x0), (1, .int x1), (2, .int x2), (3, .int x3), (4, .int x4), (6, .int x6)]) (hE : sX15_maskOf_60 F k_11 h x0 x1 x2 x3 x4 x6 t0 = some o) : W p l e (rm 1 20) s m args below meth c H locs 0 0 (MQ below (QI X h0 o.1 o.2) args s 0 0 (aA (eB X))) (F0 m 60 ls [.int t0]) := by
  refine lv_iconst (v := (1 : Int32)) C.1 C.2.1 dX15_maskOf_60 (by decide) ?_
  refine lv_goto (tgt := 65) C.1 C.2.1 dX15_maskOf_61 (by decide) ?_
  exact bX15_maskOf_65 C hk_11 k_x0 hkm hW hZ _ (lv_sub hl [0, 1, 2, 3, 4, 5] rfl) hE
set_option maxRecDepth 20000 in
theorem bX15_maskOf_64 {p : Program} {l : Launch} {e : Env} {s : State} {m : MethodId} {args : Array Value} {below : List Frame} {meth : Method} {c : Code} {X : Ec} {h0 : Hp} {o : Int32 × Hp} {k_11 : Hp → Nat → Int32 → Int32 → Int32 → Int32 → Int32 → Int32 → Option (Int32 × Hp)} {F : Nat} (C : Cx X p s m args meth c RX15 cX15_maskOf 8 (some .int) "maskOf") (hk_11 : ∀ (h : Hp) (x0 : Nat) (x1 : Int32) (x2 : Int32) (x3 : Int32) (x4 : Int32) (x5 : Int32) (x6 : Int32) (H : Heap) (locs : List Loc), hK h x0 = 15 → Km h0 h → Wx X h H → va_S (aA (eB X)) s.heap H locs → ∀ (ls : Array Slot), lv_has ls 8 [(0, .ref x0), (1, .int x1), (2, .int x2), (3, .int x3), (4, .int x4), (5, .int x5), (6, .int x6)] → k_11 h x0 x1 x2 x3 x4 x5 x6 = some o → W p l e (rm 1 20) s m args below meth c H locs 0 0 (MQ below (QI X h0 o.1 o.2) args s 0 0 (aA (eB X))) (F0 m 11 ls [])) {h : Hp} {x0 : Nat} {x1 : Int32} {x2 : Int32} {x3 : Int32} {x4 : Int32} {x6 : Int32} {t0 : Int32} {H : Heap} {locs : List Loc} (k_x0 : hK h x0 = 15) (hkm : Km h0 h) (hW : Wx X h H) (hZ : va_S (aA (eB X)) s.heap H locs) (ls : Array Slot) (hl : lv_has ls 8 [(0, .ref x0), (1, .int x1), (2, .int x2), (3, .int x3), (4, .int x4), (6, .int x6)]) (hE : sX15_maskOf_64 F k_11 h x0 x1 x2 x3 x4 x6 t0 = some o) : W p l e (rm 1 20) s m args below meth c H locs 0 0 (MQ below (QI X h0 o.1 o.2) args s 0 0 (aA (eB X))) (F0 m 64 ls [.int t0]) := by
  refine lv_iconst (v := (0 : Int32)) C.1 C.2.1 dX15_maskOf_64 (by decide) ?_
  exact bX15_maskOf_65 C hk_11 k_x0 hkm hW hZ _ (lv_sub hl [0, 1, 2, 3, 4, 5] rfl) hE
set_option maxRecDepth 20000 in
theorem bX15_maskOf_11 {p : Program} {l : Launch} {e : Env} {s : State} {m : MethodId} {args : Array Value} {below : List Frame} {meth : Method} {c : Code} {X : Ec} {h0 : Hp} {o : Int32 × Hp} {F : Nat} (C : Cx X p s m args meth c RX15 cX15_maskOf 8 (some .int) "maskOf") : ∀ (f : Nat) {h : Hp} {x0 : Nat} {x1 : Int32} {x2 : Int32} {x3 : Int32} {x4 : Int32} {x5 : Int32} {x6 : Int32} {H : Heap} {locs : List Loc} (k_x0 : hK h x0 = 15), Km h0 h → Wx X h H → va_S (aA (eB X)) s.heap H locs → ∀ (ls : Array Slot), lv_has ls 8 [(0, .ref x0), (1, .int x1), (2, .int x2), (3, .int x3), (4, .int x4), (5, .int x5), (6, .int x6)] → sX15_maskOf_11 F f h x0 x1 x2 x3 x4 x5 x6 = some o → W p l e (rm 1 20) s m args below meth c H locs 0 0 (MQ below (QI X h0 o.1 o.2) args s 0 0 (aA (eB X))) (F0 m 11 ls []) := by
  intro f
  induction f with
  | zero =>
    intro h x0 x1 x2 x3 x4 x5 x6 H locs k_x0 hkm hW hZ ls hl hE
    rw [sX15_maskOf_11] at hE
    cases hE
  | succ f ih =>
    intro h x0 x1 x2 x3 x4 x5 x6 H locs k_x0 hkm hW hZ ls hl hE
    rw [sX15_maskOf_11] at hE
    have hk_11 : ∀ (h : Hp) (x0 : Nat) (x1 : Int32) (x2 : Int32) (x3 : Int32) (x4 : Int32) (x5 : Int32) (x6 : Int32) (H : Heap) (locs : List Loc), hK h x0 = 15 → Km h0 h → Wx X h H → va_S (aA (eB X)) s.heap H locs → ∀ (ls : Array Slot), lv_has ls 8 [(0, .ref x0), (1, .int x1), (2, .int x2), (3, .int x3), (4, .int x4), (5, .int x5), (6, .int x6)] → sX15_maskOf_11 F f h x0 x1 x2 x3 x4 x5 x6 = some o → W p l e (rm 1 20) s m args below meth c H locs 0 0 (MQ below (QI X h0 o.1 o.2) args s 0 0 (aA (eB X))) (F0 m 11 ls []) := fun h x0 x1 x2 x3 x4 x5 x6 H locs k_x0 a b c ls hl hE => ih k_x0 a b c ls hl hE
    refine lv_iload C.1 C.2.1 dX15_maskOf_11 (lv_at hl 6 rfl) ?_
    refine lv_aload_n C.1 C.2.1 dX15_maskOf_13 rfl (lv_at hl 0 rfl) ?_
    obtain ⟨r_1, er_1, hE⟩ := cl_e hE
    refine gf_X15_333 C hW k_x0 er_1 dX15_maskOf_14 (fun k_r_1 => ?_)
    refine lv_iload_n C.1 C.2.1 dX15_maskOf_17 rfl (lv_at hl 1 rfl) ?_
    obtain ⟨g_2, hE⟩ := gd_e hE
    refine y_iald C hW k_r_1 g_2 dX15_maskOf_18 ?_
    refine lv_icmp_ge (tgt := 74) C.1 C.2.1 dX15_maskOf_19 (by decide) (fun c_3 => ?_) (fun c_3 => ?_)
    · have hE := br_p hE c_3
      refine lv_aload_n C.1 C.2.1 dX15_maskOf_74 rfl (lv_at hl 0 rfl) ?_
      obtain ⟨r_4, er_4, hE⟩ := cl_e hE
      refine gf_X15_346 C hW k_x0 er_4 dX15_maskOf_75 (fun k_r_4 => ?_)
      refine lv_iload_n C.1 C.2.1 dX15_maskOf_78 rfl (lv_at hl 1 rfl) ?_
      obtain ⟨g_5, hE⟩ := gd_e hE
      refine y_iald C hW k_r_4 g_5 dX15_maskOf_79 ?_
      refine lv_aload_n C.1 C.2.1 dX15_maskOf_80 rfl (lv_at hl 0 rfl) ?_
      obtain ⟨r_6, er_6, hE⟩ := cl_e hE
      refine gf_X15_333 C hW k_x0 er_6 dX15_maskOf_81 (fun k_r_6 => ?_)
      refine lv_iload_n C.1 C.2.1 dX15_maskOf_84 rfl (lv_at hl 1 rfl) ?_
      obtain ⟨g_7, hE⟩ := gd_e hE
      refine y_iald C hW k_r_6 g_7 dX15_maskOf_85 ?_
      refine lv_iload_n C.1 C.2.1 dX15_maskOf_86 rfl (lv_at hl 2 rfl) ?_
      refine lv_iconst (v := (1 : Int32)) C.1 C.2.1 dX15_maskOf_87 (by decide) ?_
      refine lv_ishr C.1 C.2.1 dX15_maskOf_88 ?_
      refine lv_imul C.1 C.2.1 dX15_maskOf_89 ?_
      refine lv_iadd C.1 C.2.1 dX15_maskOf_90 ?_
      refine lv_iload C.1 C.2.1 dX15_maskOf_91 (lv_at hl 5 rfl) ?_
      refine lv_iadd C.1 C.2.1 dX15_maskOf_93 ?_
      exact x_iret C rfl rfl hW hZ hkm hE dX15_maskOf_94
    · have hE := br_n hE c_3
      refine lv_aload_n C.1 C.2.1 dX15_maskOf_22 rfl (lv_at hl 0 rfl) ?_
      obtain ⟨r_8, er_8, hE⟩ := cl_e hE
      refine gf_X15_336 C hW k_x0 er_8 dX15_maskOf_23 (fun k_r_8 => ?_)
      refine lv_iconst (v := (5 : Int32)) C.1 C.2.1 dX15_maskOf_26 (by decide) ?_
      refine lv_iload_n C.1 C.2.1 dX15_maskOf_27 rfl (lv_at hl 1 rfl) ?_
      refine lv_imul C.1 C.2.1 dX15_maskOf_28 ?_
      refine lv_iload C.1 C.2.1 dX15_maskOf_29 (lv_at hl 6 rfl) ?_
      refine lv_iadd C.1 C.2.1 dX15_maskOf_31 ?_
      obtain ⟨g_9, hE⟩ := gd_e hE
      refine y_iald C hW k_r_8 g_9 dX15_maskOf_32 ?_
      obtain ⟨o_10, eo_10, hE⟩ := cl_e hE
      refine x_kI (o := o_10) (z_runS (As := [.int (hI h r_8 (((5 : Int32) * x1) + x6).toNatClampNeg)]) (rest := []) C (ct_X15_sideOf l X eo_10) cw_X15_489 hW hZ rfl hl.1 (Nat.le_of_ble_eq_true rfl) rfl dX15_maskOf_33 ⟨Nat.le_of_ble_eq_true rfl, Nat.le_of_ble_eq_true rfl⟩ ⟨Nat.le_refl _, Nat.le_refl _⟩) hZ (fun _ _ hW km hZ => ?_)
      replace hkm := hkm.tr km
      replace k_x0 := km.at k_x0 (by decide)
      refine lv_istore (lv' := [(7, .int o_10.1), (0, .ref x0), (1, .int x1), (2, .int x2), (3, .int x3), (4, .int x4), (5, .int x5), (6, .int x6)]) C.1 C.2.1 dX15_maskOf_36 hl (by decide) rfl (fun ls hl => ?_)
      refine lv_iload C.1 C.2.1 dX15_maskOf_38 (lv_at hl 6 rfl) ?_
      refine lv_iload C.1 C.2.1 dX15_maskOf_40 (lv_at hl 0 rfl) ?_
      refine lv_iload C.1 C.2.1 dX15_maskOf_42 (lv_at hl 5 rfl) ?_
      refine lv_icmp_lt (tgt := 60) C.1 C.2.1 dX15_maskOf_44 (by decide) (fun c_11 => ?_) (fun c_11 => ?_)
      · have hE := br_p hE c_11
        exact bX15_maskOf_60 C hk_11 k_x0 hkm hW hZ _ (lv_sub hl [1, 2, 3, 4, 5, 7] rfl) hE
      · have hE := br_n hE c_11
        refine lv_iload C.1 C.2.1 dX15_maskOf_47 (lv_at hl 0 rfl) ?_
        refine lv_iload C.1 C.2.1 dX15_maskOf_49 (lv_at hl 5 rfl) ?_
        refine lv_icmp_ne (tgt := 64) C.1 C.2.1 dX15_maskOf_51 (by decide) (fun c_12 => ?_) (fun c_12 => ?_)
        · have hE := br_n hE c_12
          exact bX15_maskOf_64 C hk_11 k_x0 hkm hW hZ _ (lv_sub hl [1, 2, 3, 4, 5, 7] rfl) hE
        · have hE := br_p hE c_12
          refine lv_iload C.1 C.2.1 dX15_maskOf_54 (lv_at hl 7 rfl) ?_
          refine lv_iload_n C.1 C.2.1 dX15_maskOf_56 rfl (lv_at hl 4 rfl) ?_
          refine lv_icmp_ge (tgt := 64) C.1 C.2.1 dX15_maskOf_57 (by decide) (fun c_13 => ?_) (fun c_13 => ?_)
          · have hE := br_p hE c_13
            exact bX15_maskOf_64 C hk_11 k_x0 hkm hW hZ _ (lv_sub hl [1, 2, 3, 4, 5, 7] rfl) hE
          · have hE := br_n hE c_13
            exact bX15_maskOf_60 C hk_11 k_x0 hkm hW hZ _ (lv_sub hl [1, 2, 3, 4, 5, 7] rfl) hE
set_option maxRecDepth 20000 in
theorem ct_X15_maskOf (l : Launch) (X : Ec) (F : Nat) {h : Hp} {x0 : Nat} {x1 : Int32} {x2 : Int32} {x3 : Int32} {o : Int32 × Hp} (k_x0 : hK h x0 = 15) (hE : sX15_maskOf F h x0 x1 x2 x3 = some o) : MetI l yX15_maskOf cX15_maskOf 8 (some .int) 1 20 X [.ref x0, .int x1, .int x2, .int x3] h o := by
  refine x_met (by decide) (Nat.le_of_ble_eq_true rfl) ?_
  intro p e s m below meth c ls C hl hW hZ
  have hl : lv_has ls 8 [(0, .ref x0), (1, .int x1), (2, .int x2), (3, .int x3)] := hl
  have hkm : Km h h := Km.rf h
  refine lv_iload_n C.1 C.2.1 dX15_maskOf_0 rfl (lv_at hl 2 rfl) ?_
  refine lv_iconst (v := (1 : Int32)) C.1 C.2.1 dX15_maskOf_1 (by decide) ?_
  refine lv_iand C.1 C.2.1 dX15_maskOf_2 ?_
  obtain ⟨v_1, ev_1, hE⟩ := nm_e2 hE
  refine x_nmI ev_1 ?_
  refine lv_istore (lv' := [(4, .int v_1), (0, .ref x0), (1, .int x1), (2, .int x2), (3, .int x3)]) C.1 C.2.1 dX15_maskOf_3 hl (by decide) rfl (fun ls hl => ?_)
  refine lv_iconst (v := (0 : Int32)) C.1 C.2.1 dX15_maskOf_5 (by decide) ?_
  refine lv_istore (lv' := [(5, .int (0 : Int32)), (4, .int v_1), (0, .ref x0), (1, .int x1), (2, .int x2), (3, .int x3)]) C.1 C.2.1 dX15_maskOf_6 hl (by decide) rfl (fun ls hl => ?_)
  refine lv_iconst (v := (0 : Int32)) C.1 C.2.1 dX15_maskOf_8 (by decide) ?_
  refine lv_istore (lv' := [(6, .int (0 : Int32)), (5, .int (0 : Int32)), (4, .int v_1), (0, .ref x0), (1, .int x1), (2, .int x2), (3, .int x3)]) C.1 C.2.1 dX15_maskOf_9 hl (by decide) rfl (fun ls hl => ?_)
  exact bX15_maskOf_11 C F k_x0 hkm hW hZ _ (lv_sub hl [3, 4, 5, 6, 2, 1, 0] rfl) hE
set_option maxRecDepth 100000 in
theorem ms_208 : Cond.selects RX15 yX15_maskOf yX15_maskOf ∈ W0 := w0_in (List.mem_append_left _ (List.mem_of_getElem? (i := 208) rfl)) rfl
set_option maxRecDepth 100000 in
theorem ms_207 : Cond.selects RX15 yX15_layState yX15_layState ∈ W0 := w0_in (List.mem_append_left _ (List.mem_of_getElem? (i := 207) rfl)) rfl
set_option maxRecDepth 100000 in
theorem m_2163 : Cond.fieldLink RX15 770 (TX15 52).1 (TX15 52).2.1 (TX15 52).2.2.1 ∈ W0 := w0_in (List.mem_append_right _ (List.mem_of_getElem? (i := 2163) rfl)) rfl
set_option maxRecDepth 100000 in
theorem m_2782 : Cond.constant RX15 763 (3000000 : Int32) ∈ W0 := w0_in (List.mem_append_right _ (List.mem_of_getElem? (i := 2782) rfl)) rfl
set_option maxRecDepth 100000 in
theorem m_2783 : Cond.methodLink RX15 764 yX15_layState ∈ W0 := w0_in (List.mem_append_right _ (List.mem_of_getElem? (i := 2783) rfl)) rfl
set_option maxRecDepth 100000 in
theorem m_2785 : Cond.instanceMethod yX15_layState ∈ W0 := w0_in (List.mem_append_right _ (List.mem_of_getElem? (i := 2785) rfl)) rfl
set_option maxRecDepth 100000 in
theorem m_2786 : Cond.code yX15_layState cX15_layState 8 (some .boolean) ∈ W0 := w0_in (List.mem_append_right _ (List.mem_of_getElem? (i := 2786) rfl)) rfl
set_option maxRecDepth 100000 in
theorem m_2787 : Cond.constant RX15 767 (1000000 : Int32) ∈ W0 := w0_in (List.mem_append_right _ (List.mem_of_getElem? (i := 2787) rfl)) rfl
set_option maxRecDepth 100000 in
theorem m_2788 : Cond.constant RX15 768 (-1000000 : Int32) ∈ W0 := w0_in (List.mem_append_right _ (List.mem_of_getElem? (i := 2788) rfl)) rfl
set_option maxRecDepth 100000 in
theorem m_2789 : Cond.constant RX15 769 (2000000 : Int32) ∈ W0 := w0_in (List.mem_append_right _ (List.mem_of_getElem? (i := 2789) rfl)) rfl
set_option maxRecDepth 100000 in
theorem m_2790 : Cond.methodLink RX15 773 yX15_maskOf ∈ W0 := w0_in (List.mem_append_right _ (List.mem_of_getElem? (i := 2790) rfl)) rfl
set_option maxRecDepth 100000 in
theorem m_2792 : Cond.instanceMethod yX15_maskOf ∈ W0 := w0_in (List.mem_append_right _ (List.mem_of_getElem? (i := 2792) rfl)) rfl
set_option maxRecDepth 100000 in
theorem m_2793 : Cond.code yX15_maskOf cX15_maskOf 8 (some .int) ∈ W0 := w0_in (List.mem_append_right _ (List.mem_of_getElem? (i := 2793) rfl)) rfl
section
variable {p : Program} {l : Launch} {e : Env} {R : Room} {s : State} {m : MethodId} {args : Array Value} {below : List Frame} {meth : Method} {c : Code} {H : Heap} {locs : List Loc} {cells slots : Nat} {Q : State → Prop}
variable {cc : ByteArray} {pc : Nat} {ls : Array Slot} {rest : List Value} {X : Ec} {h h1 : Hp} {nL : Nat} {rt : Option FieldType} {mn : String}
theorem gf_X15_770 {a r : Nat} (C : Cx X p s m args meth c RX15 cc nL rt mn) (hW : Wx X h H) (ha : hK h a = 15) (hr : hR h a 52 = some r) (hdg : decode cc pc = .ok (.getfield 770, 3)) (kk : hK h r = 18 → W p l e R s m args below meth c H locs cells slots Q (F0 m (pc + 3) ls (.ref r :: rest))) : W p l e R s m args below meth c H locs cells slots Q (F0 m pc ls (.ref a :: rest)) :=
  y_getr C hW ha i_X15 (by decide) rfl (by decide) m_2163 rfl rfl hr hdg kk
theorem gf_X15_343 {a r : Nat} (C : Cx X p s m args meth c RX15 cc nL rt mn) (hW : Wx X h H) (ha : hK h a = 15) (hr : hR h a 51 = some r) (hdg : decode cc pc = .ok (.getfield 343, 3)) (kk : hK h r = 17 → W p l e R s m args below meth c H locs cells slots Q (F0 m (pc + 3) ls (.ref r :: rest))) : W p l e R s m args below meth c H locs cells slots Q (F0 m pc ls (.ref a :: rest)) :=
  y_getr C hW ha i_X15 (by decide) rfl (by decide) m_2162 rfl rfl hr hdg kk
theorem gf_X15_349 {a r : Nat} (C : Cx X p s m args meth c RX15 cc nL rt mn) (hW : Wx X h H) (ha : hK h a = 15) (hr : hR h a 54 = some r) (hdg : decode cc pc = .ok (.getfield 349, 3)) (kk : hK h r = 18 → W p l e R s m args below meth c H locs cells slots Q (F0 m (pc + 3) ls (.ref r :: rest))) : W p l e R s m args below meth c H locs cells slots Q (F0 m pc ls (.ref a :: rest)) :=
  y_getr C hW ha i_X15 (by decide) rfl (by decide) m_2165 rfl rfl hr hdg kk
end
theorem cw_X15_773 : cwd RX15 773 yX15_maskOf cX15_maskOf 8 (some .int) false 3 := ⟨m_2793, m_2790, m_19, ⟨m_2792, ms_208⟩, by decide, by decide, by decide +kernel⟩
theorem cw_X15_764 : cwd RX15 764 yX15_layState cX15_layState 8 (some .boolean) false 2 := ⟨m_2786, m_2783, m_19, ⟨m_2785, ms_207⟩, by decide, by decide, by decide +kernel⟩
theorem dX15_begin_0 : decode cX15_begin 0 = .ok (.aload_n 0, 1) := by decide +kernel
theorem dX15_begin_1 : decode cX15_begin 1 = .ok (.getfield 339, 3) := by decide +kernel
theorem dX15_begin_4 : decode cX15_begin 4 = .ok (.iload_n 1, 1) := by decide +kernel
theorem dX15_begin_5 : decode cX15_begin 5 = .ok (.iaload, 1) := by decide +kernel
theorem dX15_begin_6 : decode cX15_begin 6 = .ok (.iload_n 2, 1) := by decide +kernel
theorem dX15_begin_7 : decode cX15_begin 7 = .ok (.iadd, 1) := by decide +kernel
theorem dX15_begin_8 : decode cX15_begin 8 = .ok (.istore_n 3, 1) := by decide +kernel
theorem dX15_begin_9 : decode cX15_begin 9 = .ok (.aload_n 0, 1) := by decide +kernel
theorem dX15_begin_10 : decode cX15_begin 10 = .ok (.getfield 343, 3) := by decide +kernel
theorem dX15_begin_13 : decode cX15_begin 13 = .ok (.iload_n 3, 1) := by decide +kernel
theorem dX15_begin_14 : decode cX15_begin 14 = .ok (.ldc_w 763, 3) := by decide +kernel
theorem dX15_begin_17 : decode cX15_begin 17 = .ok (.iastore, 1) := by decide +kernel
theorem dX15_begin_18 : decode cX15_begin 18 = .ok (.aload_n 0, 1) := by decide +kernel
theorem dX15_begin_19 : decode cX15_begin 19 = .ok (.iload_n 1, 1) := by decide +kernel
theorem dX15_begin_20 : decode cX15_begin 20 = .ok (.iload_n 2, 1) := by decide +kernel
theorem dX15_begin_21 : decode cX15_begin 21 = .ok (.invokevirtual 764, 3) := by decide +kernel
theorem dX15_begin_24 : decode cX15_begin 24 = .ok (.ifCond .eq 14, 3) := by decide +kernel
theorem dX15_begin_27 : decode cX15_begin 27 = .ok (.aload_n 0, 1) := by decide +kernel
theorem dX15_begin_28 : decode cX15_begin 28 = .ok (.aload_n 0, 1) := by decide +kernel
theorem dX15_begin_29 : decode cX15_begin 29 = .ok (.getfield 365, 3) := by decide +kernel
theorem dX15_begin_32 : decode cX15_begin 32 = .ok (.invokevirtual 479, 3) := by decide +kernel
theorem dX15_begin_35 : decode cX15_begin 35 = .ok (.ifCond .le 4, 3) := by decide +kernel
theorem dX15_begin_38 : decode cX15_begin 38 = .ok (.return_, 1) := by decide +kernel
theorem dX15_begin_39 : decode cX15_begin 39 = .ok (.aload_n 0, 1) := by decide +kernel
theorem dX15_begin_40 : decode cX15_begin 40 = .ok (.aload_n 0, 1) := by decide +kernel
theorem dX15_begin_41 : decode cX15_begin 41 = .ok (.getfield 365, 3) := by decide +kernel
theorem dX15_begin_44 : decode cX15_begin 44 = .ok (.aload_n 0, 1) := by decide +kernel
theorem dX15_begin_45 : decode cX15_begin 45 = .ok (.getfield 365, 3) := by decide +kernel
theorem dX15_begin_48 : decode cX15_begin 48 = .ok (.getfield 452, 3) := by decide +kernel
theorem dX15_begin_51 : decode cX15_begin 51 = .ok (.invokevirtual 508, 3) := by decide +kernel
theorem dX15_begin_54 : decode cX15_begin 54 = .ok (.istore 4, 2) := by decide +kernel
theorem dX15_begin_56 : decode cX15_begin 56 = .ok (.iload 4, 2) := by decide +kernel
theorem dX15_begin_58 : decode cX15_begin 58 = .ok (.iconst (-1), 1) := by decide +kernel
theorem dX15_begin_59 : decode cX15_begin 59 = .ok (.if_icmp .eq 40, 3) := by decide +kernel
theorem dX15_begin_62 : decode cX15_begin 62 = .ok (.aload_n 0, 1) := by decide +kernel
theorem dX15_begin_63 : decode cX15_begin 63 = .ok (.aload_n 0, 1) := by decide +kernel
theorem dX15_begin_64 : decode cX15_begin 64 = .ok (.getfield 365, 3) := by decide +kernel
theorem dX15_begin_67 : decode cX15_begin 67 = .ok (.iload 4, 2) := by decide +kernel
theorem dX15_begin_69 : decode cX15_begin 69 = .ok (.iconst 1, 1) := by decide +kernel
theorem dX15_begin_70 : decode cX15_begin 70 = .ok (.aload_n 0, 1) := by decide +kernel
theorem dX15_begin_71 : decode cX15_begin 71 = .ok (.getfield 365, 3) := by decide +kernel
theorem dX15_begin_74 : decode cX15_begin 74 = .ok (.getfield 452, 3) := by decide +kernel
theorem dX15_begin_77 : decode cX15_begin 77 = .ok (.isub, 1) := by decide +kernel
theorem dX15_begin_78 : decode cX15_begin 78 = .ok (.invokevirtual 512, 3) := by decide +kernel
theorem dX15_begin_81 : decode cX15_begin 81 = .ok (.ifCond .eq 18, 3) := by decide +kernel
theorem dX15_begin_84 : decode cX15_begin 84 = .ok (.aload_n 0, 1) := by decide +kernel
theorem dX15_begin_85 : decode cX15_begin 85 = .ok (.getfield 349, 3) := by decide +kernel
theorem dX15_begin_88 : decode cX15_begin 88 = .ok (.iload_n 3, 1) := by decide +kernel
theorem dX15_begin_89 : decode cX15_begin 89 = .ok (.bipush 6, 2) := by decide +kernel
theorem dX15_begin_91 : decode cX15_begin 91 = .ok (.ishr, 1) := by decide +kernel
theorem dX15_begin_92 : decode cX15_begin 92 = .ok (.dup2, 1) := by decide +kernel
theorem dX15_begin_93 : decode cX15_begin 93 = .ok (.laload, 1) := by decide +kernel
theorem dX15_begin_94 : decode cX15_begin 94 = .ok (.lconst 1, 1) := by decide +kernel
theorem dX15_begin_95 : decode cX15_begin 95 = .ok (.iload_n 3, 1) := by decide +kernel
theorem dX15_begin_96 : decode cX15_begin 96 = .ok (.lshl, 1) := by decide +kernel
theorem dX15_begin_97 : decode cX15_begin 97 = .ok (.lor, 1) := by decide +kernel
theorem dX15_begin_98 : decode cX15_begin 98 = .ok (.lastore, 1) := by decide +kernel
theorem dX15_begin_99 : decode cX15_begin 99 = .ok (.aload_n 0, 1) := by decide +kernel
theorem dX15_begin_100 : decode cX15_begin 100 = .ok (.aload_n 0, 1) := by decide +kernel
theorem dX15_begin_101 : decode cX15_begin 101 = .ok (.getfield 365, 3) := by decide +kernel
theorem dX15_begin_104 : decode cX15_begin 104 = .ok (.aload_n 0, 1) := by decide +kernel
theorem dX15_begin_105 : decode cX15_begin 105 = .ok (.getfield 288, 3) := by decide +kernel
theorem dX15_begin_108 : decode cX15_begin 108 = .ok (.invokevirtual 652, 3) := by decide +kernel
theorem dX15_begin_111 : decode cX15_begin 111 = .ok (.aload_n 0, 1) := by decide +kernel
theorem dX15_begin_112 : decode cX15_begin 112 = .ok (.aload_n 0, 1) := by decide +kernel
theorem dX15_begin_113 : decode cX15_begin 113 = .ok (.getfield 365, 3) := by decide +kernel
theorem dX15_begin_116 : decode cX15_begin 116 = .ok (.aload_n 0, 1) := by decide +kernel
theorem dX15_begin_117 : decode cX15_begin 117 = .ok (.getfield 288, 3) := by decide +kernel
theorem dX15_begin_120 : decode cX15_begin 120 = .ok (.getfield 575, 3) := by decide +kernel
theorem dX15_begin_123 : decode cX15_begin 123 = .ok (.invokevirtual 683, 3) := by decide +kernel
theorem dX15_begin_126 : decode cX15_begin 126 = .ok (.istore 5, 2) := by decide +kernel
theorem dX15_begin_128 : decode cX15_begin 128 = .ok (.iload 5, 2) := by decide +kernel
theorem dX15_begin_130 : decode cX15_begin 130 = .ok (.ifCond .le 45, 3) := by decide +kernel
theorem dX15_begin_133 : decode cX15_begin 133 = .ok (.aload_n 0, 1) := by decide +kernel
theorem dX15_begin_134 : decode cX15_begin 134 = .ok (.getfield 343, 3) := by decide +kernel
theorem dX15_begin_137 : decode cX15_begin 137 = .ok (.iload_n 3, 1) := by decide +kernel
theorem dX15_begin_138 : decode cX15_begin 138 = .ok (.aload_n 0, 1) := by decide +kernel
theorem dX15_begin_139 : decode cX15_begin 139 = .ok (.getfield 646, 3) := by decide +kernel
theorem dX15_begin_142 : decode cX15_begin 142 = .ok (.iconst 2, 1) := by decide +kernel
theorem dX15_begin_143 : decode cX15_begin 143 = .ok (.if_icmp .ne 7, 3) := by decide +kernel
theorem dX15_begin_146 : decode cX15_begin 146 = .ok (.iconst 0, 1) := by decide +kernel
theorem dX15_begin_147 : decode cX15_begin 147 = .ok (.goto 26, 3) := by decide +kernel
theorem dX15_begin_150 : decode cX15_begin 150 = .ok (.aload_n 0, 1) := by decide +kernel
theorem dX15_begin_151 : decode cX15_begin 151 = .ok (.getfield 646, 3) := by decide +kernel
theorem dX15_begin_154 : decode cX15_begin 154 = .ok (.aload_n 0, 1) := by decide +kernel
theorem dX15_begin_155 : decode cX15_begin 155 = .ok (.getfield 365, 3) := by decide +kernel
theorem dX15_begin_158 : decode cX15_begin 158 = .ok (.getfield 452, 3) := by decide +kernel
theorem dX15_begin_161 : decode cX15_begin 161 = .ok (.if_icmp .ne 9, 3) := by decide +kernel
theorem dX15_begin_164 : decode cX15_begin 164 = .ok (.ldc_w 767, 3) := by decide +kernel
theorem dX15_begin_167 : decode cX15_begin 167 = .ok (.goto 6, 3) := by decide +kernel
theorem dX15_begin_170 : decode cX15_begin 170 = .ok (.ldc_w 768, 3) := by decide +kernel
theorem dX15_begin_173 : decode cX15_begin 173 = .ok (.iastore, 1) := by decide +kernel
theorem dX15_begin_174 : decode cX15_begin 174 = .ok (.return_, 1) := by decide +kernel
theorem dX15_begin_175 : decode cX15_begin 175 = .ok (.aload_n 0, 1) := by decide +kernel
theorem dX15_begin_176 : decode cX15_begin 176 = .ok (.getfield 343, 3) := by decide +kernel
theorem dX15_begin_179 : decode cX15_begin 179 = .ok (.iload_n 3, 1) := by decide +kernel
theorem dX15_begin_180 : decode cX15_begin 180 = .ok (.ldc_w 769, 3) := by decide +kernel
theorem dX15_begin_183 : decode cX15_begin 183 = .ok (.iastore, 1) := by decide +kernel
theorem dX15_begin_184 : decode cX15_begin 184 = .ok (.iconst 0, 1) := by decide +kernel
theorem dX15_begin_185 : decode cX15_begin 185 = .ok (.istore 6, 2) := by decide +kernel
theorem dX15_begin_187 : decode cX15_begin 187 = .ok (.iload 6, 2) := by decide +kernel
theorem dX15_begin_189 : decode cX15_begin 189 = .ok (.aload_n 0, 1) := by decide +kernel
theorem dX15_begin_190 : decode cX15_begin 190 = .ok (.getfield 288, 3) := by decide +kernel
theorem dX15_begin_193 : decode cX15_begin 193 = .ok (.getfield 575, 3) := by decide +kernel
theorem dX15_begin_196 : decode cX15_begin 196 = .ok (.if_icmp .ge 80, 3) := by decide +kernel
theorem dX15_begin_199 : decode cX15_begin 199 = .ok (.iconst 0, 1) := by decide +kernel
theorem dX15_begin_200 : decode cX15_begin 200 = .ok (.istore 7, 2) := by decide +kernel
theorem dX15_begin_202 : decode cX15_begin 202 = .ok (.iload_n 2, 1) := by decide +kernel
theorem dX15_begin_203 : decode cX15_begin 203 = .ok (.iconst 1, 1) := by decide +kernel
theorem dX15_begin_204 : decode cX15_begin 204 = .ok (.ishr, 1) := by decide +kernel
theorem dX15_begin_205 : decode cX15_begin 205 = .ok (.istore 8, 2) := by decide +kernel
theorem dX15_begin_207 : decode cX15_begin 207 = .ok (.iload 8, 2) := by decide +kernel
theorem dX15_begin_209 : decode cX15_begin 209 = .ok (.aload_n 0, 1) := by decide +kernel
theorem dX15_begin_210 : decode cX15_begin 210 = .ok (.getfield 384, 3) := by decide +kernel
theorem dX15_begin_213 : decode cX15_begin 213 = .ok (.irem, 1) := by decide +kernel
theorem dX15_begin_214 : decode cX15_begin 214 = .ok (.aload_n 0, 1) := by decide +kernel
theorem dX15_begin_215 : decode cX15_begin 215 = .ok (.getfield 288, 3) := by decide +kernel
theorem dX15_begin_218 : decode cX15_begin 218 = .ok (.getfield 597, 3) := by decide +kernel
theorem dX15_begin_221 : decode cX15_begin 221 = .ok (.iload 6, 2) := by decide +kernel
theorem dX15_begin_223 : decode cX15_begin 223 = .ok (.iaload, 1) := by decide +kernel
theorem dX15_begin_224 : decode cX15_begin 224 = .ok (.if_icmp .eq 18, 3) := by decide +kernel
theorem dX15_begin_227 : decode cX15_begin 227 = .ok (.iload 8, 2) := by decide +kernel
theorem dX15_begin_229 : decode cX15_begin 229 = .ok (.aload_n 0, 1) := by decide +kernel
theorem dX15_begin_230 : decode cX15_begin 230 = .ok (.getfield 384, 3) := by decide +kernel
theorem dX15_begin_233 : decode cX15_begin 233 = .ok (.idiv, 1) := by decide +kernel
theorem dX15_begin_234 : decode cX15_begin 234 = .ok (.istore 8, 2) := by decide +kernel
theorem dX15_begin_236 : decode cX15_begin 236 = .ok (.iinc 7 1, 3) := by decide +kernel
theorem dX15_begin_239 : decode cX15_begin 239 = .ok (.goto (-32), 3) := by decide +kernel
theorem dX15_begin_242 : decode cX15_begin 242 = .ok (.aload_n 0, 1) := by decide +kernel
theorem dX15_begin_243 : decode cX15_begin 243 = .ok (.getfield 770, 3) := by decide +kernel
theorem dX15_begin_246 : decode cX15_begin 246 = .ok (.aload_n 0, 1) := by decide +kernel
theorem dX15_begin_247 : decode cX15_begin 247 = .ok (.iload_n 1, 1) := by decide +kernel
theorem dX15_begin_248 : decode cX15_begin 248 = .ok (.iload_n 2, 1) := by decide +kernel
theorem dX15_begin_249 : decode cX15_begin 249 = .ok (.iload 7, 2) := by decide +kernel
theorem dX15_begin_251 : decode cX15_begin 251 = .ok (.invokevirtual 773, 3) := by decide +kernel
theorem dX15_begin_254 : decode cX15_begin 254 = .ok (.dup2, 1) := by decide +kernel
theorem dX15_begin_255 : decode cX15_begin 255 = .ok (.laload, 1) := by decide +kernel
theorem dX15_begin_256 : decode cX15_begin 256 = .ok (.lconst 1, 1) := by decide +kernel
theorem dX15_begin_257 : decode cX15_begin 257 = .ok (.aload_n 0, 1) := by decide +kernel
theorem dX15_begin_258 : decode cX15_begin 258 = .ok (.getfield 288, 3) := by decide +kernel
theorem dX15_begin_261 : decode cX15_begin 261 = .ok (.getfield 598, 3) := by decide +kernel
theorem dX15_begin_264 : decode cX15_begin 264 = .ok (.iload 6, 2) := by decide +kernel
theorem dX15_begin_266 : decode cX15_begin 266 = .ok (.iaload, 1) := by decide +kernel
theorem dX15_begin_267 : decode cX15_begin 267 = .ok (.lshl, 1) := by decide +kernel
theorem dX15_begin_268 : decode cX15_begin 268 = .ok (.lor, 1) := by decide +kernel
theorem dX15_begin_269 : decode cX15_begin 269 = .ok (.lastore, 1) := by decide +kernel
theorem dX15_begin_270 : decode cX15_begin 270 = .ok (.iinc 6 1, 3) := by decide +kernel
theorem dX15_begin_273 : decode cX15_begin 273 = .ok (.goto (-86), 3) := by decide +kernel
theorem dX15_begin_276 : decode cX15_begin 276 = .ok (.return_, 1) := by decide +kernel
set_option maxRecDepth 20000 in
theorem moX15_begin_38 {o : Hp} {F : Nat} {h : Hp} (hE : sX15_begin_38 F h  = some o) : Le h o := by
  exact le_some1 hE
set_option maxRecDepth 20000 in
theorem moX15_begin_207 {o : Hp} {k_187 : Hp → Nat → Int32 → Int32 → Int32 → Option (Hp)} {F : Nat} (mk_187 : ∀ (h : Hp) (x0 : Nat) (x1 : Int32) (x2 : Int32) (x6 : Int32), k_187 h x0 x1 x2 x6 = some o → Le h o) : ∀ (f : Nat) {h : Hp} {x0 : Nat} {x1 : Int32} {x2 : Int32} {x6 : Int32} {x7 : Int32} {x8 : Int32}, sX15_begin_207 F k_187 f h x0 x1 x2 x6 x7 x8 = some o → Le h o := by
  intro f
  induction f with
  | zero =>
    intro h x0 x1 x2 x6 x7 x8 hE
    rw [sX15_begin_207] at hE
    cases hE
  | succ f ih =>
    intro h x0 x1 x2 x6 x7 x8 hE
    rw [sX15_begin_207] at hE
    have mk_207 : ∀ (h : Hp) (x0 : Nat) (x1 : Int32) (x2 : Int32) (x6 : Int32) (x7 : Int32) (x8 : Int32), sX15_begin_207 F k_187 f h x0 x1 x2 x6 x7 x8 = some o → Le h o := fun h x0 x1 x2 x6 x7 x8 hE => ih hE
    obtain ⟨g_1, hE⟩ := gd_e hE
    obtain ⟨r_2, er_2, hE⟩ := cl_e hE
    obtain ⟨r_3, er_3, hE⟩ := cl_e hE
    obtain ⟨g_4, hE⟩ := gd_e hE
    rcases br_e hE with ⟨_, hE⟩ | ⟨_, hE⟩
    · obtain ⟨r_6, er_6, hE⟩ := cl_e hE
      obtain ⟨o_7, eo_7, hE⟩ := cl_e hE
      refine (moX15_maskOf eo_7).tr ?_
      obtain ⟨g_8, hE⟩ := gd_e hE
      obtain ⟨r_9, er_9, hE⟩ := cl_e hE
      obtain ⟨r_10, er_10, hE⟩ := cl_e hE
      obtain ⟨g_11, hE⟩ := gd_e hE
      obtain ⟨g_12, hE⟩ := gd_e hE
      obtain ⟨h_13, eh_13, hE⟩ := nm_e2 hE
      refine (le_J eh_13).tr ?_
      obtain ⟨v_14, ev_14, hE⟩ := nm_e2 hE
      exact mk_187 _ _ _ _ _ hE
    · obtain ⟨g_15, hE⟩ := gd_e hE
      obtain ⟨v_16, ev_16, hE⟩ := nm_e2 hE
      obtain ⟨v_17, ev_17, hE⟩ := nm_e2 hE
      exact mk_207 _ _ _ _ _ _ _ hE
set_option maxRecDepth 20000 in
theorem moX15_begin_187 {o : Hp} {F : Nat} : ∀ (f : Nat) {h : Hp} {x0 : Nat} {x1 : Int32} {x2 : Int32} {x6 : Int32}, sX15_begin_187 F f h x0 x1 x2 x6 = some o → Le h o := by
  intro f
  induction f with
  | zero =>
    intro h x0 x1 x2 x6 hE
    rw [sX15_begin_187] at hE
    cases hE
  | succ f ih =>
    intro h x0 x1 x2 x6 hE
    rw [sX15_begin_187] at hE
    have mk_187 : ∀ (h : Hp) (x0 : Nat) (x1 : Int32) (x2 : Int32) (x6 : Int32), sX15_begin_187 F f h x0 x1 x2 x6 = some o → Le h o := fun h x0 x1 x2 x6 hE => ih hE
    obtain ⟨r_1, er_1, hE⟩ := cl_e hE
    rcases br_e hE with ⟨_, hE⟩ | ⟨_, hE⟩
    · exact le_some1 hE
    · obtain ⟨v_3, ev_3, hE⟩ := nm_e2 hE
      exact moX15_begin_207 mk_187 _ hE
set_option maxRecDepth 20000 in
theorem moX15_begin_173 {o : Hp} {F : Nat} {h : Hp} {t0 : Int32} {t1 : Int32} {t2 : Nat} (hE : sX15_begin_173 F h  t0 t1 t2 = some o) : Le h o := by
  obtain ⟨g_1, hE⟩ := gd_e hE
  obtain ⟨h_2, eh_2, hE⟩ := nm_e2 hE
  refine (le_I eh_2).tr ?_
  exact le_some1 hE
set_option maxRecDepth 20000 in
theorem moX15_begin_99 {o : Hp} {F : Nat} {h : Hp} {x0 : Nat} {x1 : Int32} {x2 : Int32} {x3 : Int32} (hE : sX15_begin_99 F h x0 x1 x2 x3 = some o) : Le h o := by
  obtain ⟨r_1, er_1, hE⟩ := cl_e hE
  obtain ⟨r_2, er_2, hE⟩ := cl_e hE
  obtain ⟨o_3, eo_3, hE⟩ := cl_e hE
  refine (moX15_legal eo_3).tr ?_
  obtain ⟨r_4, er_4, hE⟩ := cl_e hE
  obtain ⟨r_5, er_5, hE⟩ := cl_e hE
  obtain ⟨o_6, eo_6, hE⟩ := cl_e hE
  refine (moX15_endedBy eo_6).tr ?_
  rcases br_e hE with ⟨_, hE⟩ | ⟨_, hE⟩
  · obtain ⟨r_8, er_8, hE⟩ := cl_e hE
    obtain ⟨g_9, hE⟩ := gd_e hE
    obtain ⟨h_10, eh_10, hE⟩ := nm_e2 hE
    refine (le_I eh_10).tr ?_
    exact moX15_begin_187 _ hE
  · obtain ⟨r_11, er_11, hE⟩ := cl_e hE
    rcases br_e hE with ⟨_, hE⟩ | ⟨_, hE⟩
    · exact moX15_begin_173 hE
    · obtain ⟨r_13, er_13, hE⟩ := cl_e hE
      rcases br_e hE with ⟨_, hE⟩ | ⟨_, hE⟩
      · exact moX15_begin_173 hE
      · exact moX15_begin_173 hE
set_option maxRecDepth 20000 in
theorem moX15_begin {o : Hp} {F : Nat} {h : Hp} {x0 : Nat} {x1 : Int32} {x2 : Int32} (hE : sX15_begin F h x0 x1 x2 = some o) : Le h o := by
  obtain ⟨r_1, er_1, hE⟩ := cl_e hE
  obtain ⟨g_2, hE⟩ := gd_e hE
  obtain ⟨v_3, ev_3, hE⟩ := nm_e2 hE
  obtain ⟨r_4, er_4, hE⟩ := cl_e hE
  obtain ⟨g_5, hE⟩ := gd_e hE
  obtain ⟨h_6, eh_6, hE⟩ := nm_e2 hE
  refine (le_I eh_6).tr ?_
  obtain ⟨o_7, eo_7, hE⟩ := cl_e hE
  refine (moX15_layState eo_7).tr ?_
  rcases br_e hE with ⟨_, hE⟩ | ⟨_, hE⟩
  · exact moX15_begin_38 hE
  · obtain ⟨r_9, er_9, hE⟩ := cl_e hE
    obtain ⟨o_10, eo_10, hE⟩ := cl_e hE
    refine (moX15_wrongOf eo_10).tr ?_
    rcases br_e hE with ⟨_, hE⟩ | ⟨_, hE⟩
    · obtain ⟨r_12, er_12, hE⟩ := cl_e hE
      obtain ⟨r_13, er_13, hE⟩ := cl_e hE
      obtain ⟨o_14, eo_14, hE⟩ := cl_e hE
      refine (moX15_royalOf eo_14).tr ?_
      rcases br_e hE with ⟨_, hE⟩ | ⟨_, hE⟩
      · exact moX15_begin_99 hE
      · obtain ⟨r_16, er_16, hE⟩ := cl_e hE
        obtain ⟨r_17, er_17, hE⟩ := cl_e hE
        obtain ⟨o_18, eo_18, hE⟩ := cl_e hE
        refine (moX15_isAttacked eo_18).tr ?_
        rcases br_e hE with ⟨_, hE⟩ | ⟨_, hE⟩
        · exact moX15_begin_99 hE
        · obtain ⟨r_20, er_20, hE⟩ := cl_e hE
          obtain ⟨g_21, hE⟩ := gd_e hE
          obtain ⟨g_22, hE⟩ := gd_e hE
          obtain ⟨h_23, eh_23, hE⟩ := nm_e2 hE
          refine (le_J eh_23).tr ?_
          exact moX15_begin_99 hE
    · exact moX15_begin_38 hE
set_option maxRecDepth 20000 in
theorem bX15_begin_38 {p : Program} {l : Launch} {e : Env} {s : State} {m : MethodId} {args : Array Value} {below : List Frame} {meth : Method} {c : Code} {X : Ec} {h0 : Hp} {o : Hp} {F : Nat} (C : Cx X p s m args meth c RX15 cX15_begin 9 none "begin") {h : Hp} {H : Heap} {locs : List Loc} (hkm : Km h0 h) (hW : Wx X h H) (hZ : va_S (aA (eB X)) s.heap H locs) (ls : Array Slot) (hl : lv_has ls 9 []) (hE : sX15_begin_38 F h  = some o) : W p l e (rm 7 191) s m args below meth c H locs 0 0 (MQ below (QV X h0 o) args s 0 0 (aA (eB X))) (F0 m 38 ls []) := by
  exact x_vret C rfl hW hZ hkm hE dX15_begin_38
set_option maxRecDepth 20000 in
theorem bX15_begin_207 {p : Program} {l : Launch} {e : Env} {s : State} {m : MethodId} {args : Array Value} {below : List Frame} {meth : Method} {c : Code} {X : Ec} {h0 : Hp} {o : Hp} {k_187 : Hp → Nat → Int32 → Int32 → Int32 → Option (Hp)} {F : Nat} (C : Cx X p s m args meth c RX15 cX15_begin 9 none "begin") (hk_187 : ∀ (h : Hp) (x0 : Nat) (x1 : Int32) (x2 : Int32) (x6 : Int32) (H : Heap) (locs : List Loc), hK h x0 = 15 → Km h0 h → Wx X h H → va_S (aA (eB X)) s.heap H locs → ∀ (ls : Array Slot), lv_has ls 9 [(0, .ref x0), (1, .int x1), (2, .int x2), (6, .int x6)] → k_187 h x0 x1 x2 x6 = some o → W p l e (rm 7 191) s m args below meth c H locs 0 0 (MQ below (QV X h0 o) args s 0 0 (aA (eB X))) (F0 m 187 ls [])) : ∀ (f : Nat) {h : Hp} {x0 : Nat} {x1 : Int32} {x2 : Int32} {x6 : Int32} {x7 : Int32} {x8 : Int32} {H : Heap} {locs : List Loc} (k_x0 : hK h x0 = 15), Km h0 h → Wx X h H → va_S (aA (eB X)) s.heap H locs → ∀ (ls : Array Slot), lv_has ls 9 [(0, .ref x0), (1, .int x1), (2, .int x2), (6, .int x6), (7, .int x7), (8, .int x8)] → sX15_begin_207 F k_187 f h x0 x1 x2 x6 x7 x8 = some o → W p l e (rm 7 191) s m args below meth c H locs 0 0 (MQ below (QV X h0 o) args s 0 0 (aA (eB X))) (F0 m 207 ls []) := by
  intro f
  induction f with
  | zero =>
    intro h x0 x1 x2 x6 x7 x8 H locs k_x0 hkm hW hZ ls hl hE
    rw [sX15_begin_207] at hE
    cases hE
  | succ f ih =>
    intro h x0 x1 x2 x6 x7 x8 H locs k_x0 hkm hW hZ ls hl hE
    rw [sX15_begin_207] at hE
    have hk_207 : ∀ (h : Hp) (x0 : Nat) (x1 : Int32) (x2 : Int32) (x6 : Int32) (x7 : Int32) (x8 : Int32) (H : Heap) (locs : List Loc), hK h x0 = 15 → Km h0 h → Wx X h H → va_S (aA (eB X)) s.heap H locs → ∀ (ls : Array Slot), lv_has ls 9 [(0, .ref x0), (1, .int x1), (2, .int x2), (6, .int x6), (7, .int x7), (8, .int x8)] → sX15_begin_207 F k_187 f h x0 x1 x2 x6 x7 x8 = some o → W p l e (rm 7 191) s m args below meth c H locs 0 0 (MQ below (QV X h0 o) args s 0 0 (aA (eB X))) (F0 m 207 ls []) := fun h x0 x1 x2 x6 x7 x8 H locs k_x0 a b c ls hl hE => ih k_x0 a b c ls hl hE
    refine lv_iload C.1 C.2.1 dX15_begin_207 (lv_at hl 5 rfl) ?_
    refine lv_aload_n C.1 C.2.1 dX15_begin_209 rfl (lv_at hl 0 rfl) ?_
    refine gf_X15_384 C hW k_x0 dX15_begin_210 ?_
    obtain ⟨g_1, hE⟩ := gd_e hE
    refine lv_irem C.1 C.2.1 dX15_begin_213 g_1 ?_
    refine lv_aload_n C.1 C.2.1 dX15_begin_214 rfl (lv_at hl 0 rfl) ?_
    obtain ⟨r_2, er_2, hE⟩ := cl_e hE
    refine gf_X15_288 C hW k_x0 er_2 dX15_begin_215 (fun k_r_2 => ?_)
    obtain ⟨r_3, er_3, hE⟩ := cl_e hE
    refine gf_X15_597 C hW k_r_2 er_3 dX15_begin_218 (fun k_r_3 => ?_)
    refine lv_iload C.1 C.2.1 dX15_begin_221 (lv_at hl 3 rfl) ?_
    obtain ⟨g_4, hE⟩ := gd_e hE
    refine y_iald C hW k_r_3 g_4 dX15_begin_223 ?_
    refine lv_icmp_eq (tgt := 242) C.1 C.2.1 dX15_begin_224 (by decide) (fun c_5 => ?_) (fun c_5 => ?_)
    · have hE := br_p hE c_5
      refine lv_aload_n C.1 C.2.1 dX15_begin_242 rfl (lv_at hl 0 rfl) ?_
      obtain ⟨r_6, er_6, hE⟩ := cl_e hE
      refine gf_X15_770 C hW k_x0 er_6 dX15_begin_243 (fun k_r_6 => ?_)
      refine lv_aload_n C.1 C.2.1 dX15_begin_246 rfl (lv_at hl 0 rfl) ?_
      refine lv_iload_n C.1 C.2.1 dX15_begin_247 rfl (lv_at hl 1 rfl) ?_
      refine lv_iload_n C.1 C.2.1 dX15_begin_248 rfl (lv_at hl 2 rfl) ?_
      refine lv_iload C.1 C.2.1 dX15_begin_249 (lv_at hl 4 rfl) ?_
      obtain ⟨o_7, eo_7, hE⟩ := cl_e hE
      refine x_kI (o := o_7) (z_runV (As := [.int x1, .int x2, .int x7]) (rest := [.ref r_6]) C (ct_X15_maskOf l X F k_x0 eo_7) cw_X15_773 hW hZ k_x0 (by decide) rfl rfl rfl hl.1 (Nat.le_of_ble_eq_true rfl) rfl dX15_begin_251 ⟨Nat.le_of_ble_eq_true rfl, Nat.le_of_ble_eq_true rfl⟩ ⟨Nat.le_refl _, Nat.le_refl _⟩) hZ (fun _ _ hW km hZ => ?_)
      replace hkm := hkm.tr km
      replace k_x0 := km.at k_x0 (by decide)
      replace k_r_6 := km.at k_r_6 (by decide)
      refine lv_dup2_11 C.1 C.2.1 dX15_begin_254 rfl rfl ?_
      obtain ⟨g_8, hE⟩ := gd_e hE
      refine y_lald C hW k_r_6 g_8 dX15_begin_255 ?_
      refine lv_lconst (v := (1 : Int64)) C.1 C.2.1 dX15_begin_256 (by decide) ?_
      refine lv_aload_n C.1 C.2.1 dX15_begin_257 rfl (lv_at hl 0 rfl) ?_
      obtain ⟨r_9, er_9, hE⟩ := cl_e hE
      refine gf_X15_288 C hW k_x0 er_9 dX15_begin_258 (fun k_r_9 => ?_)
      obtain ⟨r_10, er_10, hE⟩ := cl_e hE
      refine gf_X15_598 C hW k_r_9 er_10 dX15_begin_261 (fun k_r_10 => ?_)
      refine lv_iload C.1 C.2.1 dX15_begin_264 (lv_at hl 3 rfl) ?_
      obtain ⟨g_11, hE⟩ := gd_e hE
      refine y_iald C hW k_r_10 g_11 dX15_begin_266 ?_
      refine lv_lshl C.1 C.2.1 dX15_begin_267 rfl ?_
      refine lv_lor C.1 C.2.1 dX15_begin_268 ?_
      obtain ⟨g_12, hE⟩ := gd_e hE
      obtain ⟨h_13, eh_13, hE⟩ := nm_e2 hE
      refine y_last C hW hZ k_r_6 g_12 eh_13 dX15_begin_269 (fun _ _ hW km hZ => ?_)
      replace hkm := hkm.tr km
      replace k_x0 := km.at k_x0 (by decide)
      obtain ⟨v_14, ev_14, hE⟩ := nm_e2 hE
      refine lv_iinc (v := v_14) (lv' := [(6, .int v_14), (0, .ref x0), (1, .int x1), (2, .int x2), (7, .int x7), (8, .int x8)]) C.1 C.2.1 dX15_begin_270 hl (k := 3) rfl (by rw [ev_14]; rfl) (by decide) rfl (fun ls hl => ?_)
      refine lv_goto (tgt := 187) C.1 C.2.1 dX15_begin_273 (by decide) ?_
      exact hk_187 _ _ _ _ _ _ _ k_x0 hkm hW hZ _ (lv_sub hl [1, 2, 3, 0] rfl) hE
    · have hE := br_n hE c_5
      refine lv_iload C.1 C.2.1 dX15_begin_227 (lv_at hl 5 rfl) ?_
      refine lv_aload_n C.1 C.2.1 dX15_begin_229 rfl (lv_at hl 0 rfl) ?_
      refine gf_X15_384 C hW k_x0 dX15_begin_230 ?_
      obtain ⟨g_15, hE⟩ := gd_e hE
      refine lv_idiv C.1 C.2.1 dX15_begin_233 g_15 ?_
      obtain ⟨v_16, ev_16, hE⟩ := nm_e2 hE
      refine x_nmI ev_16 ?_
      refine lv_istore (lv' := [(8, .int v_16), (0, .ref x0), (1, .int x1), (2, .int x2), (6, .int x6), (7, .int x7)]) C.1 C.2.1 dX15_begin_234 hl (by decide) rfl (fun ls hl => ?_)
      obtain ⟨v_17, ev_17, hE⟩ := nm_e2 hE
      refine lv_iinc (v := v_17) (lv' := [(7, .int v_17), (8, .int v_16), (0, .ref x0), (1, .int x1), (2, .int x2), (6, .int x6)]) C.1 C.2.1 dX15_begin_236 hl (k := 5) rfl (by rw [ev_17]; rfl) (by decide) rfl (fun ls hl => ?_)
      refine lv_goto (tgt := 207) C.1 C.2.1 dX15_begin_239 (by decide) ?_
      exact hk_207 _ _ _ _ _ _ _ _ _ k_x0 hkm hW hZ _ (lv_sub hl [2, 3, 4, 5, 0, 1] rfl) hE
set_option maxRecDepth 20000 in
theorem bX15_begin_187 {p : Program} {l : Launch} {e : Env} {s : State} {m : MethodId} {args : Array Value} {below : List Frame} {meth : Method} {c : Code} {X : Ec} {h0 : Hp} {o : Hp} {F : Nat} (C : Cx X p s m args meth c RX15 cX15_begin 9 none "begin") : ∀ (f : Nat) {h : Hp} {x0 : Nat} {x1 : Int32} {x2 : Int32} {x6 : Int32} {H : Heap} {locs : List Loc} (k_x0 : hK h x0 = 15), Km h0 h → Wx X h H → va_S (aA (eB X)) s.heap H locs → ∀ (ls : Array Slot), lv_has ls 9 [(0, .ref x0), (1, .int x1), (2, .int x2), (6, .int x6)] → sX15_begin_187 F f h x0 x1 x2 x6 = some o → W p l e (rm 7 191) s m args below meth c H locs 0 0 (MQ below (QV X h0 o) args s 0 0 (aA (eB X))) (F0 m 187 ls []) := by
  intro f
  induction f with
  | zero =>
    intro h x0 x1 x2 x6 H locs k_x0 hkm hW hZ ls hl hE
    rw [sX15_begin_187] at hE
    cases hE
  | succ f ih =>
    intro h x0 x1 x2 x6 H locs k_x0 hkm hW hZ ls hl hE
    rw [sX15_begin_187] at hE
    have hk_187 : ∀ (h : Hp) (x0 : Nat) (x1 : Int32) (x2 : Int32) (x6 : Int32) (H : Heap) (locs : List Loc), hK h x0 = 15 → Km h0 h → Wx X h H → va_S (aA (eB X)) s.heap H locs → ∀ (ls : Array Slot), lv_has ls 9 [(0, .ref x0), (1, .int x1), (2, .int x2), (6, .int x6)] → sX15_begin_187 F f h x0 x1 x2 x6 = some o → W p l e (rm 7 191) s m args below meth c H locs 0 0 (MQ below (QV X h0 o) args s 0 0 (aA (eB X))) (F0 m 187 ls []) := fun h x0 x1 x2 x6 H locs k_x0 a b c ls hl hE => ih k_x0 a b c ls hl hE
    refine lv_iload C.1 C.2.1 dX15_begin_187 (lv_at hl 3 rfl) ?_
    refine lv_aload_n C.1 C.2.1 dX15_begin_189 rfl (lv_at hl 0 rfl) ?_
    obtain ⟨r_1, er_1, hE⟩ := cl_e hE
    refine gf_X15_288 C hW k_x0 er_1 dX15_begin_190 (fun k_r_1 => ?_)
    refine gf_X15_575 C hW k_r_1 dX15_begin_193 ?_
    refine lv_icmp_ge (tgt := 276) C.1 C.2.1 dX15_begin_196 (by decide) (fun c_2 => ?_) (fun c_2 => ?_)
    · have hE := br_p hE c_2
      exact x_vret C rfl hW hZ hkm hE dX15_begin_276
    · have hE := br_n hE c_2
      refine lv_iconst (v := (0 : Int32)) C.1 C.2.1 dX15_begin_199 (by decide) ?_
      refine lv_istore (lv' := [(7, .int (0 : Int32)), (0, .ref x0), (1, .int x1), (2, .int x2), (6, .int x6)]) C.1 C.2.1 dX15_begin_200 hl (by decide) rfl (fun ls hl => ?_)
      refine lv_iload_n C.1 C.2.1 dX15_begin_202 rfl (lv_at hl 3 rfl) ?_
      refine lv_iconst (v := (1 : Int32)) C.1 C.2.1 dX15_begin_203 (by decide) ?_
      refine lv_ishr C.1 C.2.1 dX15_begin_204 ?_
      obtain ⟨v_3, ev_3, hE⟩ := nm_e2 hE
      refine x_nmI ev_3 ?_
      refine lv_istore (lv' := [(8, .int v_3), (7, .int (0 : Int32)), (0, .ref x0), (1, .int x1), (2, .int x2), (6, .int x6)]) C.1 C.2.1 dX15_begin_205 hl (by decide) rfl (fun ls hl => ?_)
      exact bX15_begin_207 C hk_187 F k_x0 hkm hW hZ _ (lv_sub hl [2, 3, 4, 5, 1, 0] rfl) hE
set_option maxRecDepth 20000 in
theorem bX15_begin_173 {p : Program} {l : Launch} {e : Env} {s : State} {m : MethodId} {args : Array Value} {below : List Frame} {meth : Method} {c : Code} {X : Ec} {h0 : Hp} {o : Hp} {F : Nat} (C : Cx X p s m args meth c RX15 cX15_begin 9 none "begin") {h : Hp} {t0 : Int32} {t1 : Int32} {t2 : Nat} {H : Heap} {locs : List Loc} (k_t2 : hK h t2 = 17) (hkm : Km h0 h) (hW : Wx X h H) (hZ : va_S (aA (eB X)) s.heap H locs) (ls : Array Slot) (hl : lv_has ls 9 []) (hE : sX15_begin_173 F h  t0 t1 t2 = some o) : W p l e (rm 7 191) s m args below meth c H locs 0 0 (MQ below (QV X h0 o) args s 0 0 (aA (eB X))) (F0 m 173 ls [.int t0, .int t1, .ref t2]) := by
  obtain ⟨g_1, hE⟩ := gd_e hE
  obtain ⟨h_2, eh_2, hE⟩ := nm_e2 hE
  refine y_iast C hW hZ k_t2 g_1 eh_2 dX15_begin_173 (fun _ _ hW km hZ => ?_)
  replace hkm := hkm.tr km
  exact x_vret C rfl hW hZ hkm hE dX15_begin_174
set_option maxRecDepth 20000 in
theorem bX15_begin_99 {p : Program} {l : Launch} {e : Env} {s : State} {m : MethodId} {args : Array Value} {below : List Frame} {meth : Method} {c : Code} {X : Ec} {h0 : Hp} {o : Hp} {F : Nat} (C : Cx X p s m args meth c RX15 cX15_begin 9 none "begin") {h : Hp} {x0 : Nat} {x1 : Int32} {x2 : Int32} {x3 : Int32} {H : Heap} {locs : List Loc} (k_x0 : hK h x0 = 15) (hkm : Km h0 h) (hW : Wx X h H) (hZ : va_S (aA (eB X)) s.heap H locs) (ls : Array Slot) (hl : lv_has ls 9 [(0, .ref x0), (1, .int x1), (2, .int x2), (3, .int x3)]) (hE : sX15_begin_99 F h x0 x1 x2 x3 = some o) : W p l e (rm 7 191) s m args below meth c H locs 0 0 (MQ below (QV X h0 o) args s 0 0 (aA (eB X))) (F0 m 99 ls []) := by
  refine lv_aload_n C.1 C.2.1 dX15_begin_99 rfl (lv_at hl 0 rfl) ?_
  refine lv_aload_n C.1 C.2.1 dX15_begin_100 rfl (lv_at hl 0 rfl) ?_
  obtain ⟨r_1, er_1, hE⟩ := cl_e hE
  refine gf_X15_365 C hW k_x0 er_1 dX15_begin_101 (fun k_r_1 => ?_)
  refine lv_aload_n C.1 C.2.1 dX15_begin_104 rfl (lv_at hl 0 rfl) ?_
  obtain ⟨r_2, er_2, hE⟩ := cl_e hE
  refine gf_X15_288 C hW k_x0 er_2 dX15_begin_105 (fun k_r_2 => ?_)
  obtain ⟨o_3, eo_3, hE⟩ := cl_e hE
  refine x_kV (o := o_3) (z_runV (As := [.ref r_1, .ref r_2]) (rest := []) C (ct_X15_legal l X F k_x0 k_r_1 k_r_2 eo_3) cw_X15_652 hW hZ k_x0 (by decide) rfl rfl rfl hl.1 (Nat.le_of_ble_eq_true rfl) rfl dX15_begin_108 ⟨Nat.le_of_ble_eq_true rfl, Nat.le_of_ble_eq_true rfl⟩ ⟨Nat.le_refl _, Nat.le_refl _⟩) hZ (fun _ _ hW km hZ => ?_)
  replace hkm := hkm.tr km
  replace k_x0 := km.at k_x0 (by decide)
  refine lv_aload_n C.1 C.2.1 dX15_begin_111 rfl (lv_at hl 0 rfl) ?_
  refine lv_aload_n C.1 C.2.1 dX15_begin_112 rfl (lv_at hl 0 rfl) ?_
  obtain ⟨r_4, er_4, hE⟩ := cl_e hE
  refine gf_X15_365 C hW k_x0 er_4 dX15_begin_113 (fun k_r_4 => ?_)
  refine lv_aload_n C.1 C.2.1 dX15_begin_116 rfl (lv_at hl 0 rfl) ?_
  obtain ⟨r_5, er_5, hE⟩ := cl_e hE
  refine gf_X15_288 C hW k_x0 er_5 dX15_begin_117 (fun k_r_5 => ?_)
  refine gf_X15_575 C hW k_r_5 dX15_begin_120 ?_
  obtain ⟨o_6, eo_6, hE⟩ := cl_e hE
  refine x_kI (o := o_6) (z_runV (As := [.ref r_4, .int (hI o_3 r_5 0)]) (rest := []) C (ct_X15_endedBy l X F k_x0 k_r_4 eo_6) cw_X15_683 hW hZ k_x0 (by decide) rfl rfl rfl hl.1 (Nat.le_of_ble_eq_true rfl) rfl dX15_begin_123 ⟨Nat.le_of_ble_eq_true rfl, Nat.le_of_ble_eq_true rfl⟩ ⟨Nat.le_refl _, Nat.le_refl _⟩) hZ (fun _ _ hW km hZ => ?_)
  replace hkm := hkm.tr km
  replace k_x0 := km.at k_x0 (by decide)
  refine lv_istore (lv' := [(5, .int o_6.1), (0, .ref x0), (1, .int x1), (2, .int x2), (3, .int x3)]) C.1 C.2.1 dX15_begin_126 hl (by decide) rfl (fun ls hl => ?_)
  refine lv_iload C.1 C.2.1 dX15_begin_128 (lv_at hl 0 rfl) ?_
  refine lv_if_le (tgt := 175) C.1 C.2.1 dX15_begin_130 (by decide) (fun c_7 => ?_) (fun c_7 => ?_)
  · have hE := br_p hE c_7
    refine lv_aload_n C.1 C.2.1 dX15_begin_175 rfl (lv_at hl 1 rfl) ?_
    obtain ⟨r_8, er_8, hE⟩ := cl_e hE
    refine gf_X15_343 C hW k_x0 er_8 dX15_begin_176 (fun k_r_8 => ?_)
    refine lv_iload_n C.1 C.2.1 dX15_begin_179 rfl (lv_at hl 4 rfl) ?_
    refine lv_ldcw (v := (2000000 : Int32)) C.1 C.2.1 C.2.2.2.1 (C.2.2.2.2.1 _ m_2789) dX15_begin_180 ?_
    obtain ⟨g_9, hE⟩ := gd_e hE
    obtain ⟨h_10, eh_10, hE⟩ := nm_e2 hE
    refine y_iast C hW hZ k_r_8 g_9 eh_10 dX15_begin_183 (fun _ _ hW km hZ => ?_)
    replace hkm := hkm.tr km
    replace k_x0 := km.at k_x0 (by decide)
    refine lv_iconst (v := (0 : Int32)) C.1 C.2.1 dX15_begin_184 (by decide) ?_
    refine lv_istore (lv' := [(6, .int (0 : Int32)), (5, .int o_6.1), (0, .ref x0), (1, .int x1), (2, .int x2), (3, .int x3)]) C.1 C.2.1 dX15_begin_185 hl (by decide) rfl (fun ls hl => ?_)
    exact bX15_begin_187 C F k_x0 hkm hW hZ _ (lv_sub hl [2, 3, 4, 0] rfl) hE
  · have hE := br_n hE c_7
    refine lv_aload_n C.1 C.2.1 dX15_begin_133 rfl (lv_at hl 1 rfl) ?_
    obtain ⟨r_11, er_11, hE⟩ := cl_e hE
    refine gf_X15_343 C hW k_x0 er_11 dX15_begin_134 (fun k_r_11 => ?_)
    refine lv_iload_n C.1 C.2.1 dX15_begin_137 rfl (lv_at hl 4 rfl) ?_
    refine lv_aload_n C.1 C.2.1 dX15_begin_138 rfl (lv_at hl 1 rfl) ?_
    refine gf_X15_646 C hW k_x0 dX15_begin_139 ?_
    refine lv_iconst (v := (2 : Int32)) C.1 C.2.1 dX15_begin_142 (by decide) ?_
    refine lv_icmp_ne (tgt := 150) C.1 C.2.1 dX15_begin_143 (by decide) (fun c_12 => ?_) (fun c_12 => ?_)
    · have hE := br_n hE c_12
      refine lv_aload_n C.1 C.2.1 dX15_begin_150 rfl (lv_at hl 1 rfl) ?_
      refine gf_X15_646 C hW k_x0 dX15_begin_151 ?_
      refine lv_aload_n C.1 C.2.1 dX15_begin_154 rfl (lv_at hl 1 rfl) ?_
      obtain ⟨r_13, er_13, hE⟩ := cl_e hE
      refine gf_X15_365 C hW k_x0 er_13 dX15_begin_155 (fun k_r_13 => ?_)
      refine gf_X15_452 C hW k_r_13 dX15_begin_158 ?_
      refine lv_icmp_ne (tgt := 170) C.1 C.2.1 dX15_begin_161 (by decide) (fun c_14 => ?_) (fun c_14 => ?_)
      · have hE := br_n hE c_14
        refine lv_ldcw (v := (-1000000 : Int32)) C.1 C.2.1 C.2.2.2.1 (C.2.2.2.2.1 _ m_2788) dX15_begin_170 ?_
        exact bX15_begin_173 C k_r_11 hkm hW hZ _ (lv_sub hl [] rfl) hE
      · have hE := br_p hE c_14
        refine lv_ldcw (v := (1000000 : Int32)) C.1 C.2.1 C.2.2.2.1 (C.2.2.2.2.1 _ m_2787) dX15_begin_164 ?_
        refine lv_goto (tgt := 173) C.1 C.2.1 dX15_begin_167 (by decide) ?_
        exact bX15_begin_173 C k_r_11 hkm hW hZ _ (lv_sub hl [] rfl) hE
    · have hE := br_p hE c_12
      refine lv_iconst (v := (0 : Int32)) C.1 C.2.1 dX15_begin_146 (by decide) ?_
      refine lv_goto (tgt := 173) C.1 C.2.1 dX15_begin_147 (by decide) ?_
      exact bX15_begin_173 C k_r_11 hkm hW hZ _ (lv_sub hl [] rfl) hE
set_option maxRecDepth 20000 in
theorem ct_X15_begin (l : Launch) (X : Ec) (F : Nat) {h : Hp} {x0 : Nat} {x1 : Int32} {x2 : Int32} {o : Hp} (k_x0 : hK h x0 = 15) (hE : sX15_begin F h x0 x1 x2 = some o) : MetV l yX15_begin cX15_begin 9 none 7 191 X [.ref x0, .int x1, .int x2] h o := by
  refine x_met (by decide) (Nat.le_of_ble_eq_true rfl) ?_
  intro p e s m below meth c ls C hl hW hZ
  have hl : lv_has ls 9 [(0, .ref x0), (1, .int x1), (2, .int x2)] := hl
  have hkm : Km h h := Km.rf h
  refine lv_aload_n C.1 C.2.1 dX15_begin_0 rfl (lv_at hl 0 rfl) ?_
  obtain ⟨r_1, er_1, hE⟩ := cl_e hE
  refine gf_X15_339 C hW k_x0 er_1 dX15_begin_1 (fun k_r_1 => ?_)
  refine lv_iload_n C.1 C.2.1 dX15_begin_4 rfl (lv_at hl 1 rfl) ?_
  obtain ⟨g_2, hE⟩ := gd_e hE
  refine y_iald C hW k_r_1 g_2 dX15_begin_5 ?_
  refine lv_iload_n C.1 C.2.1 dX15_begin_6 rfl (lv_at hl 2 rfl) ?_
  refine lv_iadd C.1 C.2.1 dX15_begin_7 ?_
  obtain ⟨v_3, ev_3, hE⟩ := nm_e2 hE
  refine x_nmI ev_3 ?_
  refine lv_istore_n (lv' := [(3, .int v_3), (0, .ref x0), (1, .int x1), (2, .int x2)]) C.1 C.2.1 dX15_begin_8 rfl hl (by decide) rfl (fun ls hl => ?_)
  refine lv_aload_n C.1 C.2.1 dX15_begin_9 rfl (lv_at hl 1 rfl) ?_
  obtain ⟨r_4, er_4, hE⟩ := cl_e hE
  refine gf_X15_343 C hW k_x0 er_4 dX15_begin_10 (fun k_r_4 => ?_)
  refine lv_iload_n C.1 C.2.1 dX15_begin_13 rfl (lv_at hl 0 rfl) ?_
  refine lv_ldcw (v := (3000000 : Int32)) C.1 C.2.1 C.2.2.2.1 (C.2.2.2.2.1 _ m_2782) dX15_begin_14 ?_
  obtain ⟨g_5, hE⟩ := gd_e hE
  obtain ⟨h_6, eh_6, hE⟩ := nm_e2 hE
  refine y_iast C hW hZ k_r_4 g_5 eh_6 dX15_begin_17 (fun _ _ hW km hZ => ?_)
  replace hkm := hkm.tr km
  replace k_x0 := km.at k_x0 (by decide)
  refine lv_aload_n C.1 C.2.1 dX15_begin_18 rfl (lv_at hl 1 rfl) ?_
  refine lv_iload_n C.1 C.2.1 dX15_begin_19 rfl (lv_at hl 2 rfl) ?_
  refine lv_iload_n C.1 C.2.1 dX15_begin_20 rfl (lv_at hl 3 rfl) ?_
  obtain ⟨o_7, eo_7, hE⟩ := cl_e hE
  refine x_kI (o := o_7) (z_runV (As := [.int x1, .int x2]) (rest := []) C (ct_X15_layState l X F k_x0 eo_7) cw_X15_764 hW hZ k_x0 (by decide) rfl rfl rfl hl.1 (Nat.le_of_ble_eq_true rfl) rfl dX15_begin_21 ⟨Nat.le_of_ble_eq_true rfl, Nat.le_of_ble_eq_true rfl⟩ ⟨Nat.le_refl _, Nat.le_refl _⟩) hZ (fun _ _ hW km hZ => ?_)
  replace hkm := hkm.tr km
  replace k_x0 := km.at k_x0 (by decide)
  refine lv_if_eq (tgt := 38) C.1 C.2.1 dX15_begin_24 (by decide) (fun c_8 => ?_) (fun c_8 => ?_)
  · have hE := br_p hE c_8
    exact bX15_begin_38 C hkm hW hZ _ (lv_sub hl [] rfl) hE
  · have hE := br_n hE c_8
    refine lv_aload_n C.1 C.2.1 dX15_begin_27 rfl (lv_at hl 1 rfl) ?_
    refine lv_aload_n C.1 C.2.1 dX15_begin_28 rfl (lv_at hl 1 rfl) ?_
    obtain ⟨r_9, er_9, hE⟩ := cl_e hE
    refine gf_X15_365 C hW k_x0 er_9 dX15_begin_29 (fun k_r_9 => ?_)
    obtain ⟨o_10, eo_10, hE⟩ := cl_e hE
    refine x_kI (o := o_10) (z_runV (As := [.ref r_9]) (rest := []) C (ct_X15_wrongOf l X F k_x0 k_r_9 eo_10) cw_X15_479 hW hZ k_x0 (by decide) rfl rfl rfl hl.1 (Nat.le_of_ble_eq_true rfl) rfl dX15_begin_32 ⟨Nat.le_of_ble_eq_true rfl, Nat.le_of_ble_eq_true rfl⟩ ⟨Nat.le_refl _, Nat.le_refl _⟩) hZ (fun _ _ hW km hZ => ?_)
    replace hkm := hkm.tr km
    replace k_x0 := km.at k_x0 (by decide)
    refine lv_if_le (tgt := 39) C.1 C.2.1 dX15_begin_35 (by decide) (fun c_11 => ?_) (fun c_11 => ?_)
    · have hE := br_p hE c_11
      refine lv_aload_n C.1 C.2.1 dX15_begin_39 rfl (lv_at hl 1 rfl) ?_
      refine lv_aload_n C.1 C.2.1 dX15_begin_40 rfl (lv_at hl 1 rfl) ?_
      obtain ⟨r_12, er_12, hE⟩ := cl_e hE
      refine gf_X15_365 C hW k_x0 er_12 dX15_begin_41 (fun k_r_12 => ?_)
      refine lv_aload_n C.1 C.2.1 dX15_begin_44 rfl (lv_at hl 1 rfl) ?_
      obtain ⟨r_13, er_13, hE⟩ := cl_e hE
      refine gf_X15_365 C hW k_x0 er_13 dX15_begin_45 (fun k_r_13 => ?_)
      refine gf_X15_452 C hW k_r_13 dX15_begin_48 ?_
      obtain ⟨o_14, eo_14, hE⟩ := cl_e hE
      refine x_kI (o := o_14) (z_runV (As := [.ref r_12, .int (hI o_10.2 r_13 1)]) (rest := []) C (ct_X15_royalOf l X F k_x0 k_r_12 eo_14) cw_X15_508 hW hZ k_x0 (by decide) rfl rfl rfl hl.1 (Nat.le_of_ble_eq_true rfl) rfl dX15_begin_51 ⟨Nat.le_of_ble_eq_true rfl, Nat.le_of_ble_eq_true rfl⟩ ⟨Nat.le_refl _, Nat.le_refl _⟩) hZ (fun _ _ hW km hZ => ?_)
      replace hkm := hkm.tr km
      replace k_x0 := km.at k_x0 (by decide)
      refine lv_istore (lv' := [(4, .int o_14.1), (3, .int v_3), (0, .ref x0), (1, .int x1), (2, .int x2)]) C.1 C.2.1 dX15_begin_54 hl (by decide) rfl (fun ls hl => ?_)
      refine lv_iload C.1 C.2.1 dX15_begin_56 (lv_at hl 0 rfl) ?_
      refine lv_iconst (v := (-1 : Int32)) C.1 C.2.1 dX15_begin_58 (by decide) ?_
      refine lv_icmp_eq (tgt := 99) C.1 C.2.1 dX15_begin_59 (by decide) (fun c_15 => ?_) (fun c_15 => ?_)
      · have hE := br_p hE c_15
        exact bX15_begin_99 C k_x0 hkm hW hZ _ (lv_sub hl [2, 3, 4, 1] rfl) hE
      · have hE := br_n hE c_15
        refine lv_aload_n C.1 C.2.1 dX15_begin_62 rfl (lv_at hl 2 rfl) ?_
        refine lv_aload_n C.1 C.2.1 dX15_begin_63 rfl (lv_at hl 2 rfl) ?_
        obtain ⟨r_16, er_16, hE⟩ := cl_e hE
        refine gf_X15_365 C hW k_x0 er_16 dX15_begin_64 (fun k_r_16 => ?_)
        refine lv_iload C.1 C.2.1 dX15_begin_67 (lv_at hl 0 rfl) ?_
        refine lv_iconst (v := (1 : Int32)) C.1 C.2.1 dX15_begin_69 (by decide) ?_
        refine lv_aload_n C.1 C.2.1 dX15_begin_70 rfl (lv_at hl 2 rfl) ?_
        obtain ⟨r_17, er_17, hE⟩ := cl_e hE
        refine gf_X15_365 C hW k_x0 er_17 dX15_begin_71 (fun k_r_17 => ?_)
        refine gf_X15_452 C hW k_r_17 dX15_begin_74 ?_
        refine lv_isub C.1 C.2.1 dX15_begin_77 ?_
        obtain ⟨o_18, eo_18, hE⟩ := cl_e hE
        refine x_kI (o := o_18) (z_runV (As := [.ref r_16, .int o_14.1, .int ((1 : Int32) - (hI o_14.2 r_17 1))]) (rest := []) C (ct_X15_isAttacked l X F k_x0 k_r_16 eo_18) cw_X15_512 hW hZ k_x0 (by decide) rfl rfl rfl hl.1 (Nat.le_of_ble_eq_true rfl) rfl dX15_begin_78 ⟨Nat.le_of_ble_eq_true rfl, Nat.le_of_ble_eq_true rfl⟩ ⟨Nat.le_refl _, Nat.le_refl _⟩) hZ (fun _ _ hW km hZ => ?_)
        replace hkm := hkm.tr km
        replace k_x0 := km.at k_x0 (by decide)
        refine lv_if_eq (tgt := 99) C.1 C.2.1 dX15_begin_81 (by decide) (fun c_19 => ?_) (fun c_19 => ?_)
        · have hE := br_p hE c_19
          exact bX15_begin_99 C k_x0 hkm hW hZ _ (lv_sub hl [2, 3, 4, 1] rfl) hE
        · have hE := br_n hE c_19
          refine lv_aload_n C.1 C.2.1 dX15_begin_84 rfl (lv_at hl 2 rfl) ?_
          obtain ⟨r_20, er_20, hE⟩ := cl_e hE
          refine gf_X15_349 C hW k_x0 er_20 dX15_begin_85 (fun k_r_20 => ?_)
          refine lv_iload_n C.1 C.2.1 dX15_begin_88 rfl (lv_at hl 1 rfl) ?_
          refine lv_bipush (v := (6 : Int32)) C.1 C.2.1 dX15_begin_89 (by decide) ?_
          refine lv_ishr C.1 C.2.1 dX15_begin_91 ?_
          refine lv_dup2_11 C.1 C.2.1 dX15_begin_92 rfl rfl ?_
          obtain ⟨g_21, hE⟩ := gd_e hE
          refine y_lald C hW k_r_20 g_21 dX15_begin_93 ?_
          refine lv_lconst (v := (1 : Int64)) C.1 C.2.1 dX15_begin_94 (by decide) ?_
          refine lv_iload_n C.1 C.2.1 dX15_begin_95 rfl (lv_at hl 1 rfl) ?_
          refine lv_lshl C.1 C.2.1 dX15_begin_96 rfl ?_
          refine lv_lor C.1 C.2.1 dX15_begin_97 ?_
          obtain ⟨g_22, hE⟩ := gd_e hE
          obtain ⟨h_23, eh_23, hE⟩ := nm_e2 hE
          refine y_last C hW hZ k_r_20 g_22 eh_23 dX15_begin_98 (fun _ _ hW km hZ => ?_)
          replace hkm := hkm.tr km
          replace k_x0 := km.at k_x0 (by decide)
          exact bX15_begin_99 C k_x0 hkm hW hZ _ (lv_sub hl [2, 3, 4, 1] rfl) hE
    · have hE := br_n hE c_11
      exact bX15_begin_38 C hkm hW hZ _ (lv_sub hl [] rfl) hE
section
variable {p : Program} {l : Launch} {e : Env} {R : Room} {s : State} {m : MethodId} {args : Array Value} {below : List Frame} {meth : Method} {c : Code} {H : Heap} {locs : List Loc} {cells slots : Nat} {Q : State → Prop}
variable {cc : ByteArray} {pc : Nat} {ls : Array Slot} {rest : List Value} {X : Ec} {h h1 : Hp} {nL : Nat} {rt : Option FieldType} {mn : String}
theorem gf_X15_362 {a r : Nat} (C : Cx X p s m args meth c RX15 cc nL rt mn) (hW : Wx X h H) (ha : hK h a = 15) (hr : hR h a 58 = some r) (hdg : decode cc pc = .ok (.getfield 362, 3)) (kk : hK h r = 17 → W p l e R s m args below meth c H locs cells slots Q (F0 m (pc + 3) ls (.ref r :: rest))) : W p l e R s m args below meth c H locs cells slots Q (F0 m pc ls (.ref a :: rest)) :=
  y_getr C hW ha i_X15 (by decide) rfl (by decide) m_2169 rfl rfl hr hdg kk
end
theorem dX15_stateOf_0 : decode cX15_stateOf 0 = .ok (.iconst 1, 1) := by decide +kernel
theorem dX15_stateOf_1 : decode cX15_stateOf 1 = .ok (.istore_n 3, 1) := by decide +kernel
theorem dX15_stateOf_2 : decode cX15_stateOf 2 = .ok (.iload_n 3, 1) := by decide +kernel
theorem dX15_stateOf_3 : decode cX15_stateOf 3 = .ok (.iload_n 1, 1) := by decide +kernel
theorem dX15_stateOf_4 : decode cX15_stateOf 4 = .ok (.if_icmp .ge 131, 3) := by decide +kernel
theorem dX15_stateOf_7 : decode cX15_stateOf 7 = .ok (.aload_n 0, 1) := by decide +kernel
theorem dX15_stateOf_8 : decode cX15_stateOf 8 = .ok (.getfield 359, 3) := by decide +kernel
theorem dX15_stateOf_11 : decode cX15_stateOf 11 = .ok (.iload_n 3, 1) := by decide +kernel
theorem dX15_stateOf_12 : decode cX15_stateOf 12 = .ok (.iaload, 1) := by decide +kernel
theorem dX15_stateOf_13 : decode cX15_stateOf 13 = .ok (.istore 4, 2) := by decide +kernel
theorem dX15_stateOf_15 : decode cX15_stateOf 15 = .ok (.aload_n 0, 1) := by decide +kernel
theorem dX15_stateOf_16 : decode cX15_stateOf 16 = .ok (.getfield 362, 3) := by decide +kernel
theorem dX15_stateOf_19 : decode cX15_stateOf 19 = .ok (.iload_n 3, 1) := by decide +kernel
theorem dX15_stateOf_20 : decode cX15_stateOf 20 = .ok (.iaload, 1) := by decide +kernel
theorem dX15_stateOf_21 : decode cX15_stateOf 21 = .ok (.istore 5, 2) := by decide +kernel
theorem dX15_stateOf_23 : decode cX15_stateOf 23 = .ok (.iload_n 3, 1) := by decide +kernel
theorem dX15_stateOf_24 : decode cX15_stateOf 24 = .ok (.istore 6, 2) := by decide +kernel
theorem dX15_stateOf_26 : decode cX15_stateOf 26 = .ok (.iload 6, 2) := by decide +kernel
theorem dX15_stateOf_28 : decode cX15_stateOf 28 = .ok (.ifCond .le 83, 3) := by decide +kernel
theorem dX15_stateOf_31 : decode cX15_stateOf 31 = .ok (.aload_n 0, 1) := by decide +kernel
theorem dX15_stateOf_32 : decode cX15_stateOf 32 = .ok (.getfield 359, 3) := by decide +kernel
theorem dX15_stateOf_35 : decode cX15_stateOf 35 = .ok (.iload 6, 2) := by decide +kernel
theorem dX15_stateOf_37 : decode cX15_stateOf 37 = .ok (.iconst 1, 1) := by decide +kernel
theorem dX15_stateOf_38 : decode cX15_stateOf 38 = .ok (.isub, 1) := by decide +kernel
theorem dX15_stateOf_39 : decode cX15_stateOf 39 = .ok (.iaload, 1) := by decide +kernel
theorem dX15_stateOf_40 : decode cX15_stateOf 40 = .ok (.iload 4, 2) := by decide +kernel
theorem dX15_stateOf_42 : decode cX15_stateOf 42 = .ok (.if_icmp .gt 31, 3) := by decide +kernel
theorem dX15_stateOf_45 : decode cX15_stateOf 45 = .ok (.aload_n 0, 1) := by decide +kernel
theorem dX15_stateOf_46 : decode cX15_stateOf 46 = .ok (.getfield 359, 3) := by decide +kernel
theorem dX15_stateOf_49 : decode cX15_stateOf 49 = .ok (.iload 6, 2) := by decide +kernel
theorem dX15_stateOf_51 : decode cX15_stateOf 51 = .ok (.iconst 1, 1) := by decide +kernel
theorem dX15_stateOf_52 : decode cX15_stateOf 52 = .ok (.isub, 1) := by decide +kernel
theorem dX15_stateOf_53 : decode cX15_stateOf 53 = .ok (.iaload, 1) := by decide +kernel
theorem dX15_stateOf_54 : decode cX15_stateOf 54 = .ok (.iload 4, 2) := by decide +kernel
theorem dX15_stateOf_56 : decode cX15_stateOf 56 = .ok (.if_icmp .ne 55, 3) := by decide +kernel
theorem dX15_stateOf_59 : decode cX15_stateOf 59 = .ok (.aload_n 0, 1) := by decide +kernel
theorem dX15_stateOf_60 : decode cX15_stateOf 60 = .ok (.getfield 362, 3) := by decide +kernel
theorem dX15_stateOf_63 : decode cX15_stateOf 63 = .ok (.iload 6, 2) := by decide +kernel
theorem dX15_stateOf_65 : decode cX15_stateOf 65 = .ok (.iconst 1, 1) := by decide +kernel
theorem dX15_stateOf_66 : decode cX15_stateOf 66 = .ok (.isub, 1) := by decide +kernel
theorem dX15_stateOf_67 : decode cX15_stateOf 67 = .ok (.iaload, 1) := by decide +kernel
theorem dX15_stateOf_68 : decode cX15_stateOf 68 = .ok (.iload 5, 2) := by decide +kernel
theorem dX15_stateOf_70 : decode cX15_stateOf 70 = .ok (.if_icmp .le 41, 3) := by decide +kernel
theorem dX15_stateOf_73 : decode cX15_stateOf 73 = .ok (.aload_n 0, 1) := by decide +kernel
theorem dX15_stateOf_74 : decode cX15_stateOf 74 = .ok (.getfield 359, 3) := by decide +kernel
theorem dX15_stateOf_77 : decode cX15_stateOf 77 = .ok (.iload 6, 2) := by decide +kernel
theorem dX15_stateOf_79 : decode cX15_stateOf 79 = .ok (.aload_n 0, 1) := by decide +kernel
theorem dX15_stateOf_80 : decode cX15_stateOf 80 = .ok (.getfield 359, 3) := by decide +kernel
theorem dX15_stateOf_83 : decode cX15_stateOf 83 = .ok (.iload 6, 2) := by decide +kernel
theorem dX15_stateOf_85 : decode cX15_stateOf 85 = .ok (.iconst 1, 1) := by decide +kernel
theorem dX15_stateOf_86 : decode cX15_stateOf 86 = .ok (.isub, 1) := by decide +kernel
theorem dX15_stateOf_87 : decode cX15_stateOf 87 = .ok (.iaload, 1) := by decide +kernel
theorem dX15_stateOf_88 : decode cX15_stateOf 88 = .ok (.iastore, 1) := by decide +kernel
theorem dX15_stateOf_89 : decode cX15_stateOf 89 = .ok (.aload_n 0, 1) := by decide +kernel
theorem dX15_stateOf_90 : decode cX15_stateOf 90 = .ok (.getfield 362, 3) := by decide +kernel
theorem dX15_stateOf_93 : decode cX15_stateOf 93 = .ok (.iload 6, 2) := by decide +kernel
theorem dX15_stateOf_95 : decode cX15_stateOf 95 = .ok (.aload_n 0, 1) := by decide +kernel
theorem dX15_stateOf_96 : decode cX15_stateOf 96 = .ok (.getfield 362, 3) := by decide +kernel
theorem dX15_stateOf_99 : decode cX15_stateOf 99 = .ok (.iload 6, 2) := by decide +kernel
theorem dX15_stateOf_101 : decode cX15_stateOf 101 = .ok (.iconst 1, 1) := by decide +kernel
theorem dX15_stateOf_102 : decode cX15_stateOf 102 = .ok (.isub, 1) := by decide +kernel
theorem dX15_stateOf_103 : decode cX15_stateOf 103 = .ok (.iaload, 1) := by decide +kernel
theorem dX15_stateOf_104 : decode cX15_stateOf 104 = .ok (.iastore, 1) := by decide +kernel
theorem dX15_stateOf_105 : decode cX15_stateOf 105 = .ok (.iinc 6 (-1), 3) := by decide +kernel
theorem dX15_stateOf_108 : decode cX15_stateOf 108 = .ok (.goto (-82), 3) := by decide +kernel
theorem dX15_stateOf_111 : decode cX15_stateOf 111 = .ok (.aload_n 0, 1) := by decide +kernel
theorem dX15_stateOf_112 : decode cX15_stateOf 112 = .ok (.getfield 359, 3) := by decide +kernel
theorem dX15_stateOf_115 : decode cX15_stateOf 115 = .ok (.iload 6, 2) := by decide +kernel
theorem dX15_stateOf_117 : decode cX15_stateOf 117 = .ok (.iload 4, 2) := by decide +kernel
theorem dX15_stateOf_119 : decode cX15_stateOf 119 = .ok (.iastore, 1) := by decide +kernel
theorem dX15_stateOf_120 : decode cX15_stateOf 120 = .ok (.aload_n 0, 1) := by decide +kernel
theorem dX15_stateOf_121 : decode cX15_stateOf 121 = .ok (.getfield 362, 3) := by decide +kernel
theorem dX15_stateOf_124 : decode cX15_stateOf 124 = .ok (.iload 6, 2) := by decide +kernel
theorem dX15_stateOf_126 : decode cX15_stateOf 126 = .ok (.iload 5, 2) := by decide +kernel
theorem dX15_stateOf_128 : decode cX15_stateOf 128 = .ok (.iastore, 1) := by decide +kernel
theorem dX15_stateOf_129 : decode cX15_stateOf 129 = .ok (.iinc 3 1, 3) := by decide +kernel
theorem dX15_stateOf_132 : decode cX15_stateOf 132 = .ok (.goto (-130), 3) := by decide +kernel
theorem dX15_stateOf_135 : decode cX15_stateOf 135 = .ok (.aload_n 0, 1) := by decide +kernel
theorem dX15_stateOf_136 : decode cX15_stateOf 136 = .ok (.aload_n 0, 1) := by decide +kernel
theorem dX15_stateOf_137 : decode cX15_stateOf 137 = .ok (.getfield 359, 3) := by decide +kernel
theorem dX15_stateOf_140 : decode cX15_stateOf 140 = .ok (.iload_n 1, 1) := by decide +kernel
theorem dX15_stateOf_141 : decode cX15_stateOf 141 = .ok (.invokevirtual 741, 3) := by decide +kernel
theorem dX15_stateOf_144 : decode cX15_stateOf 144 = .ok (.istore_n 3, 1) := by decide +kernel
theorem dX15_stateOf_145 : decode cX15_stateOf 145 = .ok (.iload_n 3, 1) := by decide +kernel
theorem dX15_stateOf_146 : decode cX15_stateOf 146 = .ok (.iconst (-1), 1) := by decide +kernel
theorem dX15_stateOf_147 : decode cX15_stateOf 147 = .ok (.if_icmp .ne 5, 3) := by decide +kernel
theorem dX15_stateOf_150 : decode cX15_stateOf 150 = .ok (.iconst (-1), 1) := by decide +kernel
theorem dX15_stateOf_151 : decode cX15_stateOf 151 = .ok (.ireturn, 1) := by decide +kernel
theorem dX15_stateOf_152 : decode cX15_stateOf 152 = .ok (.iconst 0, 1) := by decide +kernel
theorem dX15_stateOf_153 : decode cX15_stateOf 153 = .ok (.istore 4, 2) := by decide +kernel
theorem dX15_stateOf_155 : decode cX15_stateOf 155 = .ok (.iload_n 1, 1) := by decide +kernel
theorem dX15_stateOf_156 : decode cX15_stateOf 156 = .ok (.iconst 1, 1) := by decide +kernel
theorem dX15_stateOf_157 : decode cX15_stateOf 157 = .ok (.isub, 1) := by decide +kernel
theorem dX15_stateOf_158 : decode cX15_stateOf 158 = .ok (.istore 5, 2) := by decide +kernel
theorem dX15_stateOf_160 : decode cX15_stateOf 160 = .ok (.iload 5, 2) := by decide +kernel
theorem dX15_stateOf_162 : decode cX15_stateOf 162 = .ok (.ifCond .lt 26, 3) := by decide +kernel
theorem dX15_stateOf_165 : decode cX15_stateOf 165 = .ok (.iload 4, 2) := by decide +kernel
theorem dX15_stateOf_167 : decode cX15_stateOf 167 = .ok (.aload_n 0, 1) := by decide +kernel
theorem dX15_stateOf_168 : decode cX15_stateOf 168 = .ok (.getfield 384, 3) := by decide +kernel
theorem dX15_stateOf_171 : decode cX15_stateOf 171 = .ok (.imul, 1) := by decide +kernel
theorem dX15_stateOf_172 : decode cX15_stateOf 172 = .ok (.aload_n 0, 1) := by decide +kernel
theorem dX15_stateOf_173 : decode cX15_stateOf 173 = .ok (.getfield 362, 3) := by decide +kernel
theorem dX15_stateOf_176 : decode cX15_stateOf 176 = .ok (.iload 5, 2) := by decide +kernel
theorem dX15_stateOf_178 : decode cX15_stateOf 178 = .ok (.iaload, 1) := by decide +kernel
theorem dX15_stateOf_179 : decode cX15_stateOf 179 = .ok (.iadd, 1) := by decide +kernel
theorem dX15_stateOf_180 : decode cX15_stateOf 180 = .ok (.istore 4, 2) := by decide +kernel
theorem dX15_stateOf_182 : decode cX15_stateOf 182 = .ok (.iinc 5 (-1), 3) := by decide +kernel
theorem dX15_stateOf_185 : decode cX15_stateOf 185 = .ok (.goto (-25), 3) := by decide +kernel
theorem dX15_stateOf_188 : decode cX15_stateOf 188 = .ok (.aload_n 0, 1) := by decide +kernel
theorem dX15_stateOf_189 : decode cX15_stateOf 189 = .ok (.getfield 339, 3) := by decide +kernel
theorem dX15_stateOf_192 : decode cX15_stateOf 192 = .ok (.iload_n 3, 1) := by decide +kernel
theorem dX15_stateOf_193 : decode cX15_stateOf 193 = .ok (.iaload, 1) := by decide +kernel
theorem dX15_stateOf_194 : decode cX15_stateOf 194 = .ok (.iconst 2, 1) := by decide +kernel
theorem dX15_stateOf_195 : decode cX15_stateOf 195 = .ok (.iload 4, 2) := by decide +kernel
theorem dX15_stateOf_197 : decode cX15_stateOf 197 = .ok (.imul, 1) := by decide +kernel
theorem dX15_stateOf_198 : decode cX15_stateOf 198 = .ok (.iadd, 1) := by decide +kernel
theorem dX15_stateOf_199 : decode cX15_stateOf 199 = .ok (.iload_n 2, 1) := by decide +kernel
theorem dX15_stateOf_200 : decode cX15_stateOf 200 = .ok (.iadd, 1) := by decide +kernel
theorem dX15_stateOf_201 : decode cX15_stateOf 201 = .ok (.ireturn, 1) := by decide +kernel
set_option maxRecDepth 20000 in
theorem moX15_stateOf_160 {o : Int32 × Hp} {F : Nat} : ∀ (f : Nat) {h : Hp} {x0 : Nat} {x2 : Int32} {x3 : Int32} {x4 : Int32} {x5 : Int32}, sX15_stateOf_160 F f h x0 x2 x3 x4 x5 = some o → Le h o.2 := by
  intro f
  induction f with
  | zero =>
    intro h x0 x2 x3 x4 x5 hE
    rw [sX15_stateOf_160] at hE
    cases hE
  | succ f ih =>
    intro h x0 x2 x3 x4 x5 hE
    rw [sX15_stateOf_160] at hE
    have mk_160 : ∀ (h : Hp) (x0 : Nat) (x2 : Int32) (x3 : Int32) (x4 : Int32) (x5 : Int32), sX15_stateOf_160 F f h x0 x2 x3 x4 x5 = some o → Le h o.2 := fun h x0 x2 x3 x4 x5 hE => ih hE
    rcases br_e hE with ⟨_, hE⟩ | ⟨_, hE⟩
    · obtain ⟨r_2, er_2, hE⟩ := cl_e hE
      obtain ⟨g_3, hE⟩ := gd_e hE
      exact le_some2 hE
    · obtain ⟨r_4, er_4, hE⟩ := cl_e hE
      obtain ⟨g_5, hE⟩ := gd_e hE
      obtain ⟨v_6, ev_6, hE⟩ := nm_e2 hE
      obtain ⟨v_7, ev_7, hE⟩ := nm_e2 hE
      exact mk_160 _ _ _ _ _ _ hE
set_option maxRecDepth 20000 in
theorem moX15_stateOf_111 {o : Int32 × Hp} {k_2 : Hp → Nat → Int32 → Int32 → Int32 → Option (Int32 × Hp)} {F : Nat} (mk_2 : ∀ (h : Hp) (x0 : Nat) (x1 : Int32) (x2 : Int32) (x3 : Int32), k_2 h x0 x1 x2 x3 = some o → Le h o.2) {h : Hp} {x0 : Nat} {x1 : Int32} {x2 : Int32} {x3 : Int32} {x4 : Int32} {x5 : Int32} {x6 : Int32} (hE : sX15_stateOf_111 F k_2 h x0 x1 x2 x3 x4 x5 x6 = some o) : Le h o.2 := by
  obtain ⟨r_1, er_1, hE⟩ := cl_e hE
  obtain ⟨g_2, hE⟩ := gd_e hE
  obtain ⟨h_3, eh_3, hE⟩ := nm_e2 hE
  refine (le_I eh_3).tr ?_
  obtain ⟨r_4, er_4, hE⟩ := cl_e hE
  obtain ⟨g_5, hE⟩ := gd_e hE
  obtain ⟨h_6, eh_6, hE⟩ := nm_e2 hE
  refine (le_I eh_6).tr ?_
  obtain ⟨v_7, ev_7, hE⟩ := nm_e2 hE
  exact mk_2 _ _ _ _ _ hE
set_option maxRecDepth 20000 in
theorem moX15_stateOf_73 {o : Int32 × Hp} {k_2 : Hp → Nat → Int32 → Int32 → Int32 → Option (Int32 × Hp)} {k_26 : Hp → Nat → Int32 → Int32 → Int32 → Int32 → Int32 → Int32 → Option (Int32 × Hp)} {F : Nat} (mk_2 : ∀ (h : Hp) (x0 : Nat) (x1 : Int32) (x2 : Int32) (x3 : Int32), k_2 h x0 x1 x2 x3 = some o → Le h o.2) (mk_26 : ∀ (h : Hp) (x0 : Nat) (x1 : Int32) (x2 : Int32) (x3 : Int32) (x4 : Int32) (x5 : Int32) (x6 : Int32), k_26 h x0 x1 x2 x3 x4 x5 x6 = some o → Le h o.2) {h : Hp} {x0 : Nat} {x1 : Int32} {x2 : Int32} {x3 : Int32} {x4 : Int32} {x5 : Int32} {x6 : Int32} (hE : sX15_stateOf_73 F k_2 k_26 h x0 x1 x2 x3 x4 x5 x6 = some o) : Le h o.2 := by
  obtain ⟨r_1, er_1, hE⟩ := cl_e hE
  obtain ⟨r_2, er_2, hE⟩ := cl_e hE
  obtain ⟨g_3, hE⟩ := gd_e hE
  obtain ⟨g_4, hE⟩ := gd_e hE
  obtain ⟨h_5, eh_5, hE⟩ := nm_e2 hE
  refine (le_I eh_5).tr ?_
  obtain ⟨r_6, er_6, hE⟩ := cl_e hE
  obtain ⟨r_7, er_7, hE⟩ := cl_e hE
  obtain ⟨g_8, hE⟩ := gd_e hE
  obtain ⟨g_9, hE⟩ := gd_e hE
  obtain ⟨h_10, eh_10, hE⟩ := nm_e2 hE
  refine (le_I eh_10).tr ?_
  obtain ⟨v_11, ev_11, hE⟩ := nm_e2 hE
  exact mk_26 _ _ _ _ _ _ _ _ hE
set_option maxRecDepth 20000 in
theorem moX15_stateOf_26 {o : Int32 × Hp} {k_2 : Hp → Nat → Int32 → Int32 → Int32 → Option (Int32 × Hp)} {F : Nat} (mk_2 : ∀ (h : Hp) (x0 : Nat) (x1 : Int32) (x2 : Int32) (x3 : Int32), k_2 h x0 x1 x2 x3 = some o → Le h o.2) : ∀ (f : Nat) {h : Hp} {x0 : Nat} {x1 : Int32} {x2 : Int32} {x3 : Int32} {x4 : Int32} {x5 : Int32} {x6 : Int32}, sX15_stateOf_26 F k_2 f h x0 x1 x2 x3 x4 x5 x6 = some o → Le h o.2 := by
  intro f
  induction f with
  | zero =>
    intro h x0 x1 x2 x3 x4 x5 x6 hE
    rw [sX15_stateOf_26] at hE
    cases hE
  | succ f ih =>
    intro h x0 x1 x2 x3 x4 x5 x6 hE
    rw [sX15_stateOf_26] at hE
    have mk_26 : ∀ (h : Hp) (x0 : Nat) (x1 : Int32) (x2 : Int32) (x3 : Int32) (x4 : Int32) (x5 : Int32) (x6 : Int32), sX15_stateOf_26 F k_2 f h x0 x1 x2 x3 x4 x5 x6 = some o → Le h o.2 := fun h x0 x1 x2 x3 x4 x5 x6 hE => ih hE
    rcases br_e hE with ⟨_, hE⟩ | ⟨_, hE⟩
    · exact moX15_stateOf_111 mk_2 hE
    · obtain ⟨r_2, er_2, hE⟩ := cl_e hE
      obtain ⟨g_3, hE⟩ := gd_e hE
      rcases br_e hE with ⟨_, hE⟩ | ⟨_, hE⟩
      · exact moX15_stateOf_73 mk_2 mk_26 hE
      · obtain ⟨r_5, er_5, hE⟩ := cl_e hE
        obtain ⟨g_6, hE⟩ := gd_e hE
        rcases br_e hE with ⟨_, hE⟩ | ⟨_, hE⟩
        · obtain ⟨r_8, er_8, hE⟩ := cl_e hE
          obtain ⟨g_9, hE⟩ := gd_e hE
          rcases br_e hE with ⟨_, hE⟩ | ⟨_, hE⟩
          · exact moX15_stateOf_111 mk_2 hE
          · exact moX15_stateOf_73 mk_2 mk_26 hE
        · exact moX15_stateOf_111 mk_2 hE
set_option maxRecDepth 20000 in
theorem moX15_stateOf_2 {o : Int32 × Hp} {F : Nat} : ∀ (f : Nat) {h : Hp} {x0 : Nat} {x1 : Int32} {x2 : Int32} {x3 : Int32}, sX15_stateOf_2 F f h x0 x1 x2 x3 = some o → Le h o.2 := by
  intro f
  induction f with
  | zero =>
    intro h x0 x1 x2 x3 hE
    rw [sX15_stateOf_2] at hE
    cases hE
  | succ f ih =>
    intro h x0 x1 x2 x3 hE
    rw [sX15_stateOf_2] at hE
    have mk_2 : ∀ (h : Hp) (x0 : Nat) (x1 : Int32) (x2 : Int32) (x3 : Int32), sX15_stateOf_2 F f h x0 x1 x2 x3 = some o → Le h o.2 := fun h x0 x1 x2 x3 hE => ih hE
    rcases br_e hE with ⟨_, hE⟩ | ⟨_, hE⟩
    · obtain ⟨r_2, er_2, hE⟩ := cl_e hE
      obtain ⟨o_3, eo_3, hE⟩ := cl_e hE
      refine (moX15_findSet eo_3).tr ?_
      rcases br_e hE with ⟨_, hE⟩ | ⟨_, hE⟩
      · exact le_some2 hE
      · obtain ⟨v_5, ev_5, hE⟩ := nm_e2 hE
        exact moX15_stateOf_160 _ hE
    · obtain ⟨r_6, er_6, hE⟩ := cl_e hE
      obtain ⟨g_7, hE⟩ := gd_e hE
      obtain ⟨v_8, ev_8, hE⟩ := nm_e2 hE
      obtain ⟨r_9, er_9, hE⟩ := cl_e hE
      obtain ⟨g_10, hE⟩ := gd_e hE
      obtain ⟨v_11, ev_11, hE⟩ := nm_e2 hE
      exact moX15_stateOf_26 mk_2 _ hE
set_option maxRecDepth 20000 in
theorem moX15_stateOf {o : Int32 × Hp} {F : Nat} {h : Hp} {x0 : Nat} {x1 : Int32} {x2 : Int32} (hE : sX15_stateOf F h x0 x1 x2 = some o) : Le h o.2 := by
  exact moX15_stateOf_2 _ hE
set_option maxRecDepth 20000 in
theorem bX15_stateOf_160 {p : Program} {l : Launch} {e : Env} {s : State} {m : MethodId} {args : Array Value} {below : List Frame} {meth : Method} {c : Code} {X : Ec} {h0 : Hp} {o : Int32 × Hp} {F : Nat} (C : Cx X p s m args meth c RX15 cX15_stateOf 7 (some .int) "stateOf") : ∀ (f : Nat) {h : Hp} {x0 : Nat} {x2 : Int32} {x3 : Int32} {x4 : Int32} {x5 : Int32} {H : Heap} {locs : List Loc} (k_x0 : hK h x0 = 15), Km h0 h → Wx X h H → va_S (aA (eB X)) s.heap H locs → ∀ (ls : Array Slot), lv_has ls 7 [(0, .ref x0), (2, .int x2), (3, .int x3), (4, .int x4), (5, .int x5)] → sX15_stateOf_160 F f h x0 x2 x3 x4 x5 = some o → W p l e (rm 2 45) s m args below meth c H locs 0 0 (MQ below (QI X h0 o.1 o.2) args s 0 0 (aA (eB X))) (F0 m 160 ls []) := by
  intro f
  induction f with
  | zero =>
    intro h x0 x2 x3 x4 x5 H locs k_x0 hkm hW hZ ls hl hE
    rw [sX15_stateOf_160] at hE
    cases hE
  | succ f ih =>
    intro h x0 x2 x3 x4 x5 H locs k_x0 hkm hW hZ ls hl hE
    rw [sX15_stateOf_160] at hE
    have hk_160 : ∀ (h : Hp) (x0 : Nat) (x2 : Int32) (x3 : Int32) (x4 : Int32) (x5 : Int32) (H : Heap) (locs : List Loc), hK h x0 = 15 → Km h0 h → Wx X h H → va_S (aA (eB X)) s.heap H locs → ∀ (ls : Array Slot), lv_has ls 7 [(0, .ref x0), (2, .int x2), (3, .int x3), (4, .int x4), (5, .int x5)] → sX15_stateOf_160 F f h x0 x2 x3 x4 x5 = some o → W p l e (rm 2 45) s m args below meth c H locs 0 0 (MQ below (QI X h0 o.1 o.2) args s 0 0 (aA (eB X))) (F0 m 160 ls []) := fun h x0 x2 x3 x4 x5 H locs k_x0 a b c ls hl hE => ih k_x0 a b c ls hl hE
    refine lv_iload C.1 C.2.1 dX15_stateOf_160 (lv_at hl 4 rfl) ?_
    refine lv_if_lt (tgt := 188) C.1 C.2.1 dX15_stateOf_162 (by decide) (fun c_1 => ?_) (fun c_1 => ?_)
    · have hE := br_p hE c_1
      refine lv_aload_n C.1 C.2.1 dX15_stateOf_188 rfl (lv_at hl 0 rfl) ?_
      obtain ⟨r_2, er_2, hE⟩ := cl_e hE
      refine gf_X15_339 C hW k_x0 er_2 dX15_stateOf_189 (fun k_r_2 => ?_)
      refine lv_iload_n C.1 C.2.1 dX15_stateOf_192 rfl (lv_at hl 2 rfl) ?_
      obtain ⟨g_3, hE⟩ := gd_e hE
      refine y_iald C hW k_r_2 g_3 dX15_stateOf_193 ?_
      refine lv_iconst (v := (2 : Int32)) C.1 C.2.1 dX15_stateOf_194 (by decide) ?_
      refine lv_iload C.1 C.2.1 dX15_stateOf_195 (lv_at hl 3 rfl) ?_
      refine lv_imul C.1 C.2.1 dX15_stateOf_197 ?_
      refine lv_iadd C.1 C.2.1 dX15_stateOf_198 ?_
      refine lv_iload_n C.1 C.2.1 dX15_stateOf_199 rfl (lv_at hl 1 rfl) ?_
      refine lv_iadd C.1 C.2.1 dX15_stateOf_200 ?_
      exact x_iret C rfl rfl hW hZ hkm hE dX15_stateOf_201
    · have hE := br_n hE c_1
      refine lv_iload C.1 C.2.1 dX15_stateOf_165 (lv_at hl 3 rfl) ?_
      refine lv_aload_n C.1 C.2.1 dX15_stateOf_167 rfl (lv_at hl 0 rfl) ?_
      refine gf_X15_384 C hW k_x0 dX15_stateOf_168 ?_
      refine lv_imul C.1 C.2.1 dX15_stateOf_171 ?_
      refine lv_aload_n C.1 C.2.1 dX15_stateOf_172 rfl (lv_at hl 0 rfl) ?_
      obtain ⟨r_4, er_4, hE⟩ := cl_e hE
      refine gf_X15_362 C hW k_x0 er_4 dX15_stateOf_173 (fun k_r_4 => ?_)
      refine lv_iload C.1 C.2.1 dX15_stateOf_176 (lv_at hl 4 rfl) ?_
      obtain ⟨g_5, hE⟩ := gd_e hE
      refine y_iald C hW k_r_4 g_5 dX15_stateOf_178 ?_
      refine lv_iadd C.1 C.2.1 dX15_stateOf_179 ?_
      obtain ⟨v_6, ev_6, hE⟩ := nm_e2 hE
      refine x_nmI ev_6 ?_
      refine lv_istore (lv' := [(4, .int v_6), (0, .ref x0), (2, .int x2), (3, .int x3), (5, .int x5)]) C.1 C.2.1 dX15_stateOf_180 hl (by decide) rfl (fun ls hl => ?_)
      obtain ⟨v_7, ev_7, hE⟩ := nm_e2 hE
      refine lv_iinc (v := v_7) (lv' := [(5, .int v_7), (4, .int v_6), (0, .ref x0), (2, .int x2), (3, .int x3)]) C.1 C.2.1 dX15_stateOf_182 hl (k := 4) rfl (by rw [ev_7]; rfl) (by decide) rfl (fun ls hl => ?_)
      refine lv_goto (tgt := 160) C.1 C.2.1 dX15_stateOf_185 (by decide) ?_
      exact hk_160 _ _ _ _ _ _ _ _ k_x0 hkm hW hZ _ (lv_sub hl [2, 3, 4, 1, 0] rfl) hE
set_option maxRecDepth 20000 in
theorem bX15_stateOf_111 {p : Program} {l : Launch} {e : Env} {s : State} {m : MethodId} {args : Array Value} {below : List Frame} {meth : Method} {c : Code} {X : Ec} {h0 : Hp} {o : Int32 × Hp} {k_2 : Hp → Nat → Int32 → Int32 → Int32 → Option (Int32 × Hp)} {F : Nat} (C : Cx X p s m args meth c RX15 cX15_stateOf 7 (some .int) "stateOf") (hk_2 : ∀ (h : Hp) (x0 : Nat) (x1 : Int32) (x2 : Int32) (x3 : Int32) (H : Heap) (locs : List Loc), hK h x0 = 15 → Km h0 h → Wx X h H → va_S (aA (eB X)) s.heap H locs → ∀ (ls : Array Slot), lv_has ls 7 [(0, .ref x0), (1, .int x1), (2, .int x2), (3, .int x3)] → k_2 h x0 x1 x2 x3 = some o → W p l e (rm 2 45) s m args below meth c H locs 0 0 (MQ below (QI X h0 o.1 o.2) args s 0 0 (aA (eB X))) (F0 m 2 ls [])) {h : Hp} {x0 : Nat} {x1 : Int32} {x2 : Int32} {x3 : Int32} {x4 : Int32} {x5 : Int32} {x6 : Int32} {H : Heap} {locs : List Loc} (k_x0 : hK h x0 = 15) (hkm : Km h0 h) (hW : Wx X h H) (hZ : va_S (aA (eB X)) s.heap H locs) (ls : Array Slot) (hl : lv_has ls 7 [(0, .ref x0), (1, .int x1), (2, .int x2), (3, .int x3), (4, .int x4), (5, .int x5), (6, .int x6)]) (hE : sX15_stateOf_111 F k_2 h x0 x1 x2 x3 x4 x5 x6 = some o) : W p l e (rm 2 45) s m args below meth c H locs 0 0 (MQ below (QI X h0 o.1 o.2) args s 0 0 (aA (eB X))) (F0 m 111 ls []) := by
  refine lv_aload_n C.1 C.2.1 dX15_stateOf_111 rfl (lv_at hl 0 rfl) ?_
  obtain ⟨r_1, er_1, hE⟩ := cl_e hE
  refine gf_X15_359 C hW k_x0 er_1 dX15_stateOf_112 (fun k_r_1 => ?_)
  refine lv_iload C.1 C.2.1 dX15_stateOf_115 (lv_at hl 6 rfl) ?_
  refine lv_iload C.1 C.2.1 dX15_stateOf_117 (lv_at hl 4 rfl) ?_
  obtain ⟨g_2, hE⟩ := gd_e hE
  obtain ⟨h_3, eh_3, hE⟩ := nm_e2 hE
  refine y_iast C hW hZ k_r_1 g_2 eh_3 dX15_stateOf_119 (fun _ _ hW km hZ => ?_)
  replace hkm := hkm.tr km
  replace k_x0 := km.at k_x0 (by decide)
  refine lv_aload_n C.1 C.2.1 dX15_stateOf_120 rfl (lv_at hl 0 rfl) ?_
  obtain ⟨r_4, er_4, hE⟩ := cl_e hE
  refine gf_X15_362 C hW k_x0 er_4 dX15_stateOf_121 (fun k_r_4 => ?_)
  refine lv_iload C.1 C.2.1 dX15_stateOf_124 (lv_at hl 6 rfl) ?_
  refine lv_iload C.1 C.2.1 dX15_stateOf_126 (lv_at hl 5 rfl) ?_
  obtain ⟨g_5, hE⟩ := gd_e hE
  obtain ⟨h_6, eh_6, hE⟩ := nm_e2 hE
  refine y_iast C hW hZ k_r_4 g_5 eh_6 dX15_stateOf_128 (fun _ _ hW km hZ => ?_)
  replace hkm := hkm.tr km
  replace k_x0 := km.at k_x0 (by decide)
  obtain ⟨v_7, ev_7, hE⟩ := nm_e2 hE
  refine lv_iinc (v := v_7) (lv' := [(3, .int v_7), (0, .ref x0), (1, .int x1), (2, .int x2), (4, .int x4), (5, .int x5), (6, .int x6)]) C.1 C.2.1 dX15_stateOf_129 hl (k := 3) rfl (by rw [ev_7]; rfl) (by decide) rfl (fun ls hl => ?_)
  refine lv_goto (tgt := 2) C.1 C.2.1 dX15_stateOf_132 (by decide) ?_
  exact hk_2 _ _ _ _ _ _ _ k_x0 hkm hW hZ _ (lv_sub hl [1, 2, 3, 0] rfl) hE
set_option maxRecDepth 20000 in
theorem bX15_stateOf_73 {p : Program} {l : Launch} {e : Env} {s : State} {m : MethodId} {args : Array Value} {below : List Frame} {meth : Method} {c : Code} {X : Ec} {h0 : Hp} {o : Int32 × Hp} {k_2 : Hp → Nat → Int32 → Int32 → Int32 → Option (Int32 × Hp)} {k_26 : Hp → Nat → Int32 → Int32 → Int32 → Int32 → Int32 → Int32 → Option (Int32 × Hp)} {F : Nat} (C : Cx X p s m args meth c RX15 cX15_stateOf 7 (some .int) "stateOf") (hk_2 : ∀ (h : Hp) (x0 : Nat) (x1 : Int32) (x2 : Int32) (x3 : Int32) (H : Heap) (locs : List Loc), hK h x0 = 15 → Km h0 h → Wx X h H → va_S (aA (eB X)) s.heap H locs → ∀ (ls : Array Slot), lv_has ls 7 [(0, .ref x0), (1, .int x1), (2, .int x2), (3, .int x3)] → k_2 h x0 x1 x2 x3 = some o → W p l e (rm 2 45) s m args below meth c H locs 0 0 (MQ below (QI X h0 o.1 o.2) args s 0 0 (aA (eB X))) (F0 m 2 ls [])) (hk_26 : ∀ (h : Hp) (x0 : Nat) (x1 : Int32) (x2 : Int32) (x3 : Int32) (x4 : Int32) (x5 : Int32) (x6 : Int32) (H : Heap) (locs : List Loc), hK h x0 = 15 → Km h0 h → Wx X h H → va_S (aA (eB X)) s.heap H locs → ∀ (ls : Array Slot), lv_has ls 7 [(0, .ref x0), (1, .int x1), (2, .int x2), (3, .int x3), (4, .int x4), (5, .int x5), (6, .int x6)] → k_26 h x0 x1 x2 x3 x4 x5 x6 = some o → W p l e (rm 2 45) s m args below meth c H locs 0 0 (MQ below (QI X h0 o.1 o.2) args s 0 0 (aA (eB X))) (F0 m 26 ls [])) {h : Hp} {x0 : Nat} {x1 : Int32} {x2 : Int32} {x3 : Int32} {x4 : Int32} {x5 : Int32} {x6 : Int32} {H : Heap} {locs : List Loc} (k_x0 : hK h x0 = 15) (hkm : Km h0 h) (hW : Wx X h H) (hZ : va_S (aA (eB X)) s.heap H locs) (ls : Array Slot) (hl : lv_has ls 7 [(0, .ref x0), (1, .int x1), (2, .int x2), (3, .int x3), (4, .int x4), (5, .int x5), (6, .int x6)]) (hE : sX15_stateOf_73 F k_2 k_26 h x0 x1 x2 x3 x4 x5 x6 = some o) : W p l e (rm 2 45) s m args below meth c H locs 0 0 (MQ below (QI X h0 o.1 o.2) args s 0 0 (aA (eB X))) (F0 m 73 ls []) := by
  refine lv_aload_n C.1 C.2.1 dX15_stateOf_73 rfl (lv_at hl 0 rfl) ?_
  obtain ⟨r_1, er_1, hE⟩ := cl_e hE
  refine gf_X15_359 C hW k_x0 er_1 dX15_stateOf_74 (fun k_r_1 => ?_)
  refine lv_iload C.1 C.2.1 dX15_stateOf_77 (lv_at hl 6 rfl) ?_
  refine lv_aload_n C.1 C.2.1 dX15_stateOf_79 rfl (lv_at hl 0 rfl) ?_
  obtain ⟨r_2, er_2, hE⟩ := cl_e hE
  refine gf_X15_359 C hW k_x0 er_2 dX15_stateOf_80 (fun k_r_2 => ?_)
  refine lv_iload C.1 C.2.1 dX15_stateOf_83 (lv_at hl 6 rfl) ?_
  refine lv_iconst (v := (1 : Int32)) C.1 C.2.1 dX15_stateOf_85 (by decide) ?_
  refine lv_isub C.1 C.2.1 dX15_stateOf_86 ?_
  obtain ⟨g_3, hE⟩ := gd_e hE
  refine y_iald C hW k_r_2 g_3 dX15_stateOf_87 ?_
  obtain ⟨g_4, hE⟩ := gd_e hE
  obtain ⟨h_5, eh_5, hE⟩ := nm_e2 hE
  refine y_iast C hW hZ k_r_1 g_4 eh_5 dX15_stateOf_88 (fun _ _ hW km hZ => ?_)
  replace hkm := hkm.tr km
  replace k_x0 := km.at k_x0 (by decide)
  refine lv_aload_n C.1 C.2.1 dX15_stateOf_89 rfl (lv_at hl 0 rfl) ?_
  obtain ⟨r_6, er_6, hE⟩ := cl_e hE
  refine gf_X15_362 C hW k_x0 er_6 dX15_stateOf_90 (fun k_r_6 => ?_)
  refine lv_iload C.1 C.2.1 dX15_stateOf_93 (lv_at hl 6 rfl) ?_
  refine lv_aload_n C.1 C.2.1 dX15_stateOf_95 rfl (lv_at hl 0 rfl) ?_
  obtain ⟨r_7, er_7, hE⟩ := cl_e hE
  refine gf_X15_362 C hW k_x0 er_7 dX15_stateOf_96 (fun k_r_7 => ?_)
  refine lv_iload C.1 C.2.1 dX15_stateOf_99 (lv_at hl 6 rfl) ?_
  refine lv_iconst (v := (1 : Int32)) C.1 C.2.1 dX15_stateOf_101 (by decide) ?_
  refine lv_isub C.1 C.2.1 dX15_stateOf_102 ?_
  obtain ⟨g_8, hE⟩ := gd_e hE
  refine y_iald C hW k_r_7 g_8 dX15_stateOf_103 ?_
  obtain ⟨g_9, hE⟩ := gd_e hE
  obtain ⟨h_10, eh_10, hE⟩ := nm_e2 hE
  refine y_iast C hW hZ k_r_6 g_9 eh_10 dX15_stateOf_104 (fun _ _ hW km hZ => ?_)
  replace hkm := hkm.tr km
  replace k_x0 := km.at k_x0 (by decide)
  obtain ⟨v_11, ev_11, hE⟩ := nm_e2 hE
  refine lv_iinc (v := v_11) (lv' := [(6, .int v_11), (0, .ref x0), (1, .int x1), (2, .int x2), (3, .int x3), (4, .int x4), (5, .int x5)]) C.1 C.2.1 dX15_stateOf_105 hl (k := 6) rfl (by rw [ev_11]; rfl) (by decide) rfl (fun ls hl => ?_)
  refine lv_goto (tgt := 26) C.1 C.2.1 dX15_stateOf_108 (by decide) ?_
  exact hk_26 _ _ _ _ _ _ _ _ _ _ k_x0 hkm hW hZ _ (lv_sub hl [1, 2, 3, 4, 5, 6, 0] rfl) hE
set_option maxRecDepth 20000 in
theorem bX15_stateOf_26 {p : Program} {l : Launch} {e : Env} {s : State} {m : MethodId} {args : Array Value} {below : List Frame} {meth : Method} {c : Code} {X : Ec} {h0 : Hp} {o : Int32 × Hp} {k_2 : Hp → Nat → Int32 → Int32 → Int32 → Option (Int32 × Hp)} {F : Nat} (C : Cx X p s m args meth c RX15 cX15_stateOf 7 (some .int) "stateOf") (hk_2 : ∀ (h : Hp) (x0 : Nat) (x1 : Int32) (x2 : Int32) (x3 : Int32) (H : Heap) (locs : List Loc), hK h x0 = 15 → Km h0 h → Wx X h H → va_S (aA (eB X)) s.heap H locs → ∀ (ls : Array Slot), lv_has ls 7 [(0, .ref x0), (1, .int x1), (2, .int x2), (3, .int x3)] → k_2 h x0 x1 x2 x3 = some o → W p l e (rm 2 45) s m args below meth c H locs 0 0 (MQ below (QI X h0 o.1 o.2) args s 0 0 (aA (eB X))) (F0 m 2 ls [])) : ∀ (f : Nat) {h : Hp} {x0 : Nat} {x1 : Int32} {x2 : Int32} {x3 : Int32} {x4 : Int32} {x5 : Int32} {x6 : Int32} {H : Heap} {locs : List Loc} (k_x0 : hK h x0 = 15), Km h0 h → Wx X h H → va_S (aA (eB X)) s.heap H locs → ∀ (ls : Array Slot), lv_has ls 7 [(0, .ref x0), (1, .int x1), (2, .int x2), (3, .int x3), (4, .int x4), (5, .int x5), (6, .int x6)] → sX15_stateOf_26 F k_2 f h x0 x1 x2 x3 x4 x5 x6 = some o → W p l e (rm 2 45) s m args below meth c H locs 0 0 (MQ below (QI X h0 o.1 o.2) args s 0 0 (aA (eB X))) (F0 m 26 ls []) := by
  intro f
  induction f with
  | zero =>
    intro h x0 x1 x2 x3 x4 x5 x6 H locs k_x0 hkm hW hZ ls hl hE
    rw [sX15_stateOf_26] at hE
    cases hE
  | succ f ih =>
    intro h x0 x1 x2 x3 x4 x5 x6 H locs k_x0 hkm hW hZ ls hl hE
    rw [sX15_stateOf_26] at hE
    have hk_26 : ∀ (h : Hp) (x0 : Nat) (x1 : Int32) (x2 : Int32) (x3 : Int32) (x4 : Int32) (x5 : Int32) (x6 : Int32) (H : Heap) (locs : List Loc), hK h x0 = 15 → Km h0 h → Wx X h H → va_S (aA (eB X)) s.heap H locs → ∀ (ls : Array Slot), lv_has ls 7 [(0, .ref x0), (1, .int x1), (2, .int x2), (3, .int x3), (4, .int x4), (5, .int x5), (6, .int x6)] → sX15_stateOf_26 F k_2 f h x0 x1 x2 x3 x4 x5 x6 = some o → W p l e (rm 2 45) s m args below meth c H locs 0 0 (MQ below (QI X h0 o.1 o.2) args s 0 0 (aA (eB X))) (F0 m 26 ls []) := fun h x0 x1 x2 x3 x4 x5 x6 H locs k_x0 a b c ls hl hE => ih k_x0 a b c ls hl hE
    refine lv_iload C.1 C.2.1 dX15_stateOf_26 (lv_at hl 6 rfl) ?_
    refine lv_if_le (tgt := 111) C.1 C.2.1 dX15_stateOf_28 (by decide) (fun c_1 => ?_) (fun c_1 => ?_)
    · have hE := br_p hE c_1
      exact bX15_stateOf_111 C hk_2 k_x0 hkm hW hZ _ (lv_sub hl [0, 1, 2, 3, 4, 5, 6] rfl) hE
    · have hE := br_n hE c_1
      refine lv_aload_n C.1 C.2.1 dX15_stateOf_31 rfl (lv_at hl 0 rfl) ?_
      obtain ⟨r_2, er_2, hE⟩ := cl_e hE
      refine gf_X15_359 C hW k_x0 er_2 dX15_stateOf_32 (fun k_r_2 => ?_)
      refine lv_iload C.1 C.2.1 dX15_stateOf_35 (lv_at hl 6 rfl) ?_
      refine lv_iconst (v := (1 : Int32)) C.1 C.2.1 dX15_stateOf_37 (by decide) ?_
      refine lv_isub C.1 C.2.1 dX15_stateOf_38 ?_
      obtain ⟨g_3, hE⟩ := gd_e hE
      refine y_iald C hW k_r_2 g_3 dX15_stateOf_39 ?_
      refine lv_iload C.1 C.2.1 dX15_stateOf_40 (lv_at hl 4 rfl) ?_
      refine lv_icmp_gt (tgt := 73) C.1 C.2.1 dX15_stateOf_42 (by decide) (fun c_4 => ?_) (fun c_4 => ?_)
      · have hE := br_p hE c_4
        exact bX15_stateOf_73 C hk_2 hk_26 k_x0 hkm hW hZ _ (lv_sub hl [0, 1, 2, 3, 4, 5, 6] rfl) hE
      · have hE := br_n hE c_4
        refine lv_aload_n C.1 C.2.1 dX15_stateOf_45 rfl (lv_at hl 0 rfl) ?_
        obtain ⟨r_5, er_5, hE⟩ := cl_e hE
        refine gf_X15_359 C hW k_x0 er_5 dX15_stateOf_46 (fun k_r_5 => ?_)
        refine lv_iload C.1 C.2.1 dX15_stateOf_49 (lv_at hl 6 rfl) ?_
        refine lv_iconst (v := (1 : Int32)) C.1 C.2.1 dX15_stateOf_51 (by decide) ?_
        refine lv_isub C.1 C.2.1 dX15_stateOf_52 ?_
        obtain ⟨g_6, hE⟩ := gd_e hE
        refine y_iald C hW k_r_5 g_6 dX15_stateOf_53 ?_
        refine lv_iload C.1 C.2.1 dX15_stateOf_54 (lv_at hl 4 rfl) ?_
        refine lv_icmp_ne (tgt := 111) C.1 C.2.1 dX15_stateOf_56 (by decide) (fun c_7 => ?_) (fun c_7 => ?_)
        · have hE := br_n hE c_7
          exact bX15_stateOf_111 C hk_2 k_x0 hkm hW hZ _ (lv_sub hl [0, 1, 2, 3, 4, 5, 6] rfl) hE
        · have hE := br_p hE c_7
          refine lv_aload_n C.1 C.2.1 dX15_stateOf_59 rfl (lv_at hl 0 rfl) ?_
          obtain ⟨r_8, er_8, hE⟩ := cl_e hE
          refine gf_X15_362 C hW k_x0 er_8 dX15_stateOf_60 (fun k_r_8 => ?_)
          refine lv_iload C.1 C.2.1 dX15_stateOf_63 (lv_at hl 6 rfl) ?_
          refine lv_iconst (v := (1 : Int32)) C.1 C.2.1 dX15_stateOf_65 (by decide) ?_
          refine lv_isub C.1 C.2.1 dX15_stateOf_66 ?_
          obtain ⟨g_9, hE⟩ := gd_e hE
          refine y_iald C hW k_r_8 g_9 dX15_stateOf_67 ?_
          refine lv_iload C.1 C.2.1 dX15_stateOf_68 (lv_at hl 5 rfl) ?_
          refine lv_icmp_le (tgt := 111) C.1 C.2.1 dX15_stateOf_70 (by decide) (fun c_10 => ?_) (fun c_10 => ?_)
          · have hE := br_p hE c_10
            exact bX15_stateOf_111 C hk_2 k_x0 hkm hW hZ _ (lv_sub hl [0, 1, 2, 3, 4, 5, 6] rfl) hE
          · have hE := br_n hE c_10
            exact bX15_stateOf_73 C hk_2 hk_26 k_x0 hkm hW hZ _ (lv_sub hl [0, 1, 2, 3, 4, 5, 6] rfl) hE
set_option maxRecDepth 20000 in
theorem bX15_stateOf_2 {p : Program} {l : Launch} {e : Env} {s : State} {m : MethodId} {args : Array Value} {below : List Frame} {meth : Method} {c : Code} {X : Ec} {h0 : Hp} {o : Int32 × Hp} {F : Nat} (C : Cx X p s m args meth c RX15 cX15_stateOf 7 (some .int) "stateOf") : ∀ (f : Nat) {h : Hp} {x0 : Nat} {x1 : Int32} {x2 : Int32} {x3 : Int32} {H : Heap} {locs : List Loc} (k_x0 : hK h x0 = 15), Km h0 h → Wx X h H → va_S (aA (eB X)) s.heap H locs → ∀ (ls : Array Slot), lv_has ls 7 [(0, .ref x0), (1, .int x1), (2, .int x2), (3, .int x3)] → sX15_stateOf_2 F f h x0 x1 x2 x3 = some o → W p l e (rm 2 45) s m args below meth c H locs 0 0 (MQ below (QI X h0 o.1 o.2) args s 0 0 (aA (eB X))) (F0 m 2 ls []) := by
  intro f
  induction f with
  | zero =>
    intro h x0 x1 x2 x3 H locs k_x0 hkm hW hZ ls hl hE
    rw [sX15_stateOf_2] at hE
    cases hE
  | succ f ih =>
    intro h x0 x1 x2 x3 H locs k_x0 hkm hW hZ ls hl hE
    rw [sX15_stateOf_2] at hE
    have hk_2 : ∀ (h : Hp) (x0 : Nat) (x1 : Int32) (x2 : Int32) (x3 : Int32) (H : Heap) (locs : List Loc), hK h x0 = 15 → Km h0 h → Wx X h H → va_S (aA (eB X)) s.heap H locs → ∀ (ls : Array Slot), lv_has ls 7 [(0, .ref x0), (1, .int x1), (2, .int x2), (3, .int x3)] → sX15_stateOf_2 F f h x0 x1 x2 x3 = some o → W p l e (rm 2 45) s m args below meth c H locs 0 0 (MQ below (QI X h0 o.1 o.2) args s 0 0 (aA (eB X))) (F0 m 2 ls []) := fun h x0 x1 x2 x3 H locs k_x0 a b c ls hl hE => ih k_x0 a b c ls hl hE
    refine lv_iload_n C.1 C.2.1 dX15_stateOf_2 rfl (lv_at hl 3 rfl) ?_
    refine lv_iload_n C.1 C.2.1 dX15_stateOf_3 rfl (lv_at hl 1 rfl) ?_
    refine lv_icmp_ge (tgt := 135) C.1 C.2.1 dX15_stateOf_4 (by decide) (fun c_1 => ?_) (fun c_1 => ?_)
    · have hE := br_p hE c_1
      refine lv_aload_n C.1 C.2.1 dX15_stateOf_135 rfl (lv_at hl 0 rfl) ?_
      refine lv_aload_n C.1 C.2.1 dX15_stateOf_136 rfl (lv_at hl 0 rfl) ?_
      obtain ⟨r_2, er_2, hE⟩ := cl_e hE
      refine gf_X15_359 C hW k_x0 er_2 dX15_stateOf_137 (fun k_r_2 => ?_)
      refine lv_iload_n C.1 C.2.1 dX15_stateOf_140 rfl (lv_at hl 1 rfl) ?_
      obtain ⟨o_3, eo_3, hE⟩ := cl_e hE
      refine x_kI (o := o_3) (z_runV (As := [.ref r_2, .int x1]) (rest := []) C (ct_X15_findSet l X F k_x0 k_r_2 eo_3) cw_X15_741 hW hZ k_x0 (by decide) rfl rfl rfl hl.1 (Nat.le_of_ble_eq_true rfl) rfl dX15_stateOf_141 ⟨Nat.le_of_ble_eq_true rfl, Nat.le_of_ble_eq_true rfl⟩ ⟨Nat.le_refl _, Nat.le_refl _⟩) hZ (fun _ _ hW km hZ => ?_)
      replace hkm := hkm.tr km
      replace k_x0 := km.at k_x0 (by decide)
      refine lv_istore_n (lv' := [(3, .int o_3.1), (0, .ref x0), (1, .int x1), (2, .int x2)]) C.1 C.2.1 dX15_stateOf_144 rfl hl (by decide) rfl (fun ls hl => ?_)
      refine lv_iload_n C.1 C.2.1 dX15_stateOf_145 rfl (lv_at hl 0 rfl) ?_
      refine lv_iconst (v := (-1 : Int32)) C.1 C.2.1 dX15_stateOf_146 (by decide) ?_
      refine lv_icmp_ne (tgt := 152) C.1 C.2.1 dX15_stateOf_147 (by decide) (fun c_4 => ?_) (fun c_4 => ?_)
      · have hE := br_n hE c_4
        refine lv_iconst (v := (0 : Int32)) C.1 C.2.1 dX15_stateOf_152 (by decide) ?_
        refine lv_istore (lv' := [(4, .int (0 : Int32)), (3, .int o_3.1), (0, .ref x0), (1, .int x1), (2, .int x2)]) C.1 C.2.1 dX15_stateOf_153 hl (by decide) rfl (fun ls hl => ?_)
        refine lv_iload_n C.1 C.2.1 dX15_stateOf_155 rfl (lv_at hl 3 rfl) ?_
        refine lv_iconst (v := (1 : Int32)) C.1 C.2.1 dX15_stateOf_156 (by decide) ?_
        refine lv_isub C.1 C.2.1 dX15_stateOf_157 ?_
        obtain ⟨v_5, ev_5, hE⟩ := nm_e2 hE
        refine x_nmI ev_5 ?_
        refine lv_istore (lv' := [(5, .int v_5), (4, .int (0 : Int32)), (3, .int o_3.1), (0, .ref x0), (1, .int x1), (2, .int x2)]) C.1 C.2.1 dX15_stateOf_158 hl (by decide) rfl (fun ls hl => ?_)
        exact bX15_stateOf_160 C F k_x0 hkm hW hZ _ (lv_sub hl [3, 5, 2, 1, 0] rfl) hE
      · have hE := br_p hE c_4
        refine lv_iconst (v := (-1 : Int32)) C.1 C.2.1 dX15_stateOf_150 (by decide) ?_
        exact x_iret C rfl rfl hW hZ hkm hE dX15_stateOf_151
    · have hE := br_n hE c_1
      refine lv_aload_n C.1 C.2.1 dX15_stateOf_7 rfl (lv_at hl 0 rfl) ?_
      obtain ⟨r_6, er_6, hE⟩ := cl_e hE
      refine gf_X15_359 C hW k_x0 er_6 dX15_stateOf_8 (fun k_r_6 => ?_)
      refine lv_iload_n C.1 C.2.1 dX15_stateOf_11 rfl (lv_at hl 3 rfl) ?_
      obtain ⟨g_7, hE⟩ := gd_e hE
      refine y_iald C hW k_r_6 g_7 dX15_stateOf_12 ?_
      obtain ⟨v_8, ev_8, hE⟩ := nm_e2 hE
      refine x_nmI ev_8 ?_
      refine lv_istore (lv' := [(4, .int v_8), (0, .ref x0), (1, .int x1), (2, .int x2), (3, .int x3)]) C.1 C.2.1 dX15_stateOf_13 hl (by decide) rfl (fun ls hl => ?_)
      refine lv_aload_n C.1 C.2.1 dX15_stateOf_15 rfl (lv_at hl 1 rfl) ?_
      obtain ⟨r_9, er_9, hE⟩ := cl_e hE
      refine gf_X15_362 C hW k_x0 er_9 dX15_stateOf_16 (fun k_r_9 => ?_)
      refine lv_iload_n C.1 C.2.1 dX15_stateOf_19 rfl (lv_at hl 4 rfl) ?_
      obtain ⟨g_10, hE⟩ := gd_e hE
      refine y_iald C hW k_r_9 g_10 dX15_stateOf_20 ?_
      obtain ⟨v_11, ev_11, hE⟩ := nm_e2 hE
      refine x_nmI ev_11 ?_
      refine lv_istore (lv' := [(5, .int v_11), (4, .int v_8), (0, .ref x0), (1, .int x1), (2, .int x2), (3, .int x3)]) C.1 C.2.1 dX15_stateOf_21 hl (by decide) rfl (fun ls hl => ?_)
      refine lv_iload_n C.1 C.2.1 dX15_stateOf_23 rfl (lv_at hl 5 rfl) ?_
      refine lv_istore (lv' := [(6, .int x3), (5, .int v_11), (4, .int v_8), (0, .ref x0), (1, .int x1), (2, .int x2), (3, .int x3)]) C.1 C.2.1 dX15_stateOf_24 hl (by decide) rfl (fun ls hl => ?_)
      exact bX15_stateOf_26 C hk_2 F k_x0 hkm hW hZ _ (lv_sub hl [3, 4, 5, 6, 2, 1, 0] rfl) hE
set_option maxRecDepth 20000 in
theorem ct_X15_stateOf (l : Launch) (X : Ec) (F : Nat) {h : Hp} {x0 : Nat} {x1 : Int32} {x2 : Int32} {o : Int32 × Hp} (k_x0 : hK h x0 = 15) (hE : sX15_stateOf F h x0 x1 x2 = some o) : MetI l yX15_stateOf cX15_stateOf 7 (some .int) 2 45 X [.ref x0, .int x1, .int x2] h o := by
  refine x_met (by decide) (Nat.le_of_ble_eq_true rfl) ?_
  intro p e s m below meth c ls C hl hW hZ
  have hl : lv_has ls 7 [(0, .ref x0), (1, .int x1), (2, .int x2)] := hl
  have hkm : Km h h := Km.rf h
  refine lv_iconst (v := (1 : Int32)) C.1 C.2.1 dX15_stateOf_0 (by decide) ?_
  refine lv_istore_n (lv' := [(3, .int (1 : Int32)), (0, .ref x0), (1, .int x1), (2, .int x2)]) C.1 C.2.1 dX15_stateOf_1 rfl hl (by decide) rfl (fun ls hl => ?_)
  exact bX15_stateOf_2 C F k_x0 hkm hW hZ _ (lv_sub hl [1, 2, 3, 0] rfl) hE
