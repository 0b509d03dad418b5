theorem dX15_isOpen_0 : decode cX15_isOpen 0 = .ok (.iload_n 1, 1) := by decide +kernel
theorem dX15_isOpen_1 : decode cX15_isOpen 1 = .ok (.iload_n 3, 1) := by decide +kernel
theorem dX15_isOpen_2 : decode cX15_isOpen 2 = .ok (.iadd, 1) := by decide +kernel
theorem dX15_isOpen_3 : decode cX15_isOpen 3 = .ok (.istore 4, 2) := by decide +kernel
theorem dX15_isOpen_5 : decode cX15_isOpen 5 = .ok (.iload 4, 2) := by decide +kernel
theorem dX15_isOpen_7 : decode cX15_isOpen 7 = .ok (.iload_n 2, 1) := by decide +kernel
theorem dX15_isOpen_8 : decode cX15_isOpen 8 = .ok (.if_icmp .eq 24, 3) := by decide +kernel
theorem dX15_isOpen_11 : decode cX15_isOpen 11 = .ok (.aload_n 0, 1) := by decide +kernel
theorem dX15_isOpen_12 : decode cX15_isOpen 12 = .ok (.getfield 396, 3) := by decide +kernel
theorem dX15_isOpen_15 : decode cX15_isOpen 15 = .ok (.iload 4, 2) := by decide +kernel
theorem dX15_isOpen_17 : decode cX15_isOpen 17 = .ok (.iaload, 1) := by decide +kernel
theorem dX15_isOpen_18 : decode cX15_isOpen 18 = .ok (.ifCond .le 5, 3) := by decide +kernel
theorem dX15_isOpen_21 : decode cX15_isOpen 21 = .ok (.iconst 0, 1) := by decide +kernel
theorem dX15_isOpen_22 : decode cX15_isOpen 22 = .ok (.ireturn, 1) := by decide +kernel
theorem dX15_isOpen_23 : decode cX15_isOpen 23 = .ok (.iload 4, 2) := by decide +kernel
theorem dX15_isOpen_25 : decode cX15_isOpen 25 = .ok (.iload_n 3, 1) := by decide +kernel
theorem dX15_isOpen_26 : decode cX15_isOpen 26 = .ok (.iadd, 1) := by decide +kernel
theorem dX15_isOpen_27 : decode cX15_isOpen 27 = .ok (.istore 4, 2) := by decide +kernel
theorem dX15_isOpen_29 : decode cX15_isOpen 29 = .ok (.goto (-24), 3) := by decide +kernel
theorem dX15_isOpen_32 : decode cX15_isOpen 32 = .ok (.iconst 1, 1) := by decide +kernel
theorem dX15_isOpen_33 : decode cX15_isOpen 33 = .ok (.ireturn, 1) := by decide +kernel
def sX15_isOpen_5 (F : Nat) : Nat → Hp → Nat → Int32 → Int32 → Int32 → Option (Int32 × Hp)
  | 0, _, _, _, _, _ => none
  | f + 1, h, x0, x2, x3, x4 => br (x4 = x2) (some ((1 : Int32), h)) (cl (hR h x0 0) fun r_2 => gd (inB x4 (hN h r_2)) <| br ((hI h r_2 x4.toNatClampNeg) ≤ 0) (nm (x4 + x3) fun v_5 => sX15_isOpen_5 F f h x0 x2 x3 v_5) (some ((0 : Int32), h)))
def sX15_isOpen (F : Nat) (h : Hp) (x0 : Nat) (x1 : Int32) (x2 : Int32) (x3 : Int32) : Option (Int32 × Hp) := nm (x1 + x3) fun v_1 => sX15_isOpen_5 F F h x0 x2 x3 v_1
set_option maxRecDepth 20000 in
theorem moX15_isOpen_5 {o : Int32 × Hp} {F : Nat} : ∀ (f : Nat) {h : Hp} {x0 : Nat} {x2 : Int32} {x3 : Int32} {x4 : Int32}, sX15_isOpen_5 F f h x0 x2 x3 x4 = some o → Le h o.2 := by
  intro f
  induction f with
  | zero =>
    intro h x0 x2 x3 x4 hE
    rw [sX15_isOpen_5] at hE
    cases hE
  | succ f ih =>
    intro h x0 x2 x3 x4 hE
    rw [sX15_isOpen_5] at hE
    have mk_5 : ∀ (h : Hp) (x0 : Nat) (x2 : Int32) (x3 : Int32) (x4 : Int32), sX15_isOpen_5 F f h x0 x2 x3 x4 = some o → Le h o.2 := fun h x0 x2 x3 x4 hE => ih hE
    rcases br_e hE with ⟨_, hE⟩ | ⟨_, hE⟩
    · exact le_some2 hE
    · obtain ⟨r_2, er_2, hE⟩ := cl_e hE
      obtain ⟨g_3, hE⟩ := gd_e hE
      rcases br_e hE with ⟨_, hE⟩ | ⟨_, hE⟩
      · obtain ⟨v_5, ev_5, hE⟩ := nm_e2 hE
        exact mk_5 _ _ _ _ _ hE
      · exact le_some2 hE
set_option maxRecDepth 20000 in
theorem moX15_isOpen {o : Int32 × Hp} {F : Nat} {h : Hp} {x0 : Nat} {x1 : Int32} {x2 : Int32} {x3 : Int32} (hE : sX15_isOpen F h x0 x1 x2 x3 = some o) : Le h o.2 := by
  obtain ⟨v_1, ev_1, hE⟩ := nm_e2 hE
  exact moX15_isOpen_5 _ hE
set_option maxRecDepth 20000 in
theorem bX15_isOpen_5 {p : Program} {l : Launch} {e : Env} {s : State} {m : MethodId} {args : Array Value} {below : List Frame} {meth : Method} {c : Code} {X : Ec} {h0 : Hp} {o : Int32 × Hp} {F : Nat} (C : Cx X p s m args meth c RX15 cX15_isOpen 5 (some .boolean) "isOpen") : ∀ (f : Nat) {h : Hp} {x0 : Nat} {x2 : Int32} {x3 : Int32} {x4 : Int32} {H : Heap} {locs : List Loc} (k_x0 : hK h x0 = 12), Km h0 h → Wx X h H → va_S (aA (eB X)) s.heap H locs → ∀ (ls : Array Slot), lv_has ls 5 [(0, .ref x0), (2, .int x2), (3, .int x3), (4, .int x4)] → sX15_isOpen_5 F f h x0 x2 x3 x4 = some o → W p l e (rm 0 0) s m args below meth c H locs 0 0 (MQ below (QI X h0 o.1 o.2) args s 0 0 (aA (eB X))) (F0 m 5 ls []) := by
  intro f
  induction f with
  | zero =>
    intro h x0 x2 x3 x4 H locs k_x0 hkm hW hZ ls hl hE
    rw [sX15_isOpen_5] at hE
    cases hE
  | succ f ih =>
    intro h x0 x2 x3 x4 H locs k_x0 hkm hW hZ ls hl hE
    rw [sX15_isOpen_5] at hE
    have hk_5 : ∀ (h : Hp) (x0 : Nat) (x2 : Int32) (x3 : Int32) (x4 : Int32) (H : Heap) (locs : List Loc), hK h x0 = 12 → Km h0 h → Wx X h H → va_S (aA (eB X)) s.heap H locs → ∀ (ls : Array Slot), lv_has ls 5 [(0, .ref x0), (2, .int x2), (3, .int x3), (4, .int x4)] → sX15_isOpen_5 F f h x0 x2 x3 x4 = some o → W p l e (rm 0 0) s m args below meth c H locs 0 0 (MQ below (QI X h0 o.1 o.2) args s 0 0 (aA (eB X))) (F0 m 5 ls []) := fun h x0 x2 x3 x4 H locs k_x0 a b c ls hl hE => ih k_x0 a b c ls hl hE
    refine lv_iload C.1 C.2.1 dX15_isOpen_5 (lv_at hl 3 rfl) ?_
    refine lv_iload_n C.1 C.2.1 dX15_isOpen_7 rfl (lv_at hl 1 rfl) ?_
    refine lv_icmp_eq (tgt := 32) C.1 C.2.1 dX15_isOpen_8 (by decide) (fun c_1 => ?_) (fun c_1 => ?_)
    · have hE := br_p hE c_1
      refine lv_iconst (v := (1 : Int32)) C.1 C.2.1 dX15_isOpen_32 (by decide) ?_
      exact x_iret C rfl (by decide) hW hZ hkm hE dX15_isOpen_33
    · have hE := br_n hE c_1
      refine lv_aload_n C.1 C.2.1 dX15_isOpen_11 rfl (lv_at hl 0 rfl) ?_
      obtain ⟨r_2, er_2, hE⟩ := cl_e hE
      refine gf_X15_396 C hW k_x0 er_2 dX15_isOpen_12 (fun k_r_2 => ?_)
      refine lv_iload C.1 C.2.1 dX15_isOpen_15 (lv_at hl 3 rfl) ?_
      obtain ⟨g_3, hE⟩ := gd_e hE
      refine y_iald C hW k_r_2 g_3 dX15_isOpen_17 ?_
      refine lv_if_le (tgt := 23) C.1 C.2.1 dX15_isOpen_18 (by decide) (fun c_4 => ?_) (fun c_4 => ?_)
      · have hE := br_p hE c_4
        refine lv_iload C.1 C.2.1 dX15_isOpen_23 (lv_at hl 3 rfl) ?_
        refine lv_iload_n C.1 C.2.1 dX15_isOpen_25 rfl (lv_at hl 2 rfl) ?_
        refine lv_iadd C.1 C.2.1 dX15_isOpen_26 ?_
        obtain ⟨v_5, ev_5, hE⟩ := nm_e2 hE
        refine x_nmI ev_5 ?_
        refine lv_istore (lv' := [(4, .int v_5), (0, .ref x0), (2, .int x2), (3, .int x3)]) C.1 C.2.1 dX15_isOpen_27 hl (by decide) rfl (fun ls hl => ?_)
        refine lv_goto (tgt := 5) C.1 C.2.1 dX15_isOpen_29 (by decide) ?_
        exact hk_5 _ _ _ _ _ _ _ k_x0 hkm hW hZ _ (lv_sub hl [1, 2, 3, 0] rfl) hE
      · have hE := br_n hE c_4
        refine lv_iconst (v := (0 : Int32)) C.1 C.2.1 dX15_isOpen_21 (by decide) ?_
        exact x_iret C rfl (by decide) hW hZ hkm hE dX15_isOpen_22
set_option maxRecDepth 20000 in
theorem ct_X15_isOpen (l : Launch) (X : Ec) (F : Nat) {h : Hp} {x0 : Nat} {x1 : Int32} {x2 : Int32} {x3 : Int32} {o : Int32 × Hp} (k_x0 : hK h x0 = 12) (hE : sX15_isOpen F h x0 x1 x2 x3 = some o) : MetI l yX15_isOpen cX15_isOpen 5 (some .boolean) 0 0 X [.ref x0, .int x1, .int x2, .int x3] h o := by
  refine x_met (by decide) (Nat.le_of_ble_eq_true rfl) ?_
  intro p e s m below meth c ls C hl hW hZ
  have hl : lv_has ls 5 [(0, .ref x0), (1, .int x1), (2, .int x2), (3, .int x3)] := hl
  have hkm : Km h h := Km.rf h
  refine lv_iload_n C.1 C.2.1 dX15_isOpen_0 rfl (lv_at hl 1 rfl) ?_
  refine lv_iload_n C.1 C.2.1 dX15_isOpen_1 rfl (lv_at hl 3 rfl) ?_
  refine lv_iadd C.1 C.2.1 dX15_isOpen_2 ?_
  obtain ⟨v_1, ev_1, hE⟩ := nm_e2 hE
  refine x_nmI ev_1 ?_
  refine lv_istore (lv' := [(4, .int v_1), (0, .ref x0), (1, .int x1), (2, .int x2), (3, .int x3)]) C.1 C.2.1 dX15_isOpen_3 hl (by decide) rfl (fun ls hl => ?_)
  exact bX15_isOpen_5 C F k_x0 hkm hW hZ _ (lv_sub hl [1, 3, 4, 0] rfl) hE
set_option maxRecDepth 100000 in
theorem m_2556 : Cond.methodLink RX15 594 yX15_isOpen ∈ W0 := w0_in (List.mem_append_right _ (List.mem_of_getElem? (i := 2556) rfl)) rfl
set_option maxRecDepth 100000 in
theorem m_2557 : Cond.static yX15_isOpen ∈ W0 := w0_in (List.mem_append_right _ (List.mem_of_getElem? (i := 2557) rfl)) rfl
set_option maxRecDepth 100000 in
theorem m_2558 : Cond.code yX15_isOpen cX15_isOpen 5 (some .boolean) ∈ W0 := w0_in (List.mem_append_right _ (List.mem_of_getElem? (i := 2558) rfl)) rfl
theorem cw_X15_594 : cwd RX15 594 yX15_isOpen cX15_isOpen 5 (some .boolean) true 4 := ⟨m_2558, m_2556, m_19, m_2557, by decide, by decide, by decide +kernel⟩
theorem dX15_tryCastling_0 : decode cX15_tryCastling 0 = .ok (.iload_n 3, 1) := by decide +kernel
theorem dX15_tryCastling_1 : decode cX15_tryCastling 1 = .ok (.aload_n 0, 1) := by decide +kernel
theorem dX15_tryCastling_2 : decode cX15_tryCastling 2 = .ok (.getfield 382, 3) := by decide +kernel
theorem dX15_tryCastling_5 : decode cX15_tryCastling 5 = .ok (.idiv, 1) := by decide +kernel
theorem dX15_tryCastling_6 : decode cX15_tryCastling 6 = .ok (.iload_n 2, 1) := by decide +kernel
theorem dX15_tryCastling_7 : decode cX15_tryCastling 7 = .ok (.aload_n 0, 1) := by decide +kernel
theorem dX15_tryCastling_8 : decode cX15_tryCastling 8 = .ok (.getfield 382, 3) := by decide +kernel
theorem dX15_tryCastling_11 : decode cX15_tryCastling 11 = .ok (.idiv, 1) := by decide +kernel
theorem dX15_tryCastling_12 : decode cX15_tryCastling 12 = .ok (.if_icmp .ne 13, 3) := by decide +kernel
theorem dX15_tryCastling_15 : decode cX15_tryCastling 15 = .ok (.iload_n 3, 1) := by decide +kernel
theorem dX15_tryCastling_16 : decode cX15_tryCastling 16 = .ok (.iload_n 2, 1) := by decide +kernel
theorem dX15_tryCastling_17 : decode cX15_tryCastling 17 = .ok (.isub, 1) := by decide +kernel
theorem dX15_tryCastling_18 : decode cX15_tryCastling 18 = .ok (.invokestatic 551, 3) := by decide +kernel
theorem dX15_tryCastling_21 : decode cX15_tryCastling 21 = .ok (.iconst 2, 1) := by decide +kernel
theorem dX15_tryCastling_22 : decode cX15_tryCastling 22 = .ok (.if_icmp .eq 4, 3) := by decide +kernel
theorem dX15_tryCastling_25 : decode cX15_tryCastling 25 = .ok (.return_, 1) := by decide +kernel
theorem dX15_tryCastling_26 : decode cX15_tryCastling 26 = .ok (.iload_n 3, 1) := by decide +kernel
theorem dX15_tryCastling_27 : decode cX15_tryCastling 27 = .ok (.iload_n 2, 1) := by decide +kernel
theorem dX15_tryCastling_28 : decode cX15_tryCastling 28 = .ok (.if_icmp .le 7, 3) := by decide +kernel
theorem dX15_tryCastling_31 : decode cX15_tryCastling 31 = .ok (.iconst 1, 1) := by decide +kernel
theorem dX15_tryCastling_32 : decode cX15_tryCastling 32 = .ok (.goto 4, 3) := by decide +kernel
theorem dX15_tryCastling_35 : decode cX15_tryCastling 35 = .ok (.iconst (-1), 1) := by decide +kernel
theorem dX15_tryCastling_36 : decode cX15_tryCastling 36 = .ok (.istore 5, 2) := by decide +kernel
theorem dX15_tryCastling_38 : decode cX15_tryCastling 38 = .ok (.iload_n 2, 1) := by decide +kernel
theorem dX15_tryCastling_39 : decode cX15_tryCastling 39 = .ok (.iconst 3, 1) := by decide +kernel
theorem dX15_tryCastling_40 : decode cX15_tryCastling 40 = .ok (.iload 5, 2) := by decide +kernel
theorem dX15_tryCastling_42 : decode cX15_tryCastling 42 = .ok (.imul, 1) := by decide +kernel
theorem dX15_tryCastling_43 : decode cX15_tryCastling 43 = .ok (.iadd, 1) := by decide +kernel
theorem dX15_tryCastling_44 : decode cX15_tryCastling 44 = .ok (.istore 6, 2) := by decide +kernel
theorem dX15_tryCastling_46 : decode cX15_tryCastling 46 = .ok (.iload 6, 2) := by decide +kernel
theorem dX15_tryCastling_48 : decode cX15_tryCastling 48 = .ok (.ifCond .lt 159, 3) := by decide +kernel
theorem dX15_tryCastling_51 : decode cX15_tryCastling 51 = .ok (.iload 6, 2) := by decide +kernel
theorem dX15_tryCastling_53 : decode cX15_tryCastling 53 = .ok (.aload_n 0, 1) := by decide +kernel
theorem dX15_tryCastling_54 : decode cX15_tryCastling 54 = .ok (.getfield 384, 3) := by decide +kernel
theorem dX15_tryCastling_57 : decode cX15_tryCastling 57 = .ok (.if_icmp .ge 150, 3) := by decide +kernel
theorem dX15_tryCastling_60 : decode cX15_tryCastling 60 = .ok (.iload 6, 2) := by decide +kernel
theorem dX15_tryCastling_62 : decode cX15_tryCastling 62 = .ok (.aload_n 0, 1) := by decide +kernel
theorem dX15_tryCastling_63 : decode cX15_tryCastling 63 = .ok (.getfield 382, 3) := by decide +kernel
theorem dX15_tryCastling_66 : decode cX15_tryCastling 66 = .ok (.idiv, 1) := by decide +kernel
theorem dX15_tryCastling_67 : decode cX15_tryCastling 67 = .ok (.iload_n 2, 1) := by decide +kernel
theorem dX15_tryCastling_68 : decode cX15_tryCastling 68 = .ok (.aload_n 0, 1) := by decide +kernel
theorem dX15_tryCastling_69 : decode cX15_tryCastling 69 = .ok (.getfield 382, 3) := by decide +kernel
theorem dX15_tryCastling_72 : decode cX15_tryCastling 72 = .ok (.idiv, 1) := by decide +kernel
theorem dX15_tryCastling_73 : decode cX15_tryCastling 73 = .ok (.if_icmp .ne 134, 3) := by decide +kernel
theorem dX15_tryCastling_76 : decode cX15_tryCastling 76 = .ok (.aload_n 1, 1) := by decide +kernel
theorem dX15_tryCastling_77 : decode cX15_tryCastling 77 = .ok (.getfield 436, 3) := by decide +kernel
theorem dX15_tryCastling_80 : decode cX15_tryCastling 80 = .ok (.iload 6, 2) := by decide +kernel
theorem dX15_tryCastling_82 : decode cX15_tryCastling 82 = .ok (.lshr, 1) := by decide +kernel
theorem dX15_tryCastling_83 : decode cX15_tryCastling 83 = .ok (.lconst 1, 1) := by decide +kernel
theorem dX15_tryCastling_84 : decode cX15_tryCastling 84 = .ok (.land, 1) := by decide +kernel
theorem dX15_tryCastling_85 : decode cX15_tryCastling 85 = .ok (.lconst 1, 1) := by decide +kernel
theorem dX15_tryCastling_86 : decode cX15_tryCastling 86 = .ok (.lcmp, 1) := by decide +kernel
theorem dX15_tryCastling_87 : decode cX15_tryCastling 87 = .ok (.ifCond .ne 110, 3) := by decide +kernel
theorem dX15_tryCastling_90 : decode cX15_tryCastling 90 = .ok (.aload_n 1, 1) := by decide +kernel
theorem dX15_tryCastling_91 : decode cX15_tryCastling 91 = .ok (.getfield 396, 3) := by decide +kernel
theorem dX15_tryCastling_94 : decode cX15_tryCastling 94 = .ok (.iload 6, 2) := by decide +kernel
theorem dX15_tryCastling_96 : decode cX15_tryCastling 96 = .ok (.iaload, 1) := by decide +kernel
theorem dX15_tryCastling_97 : decode cX15_tryCastling 97 = .ok (.ifCond .le 100, 3) := by decide +kernel
theorem dX15_tryCastling_100 : decode cX15_tryCastling 100 = .ok (.aload_n 1, 1) := by decide +kernel
theorem dX15_tryCastling_101 : decode cX15_tryCastling 101 = .ok (.getfield 396, 3) := by decide +kernel
theorem dX15_tryCastling_104 : decode cX15_tryCastling 104 = .ok (.iload 6, 2) := by decide +kernel
theorem dX15_tryCastling_106 : decode cX15_tryCastling 106 = .ok (.iaload, 1) := by decide +kernel
theorem dX15_tryCastling_107 : decode cX15_tryCastling 107 = .ok (.invokestatic 489, 3) := by decide +kernel
theorem dX15_tryCastling_110 : decode cX15_tryCastling 110 = .ok (.aload_n 1, 1) := by decide +kernel
theorem dX15_tryCastling_111 : decode cX15_tryCastling 111 = .ok (.getfield 452, 3) := by decide +kernel
theorem dX15_tryCastling_114 : decode cX15_tryCastling 114 = .ok (.if_icmp .ne 83, 3) := by decide +kernel
theorem dX15_tryCastling_117 : decode cX15_tryCastling 117 = .ok (.aload_n 1, 1) := by decide +kernel
theorem dX15_tryCastling_118 : decode cX15_tryCastling 118 = .ok (.iload_n 2, 1) := by decide +kernel
theorem dX15_tryCastling_119 : decode cX15_tryCastling 119 = .ok (.iload 6, 2) := by decide +kernel
theorem dX15_tryCastling_121 : decode cX15_tryCastling 121 = .ok (.iload 5, 2) := by decide +kernel
theorem dX15_tryCastling_123 : decode cX15_tryCastling 123 = .ok (.invokestatic 594, 3) := by decide +kernel
theorem dX15_tryCastling_126 : decode cX15_tryCastling 126 = .ok (.ifCond .eq 71, 3) := by decide +kernel
theorem dX15_tryCastling_129 : decode cX15_tryCastling 129 = .ok (.aload_n 0, 1) := by decide +kernel
theorem dX15_tryCastling_130 : decode cX15_tryCastling 130 = .ok (.aload_n 1, 1) := by decide +kernel
theorem dX15_tryCastling_131 : decode cX15_tryCastling 131 = .ok (.iload_n 2, 1) := by decide +kernel
theorem dX15_tryCastling_132 : decode cX15_tryCastling 132 = .ok (.iconst 1, 1) := by decide +kernel
theorem dX15_tryCastling_133 : decode cX15_tryCastling 133 = .ok (.aload_n 1, 1) := by decide +kernel
theorem dX15_tryCastling_134 : decode cX15_tryCastling 134 = .ok (.getfield 452, 3) := by decide +kernel
theorem dX15_tryCastling_137 : decode cX15_tryCastling 137 = .ok (.isub, 1) := by decide +kernel
theorem dX15_tryCastling_138 : decode cX15_tryCastling 138 = .ok (.invokevirtual 512, 3) := by decide +kernel
theorem dX15_tryCastling_141 : decode cX15_tryCastling 141 = .ok (.ifCond .ne 55, 3) := by decide +kernel
theorem dX15_tryCastling_144 : decode cX15_tryCastling 144 = .ok (.aload_n 0, 1) := by decide +kernel
theorem dX15_tryCastling_145 : decode cX15_tryCastling 145 = .ok (.aload_n 1, 1) := by decide +kernel
theorem dX15_tryCastling_146 : decode cX15_tryCastling 146 = .ok (.iload_n 2, 1) := by decide +kernel
theorem dX15_tryCastling_147 : decode cX15_tryCastling 147 = .ok (.iload 5, 2) := by decide +kernel
theorem dX15_tryCastling_149 : decode cX15_tryCastling 149 = .ok (.iadd, 1) := by decide +kernel
theorem dX15_tryCastling_150 : decode cX15_tryCastling 150 = .ok (.iconst 1, 1) := by decide +kernel
theorem dX15_tryCastling_151 : decode cX15_tryCastling 151 = .ok (.aload_n 1, 1) := by decide +kernel
theorem dX15_tryCastling_152 : decode cX15_tryCastling 152 = .ok (.getfield 452, 3) := by decide +kernel
theorem dX15_tryCastling_155 : decode cX15_tryCastling 155 = .ok (.isub, 1) := by decide +kernel
theorem dX15_tryCastling_156 : decode cX15_tryCastling 156 = .ok (.invokevirtual 512, 3) := by decide +kernel
theorem dX15_tryCastling_159 : decode cX15_tryCastling 159 = .ok (.ifCond .ne 37, 3) := by decide +kernel
theorem dX15_tryCastling_162 : decode cX15_tryCastling 162 = .ok (.aload_n 0, 1) := by decide +kernel
theorem dX15_tryCastling_163 : decode cX15_tryCastling 163 = .ok (.aload_n 1, 1) := by decide +kernel
theorem dX15_tryCastling_164 : decode cX15_tryCastling 164 = .ok (.iload_n 3, 1) := by decide +kernel
theorem dX15_tryCastling_165 : decode cX15_tryCastling 165 = .ok (.iconst 1, 1) := by decide +kernel
theorem dX15_tryCastling_166 : decode cX15_tryCastling 166 = .ok (.aload_n 1, 1) := by decide +kernel
theorem dX15_tryCastling_167 : decode cX15_tryCastling 167 = .ok (.getfield 452, 3) := by decide +kernel
theorem dX15_tryCastling_170 : decode cX15_tryCastling 170 = .ok (.isub, 1) := by decide +kernel
theorem dX15_tryCastling_171 : decode cX15_tryCastling 171 = .ok (.invokevirtual 512, 3) := by decide +kernel
theorem dX15_tryCastling_174 : decode cX15_tryCastling 174 = .ok (.ifCond .ne 22, 3) := by decide +kernel
theorem dX15_tryCastling_177 : decode cX15_tryCastling 177 = .ok (.aload 4, 2) := by decide +kernel
theorem dX15_tryCastling_179 : decode cX15_tryCastling 179 = .ok (.iload_n 2, 1) := by decide +kernel
theorem dX15_tryCastling_180 : decode cX15_tryCastling 180 = .ok (.iload_n 3, 1) := by decide +kernel
theorem dX15_tryCastling_181 : decode cX15_tryCastling 181 = .ok (.aload_n 0, 1) := by decide +kernel
theorem dX15_tryCastling_182 : decode cX15_tryCastling 182 = .ok (.getfield 252, 3) := by decide +kernel
theorem dX15_tryCastling_185 : decode cX15_tryCastling 185 = .ok (.getfield 221, 3) := by decide +kernel
theorem dX15_tryCastling_188 : decode cX15_tryCastling 188 = .ok (.iconst (-1), 1) := by decide +kernel
theorem dX15_tryCastling_189 : decode cX15_tryCastling 189 = .ok (.iconst (-1), 1) := by decide +kernel
theorem dX15_tryCastling_190 : decode cX15_tryCastling 190 = .ok (.iconst 2, 1) := by decide +kernel
theorem dX15_tryCastling_191 : decode cX15_tryCastling 191 = .ok (.iload 6, 2) := by decide +kernel
theorem dX15_tryCastling_193 : decode cX15_tryCastling 193 = .ok (.invokevirtual 590, 3) := by decide +kernel
theorem dX15_tryCastling_196 : decode cX15_tryCastling 196 = .ok (.return_, 1) := by decide +kernel
theorem dX15_tryCastling_197 : decode cX15_tryCastling 197 = .ok (.iload 6, 2) := by decide +kernel
theorem dX15_tryCastling_199 : decode cX15_tryCastling 199 = .ok (.iload 5, 2) := by decide +kernel
theorem dX15_tryCastling_201 : decode cX15_tryCastling 201 = .ok (.iadd, 1) := by decide +kernel
theorem dX15_tryCastling_202 : decode cX15_tryCastling 202 = .ok (.istore 6, 2) := by decide +kernel
theorem dX15_tryCastling_204 : decode cX15_tryCastling 204 = .ok (.goto (-158), 3) := by decide +kernel
theorem dX15_tryCastling_207 : decode cX15_tryCastling 207 = .ok (.return_, 1) := by decide +kernel
def sX15_tryCastling_25 (F : Nat) (h : Hp) : Option (Hp) := some h
def sX15_tryCastling_207 (F : Nat) (h : Hp) : Option (Hp) := some h
def sX15_tryCastling_197 (F : Nat) (k_46 : Hp → Nat → Nat → Int32 → Int32 → Nat → Int32 → Int32 → Option (Hp)) (h : Hp) (x0 : Nat) (x1 : Nat) (x2 : Int32) (x3 : Int32) (x4 : Nat) (x5 : Int32) (x6 : Int32) : Option (Hp) := nm (x6 + x5) fun v_1 => k_46 h x0 x1 x2 x3 x4 x5 v_1
def sX15_tryCastling_196 (F : Nat) (h : Hp) : Option (Hp) := some h
def sX15_tryCastling_46 (F : Nat) : Nat → Hp → Nat → Nat → Int32 → Int32 → Nat → Int32 → Int32 → Option (Hp)
  | 0, _, _, _, _, _, _, _, _ => none
  | f + 1, h, x0, x1, x2, x3, x4, x5, x6 => br (x6 < 0) (sX15_tryCastling_207 F h ) (br ((hI h x0 13) ≤ x6) (sX15_tryCastling_207 F h ) (gd (¬ (hI h x0 11) = 0) <| gd (¬ (hI h x0 11) = 0) <| br ((x6 / (hI h x0 11)) = (x2 / (hI h x0 11))) (br ((lg_cmp (((hJ h x1 2) >>> (x6.toInt64 &&& 63)) &&& (1 : Int64)) (1 : Int64)) = 0) (cl (hR h x1 0) fun r_7 => gd (inB x6 (hN h r_7)) <| br ((hI h r_7 x6.toNatClampNeg) ≤ 0) (sX15_tryCastling_197 F (sX15_tryCastling_46 F f) h x0 x1 x2 x3 x4 x5 x6) (cl (hR h x1 0) fun r_10 => gd (inB x6 (hN h r_10)) <| cl (sX15_sideOf h (hI h r_10 x6.toNatClampNeg)) fun o_12 => br (o_12.1 = (hI o_12.2 x1 1)) (cl (sX15_isOpen F o_12.2 x1 x2 x6 x5) fun o_14 => br (o_14.1 = 0) (sX15_tryCastling_197 F (sX15_tryCastling_46 F f) o_14.2 x0 x1 x2 x3 x4 x5 x6) (cl (sX15_isAttacked F o_14.2 x0 x1 x2 ((1 : Int32) - (hI o_14.2 x1 1))) fun o_16 => br (o_16.1 = 0) (cl (sX15_isAttacked F o_16.2 x0 x1 (x2 + x5) ((1 : Int32) - (hI o_16.2 x1 1))) fun o_18 => br (o_18.1 = 0) (cl (sX15_isAttacked F o_18.2 x0 x1 x3 ((1 : Int32) - (hI o_18.2 x1 1))) fun o_20 => br (o_20.1 = 0) (cl (hR o_20.2 x0 4) fun r_22 => cl (sX13_add o_20.2 x4 x2 x3 (hI o_20.2 r_22 10) (-1 : Int32) (-1 : Int32) (2 : Int32) x6) fun o_23 => sX15_tryCastling_196 F o_23 ) (sX15_tryCastling_196 F o_20.2 )) (sX15_tryCastling_196 F o_18.2 )) (sX15_tryCastling_196 F o_16.2 ))) (sX15_tryCastling_197 F (sX15_tryCastling_46 F f) o_12.2 x0 x1 x2 x3 x4 x5 x6))) (sX15_tryCastling_197 F (sX15_tryCastling_46 F f) h x0 x1 x2 x3 x4 x5 x6)) (sX15_tryCastling_207 F h )))
def sX15_tryCastling_36 (F : Nat) (h : Hp) (x0 : Nat) (x1 : Nat) (x2 : Int32) (x3 : Int32) (x4 : Nat) (t0 : Int32) : Option (Hp) := nm (x2 + ((3 : Int32) * t0)) fun v_1 => sX15_tryCastling_46 F F h x0 x1 x2 x3 x4 t0 v_1
def sX15_tryCastling (F : Nat) (h : Hp) (x0 : Nat) (x1 : Nat) (x2 : Int32) (x3 : Int32) (x4 : Nat) : Option (Hp) := gd (¬ (hI h x0 11) = 0) <| gd (¬ (hI h x0 11) = 0) <| br ((x3 / (hI h x0 11)) = (x2 / (hI h x0 11))) (br ((if 0 ≤ (x3 - x2) then (x3 - x2) else 0 - (x3 - x2)) = (2 : Int32)) (br (x3 ≤ x2) (sX15_tryCastling_36 F h x0 x1 x2 x3 x4 (-1 : Int32)) (sX15_tryCastling_36 F h x0 x1 x2 x3 x4 (1 : Int32))) (sX15_tryCastling_25 F h )) (sX15_tryCastling_25 F h )
set_option maxRecDepth 20000 in
theorem moX15_tryCastling_25 {o : Hp} {F : Nat} {h : Hp} (hE : sX15_tryCastling_25 F h  = some o) : Le h o := by
  exact le_some1 hE
set_option maxRecDepth 20000 in
theorem moX15_tryCastling_207 {o : Hp} {F : Nat} {h : Hp} (hE : sX15_tryCastling_207 F h  = some o) : Le h o := by
  exact le_some1 hE
set_option maxRecDepth 20000 in
theorem moX15_tryCastling_197 {o : Hp} {k_46 : Hp → Nat → Nat → Int32 → Int32 → Nat → Int32 → Int32 → Option (Hp)} {F : Nat} (mk_46 : ∀ (h : Hp) (x0 : Nat) (x1 : Nat) (x2 : Int32) (x3 : Int32) (x4 : Nat) (x5 : Int32) (x6 : Int32), k_46 h x0 x1 x2 x3 x4 x5 x6 = some o → Le h o) {h : Hp} {x0 : Nat} {x1 : Nat} {x2 : Int32} {x3 : Int32} {x4 : Nat} {x5 : Int32} {x6 : Int32} (hE : sX15_tryCastling_197 F k_46 h x0 x1 x2 x3 x4 x5 x6 = some o) : Le h o := by
  obtain ⟨v_1, ev_1, hE⟩ := nm_e2 hE
  exact mk_46 _ _ _ _ _ _ _ _ hE
set_option maxRecDepth 20000 in
theorem moX15_tryCastling_196 {o : Hp} {F : Nat} {h : Hp} (hE : sX15_tryCastling_196 F h  = some o) : Le h o := by
  exact le_some1 hE
set_option maxRecDepth 20000 in
theorem moX15_tryCastling_46 {o : Hp} {F : Nat} : ∀ (f : Nat) {h : Hp} {x0 : Nat} {x1 : Nat} {x2 : Int32} {x3 : Int32} {x4 : Nat} {x5 : Int32} {x6 : Int32}, sX15_tryCastling_46 F f h x0 x1 x2 x3 x4 x5 x6 = some o → Le h o := by
  intro f
  induction f with
  | zero =>
    intro h x0 x1 x2 x3 x4 x5 x6 hE
    rw [sX15_tryCastling_46] at hE
    cases hE
  | succ f ih =>
    intro h x0 x1 x2 x3 x4 x5 x6 hE
    rw [sX15_tryCastling_46] at hE
    have mk_46 : ∀ (h : Hp) (x0 : Nat) (x1 : Nat) (x2 : Int32) (x3 : Int32) (x4 : Nat) (x5 : Int32) (x6 : Int32), sX15_tryCastling_46 F f h x0 x1 x2 x3 x4 x5 x6 = some o → Le h o := fun h x0 x1 x2 x3 x4 x5 x6 hE => ih hE
    rcases br_e hE with ⟨_, hE⟩ | ⟨_, hE⟩
    · exact moX15_tryCastling_207 hE
    · rcases br_e hE with ⟨_, hE⟩ | ⟨_, hE⟩
      · exact moX15_tryCastling_207 hE
      · obtain ⟨g_3, hE⟩ := gd_e hE
        obtain ⟨g_4, hE⟩ := gd_e hE
        rcases br_e hE with ⟨_, hE⟩ | ⟨_, hE⟩
        · rcases br_e hE with ⟨_, hE⟩ | ⟨_, hE⟩
          · obtain ⟨r_7, er_7, hE⟩ := cl_e hE
            obtain ⟨g_8, hE⟩ := gd_e hE
            rcases br_e hE with ⟨_, hE⟩ | ⟨_, hE⟩
            · exact moX15_tryCastling_197 mk_46 hE
            · obtain ⟨r_10, er_10, hE⟩ := cl_e hE
              obtain ⟨g_11, hE⟩ := gd_e hE
              obtain ⟨o_12, eo_12, hE⟩ := cl_e hE
              refine (moX15_sideOf eo_12).tr ?_
              rcases br_e hE with ⟨_, hE⟩ | ⟨_, hE⟩
              · obtain ⟨o_14, eo_14, hE⟩ := cl_e hE
                refine (moX15_isOpen eo_14).tr ?_
                rcases br_e hE with ⟨_, hE⟩ | ⟨_, hE⟩
                · exact moX15_tryCastling_197 mk_46 hE
                · obtain ⟨o_16, eo_16, hE⟩ := cl_e hE
                  refine (moX15_isAttacked eo_16).tr ?_
                  rcases br_e hE with ⟨_, hE⟩ | ⟨_, hE⟩
                  · obtain ⟨o_18, eo_18, hE⟩ := cl_e hE
                    refine (moX15_isAttacked eo_18).tr ?_
                    rcases br_e hE with ⟨_, hE⟩ | ⟨_, hE⟩
                    · obtain ⟨o_20, eo_20, hE⟩ := cl_e hE
                      refine (moX15_isAttacked eo_20).tr ?_
                      rcases br_e hE with ⟨_, hE⟩ | ⟨_, hE⟩
                      · obtain ⟨r_22, er_22, hE⟩ := cl_e hE
                        obtain ⟨o_23, eo_23, hE⟩ := cl_e hE
                        refine (moX13_add eo_23).tr ?_
                        exact moX15_tryCastling_196 hE
                      · exact moX15_tryCastling_196 hE
                    · exact moX15_tryCastling_196 hE
                  · exact moX15_tryCastling_196 hE
              · exact moX15_tryCastling_197 mk_46 hE
          · exact moX15_tryCastling_197 mk_46 hE
        · exact moX15_tryCastling_207 hE
set_option maxRecDepth 20000 in
theorem moX15_tryCastling_36 {o : Hp} {F : Nat} {h : Hp} {x0 : Nat} {x1 : Nat} {x2 : Int32} {x3 : Int32} {x4 : Nat} {t0 : Int32} (hE : sX15_tryCastling_36 F h x0 x1 x2 x3 x4 t0 = some o) : Le h o := by
  obtain ⟨v_1, ev_1, hE⟩ := nm_e2 hE
  exact moX15_tryCastling_46 _ hE
set_option maxRecDepth 20000 in
theorem moX15_tryCastling {o : Hp} {F : Nat} {h : Hp} {x0 : Nat} {x1 : Nat} {x2 : Int32} {x3 : Int32} {x4 : Nat} (hE : sX15_tryCastling F h x0 x1 x2 x3 x4 = some o) : Le h o := by
  obtain ⟨g_1, hE⟩ := gd_e hE
  obtain ⟨g_2, hE⟩ := gd_e hE
  rcases br_e hE with ⟨_, hE⟩ | ⟨_, hE⟩
  · rcases br_e hE with ⟨_, hE⟩ | ⟨_, hE⟩
    · rcases br_e hE with ⟨_, hE⟩ | ⟨_, hE⟩
      · exact moX15_tryCastling_36 hE
      · exact moX15_tryCastling_36 hE
    · exact moX15_tryCastling_25 hE
  · exact moX15_tryCastling_25 hE
set_option maxRecDepth 20000 in
theorem bX15_tryCastling_25 {p : Program} {l : Launch} {e : Env} {s : State} {m : MethodId} {args : Array Value} {below : List Frame} {meth : Method} {c : Code} {X : Ec} {h0 : Hp} {o : Hp} {F : Nat} (C : Cx X p s m args meth c RX15 cX15_tryCastling 7 none "tryCastling") {h : Hp} {H : Heap} {locs : List Loc} (hkm : Km h0 h) (hW : Wx X h H) (hZ : va_S (aA (eB X)) s.heap H locs) (ls : Array Slot) (hl : lv_has ls 7 []) (hE : sX15_tryCastling_25 F h  = some o) : W p l e (rm 4 106) s m args below meth c H locs 0 0 (MQ below (QV X h0 o) args s 0 0 (aA (eB X))) (F0 m 25 ls []) := by
  exact x_vret C rfl hW hZ hkm hE dX15_tryCastling_25
set_option maxRecDepth 20000 in
theorem bX15_tryCastling_207 {p : Program} {l : Launch} {e : Env} {s : State} {m : MethodId} {args : Array Value} {below : List Frame} {meth : Method} {c : Code} {X : Ec} {h0 : Hp} {o : Hp} {F : Nat} (C : Cx X p s m args meth c RX15 cX15_tryCastling 7 none "tryCastling") {h : Hp} {H : Heap} {locs : List Loc} (hkm : Km h0 h) (hW : Wx X h H) (hZ : va_S (aA (eB X)) s.heap H locs) (ls : Array Slot) (hl : lv_has ls 7 []) (hE : sX15_tryCastling_207 F h  = some o) : W p l e (rm 4 106) s m args below meth c H locs 0 0 (MQ below (QV X h0 o) args s 0 0 (aA (eB X))) (F0 m 207 ls []) := by
  exact x_vret C rfl hW hZ hkm hE dX15_tryCastling_207
set_option maxRecDepth 20000 in
theorem bX15_tryCastling_197 {p : Program} {l : Launch} {e : Env} {s : State} {m : MethodId} {args : Array Value} {below : List Frame} {meth : Method} {c : Code} {X : Ec} {h0 : Hp} {o : Hp} {k_46 : Hp → Nat → Nat → Int32 → Int32 → Nat → Int32 → Int32 → Option (Hp)} {F : Nat} (C : Cx X p s m args meth c RX15 cX15_tryCastling 7 none "tryCastling") (hk_46 : ∀ (h : Hp) (x0 : Nat) (x1 : Nat) (x2 : Int32) (x3 : Int32) (x4 : Nat) (x5 : Int32) (x6 : Int32) (H : Heap) (locs : List Loc), hK h x0 = 15 → hK h x1 = 12 → hK h x4 = 13 → Km h0 h → Wx X h H → va_S (aA (eB X)) s.heap H locs → ∀ (ls : Array Slot), lv_has ls 7 [(0, .ref x0), (1, .ref x1), (2, .int x2), (3, .int x3), (4, .ref x4), (5, .int x5), (6, .int x6)] → k_46 h x0 x1 x2 x3 x4 x5 x6 = some o → W p l e (rm 4 106) s m args below meth c H locs 0 0 (MQ below (QV X h0 o) args s 0 0 (aA (eB X))) (F0 m 46 ls [])) {h : Hp} {x0 : Nat} {x1 : Nat} {x2 : Int32} {x3 : Int32} {x4 : Nat} {x5 : Int32} {x6 : Int32} {H : Heap} {locs : List Loc} (k_x0 : hK h x0 = 15) (k_x1 : hK h x1 = 12) (k_x4 : hK h x4 = 13) (hkm : Km h0 h) (hW : Wx X h H) (hZ : va_S (aA (eB X)) s.heap H locs) (ls : Array Slot) (hl : lv_has ls 7 [(0, .ref x0), (1, .ref x1), (2, .int x2), (3, .int x3), (4, .ref x4), (5, .int x5), (6, .int x6)]) (hE : sX15_tryCastling_197 F k_46 h x0 x1 x2 x3 x4 x5 x6 = some o) : W p l e (rm 4 106) s m args below meth c H locs 0 0 (MQ below (QV X h0 o) args s 0 0 (aA (eB X))) (F0 m 197 ls []) := by
  refine lv_iload C.1 C.2.1 dX15_tryCastling_197 (lv_at hl 6 rfl) ?_
  refine lv_iload C.1 C.2.1 dX15_tryCastling_199 (lv_at hl 5 rfl) ?_
  refine lv_iadd C.1 C.2.1 dX15_tryCastling_201 ?_
  obtain ⟨v_1, ev_1, hE⟩ := nm_e2 hE
  refine x_nmI ev_1 ?_
  refine lv_istore (lv' := [(6, .int v_1), (0, .ref x0), (1, .ref x1), (2, .int x2), (3, .int x3), (4, .ref x4), (5, .int x5)]) C.1 C.2.1 dX15_tryCastling_202 hl (by decide) rfl (fun ls hl => ?_)
  refine lv_goto (tgt := 46) C.1 C.2.1 dX15_tryCastling_204 (by decide) ?_
  exact hk_46 _ _ _ _ _ _ _ _ _ _ k_x0 k_x1 k_x4 hkm hW hZ _ (lv_sub hl [1, 2, 3, 4, 5, 6, 0] rfl) hE
set_option maxRecDepth 20000 in
theorem bX15_tryCastling_196 {p : Program} {l : Launch} {e : Env} {s : State} {m : MethodId} {args : Array Value} {below : List Frame} {meth : Method} {c : Code} {X : Ec} {h0 : Hp} {o : Hp} {F : Nat} (C : Cx X p s m args meth c RX15 cX15_tryCastling 7 none "tryCastling") {h : Hp} {H : Heap} {locs : List Loc} (hkm : Km h0 h) (hW : Wx X h H) (hZ : va_S (aA (eB X)) s.heap H locs) (ls : Array Slot) (hl : lv_has ls 7 []) (hE : sX15_tryCastling_196 F h  = some o) : W p l e (rm 4 106) s m args below meth c H locs 0 0 (MQ below (QV X h0 o) args s 0 0 (aA (eB X))) (F0 m 196 ls []) := by
  exact x_vret C rfl hW hZ hkm hE dX15_tryCastling_196
set_option maxRecDepth 20000 in
theorem bX15_tryCastling_46 {p : Program} {l : Launch} {e : Env} {s : State} {m : MethodId} {args : Array Value} {below : List Frame} {meth : Method} {c : Code} {X : Ec} {h0 : Hp} {o : Hp} {F : Nat} (C : Cx X p s m args meth c RX15 cX15_tryCastling 7 none "tryCastling") : ∀ (f : Nat) {h : Hp} {x0 : Nat} {x1 : Nat} {x2 : Int32} {x3 : Int32} {x4 : Nat} {x5 : Int32} {x6 : Int32} {H : Heap} {locs : List Loc} (k_x0 : hK h x0 = 15) (k_x1 : hK h x1 = 12) (k_x4 : hK h x4 = 13), Km h0 h → Wx X h H → va_S (aA (eB X)) s.heap H locs → ∀ (ls : Array Slot), lv_has ls 7 [(0, .ref x0), (1, .ref x1), (2, .int x2), (3, .int x3), (4, .ref x4), (5, .int x5), (6, .int x6)] → sX15_tryCastling_46 F f h x0 x1 x2 x3 x4 x5 x6 = some o → W p l e (rm 4 106) s m args below meth c H locs 0 0 (MQ below (QV X h0 o) args s 0 0 (aA (eB X))) (F0 m 46 ls []) := by
  intro f
  induction f with
  | zero =>
    intro h x0 x1 x2 x3 x4 x5 x6 H locs k_x0 k_x1 k_x4 hkm hW hZ ls hl hE
    rw [sX15_tryCastling_46] at hE
    cases hE
  | succ f ih =>
    intro h x0 x1 x2 x3 x4 x5 x6 H locs k_x0 k_x1 k_x4 hkm hW hZ ls hl hE
    rw [sX15_tryCastling_46] at hE
    have hk_46 : ∀ (h : Hp) (x0 : Nat) (x1 : Nat) (x2 : Int32) (x3 : Int32) (x4 : Nat) (x5 : Int32) (x6 : Int32) (H : Heap) (locs : List Loc), hK h x0 = 15 → hK h x1 = 12 → hK h x4 = 13 → Km h0 h → Wx X h H → va_S (aA (eB X)) s.heap H locs → ∀ (ls : Array Slot), lv_has ls 7 [(0, .ref x0), (1, .ref x1), (2, .int x2), (3, .int x3), (4, .ref x4), (5, .int x5), (6, .int x6)] → sX15_tryCastling_46 F f h x0 x1 x2 x3 x4 x5 x6 = some o → W p l e (rm 4 106) s m args below meth c H locs 0 0 (MQ below (QV X h0 o) args s 0 0 (aA (eB X))) (F0 m 46 ls []) := fun h x0 x1 x2 x3 x4 x5 x6 H locs k_x0 k_x1 k_x4 a b c ls hl hE => ih k_x0 k_x1 k_x4 a b c ls hl hE
    refine lv_iload C.1 C.2.1 dX15_tryCastling_46 (lv_at hl 6 rfl) ?_
    refine lv_if_lt (tgt := 207) C.1 C.2.1 dX15_tryCastling_48 (by decide) (fun c_1 => ?_) (fun c_1 => ?_)
    · have hE := br_p hE c_1
      exact bX15_tryCastling_207 C hkm hW hZ _ (lv_sub hl [] rfl) hE
    · have hE := br_n hE c_1
      refine lv_iload C.1 C.2.1 dX15_tryCastling_51 (lv_at hl 6 rfl) ?_
      refine lv_aload_n C.1 C.2.1 dX15_tryCastling_53 rfl (lv_at hl 0 rfl) ?_
      refine gf_X15_384 C hW k_x0 dX15_tryCastling_54 ?_
      refine lv_icmp_ge (tgt := 207) C.1 C.2.1 dX15_tryCastling_57 (by decide) (fun c_2 => ?_) (fun c_2 => ?_)
      · have hE := br_p hE c_2
        exact bX15_tryCastling_207 C hkm hW hZ _ (lv_sub hl [] rfl) hE
      · have hE := br_n hE c_2
        refine lv_iload C.1 C.2.1 dX15_tryCastling_60 (lv_at hl 6 rfl) ?_
        refine lv_aload_n C.1 C.2.1 dX15_tryCastling_62 rfl (lv_at hl 0 rfl) ?_
        refine gf_X15_382 C hW k_x0 dX15_tryCastling_63 ?_
        obtain ⟨g_3, hE⟩ := gd_e hE
        refine lv_idiv C.1 C.2.1 dX15_tryCastling_66 g_3 ?_
        refine lv_iload_n C.1 C.2.1 dX15_tryCastling_67 rfl (lv_at hl 2 rfl) ?_
        refine lv_aload_n C.1 C.2.1 dX15_tryCastling_68 rfl (lv_at hl 0 rfl) ?_
        refine gf_X15_382 C hW k_x0 dX15_tryCastling_69 ?_
        obtain ⟨g_4, hE⟩ := gd_e hE
        refine lv_idiv C.1 C.2.1 dX15_tryCastling_72 g_4 ?_
        refine lv_icmp_ne (tgt := 207) C.1 C.2.1 dX15_tryCastling_73 (by decide) (fun c_5 => ?_) (fun c_5 => ?_)
        · have hE := br_n hE c_5
          exact bX15_tryCastling_207 C hkm hW hZ _ (lv_sub hl [] rfl) hE
        · have hE := br_p hE c_5
          refine lv_aload_n C.1 C.2.1 dX15_tryCastling_76 rfl (lv_at hl 1 rfl) ?_
          refine gf_X15_436 C hW k_x1 dX15_tryCastling_77 ?_
          refine lv_iload C.1 C.2.1 dX15_tryCastling_80 (lv_at hl 6 rfl) ?_
          refine lv_lshr C.1 C.2.1 dX15_tryCastling_82 rfl ?_
          refine lv_lconst (v := (1 : Int64)) C.1 C.2.1 dX15_tryCastling_83 (by decide) ?_
          refine lv_land C.1 C.2.1 dX15_tryCastling_84 ?_
          refine lv_lconst (v := (1 : Int64)) C.1 C.2.1 dX15_tryCastling_85 (by decide) ?_
          refine W.lcmp C.1 C.2.1 dX15_tryCastling_86 ?_
          refine lv_if_ne (tgt := 197) C.1 C.2.1 dX15_tryCastling_87 (by decide) (fun c_6 => ?_) (fun c_6 => ?_)
          · have hE := br_n hE c_6
            exact bX15_tryCastling_197 C hk_46 k_x0 k_x1 k_x4 hkm hW hZ _ (lv_sub hl [0, 1, 2, 3, 4, 5, 6] rfl) hE
          · have hE := br_p hE c_6
            refine lv_aload_n C.1 C.2.1 dX15_tryCastling_90 rfl (lv_at hl 1 rfl) ?_
            obtain ⟨r_7, er_7, hE⟩ := cl_e hE
            refine gf_X15_396 C hW k_x1 er_7 dX15_tryCastling_91 (fun k_r_7 => ?_)
            refine lv_iload C.1 C.2.1 dX15_tryCastling_94 (lv_at hl 6 rfl) ?_
            obtain ⟨g_8, hE⟩ := gd_e hE
            refine y_iald C hW k_r_7 g_8 dX15_tryCastling_96 ?_
            refine lv_if_le (tgt := 197) C.1 C.2.1 dX15_tryCastling_97 (by decide) (fun c_9 => ?_) (fun c_9 => ?_)
            · have hE := br_p hE c_9
              exact bX15_tryCastling_197 C hk_46 k_x0 k_x1 k_x4 hkm hW hZ _ (lv_sub hl [0, 1, 2, 3, 4, 5, 6] rfl) hE
            · have hE := br_n hE c_9
              refine lv_aload_n C.1 C.2.1 dX15_tryCastling_100 rfl (lv_at hl 1 rfl) ?_
              obtain ⟨r_10, er_10, hE⟩ := cl_e hE
              refine gf_X15_396 C hW k_x1 er_10 dX15_tryCastling_101 (fun k_r_10 => ?_)
              refine lv_iload C.1 C.2.1 dX15_tryCastling_104 (lv_at hl 6 rfl) ?_
              obtain ⟨g_11, hE⟩ := gd_e hE
              refine y_iald C hW k_r_10 g_11 dX15_tryCastling_106 ?_
              obtain ⟨o_12, eo_12, hE⟩ := cl_e hE
              refine x_kI (o := o_12) (z_runS (As := [.int (hI h r_10 x6.toNatClampNeg)]) (rest := []) C (ct_X15_sideOf l X eo_12) cw_X15_489 hW hZ rfl hl.1 (Nat.le_of_ble_eq_true rfl) rfl dX15_tryCastling_107 ⟨Nat.le_of_ble_eq_true rfl, Nat.le_of_ble_eq_true rfl⟩ ⟨Nat.le_refl _, Nat.le_refl _⟩) hZ (fun _ _ hW km hZ => ?_)
              replace hkm := hkm.tr km
              replace k_x0 := km.at k_x0 (by decide)
              replace k_x1 := km.at k_x1 (by decide)
              replace k_x4 := km.at k_x4 (by decide)
              refine lv_aload_n C.1 C.2.1 dX15_tryCastling_110 rfl (lv_at hl 1 rfl) ?_
              refine gf_X15_452 C hW k_x1 dX15_tryCastling_111 ?_
              refine lv_icmp_ne (tgt := 197) C.1 C.2.1 dX15_tryCastling_114 (by decide) (fun c_13 => ?_) (fun c_13 => ?_)
              · have hE := br_n hE c_13
                exact bX15_tryCastling_197 C hk_46 k_x0 k_x1 k_x4 hkm hW hZ _ (lv_sub hl [0, 1, 2, 3, 4, 5, 6] rfl) hE
              · have hE := br_p hE c_13
                refine lv_aload_n C.1 C.2.1 dX15_tryCastling_117 rfl (lv_at hl 1 rfl) ?_
                refine lv_iload_n C.1 C.2.1 dX15_tryCastling_118 rfl (lv_at hl 2 rfl) ?_
                refine lv_iload C.1 C.2.1 dX15_tryCastling_119 (lv_at hl 6 rfl) ?_
                refine lv_iload C.1 C.2.1 dX15_tryCastling_121 (lv_at hl 5 rfl) ?_
                obtain ⟨o_14, eo_14, hE⟩ := cl_e hE
                refine x_kI (o := o_14) (z_runS (As := [.ref x1, .int x2, .int x6, .int x5]) (rest := []) C (ct_X15_isOpen l X F k_x1 eo_14) cw_X15_594 hW hZ rfl hl.1 (Nat.le_of_ble_eq_true rfl) rfl dX15_tryCastling_123 ⟨Nat.le_of_ble_eq_true rfl, Nat.le_of_ble_eq_true rfl⟩ ⟨Nat.le_refl _, Nat.le_refl _⟩) hZ (fun _ _ hW km hZ => ?_)
                replace hkm := hkm.tr km
                replace k_x0 := km.at k_x0 (by decide)
                replace k_x1 := km.at k_x1 (by decide)
                replace k_x4 := km.at k_x4 (by decide)
                refine lv_if_eq (tgt := 197) C.1 C.2.1 dX15_tryCastling_126 (by decide) (fun c_15 => ?_) (fun c_15 => ?_)
                · have hE := br_p hE c_15
                  exact bX15_tryCastling_197 C hk_46 k_x0 k_x1 k_x4 hkm hW hZ _ (lv_sub hl [0, 1, 2, 3, 4, 5, 6] rfl) hE
                · have hE := br_n hE c_15
                  refine lv_aload_n C.1 C.2.1 dX15_tryCastling_129 rfl (lv_at hl 0 rfl) ?_
                  refine lv_aload_n C.1 C.2.1 dX15_tryCastling_130 rfl (lv_at hl 1 rfl) ?_
                  refine lv_iload_n C.1 C.2.1 dX15_tryCastling_131 rfl (lv_at hl 2 rfl) ?_
                  refine lv_iconst (v := (1 : Int32)) C.1 C.2.1 dX15_tryCastling_132 (by decide) ?_
                  refine lv_aload_n C.1 C.2.1 dX15_tryCastling_133 rfl (lv_at hl 1 rfl) ?_
                  refine gf_X15_452 C hW k_x1 dX15_tryCastling_134 ?_
                  refine lv_isub C.1 C.2.1 dX15_tryCastling_137 ?_
                  obtain ⟨o_16, eo_16, hE⟩ := cl_e hE
                  refine x_kI (o := o_16) (z_runV (As := [.ref x1, .int x2, .int ((1 : Int32) - (hI o_14.2 x1 1))]) (rest := []) C (ct_X15_isAttacked l X F k_x0 k_x1 eo_16) cw_X15_512 hW hZ k_x0 (by decide) rfl rfl rfl hl.1 (Nat.le_of_ble_eq_true rfl) rfl dX15_tryCastling_138 ⟨Nat.le_of_ble_eq_true rfl, Nat.le_of_ble_eq_true rfl⟩ ⟨Nat.le_refl _, Nat.le_refl _⟩) hZ (fun _ _ hW km hZ => ?_)
                  replace hkm := hkm.tr km
                  replace k_x0 := km.at k_x0 (by decide)
                  replace k_x1 := km.at k_x1 (by decide)
                  replace k_x4 := km.at k_x4 (by decide)
                  refine lv_if_ne (tgt := 196) C.1 C.2.1 dX15_tryCastling_141 (by decide) (fun c_17 => ?_) (fun c_17 => ?_)
                  · have hE := br_n hE c_17
                    exact bX15_tryCastling_196 C hkm hW hZ _ (lv_sub hl [] rfl) hE
                  · have hE := br_p hE c_17
                    refine lv_aload_n C.1 C.2.1 dX15_tryCastling_144 rfl (lv_at hl 0 rfl) ?_
                    refine lv_aload_n C.1 C.2.1 dX15_tryCastling_145 rfl (lv_at hl 1 rfl) ?_
                    refine lv_iload_n C.1 C.2.1 dX15_tryCastling_146 rfl (lv_at hl 2 rfl) ?_
                    refine lv_iload C.1 C.2.1 dX15_tryCastling_147 (lv_at hl 5 rfl) ?_
                    refine lv_iadd C.1 C.2.1 dX15_tryCastling_149 ?_
                    refine lv_iconst (v := (1 : Int32)) C.1 C.2.1 dX15_tryCastling_150 (by decide) ?_
                    refine lv_aload_n C.1 C.2.1 dX15_tryCastling_151 rfl (lv_at hl 1 rfl) ?_
                    refine gf_X15_452 C hW k_x1 dX15_tryCastling_152 ?_
                    refine lv_isub C.1 C.2.1 dX15_tryCastling_155 ?_
                    obtain ⟨o_18, eo_18, hE⟩ := cl_e hE
                    refine x_kI (o := o_18) (z_runV (As := [.ref x1, .int (x2 + x5), .int ((1 : Int32) - (hI o_16.2 x1 1))]) (rest := []) C (ct_X15_isAttacked l X F k_x0 k_x1 eo_18) cw_X15_512 hW hZ k_x0 (by decide) rfl rfl rfl hl.1 (Nat.le_of_ble_eq_true rfl) rfl dX15_tryCastling_156 ⟨Nat.le_of_ble_eq_true rfl, Nat.le_of_ble_eq_true rfl⟩ ⟨Nat.le_refl _, Nat.le_refl _⟩) hZ (fun _ _ hW km hZ => ?_)
                    replace hkm := hkm.tr km
                    replace k_x0 := km.at k_x0 (by decide)
                    replace k_x1 := km.at k_x1 (by decide)
                    replace k_x4 := km.at k_x4 (by decide)
                    refine lv_if_ne (tgt := 196) C.1 C.2.1 dX15_tryCastling_159 (by decide) (fun c_19 => ?_) (fun c_19 => ?_)
                    · have hE := br_n hE c_19
                      exact bX15_tryCastling_196 C hkm hW hZ _ (lv_sub hl [] rfl) hE
                    · have hE := br_p hE c_19
                      refine lv_aload_n C.1 C.2.1 dX15_tryCastling_162 rfl (lv_at hl 0 rfl) ?_
                      refine lv_aload_n C.1 C.2.1 dX15_tryCastling_163 rfl (lv_at hl 1 rfl) ?_
                      refine lv_iload_n C.1 C.2.1 dX15_tryCastling_164 rfl (lv_at hl 3 rfl) ?_
                      refine lv_iconst (v := (1 : Int32)) C.1 C.2.1 dX15_tryCastling_165 (by decide) ?_
                      refine lv_aload_n C.1 C.2.1 dX15_tryCastling_166 rfl (lv_at hl 1 rfl) ?_
                      refine gf_X15_452 C hW k_x1 dX15_tryCastling_167 ?_
                      refine lv_isub C.1 C.2.1 dX15_tryCastling_170 ?_
                      obtain ⟨o_20, eo_20, hE⟩ := cl_e hE
                      refine x_kI (o := o_20) (z_runV (As := [.ref x1, .int x3, .int ((1 : Int32) - (hI o_18.2 x1 1))]) (rest := []) C (ct_X15_isAttacked l X F k_x0 k_x1 eo_20) cw_X15_512 hW hZ k_x0 (by decide) rfl rfl rfl hl.1 (Nat.le_of_ble_eq_true rfl) rfl dX15_tryCastling_171 ⟨Nat.le_of_ble_eq_true rfl, Nat.le_of_ble_eq_true rfl⟩ ⟨Nat.le_refl _, Nat.le_refl _⟩) hZ (fun _ _ hW km hZ => ?_)
                      replace hkm := hkm.tr km
                      replace k_x0 := km.at k_x0 (by decide)
                      replace k_x1 := km.at k_x1 (by decide)
                      replace k_x4 := km.at k_x4 (by decide)
                      refine lv_if_ne (tgt := 196) C.1 C.2.1 dX15_tryCastling_174 (by decide) (fun c_21 => ?_) (fun c_21 => ?_)
                      · have hE := br_n hE c_21
                        exact bX15_tryCastling_196 C hkm hW hZ _ (lv_sub hl [] rfl) hE
                      · have hE := br_p hE c_21
                        refine lv_aload C.1 C.2.1 dX15_tryCastling_177 (lv_at hl 4 rfl) ?_
                        refine lv_iload_n C.1 C.2.1 dX15_tryCastling_179 rfl (lv_at hl 2 rfl) ?_
                        refine lv_iload_n C.1 C.2.1 dX15_tryCastling_180 rfl (lv_at hl 3 rfl) ?_
                        refine lv_aload_n C.1 C.2.1 dX15_tryCastling_181 rfl (lv_at hl 0 rfl) ?_
                        obtain ⟨r_22, er_22, hE⟩ := cl_e hE
                        refine gf_X15_252 C hW k_x0 er_22 dX15_tryCastling_182 (fun k_r_22 => ?_)
                        refine gf_X15_221 C hW k_r_22 dX15_tryCastling_185 ?_
                        refine lv_iconst (v := (-1 : Int32)) C.1 C.2.1 dX15_tryCastling_188 (by decide) ?_
                        refine lv_iconst (v := (-1 : Int32)) C.1 C.2.1 dX15_tryCastling_189 (by decide) ?_
                        refine lv_iconst (v := (2 : Int32)) C.1 C.2.1 dX15_tryCastling_190 (by decide) ?_
                        refine lv_iload C.1 C.2.1 dX15_tryCastling_191 (lv_at hl 6 rfl) ?_
                        obtain ⟨o_23, eo_23, hE⟩ := cl_e hE
                        refine x_kV (o := o_23) (z_runV (As := [.int x2, .int x3, .int (hI o_20.2 r_22 10), .int (-1 : Int32), .int (-1 : Int32), .int (2 : Int32), .int x6]) (rest := []) C (ct_X13_add l X k_x4 eo_23) cw_X15_590 hW hZ k_x4 (by decide) rfl rfl rfl hl.1 (Nat.le_of_ble_eq_true rfl) rfl dX15_tryCastling_193 ⟨Nat.le_of_ble_eq_true rfl, Nat.le_of_ble_eq_true rfl⟩ ⟨Nat.le_refl _, Nat.le_refl _⟩) hZ (fun _ _ hW km hZ => ?_)
                        replace hkm := hkm.tr km
                        replace k_x0 := km.at k_x0 (by decide)
                        replace k_x1 := km.at k_x1 (by decide)
                        replace k_x4 := km.at k_x4 (by decide)
                        exact bX15_tryCastling_196 C hkm hW hZ _ (lv_sub hl [] rfl) hE
set_option maxRecDepth 20000 in
theorem bX15_tryCastling_36 {p : Program} {l : Launch} {e : Env} {s : State} {m : MethodId} {args : Array Value} {below : List Frame} {meth : Method} {c : Code} {X : Ec} {h0 : Hp} {o : Hp} {F : Nat} (C : Cx X p s m args meth c RX15 cX15_tryCastling 7 none "tryCastling") {h : Hp} {x0 : Nat} {x1 : Nat} {x2 : Int32} {x3 : Int32} {x4 : Nat} {t0 : Int32} {H : Heap} {locs : List Loc} (k_x0 : hK h x0 = 15) (k_x1 : hK h x1 = 12) (k_x4 : hK h x4 = 13) (hkm : Km h0 h) (hW : Wx X h H) (hZ : va_S (aA (eB X)) s.heap H locs) (ls : Array Slot) (hl : lv_has ls 7 [(0, .ref x0), (1, .ref x1), (2, .int x2), (3, .int x3), (4, .ref x4)]) (hE : sX15_tryCastling_36 F h x0 x1 x2 x3 x4 t0 = some o) : W p l e (rm 4 106) s m args below meth c H locs 0 0 (MQ below (QV X h0 o) args s 0 0 (aA (eB X))) (F0 m 36 ls [.int t0]) := by
  refine lv_istore (lv' := [(5, .int t0), (0, .ref x0), (1, .ref x1), (2, .int x2), (3, .int x3), (4, .ref x4)]) C.1 C.2.1 dX15_tryCastling_36 hl (by decide) rfl (fun ls hl => ?_)
  refine lv_iload_n C.1 C.2.1 dX15_tryCastling_38 rfl (lv_at hl 3 rfl) ?_
  refine lv_iconst (v := (3 : Int32)) C.1 C.2.1 dX15_tryCastling_39 (by decide) ?_
  refine lv_iload C.1 C.2.1 dX15_tryCastling_40 (lv_at hl 0 rfl) ?_
  refine lv_imul C.1 C.2.1 dX15_tryCastling_42 ?_
  refine lv_iadd C.1 C.2.1 dX15_tryCastling_43 ?_
  obtain ⟨v_1, ev_1, hE⟩ := nm_e2 hE
  refine x_nmI ev_1 ?_
  refine lv_istore (lv' := [(6, .int v_1), (5, .int t0), (0, .ref x0), (1, .ref x1), (2, .int x2), (3, .int x3), (4, .ref x4)]) C.1 C.2.1 dX15_tryCastling_44 hl (by decide) rfl (fun ls hl => ?_)
  exact bX15_tryCastling_46 C F k_x0 k_x1 k_x4 hkm hW hZ _ (lv_sub hl [2, 3, 4, 5, 6, 1, 0] rfl) hE
set_option maxRecDepth 20000 in
theorem ct_X15_tryCastling (l : Launch) (X : Ec) (F : Nat) {h : Hp} {x0 : Nat} {x1 : Nat} {x2 : Int32} {x3 : Int32} {x4 : Nat} {o : Hp} (k_x0 : hK h x0 = 15) (k_x1 : hK h x1 = 12) (k_x4 : hK h x4 = 13) (hE : sX15_tryCastling F h x0 x1 x2 x3 x4 = some o) : MetV l yX15_tryCastling cX15_tryCastling 7 none 4 106 X [.ref x0, .ref x1, .int x2, .int x3, .ref x4] h o := by
  refine x_met (by decide) (Nat.le_of_ble_eq_true rfl) ?_
  intro p e s m below meth c ls C hl hW hZ
  have hl : lv_has ls 7 [(0, .ref x0), (1, .ref x1), (2, .int x2), (3, .int x3), (4, .ref x4)] := hl
  have hkm : Km h h := Km.rf h
  refine lv_iload_n C.1 C.2.1 dX15_tryCastling_0 rfl (lv_at hl 3 rfl) ?_
  refine lv_aload_n C.1 C.2.1 dX15_tryCastling_1 rfl (lv_at hl 0 rfl) ?_
  refine gf_X15_382 C hW k_x0 dX15_tryCastling_2 ?_
  obtain ⟨g_1, hE⟩ := gd_e hE
  refine lv_idiv C.1 C.2.1 dX15_tryCastling_5 g_1 ?_
  refine lv_iload_n C.1 C.2.1 dX15_tryCastling_6 rfl (lv_at hl 2 rfl) ?_
  refine lv_aload_n C.1 C.2.1 dX15_tryCastling_7 rfl (lv_at hl 0 rfl) ?_
  refine gf_X15_382 C hW k_x0 dX15_tryCastling_8 ?_
  obtain ⟨g_2, hE⟩ := gd_e hE
  refine lv_idiv C.1 C.2.1 dX15_tryCastling_11 g_2 ?_
  refine lv_icmp_ne (tgt := 25) C.1 C.2.1 dX15_tryCastling_12 (by decide) (fun c_3 => ?_) (fun c_3 => ?_)
  · have hE := br_n hE c_3
    exact bX15_tryCastling_25 C hkm hW hZ _ (lv_sub hl [] rfl) hE
  · have hE := br_p hE c_3
    refine lv_iload_n C.1 C.2.1 dX15_tryCastling_15 rfl (lv_at hl 3 rfl) ?_
    refine lv_iload_n C.1 C.2.1 dX15_tryCastling_16 rfl (lv_at hl 2 rfl) ?_
    refine lv_isub C.1 C.2.1 dX15_tryCastling_17 ?_
    refine va_mabs C.1 C.2.1 (C.2.2.1.trans hl.1.symm) C.2.2.2.1 (C.2.2.2.2.1 _ m_2426) (C.2.2.2.2.1 _ m_1213) (C.2.2.2.2.1 _ m_3) (C.2.2.2.2.1 _ m_1214) (Nat.le_of_ble_eq_true rfl) (Nat.le_of_ble_eq_true rfl) (Nat.le_refl _) (Nat.le_refl _) dX15_tryCastling_18 ?_
    refine lv_iconst (v := (2 : Int32)) C.1 C.2.1 dX15_tryCastling_21 (by decide) ?_
    refine lv_icmp_eq (tgt := 26) C.1 C.2.1 dX15_tryCastling_22 (by decide) (fun c_4 => ?_) (fun c_4 => ?_)
    · have hE := br_p hE c_4
      refine lv_iload_n C.1 C.2.1 dX15_tryCastling_26 rfl (lv_at hl 3 rfl) ?_
      refine lv_iload_n C.1 C.2.1 dX15_tryCastling_27 rfl (lv_at hl 2 rfl) ?_
      refine lv_icmp_le (tgt := 35) C.1 C.2.1 dX15_tryCastling_28 (by decide) (fun c_5 => ?_) (fun c_5 => ?_)
      · have hE := br_p hE c_5
        refine lv_iconst (v := (-1 : Int32)) C.1 C.2.1 dX15_tryCastling_35 (by decide) ?_
        exact bX15_tryCastling_36 C k_x0 k_x1 k_x4 hkm hW hZ _ (lv_sub hl [0, 1, 2, 3, 4] rfl) hE
      · have hE := br_n hE c_5
        refine lv_iconst (v := (1 : Int32)) C.1 C.2.1 dX15_tryCastling_31 (by decide) ?_
        refine lv_goto (tgt := 36) C.1 C.2.1 dX15_tryCastling_32 (by decide) ?_
        exact bX15_tryCastling_36 C k_x0 k_x1 k_x4 hkm hW hZ _ (lv_sub hl [0, 1, 2, 3, 4] rfl) hE
    · have hE := br_n hE c_4
      exact bX15_tryCastling_25 C hkm hW hZ _ (lv_sub hl [] rfl) hE
set_option maxRecDepth 100000 in
theorem ms_178 : Cond.selects RX15 yX15_tryCastling yX15_tryCastling ∈ W0 := w0_in (List.mem_append_left _ (List.mem_of_getElem? (i := 178) rfl)) rfl
set_option maxRecDepth 100000 in
theorem ms_177 : Cond.selects RX15 yX15_trySteps yX15_trySteps ∈ W0 := w0_in (List.mem_append_left _ (List.mem_of_getElem? (i := 177) rfl)) rfl
set_option maxRecDepth 100000 in
theorem ms_174 : Cond.selects RX15 yX15_lead yX15_lead ∈ W0 := w0_in (List.mem_append_left _ (List.mem_of_getElem? (i := 174) rfl)) rfl
set_option maxRecDepth 100000 in
theorem n_1948 : Cond.fieldLinkNest RX15 575 (TX13 0).1 (TX13 0).2.1 (TX13 0).2.2.1 "GameRulesModel" ∈ tables_1 := List.mem_of_getElem? (i := 1948) rfl
set_option maxRecDepth 100000 in
theorem m_2532 : Cond.methodLink RX15 578 yX15_lead ∈ W0 := w0_in (List.mem_append_right _ (List.mem_of_getElem? (i := 2532) rfl)) rfl
set_option maxRecDepth 100000 in
theorem m_2534 : Cond.instanceMethod yX15_lead ∈ W0 := w0_in (List.mem_append_right _ (List.mem_of_getElem? (i := 2534) rfl)) rfl
set_option maxRecDepth 100000 in
theorem m_2535 : Cond.code yX15_lead cX15_lead 9 none ∈ W0 := w0_in (List.mem_append_right _ (List.mem_of_getElem? (i := 2535) rfl)) rfl
set_option maxRecDepth 100000 in
theorem m_2544 : Cond.methodLink RX15 582 yX15_trySteps ∈ W0 := w0_in (List.mem_append_right _ (List.mem_of_getElem? (i := 2544) rfl)) rfl
set_option maxRecDepth 100000 in
theorem m_2546 : Cond.instanceMethod yX15_trySteps ∈ W0 := w0_in (List.mem_append_right _ (List.mem_of_getElem? (i := 2546) rfl)) rfl
set_option maxRecDepth 100000 in
theorem m_2547 : Cond.code yX15_trySteps cX15_trySteps 10 none ∈ W0 := w0_in (List.mem_append_right _ (List.mem_of_getElem? (i := 2547) rfl)) rfl
set_option maxRecDepth 100000 in
theorem m_2552 : Cond.methodLink RX15 586 yX15_tryCastling ∈ W0 := w0_in (List.mem_append_right _ (List.mem_of_getElem? (i := 2552) rfl)) rfl
set_option maxRecDepth 100000 in
theorem m_2554 : Cond.instanceMethod yX15_tryCastling ∈ W0 := w0_in (List.mem_append_right _ (List.mem_of_getElem? (i := 2554) rfl)) rfl
set_option maxRecDepth 100000 in
theorem m_2555 : Cond.code yX15_tryCastling cX15_tryCastling 7 none ∈ W0 := w0_in (List.mem_append_right _ (List.mem_of_getElem? (i := 2555) rfl)) rfl
section
variable {p : Program} {l : Launch} {e : Env} {R : Room} {s : State} {m : MethodId} {args : Array Value} {below : List Frame} {meth : Method} {c : Code} {H : Heap} {locs : List Loc} {cells slots : Nat} {Q : State → Prop}
variable {cc : ByteArray} {pc : Nat} {ls : Array Slot} {rest : List Value} {X : Ec} {h h1 : Hp} {nL : Nat} {rt : Option FieldType} {mn : String}
theorem pf_X15_575 {a : Nat} {v : Int32} (C : Cx X p s m args meth c RX15 cc nL rt mn) (hW : Wx X h H) (hZ : va_S (aA (eB X)) s.heap H locs) (ha : hK h a = 13) (eh : h1 = wI h a 0 v) (hdg : decode cc pc = .ok (.putfield 575, 3)) (kk : ∀ (H1 : Heap) (locs1 : List Loc), Wx X h1 H1 → Km h h1 → va_S (aA (eB X)) s.heap H1 locs1 → W p l e R s m args below meth c H1 locs1 cells slots Q (F0 m (pc + 3) ls rest)) : W p l e R s m args below meth c H locs cells slots Q (F0 m pc ls (.int v :: .ref a :: rest)) :=
  y_putiN (ty := .int) C hW hZ ha i_X13 tyX13 tyX13_ok nmX13 (by decide) rfl rfl (by decide) n_1948 rfl (by decide +kernel) rfl rfl rfl eh hdg kk
end
theorem cw_X15_586 : cwd RX15 586 yX15_tryCastling cX15_tryCastling 7 none false 4 := ⟨m_2555, m_2552, m_19, ⟨m_2554, ms_178⟩, by decide, by decide, by decide +kernel⟩
theorem cw_X15_582 : cwd RX15 582 yX15_trySteps cX15_trySteps 10 none false 5 := ⟨m_2547, m_2544, m_19, ⟨m_2546, ms_177⟩, by decide, by decide, by decide +kernel⟩
theorem cw_X15_578 : cwd RX15 578 yX15_lead cX15_lead 9 none false 3 := ⟨m_2535, m_2532, m_19, ⟨m_2534, ms_174⟩, by decide, by decide, by decide +kernel⟩
theorem dX15_tryAll_0 : decode cX15_tryAll 0 = .ok (.aload_n 2, 1) := by decide +kernel
theorem dX15_tryAll_1 : decode cX15_tryAll 1 = .ok (.iconst 0, 1) := by decide +kernel
theorem dX15_tryAll_2 : decode cX15_tryAll 2 = .ok (.putfield 575, 3) := by decide +kernel
theorem dX15_tryAll_5 : decode cX15_tryAll 5 = .ok (.iconst 0, 1) := by decide +kernel
theorem dX15_tryAll_6 : decode cX15_tryAll 6 = .ok (.istore_n 3, 1) := by decide +kernel
theorem dX15_tryAll_7 : decode cX15_tryAll 7 = .ok (.iload_n 3, 1) := by decide +kernel
theorem dX15_tryAll_8 : decode cX15_tryAll 8 = .ok (.aload_n 0, 1) := by decide +kernel
theorem dX15_tryAll_9 : decode cX15_tryAll 9 = .ok (.getfield 384, 3) := by decide +kernel
theorem dX15_tryAll_12 : decode cX15_tryAll 12 = .ok (.if_icmp .ge 108, 3) := by decide +kernel
theorem dX15_tryAll_15 : decode cX15_tryAll 15 = .ok (.aload_n 1, 1) := by decide +kernel
theorem dX15_tryAll_16 : decode cX15_tryAll 16 = .ok (.getfield 396, 3) := by decide +kernel
theorem dX15_tryAll_19 : decode cX15_tryAll 19 = .ok (.iload_n 3, 1) := by decide +kernel
theorem dX15_tryAll_20 : decode cX15_tryAll 20 = .ok (.iaload, 1) := by decide +kernel
theorem dX15_tryAll_21 : decode cX15_tryAll 21 = .ok (.istore 4, 2) := by decide +kernel
theorem dX15_tryAll_23 : decode cX15_tryAll 23 = .ok (.iload 4, 2) := by decide +kernel
theorem dX15_tryAll_25 : decode cX15_tryAll 25 = .ok (.ifCond .le 89, 3) := by decide +kernel
theorem dX15_tryAll_28 : decode cX15_tryAll 28 = .ok (.iload 4, 2) := by decide +kernel
theorem dX15_tryAll_30 : decode cX15_tryAll 30 = .ok (.invokestatic 489, 3) := by decide +kernel
theorem dX15_tryAll_33 : decode cX15_tryAll 33 = .ok (.aload_n 1, 1) := by decide +kernel
theorem dX15_tryAll_34 : decode cX15_tryAll 34 = .ok (.getfield 452, 3) := by decide +kernel
theorem dX15_tryAll_37 : decode cX15_tryAll 37 = .ok (.if_icmp .ne 77, 3) := by decide +kernel
theorem dX15_tryAll_40 : decode cX15_tryAll 40 = .ok (.aload_n 0, 1) := by decide +kernel
theorem dX15_tryAll_41 : decode cX15_tryAll 41 = .ok (.aload_n 1, 1) := by decide +kernel
theorem dX15_tryAll_42 : decode cX15_tryAll 42 = .ok (.iload_n 3, 1) := by decide +kernel
theorem dX15_tryAll_43 : decode cX15_tryAll 43 = .ok (.iconst 1, 1) := by decide +kernel
theorem dX15_tryAll_44 : decode cX15_tryAll 44 = .ok (.invokevirtual 578, 3) := by decide +kernel
theorem dX15_tryAll_47 : decode cX15_tryAll 47 = .ok (.iconst 0, 1) := by decide +kernel
theorem dX15_tryAll_48 : decode cX15_tryAll 48 = .ok (.istore 5, 2) := by decide +kernel
theorem dX15_tryAll_50 : decode cX15_tryAll 50 = .ok (.iload 5, 2) := by decide +kernel
theorem dX15_tryAll_52 : decode cX15_tryAll 52 = .ok (.aload_n 0, 1) := by decide +kernel
theorem dX15_tryAll_53 : decode cX15_tryAll 53 = .ok (.getfield 384, 3) := by decide +kernel
theorem dX15_tryAll_56 : decode cX15_tryAll 56 = .ok (.if_icmp .ge 58, 3) := by decide +kernel
theorem dX15_tryAll_59 : decode cX15_tryAll 59 = .ok (.aload_n 0, 1) := by decide +kernel
theorem dX15_tryAll_60 : decode cX15_tryAll 60 = .ok (.getfield 272, 3) := by decide +kernel
theorem dX15_tryAll_63 : decode cX15_tryAll 63 = .ok (.iload 5, 2) := by decide +kernel
theorem dX15_tryAll_65 : decode cX15_tryAll 65 = .ok (.iaload, 1) := by decide +kernel
theorem dX15_tryAll_66 : decode cX15_tryAll 66 = .ok (.iconst (-1), 1) := by decide +kernel
theorem dX15_tryAll_67 : decode cX15_tryAll 67 = .ok (.if_icmp .eq 17, 3) := by decide +kernel
theorem dX15_tryAll_70 : decode cX15_tryAll 70 = .ok (.aload_n 0, 1) := by decide +kernel
theorem dX15_tryAll_71 : decode cX15_tryAll 71 = .ok (.aload_n 1, 1) := by decide +kernel
theorem dX15_tryAll_72 : decode cX15_tryAll 72 = .ok (.iload_n 3, 1) := by decide +kernel
theorem dX15_tryAll_73 : decode cX15_tryAll 73 = .ok (.iload 5, 2) := by decide +kernel
theorem dX15_tryAll_75 : decode cX15_tryAll 75 = .ok (.iload 4, 2) := by decide +kernel
theorem dX15_tryAll_77 : decode cX15_tryAll 77 = .ok (.invokestatic 492, 3) := by decide +kernel
theorem dX15_tryAll_80 : decode cX15_tryAll 80 = .ok (.aload_n 2, 1) := by decide +kernel
theorem dX15_tryAll_81 : decode cX15_tryAll 81 = .ok (.invokevirtual 582, 3) := by decide +kernel
theorem dX15_tryAll_84 : decode cX15_tryAll 84 = .ok (.iload 4, 2) := by decide +kernel
theorem dX15_tryAll_86 : decode cX15_tryAll 86 = .ok (.invokestatic 492, 3) := by decide +kernel
theorem dX15_tryAll_89 : decode cX15_tryAll 89 = .ok (.aload_n 0, 1) := by decide +kernel
theorem dX15_tryAll_90 : decode cX15_tryAll 90 = .ok (.getfield 252, 3) := by decide +kernel
theorem dX15_tryAll_93 : decode cX15_tryAll 93 = .ok (.getfield 221, 3) := by decide +kernel
theorem dX15_tryAll_96 : decode cX15_tryAll 96 = .ok (.if_icmp .ne 12, 3) := by decide +kernel
theorem dX15_tryAll_99 : decode cX15_tryAll 99 = .ok (.aload_n 0, 1) := by decide +kernel
theorem dX15_tryAll_100 : decode cX15_tryAll 100 = .ok (.aload_n 1, 1) := by decide +kernel
theorem dX15_tryAll_101 : decode cX15_tryAll 101 = .ok (.iload_n 3, 1) := by decide +kernel
theorem dX15_tryAll_102 : decode cX15_tryAll 102 = .ok (.iload 5, 2) := by decide +kernel
theorem dX15_tryAll_104 : decode cX15_tryAll 104 = .ok (.aload_n 2, 1) := by decide +kernel
theorem dX15_tryAll_105 : decode cX15_tryAll 105 = .ok (.invokevirtual 586, 3) := by decide +kernel
theorem dX15_tryAll_108 : decode cX15_tryAll 108 = .ok (.iinc 5 1, 3) := by decide +kernel
theorem dX15_tryAll_111 : decode cX15_tryAll 111 = .ok (.goto (-61), 3) := by decide +kernel
theorem dX15_tryAll_114 : decode cX15_tryAll 114 = .ok (.iinc 3 1, 3) := by decide +kernel
theorem dX15_tryAll_117 : decode cX15_tryAll 117 = .ok (.goto (-110), 3) := by decide +kernel
theorem dX15_tryAll_120 : decode cX15_tryAll 120 = .ok (.iconst 0, 1) := by decide +kernel
theorem dX15_tryAll_121 : decode cX15_tryAll 121 = .ok (.istore_n 3, 1) := by decide +kernel
theorem dX15_tryAll_122 : decode cX15_tryAll 122 = .ok (.iload_n 3, 1) := by decide +kernel
theorem dX15_tryAll_123 : decode cX15_tryAll 123 = .ok (.aload_n 0, 1) := by decide +kernel
theorem dX15_tryAll_124 : decode cX15_tryAll 124 = .ok (.getfield 384, 3) := by decide +kernel
theorem dX15_tryAll_127 : decode cX15_tryAll 127 = .ok (.if_icmp .ge 123, 3) := by decide +kernel
theorem dX15_tryAll_130 : decode cX15_tryAll 130 = .ok (.aload_n 0, 1) := by decide +kernel
theorem dX15_tryAll_131 : decode cX15_tryAll 131 = .ok (.getfield 252, 3) := by decide +kernel
theorem dX15_tryAll_134 : decode cX15_tryAll 134 = .ok (.getfield 126, 3) := by decide +kernel
theorem dX15_tryAll_137 : decode cX15_tryAll 137 = .ok (.ifCond .eq 113, 3) := by decide +kernel
theorem dX15_tryAll_140 : decode cX15_tryAll 140 = .ok (.iconst 0, 1) := by decide +kernel
theorem dX15_tryAll_141 : decode cX15_tryAll 141 = .ok (.istore 4, 2) := by decide +kernel
theorem dX15_tryAll_143 : decode cX15_tryAll 143 = .ok (.iload 4, 2) := by decide +kernel
theorem dX15_tryAll_145 : decode cX15_tryAll 145 = .ok (.aload_n 0, 1) := by decide +kernel
theorem dX15_tryAll_146 : decode cX15_tryAll 146 = .ok (.getfield 252, 3) := by decide +kernel
theorem dX15_tryAll_149 : decode cX15_tryAll 149 = .ok (.getfield 169, 3) := by decide +kernel
theorem dX15_tryAll_152 : decode cX15_tryAll 152 = .ok (.if_icmp .ge 92, 3) := by decide +kernel
theorem dX15_tryAll_155 : decode cX15_tryAll 155 = .ok (.aload_n 1, 1) := by decide +kernel
theorem dX15_tryAll_156 : decode cX15_tryAll 156 = .ok (.getfield 396, 3) := by decide +kernel
theorem dX15_tryAll_159 : decode cX15_tryAll 159 = .ok (.iload_n 3, 1) := by decide +kernel
theorem dX15_tryAll_160 : decode cX15_tryAll 160 = .ok (.iaload, 1) := by decide +kernel
theorem dX15_tryAll_161 : decode cX15_tryAll 161 = .ok (.ifCond .ne 83, 3) := by decide +kernel
theorem dX15_tryAll_164 : decode cX15_tryAll 164 = .ok (.aload_n 0, 1) := by decide +kernel
theorem dX15_tryAll_165 : decode cX15_tryAll 165 = .ok (.iload 4, 2) := by decide +kernel
theorem dX15_tryAll_167 : decode cX15_tryAll 167 = .ok (.invokevirtual 495, 3) := by decide +kernel
theorem dX15_tryAll_170 : decode cX15_tryAll 170 = .ok (.ifCond .eq 31, 3) := by decide +kernel
theorem dX15_tryAll_173 : decode cX15_tryAll 173 = .ok (.iload_n 3, 1) := by decide +kernel
theorem dX15_tryAll_174 : decode cX15_tryAll 174 = .ok (.aload_n 0, 1) := by decide +kernel
theorem dX15_tryAll_175 : decode cX15_tryAll 175 = .ok (.getfield 382, 3) := by decide +kernel
theorem dX15_tryAll_178 : decode cX15_tryAll 178 = .ok (.idiv, 1) := by decide +kernel
theorem dX15_tryAll_179 : decode cX15_tryAll 179 = .ok (.ifCond .eq 18, 3) := by decide +kernel
theorem dX15_tryAll_182 : decode cX15_tryAll 182 = .ok (.iload_n 3, 1) := by decide +kernel
theorem dX15_tryAll_183 : decode cX15_tryAll 183 = .ok (.aload_n 0, 1) := by decide +kernel
theorem dX15_tryAll_184 : decode cX15_tryAll 184 = .ok (.getfield 382, 3) := by decide +kernel
theorem dX15_tryAll_187 : decode cX15_tryAll 187 = .ok (.idiv, 1) := by decide +kernel
theorem dX15_tryAll_188 : decode cX15_tryAll 188 = .ok (.aload_n 0, 1) := by decide +kernel
theorem dX15_tryAll_189 : decode cX15_tryAll 189 = .ok (.getfield 383, 3) := by decide +kernel
theorem dX15_tryAll_192 : decode cX15_tryAll 192 = .ok (.iconst 1, 1) := by decide +kernel
theorem dX15_tryAll_193 : decode cX15_tryAll 193 = .ok (.isub, 1) := by decide +kernel
theorem dX15_tryAll_194 : decode cX15_tryAll 194 = .ok (.if_icmp .ne 7, 3) := by decide +kernel
theorem dX15_tryAll_197 : decode cX15_tryAll 197 = .ok (.iconst 1, 1) := by decide +kernel
theorem dX15_tryAll_198 : decode cX15_tryAll 198 = .ok (.goto 4, 3) := by decide +kernel
theorem dX15_tryAll_201 : decode cX15_tryAll 201 = .ok (.iconst 0, 1) := by decide +kernel
theorem dX15_tryAll_202 : decode cX15_tryAll 202 = .ok (.istore 5, 2) := by decide +kernel
theorem dX15_tryAll_204 : decode cX15_tryAll 204 = .ok (.aload_n 1, 1) := by decide +kernel
theorem dX15_tryAll_205 : decode cX15_tryAll 205 = .ok (.getfield 444, 3) := by decide +kernel
theorem dX15_tryAll_208 : decode cX15_tryAll 208 = .ok (.iconst 2, 1) := by decide +kernel
theorem dX15_tryAll_209 : decode cX15_tryAll 209 = .ok (.iload 4, 2) := by decide +kernel
theorem dX15_tryAll_211 : decode cX15_tryAll 211 = .ok (.imul, 1) := by decide +kernel
theorem dX15_tryAll_212 : decode cX15_tryAll 212 = .ok (.aload_n 1, 1) := by decide +kernel
theorem dX15_tryAll_213 : decode cX15_tryAll 213 = .ok (.getfield 452, 3) := by decide +kernel
theorem dX15_tryAll_216 : decode cX15_tryAll 216 = .ok (.iadd, 1) := by decide +kernel
theorem dX15_tryAll_217 : decode cX15_tryAll 217 = .ok (.iaload, 1) := by decide +kernel
theorem dX15_tryAll_218 : decode cX15_tryAll 218 = .ok (.ifCond .le 20, 3) := by decide +kernel
theorem dX15_tryAll_221 : decode cX15_tryAll 221 = .ok (.iload 5, 2) := by decide +kernel
theorem dX15_tryAll_223 : decode cX15_tryAll 223 = .ok (.ifCond .ne 15, 3) := by decide +kernel
theorem dX15_tryAll_226 : decode cX15_tryAll 226 = .ok (.aload_n 2, 1) := by decide +kernel
theorem dX15_tryAll_227 : decode cX15_tryAll 227 = .ok (.iconst (-1), 1) := by decide +kernel
theorem dX15_tryAll_228 : decode cX15_tryAll 228 = .ok (.iload_n 3, 1) := by decide +kernel
theorem dX15_tryAll_229 : decode cX15_tryAll 229 = .ok (.iload 4, 2) := by decide +kernel
theorem dX15_tryAll_231 : decode cX15_tryAll 231 = .ok (.iconst (-1), 1) := by decide +kernel
theorem dX15_tryAll_232 : decode cX15_tryAll 232 = .ok (.iconst (-1), 1) := by decide +kernel
theorem dX15_tryAll_233 : decode cX15_tryAll 233 = .ok (.iconst 3, 1) := by decide +kernel
theorem dX15_tryAll_234 : decode cX15_tryAll 234 = .ok (.iconst 0, 1) := by decide +kernel
theorem dX15_tryAll_235 : decode cX15_tryAll 235 = .ok (.invokevirtual 590, 3) := by decide +kernel
theorem dX15_tryAll_238 : decode cX15_tryAll 238 = .ok (.iinc 4 1, 3) := by decide +kernel
theorem dX15_tryAll_241 : decode cX15_tryAll 241 = .ok (.goto (-98), 3) := by decide +kernel
theorem dX15_tryAll_244 : decode cX15_tryAll 244 = .ok (.iinc 3 1, 3) := by decide +kernel
theorem dX15_tryAll_247 : decode cX15_tryAll 247 = .ok (.goto (-125), 3) := by decide +kernel
theorem dX15_tryAll_250 : decode cX15_tryAll 250 = .ok (.return_, 1) := by decide +kernel
def sX15_tryAll_250 (F : Nat) (h : Hp) : Option (Hp) := some h
def sX15_tryAll_244 (F : Nat) (k_122 : Hp → Nat → Nat → Nat → Int32 → Option (Hp)) (h : Hp) (x0 : Nat) (x1 : Nat) (x2 : Nat) (x3 : Int32) : Option (Hp) := nm (x3 + (1 : Int32)) fun v_1 => k_122 h x0 x1 x2 v_1
def sX15_tryAll_238 (F : Nat) (k_122 : Hp → Nat → Nat → Nat → Int32 → Option (Hp)) (k_143 : Hp → Nat → Nat → Nat → Int32 → Int32 → Option (Hp)) (h : Hp) (x0 : Nat) (x1 : Nat) (x2 : Nat) (x3 : Int32) (x4 : Int32) : Option (Hp) := nm (x4 + (1 : Int32)) fun v_1 => k_143 h x0 x1 x2 x3 v_1
def sX15_tryAll_202 (F : Nat) (k_122 : Hp → Nat → Nat → Nat → Int32 → Option (Hp)) (k_143 : Hp → Nat → Nat → Nat → Int32 → Int32 → Option (Hp)) (h : Hp) (x0 : Nat) (x1 : Nat) (x2 : Nat) (x3 : Int32) (x4 : Int32) (t0 : Int32) : Option (Hp) := cl (hR h x1 5) fun r_1 => gd (inB (((2 : Int32) * x4) + (hI h x1 1)) (hN h r_1)) <| br ((hI h r_1 (((2 : Int32) * x4) + (hI h x1 1)).toNatClampNeg) ≤ 0) (sX15_tryAll_238 F k_122 k_143 h x0 x1 x2 x3 x4) (br (t0 = 0) (cl (sX13_add h x2 (-1 : Int32) x3 x4 (-1 : Int32) (-1 : Int32) (3 : Int32) (0 : Int32)) fun o_5 => sX15_tryAll_238 F k_122 k_143 o_5 x0 x1 x2 x3 x4) (sX15_tryAll_238 F k_122 k_143 h x0 x1 x2 x3 x4))
def sX15_tryAll_201 (F : Nat) (k_122 : Hp → Nat → Nat → Nat → Int32 → Option (Hp)) (k_143 : Hp → Nat → Nat → Nat → Int32 → Int32 → Option (Hp)) (h : Hp) (x0 : Nat) (x1 : Nat) (x2 : Nat) (x3 : Int32) (x4 : Int32) : Option (Hp) := sX15_tryAll_202 F k_122 k_143 h x0 x1 x2 x3 x4 (0 : Int32)
def sX15_tryAll_197 (F : Nat) (k_122 : Hp → Nat → Nat → Nat → Int32 → Option (Hp)) (k_143 : Hp → Nat → Nat → Nat → Int32 → Int32 → Option (Hp)) (h : Hp) (x0 : Nat) (x1 : Nat) (x2 : Nat) (x3 : Int32) (x4 : Int32) : Option (Hp) := sX15_tryAll_202 F k_122 k_143 h x0 x1 x2 x3 x4 (1 : Int32)
def sX15_tryAll_143 (F : Nat) (k_122 : Hp → Nat → Nat → Nat → Int32 → Option (Hp)) : Nat → Hp → Nat → Nat → Nat → Int32 → Int32 → Option (Hp)
  | 0, _, _, _, _, _, _ => none
  | f + 1, h, x0, x1, x2, x3, x4 => cl (hR h x0 4) fun r_1 => br ((hI h r_1 2) ≤ x4) (sX15_tryAll_244 F k_122 h x0 x1 x2 x3) (cl (hR h x1 0) fun r_3 => gd (inB x3 (hN h r_3)) <| br ((hI h r_3 x3.toNatClampNeg) = 0) (cl (sX15_becomesOthers h x0 x4) fun o_6 => br (o_6.1 = 0) (sX15_tryAll_201 F k_122 (sX15_tryAll_143 F k_122 f) o_6.2 x0 x1 x2 x3 x4) (gd (¬ (hI o_6.2 x0 11) = 0) <| br ((x3 / (hI o_6.2 x0 11)) = 0) (sX15_tryAll_197 F k_122 (sX15_tryAll_143 F k_122 f) o_6.2 x0 x1 x2 x3 x4) (gd (¬ (hI o_6.2 x0 11) = 0) <| br ((x3 / (hI o_6.2 x0 11)) = ((hI o_6.2 x0 12) - (1 : Int32))) (sX15_tryAll_197 F k_122 (sX15_tryAll_143 F k_122 f) o_6.2 x0 x1 x2 x3 x4) (sX15_tryAll_201 F k_122 (sX15_tryAll_143 F k_122 f) o_6.2 x0 x1 x2 x3 x4)))) (sX15_tryAll_244 F k_122 h x0 x1 x2 x3))
def sX15_tryAll_122 (F : Nat) : Nat → Hp → Nat → Nat → Nat → Int32 → Option (Hp)
  | 0, _, _, _, _, _ => none
  | f + 1, h, x0, x1, x2, x3 => br ((hI h x0 13) ≤ x3) (sX15_tryAll_250 F h ) (cl (hR h x0 4) fun r_2 => br ((hI h r_2 15) = 0) (sX15_tryAll_250 F h ) (sX15_tryAll_143 F (sX15_tryAll_122 F f) F h x0 x1 x2 x3 (0 : Int32)))
def sX15_tryAll_114 (F : Nat) (k_7 : Hp → Nat → Nat → Nat → Int32 → Option (Hp)) (h : Hp) (x0 : Nat) (x1 : Nat) (x2 : Nat) (x3 : Int32) : Option (Hp) := nm (x3 + (1 : Int32)) fun v_1 => k_7 h x0 x1 x2 v_1
def sX15_tryAll_108 (F : Nat) (k_7 : Hp → Nat → Nat → Nat → Int32 → Option (Hp)) (k_50 : Hp → Nat → Nat → Nat → Int32 → Int32 → Int32 → Option (Hp)) (h : Hp) (x0 : Nat) (x1 : Nat) (x2 : Nat) (x3 : Int32) (x4 : Int32) (x5 : Int32) : Option (Hp) := nm (x5 + (1 : Int32)) fun v_1 => k_50 h x0 x1 x2 x3 x4 v_1
def sX15_tryAll_84 (F : Nat) (k_7 : Hp → Nat → Nat → Nat → Int32 → Option (Hp)) (k_50 : Hp → Nat → Nat → Nat → Int32 → Int32 → Int32 → Option (Hp)) (h : Hp) (x0 : Nat) (x1 : Nat) (x2 : Nat) (x3 : Int32) (x4 : Int32) (x5 : Int32) : Option (Hp) := cl (sX15_manOf h x4) fun o_1 => cl (hR o_1.2 x0 4) fun r_2 => br (o_1.1 = (hI o_1.2 r_2 10)) (cl (sX15_tryCastling F o_1.2 x0 x1 x3 x5 x2) fun o_4 => sX15_tryAll_108 F k_7 k_50 o_4 x0 x1 x2 x3 x4 x5) (sX15_tryAll_108 F k_7 k_50 o_1.2 x0 x1 x2 x3 x4 x5)
def sX15_tryAll_50 (F : Nat) (k_7 : Hp → Nat → Nat → Nat → Int32 → Option (Hp)) : Nat → Hp → Nat → Nat → Nat → Int32 → Int32 → Int32 → Option (Hp)
  | 0, _, _, _, _, _, _, _ => none
  | f + 1, h, x0, x1, x2, x3, x4, x5 => br ((hI h x0 13) ≤ x5) (sX15_tryAll_114 F k_7 h x0 x1 x2 x3) (cl (hR h x0 25) fun r_2 => gd (inB x5 (hN h r_2)) <| br ((hI h r_2 x5.toNatClampNeg) = (-1 : Int32)) (sX15_tryAll_84 F k_7 (sX15_tryAll_50 F k_7 f) h x0 x1 x2 x3 x4 x5) (cl (sX15_manOf h x4) fun o_5 => cl (sX15_trySteps F o_5.2 x0 x1 x3 x5 o_5.1 x2) fun o_6 => sX15_tryAll_84 F k_7 (sX15_tryAll_50 F k_7 f) o_6 x0 x1 x2 x3 x4 x5))
def sX15_tryAll_7 (F : Nat) : Nat → Hp → Nat → Nat → Nat → Int32 → Option (Hp)
  | 0, _, _, _, _, _ => none
  | f + 1, h, x0, x1, x2, x3 => br ((hI h x0 13) ≤ x3) (sX15_tryAll_122 F F h x0 x1 x2 (0 : Int32)) (cl (hR h x1 0) fun r_2 => gd (inB x3 (hN h r_2)) <| nm (hI h r_2 x3.toNatClampNeg) fun v_4 => br (v_4 ≤ 0) (sX15_tryAll_114 F (sX15_tryAll_7 F f) h x0 x1 x2 x3) (cl (sX15_sideOf h v_4) fun o_6 => br (o_6.1 = (hI o_6.2 x1 1)) (cl (sX15_lead F o_6.2 x0 x1 x3 (1 : Int32)) fun o_8 => sX15_tryAll_50 F (sX15_tryAll_7 F f) F o_8 x0 x1 x2 x3 v_4 (0 : Int32)) (sX15_tryAll_114 F (sX15_tryAll_7 F f) o_6.2 x0 x1 x2 x3)))
def sX15_tryAll (F : Nat) (h : Hp) (x0 : Nat) (x1 : Nat) (x2 : Nat) : Option (Hp) := nm (wI h x2 0 (0 : Int32)) fun h_1 => sX15_tryAll_7 F F h_1 x0 x1 x2 (0 : Int32)
set_option maxRecDepth 20000 in
theorem moX15_tryAll_250 {o : Hp} {F : Nat} {h : Hp} (hE : sX15_tryAll_250 F h  = some o) : Le h o := by
  exact le_some1 hE
set_option maxRecDepth 20000 in
theorem moX15_tryAll_244 {o : Hp} {k_122 : Hp → Nat → Nat → Nat → Int32 → Option (Hp)} {F : Nat} (mk_122 : ∀ (h : Hp) (x0 : Nat) (x1 : Nat) (x2 : Nat) (x3 : Int32), k_122 h x0 x1 x2 x3 = some o → Le h o) {h : Hp} {x0 : Nat} {x1 : Nat} {x2 : Nat} {x3 : Int32} (hE : sX15_tryAll_244 F k_122 h x0 x1 x2 x3 = some o) : Le h o := by
  obtain ⟨v_1, ev_1, hE⟩ := nm_e2 hE
  exact mk_122 _ _ _ _ _ hE
set_option maxRecDepth 20000 in
theorem moX15_tryAll_238 {o : Hp} {k_122 : Hp → Nat → Nat → Nat → Int32 → Option (Hp)} {k_143 : Hp → Nat → Nat → Nat → Int32 → Int32 → Option (Hp)} {F : Nat} (mk_122 : ∀ (h : Hp) (x0 : Nat) (x1 : Nat) (x2 : Nat) (x3 : Int32), k_122 h x0 x1 x2 x3 = some o → Le h o) (mk_143 : ∀ (h : Hp) (x0 : Nat) (x1 : Nat) (x2 : Nat) (x3 : Int32) (x4 : Int32), k_143 h x0 x1 x2 x3 x4 = some o → Le h o) {h : Hp} {x0 : Nat} {x1 : Nat} {x2 : Nat} {x3 : Int32} {x4 : Int32} (hE : sX15_tryAll_238 F k_122 k_143 h x0 x1 x2 x3 x4 = some o) : Le h o := by
  obtain ⟨v_1, ev_1, hE⟩ := nm_e2 hE
  exact mk_143 _ _ _ _ _ _ hE
set_option maxRecDepth 20000 in
theorem moX15_tryAll_202 {o : Hp} {k_122 : Hp → Nat → Nat → Nat → Int32 → Option (Hp)} {k_143 : Hp → Nat → Nat → Nat → Int32 → Int32 → Option (Hp)} {F : Nat} (mk_122 : ∀ (h : Hp) (x0 : Nat) (x1 : Nat) (x2 : Nat) (x3 : Int32), k_122 h x0 x1 x2 x3 = some o → Le h o) (mk_143 : ∀ (h : Hp) (x0 : Nat) (x1 : Nat) (x2 : Nat) (x3 : Int32) (x4 : Int32), k_143 h x0 x1 x2 x3 x4 = some o → Le h o) {h : Hp} {x0 : Nat} {x1 : Nat} {x2 : Nat} {x3 : Int32} {x4 : Int32} {t0 : Int32} (hE : sX15_tryAll_202 F k_122 k_143 h x0 x1 x2 x3 x4 t0 = some o) : Le h o := by
  obtain ⟨r_1, er_1, hE⟩ := cl_e hE
  obtain ⟨g_2, hE⟩ := gd_e hE
  rcases br_e hE with ⟨_, hE⟩ | ⟨_, hE⟩
  · exact moX15_tryAll_238 mk_122 mk_143 hE
  · rcases br_e hE with ⟨_, hE⟩ | ⟨_, hE⟩
    · obtain ⟨o_5, eo_5, hE⟩ := cl_e hE
      refine (moX13_add eo_5).tr ?_
      exact moX15_tryAll_238 mk_122 mk_143 hE
    · exact moX15_tryAll_238 mk_122 mk_143 hE
set_option maxRecDepth 20000 in
theorem moX15_tryAll_201 {o : Hp} {k_122 : Hp → Nat → Nat → Nat → Int32 → Option (Hp)} {k_143 : Hp → Nat → Nat → Nat → Int32 → Int32 → Option (Hp)} {F : Nat} (mk_122 : ∀ (h : Hp) (x0 : Nat) (x1 : Nat) (x2 : Nat) (x3 : Int32), k_122 h x0 x1 x2 x3 = some o → Le h o) (mk_143 : ∀ (h : Hp) (x0 : Nat) (x1 : Nat) (x2 : Nat) (x3 : Int32) (x4 : Int32), k_143 h x0 x1 x2 x3 x4 = some o → Le h o) {h : Hp} {x0 : Nat} {x1 : Nat} {x2 : Nat} {x3 : Int32} {x4 : Int32} (hE : sX15_tryAll_201 F k_122 k_143 h x0 x1 x2 x3 x4 = some o) : Le h o := by
  exact moX15_tryAll_202 mk_122 mk_143 hE
set_option maxRecDepth 20000 in
theorem moX15_tryAll_197 {o : Hp} {k_122 : Hp → Nat → Nat → Nat → Int32 → Option (Hp)} {k_143 : Hp → Nat → Nat → Nat → Int32 → Int32 → Option (Hp)} {F : Nat} (mk_122 : ∀ (h : Hp) (x0 : Nat) (x1 : Nat) (x2 : Nat) (x3 : Int32), k_122 h x0 x1 x2 x3 = some o → Le h o) (mk_143 : ∀ (h : Hp) (x0 : Nat) (x1 : Nat) (x2 : Nat) (x3 : Int32) (x4 : Int32), k_143 h x0 x1 x2 x3 x4 = some o → Le h o) {h : Hp} {x0 : Nat} {x1 : Nat} {x2 : Nat} {x3 : Int32} {x4 : Int32} (hE : sX15_tryAll_197 F k_122 k_143 h x0 x1 x2 x3 x4 = some o) : Le h o := by
  exact moX15_tryAll_202 mk_122 mk_143 hE
set_option maxRecDepth 20000 in
theorem moX15_tryAll_143 {o : Hp} {k_122 : Hp → Nat → Nat → Nat → Int32 → Option (Hp)} {F : Nat} (mk_122 : ∀ (h : Hp) (x0 : Nat) (x1 : Nat) (x2 : Nat) (x3 : Int32), k_122 h x0 x1 x2 x3 = some o → Le h o) : ∀ (f : Nat) {h : Hp} {x0 : Nat} {x1 : Nat} {x2 : Nat} {x3 : Int32} {x4 : Int32}, sX15_tryAll_143 F k_122 f h x0 x1 x2 x3 x4 = some o → Le h o := by
  intro f
  induction f with
  | zero =>
    intro h x0 x1 x2 x3 x4 hE
    rw [sX15_tryAll_143] at hE
    cases hE
  | succ f ih =>
    intro h x0 x1 x2 x3 x4 hE
    rw [sX15_tryAll_143] at hE
    have mk_143 : ∀ (h : Hp) (x0 : Nat) (x1 : Nat) (x2 : Nat) (x3 : Int32) (x4 : Int32), sX15_tryAll_143 F k_122 f h x0 x1 x2 x3 x4 = some o → Le h o := fun h x0 x1 x2 x3 x4 hE => ih hE
    obtain ⟨r_1, er_1, hE⟩ := cl_e hE
    rcases br_e hE with ⟨_, hE⟩ | ⟨_, hE⟩
    · exact moX15_tryAll_244 mk_122 hE
    · obtain ⟨r_3, er_3, hE⟩ := cl_e hE
      obtain ⟨g_4, hE⟩ := gd_e hE
      rcases br_e hE with ⟨_, hE⟩ | ⟨_, hE⟩
      · obtain ⟨o_6, eo_6, hE⟩ := cl_e hE
        refine (moX15_becomesOthers eo_6).tr ?_
        rcases br_e hE with ⟨_, hE⟩ | ⟨_, hE⟩
        · exact moX15_tryAll_201 mk_122 mk_143 hE
        · obtain ⟨g_8, hE⟩ := gd_e hE
          rcases br_e hE with ⟨_, hE⟩ | ⟨_, hE⟩
          · exact moX15_tryAll_197 mk_122 mk_143 hE
          · obtain ⟨g_10, hE⟩ := gd_e hE
            rcases br_e hE with ⟨_, hE⟩ | ⟨_, hE⟩
            · exact moX15_tryAll_197 mk_122 mk_143 hE
            · exact moX15_tryAll_201 mk_122 mk_143 hE
      · exact moX15_tryAll_244 mk_122 hE
set_option maxRecDepth 20000 in
theorem moX15_tryAll_122 {o : Hp} {F : Nat} : ∀ (f : Nat) {h : Hp} {x0 : Nat} {x1 : Nat} {x2 : Nat} {x3 : Int32}, sX15_tryAll_122 F f h x0 x1 x2 x3 = some o → Le h o := by
  intro f
  induction f with
  | zero =>
    intro h x0 x1 x2 x3 hE
    rw [sX15_tryAll_122] at hE
    cases hE
  | succ f ih =>
    intro h x0 x1 x2 x3 hE
    rw [sX15_tryAll_122] at hE
    have mk_122 : ∀ (h : Hp) (x0 : Nat) (x1 : Nat) (x2 : Nat) (x3 : Int32), sX15_tryAll_122 F f h x0 x1 x2 x3 = some o → Le h o := fun h x0 x1 x2 x3 hE => ih hE
    rcases br_e hE with ⟨_, hE⟩ | ⟨_, hE⟩
    · exact moX15_tryAll_250 hE
    · obtain ⟨r_2, er_2, hE⟩ := cl_e hE
      rcases br_e hE with ⟨_, hE⟩ | ⟨_, hE⟩
      · exact moX15_tryAll_250 hE
      · exact moX15_tryAll_143 mk_122 _ hE
set_option maxRecDepth 20000 in
theorem moX15_tryAll_114 {o : Hp} {k_7 : Hp → Nat → Nat → Nat → Int32 → Option (Hp)} {F : Nat} (mk_7 : ∀ (h : Hp) (x0 : Nat) (x1 : Nat) (x2 : Nat) (x3 : Int32), k_7 h x0 x1 x2 x3 = some o → Le h o) {h : Hp} {x0 : Nat} {x1 : Nat} {x2 : Nat} {x3 : Int32} (hE : sX15_tryAll_114 F k_7 h x0 x1 x2 x3 = some o) : Le h o := by
  obtain ⟨v_1, ev_1, hE⟩ := nm_e2 hE
  exact mk_7 _ _ _ _ _ hE
set_option maxRecDepth 20000 in
theorem moX15_tryAll_108 {o : Hp} {k_7 : Hp → Nat → Nat → Nat → Int32 → Option (Hp)} {k_50 : Hp → Nat → Nat → Nat → Int32 → Int32 → Int32 → Option (Hp)} {F : Nat} (mk_7 : ∀ (h : Hp) (x0 : Nat) (x1 : Nat) (x2 : Nat) (x3 : Int32), k_7 h x0 x1 x2 x3 = some o → Le h o) (mk_50 : ∀ (h : Hp) (x0 : Nat) (x1 : Nat) (x2 : Nat) (x3 : Int32) (x4 : Int32) (x5 : Int32), k_50 h x0 x1 x2 x3 x4 x5 = some o → Le h o) {h : Hp} {x0 : Nat} {x1 : Nat} {x2 : Nat} {x3 : Int32} {x4 : Int32} {x5 : Int32} (hE : sX15_tryAll_108 F k_7 k_50 h x0 x1 x2 x3 x4 x5 = some o) : Le h o := by
  obtain ⟨v_1, ev_1, hE⟩ := nm_e2 hE
  exact mk_50 _ _ _ _ _ _ _ hE
set_option maxRecDepth 20000 in
theorem moX15_tryAll_84 {o : Hp} {k_7 : Hp → Nat → Nat → Nat → Int32 → Option (Hp)} {k_50 : Hp → Nat → Nat → Nat → Int32 → Int32 → Int32 → Option (Hp)} {F : Nat} (mk_7 : ∀ (h : Hp) (x0 : Nat) (x1 : Nat) (x2 : Nat) (x3 : Int32), k_7 h x0 x1 x2 x3 = some o → Le h o) (mk_50 : ∀ (h : Hp) (x0 : Nat) (x1 : Nat) (x2 : Nat) (x3 : Int32) (x4 : Int32) (x5 : Int32), k_50 h x0 x1 x2 x3 x4 x5 = some o → Le h o) {h : Hp} {x0 : Nat} {x1 : Nat} {x2 : Nat} {x3 : Int32} {x4 : Int32} {x5 : Int32} (hE : sX15_tryAll_84 F k_7 k_50 h x0 x1 x2 x3 x4 x5 = some o) : Le h o := by
  obtain ⟨o_1, eo_1, hE⟩ := cl_e hE
  refine (moX15_manOf eo_1).tr ?_
  obtain ⟨r_2, er_2, hE⟩ := cl_e hE
  rcases br_e hE with ⟨_, hE⟩ | ⟨_, hE⟩
  · obtain ⟨o_4, eo_4, hE⟩ := cl_e hE
    refine (moX15_tryCastling eo_4).tr ?_
    exact moX15_tryAll_108 mk_7 mk_50 hE
  · exact moX15_tryAll_108 mk_7 mk_50 hE
set_option maxRecDepth 20000 in
theorem moX15_tryAll_50 {o : Hp} {k_7 : Hp → Nat → Nat → Nat → Int32 → Option (Hp)} {F : Nat} (mk_7 : ∀ (h : Hp) (x0 : Nat) (x1 : Nat) (x2 : Nat) (x3 : Int32), k_7 h x0 x1 x2 x3 = some o → Le h o) : ∀ (f : Nat) {h : Hp} {x0 : Nat} {x1 : Nat} {x2 : Nat} {x3 : Int32} {x4 : Int32} {x5 : Int32}, sX15_tryAll_50 F k_7 f h x0 x1 x2 x3 x4 x5 = some o → Le h o := by
  intro f
  induction f with
  | zero =>
    intro h x0 x1 x2 x3 x4 x5 hE
    rw [sX15_tryAll_50] at hE
    cases hE
  | succ f ih =>
    intro h x0 x1 x2 x3 x4 x5 hE
    rw [sX15_tryAll_50] at hE
    have mk_50 : ∀ (h : Hp) (x0 : Nat) (x1 : Nat) (x2 : Nat) (x3 : Int32) (x4 : Int32) (x5 : Int32), sX15_tryAll_50 F k_7 f h x0 x1 x2 x3 x4 x5 = some o → Le h o := fun h x0 x1 x2 x3 x4 x5 hE => ih hE
    rcases br_e hE with ⟨_, hE⟩ | ⟨_, hE⟩
    · exact moX15_tryAll_114 mk_7 hE
    · obtain ⟨r_2, er_2, hE⟩ := cl_e hE
      obtain ⟨g_3, hE⟩ := gd_e hE
      rcases br_e hE with ⟨_, hE⟩ | ⟨_, hE⟩
      · exact moX15_tryAll_84 mk_7 mk_50 hE
      · obtain ⟨o_5, eo_5, hE⟩ := cl_e hE
        refine (moX15_manOf eo_5).tr ?_
        obtain ⟨o_6, eo_6, hE⟩ := cl_e hE
        refine (moX15_trySteps eo_6).tr ?_
        exact moX15_tryAll_84 mk_7 mk_50 hE
set_option maxRecDepth 20000 in
theorem moX15_tryAll_7 {o : Hp} {F : Nat} : ∀ (f : Nat) {h : Hp} {x0 : Nat} {x1 : Nat} {x2 : Nat} {x3 : Int32}, sX15_tryAll_7 F f h x0 x1 x2 x3 = some o → Le h o := by
  intro f
  induction f with
  | zero =>
    intro h x0 x1 x2 x3 hE
    rw [sX15_tryAll_7] at hE
    cases hE
  | succ f ih =>
    intro h x0 x1 x2 x3 hE
    rw [sX15_tryAll_7] at hE
    have mk_7 : ∀ (h : Hp) (x0 : Nat) (x1 : Nat) (x2 : Nat) (x3 : Int32), sX15_tryAll_7 F f h x0 x1 x2 x3 = some o → Le h o := fun h x0 x1 x2 x3 hE => ih hE
    rcases br_e hE with ⟨_, hE⟩ | ⟨_, hE⟩
    · exact moX15_tryAll_122 _ hE
    · obtain ⟨r_2, er_2, hE⟩ := cl_e hE
      obtain ⟨g_3, hE⟩ := gd_e hE
      obtain ⟨v_4, ev_4, hE⟩ := nm_e2 hE
      rcases br_e hE with ⟨_, hE⟩ | ⟨_, hE⟩
      · exact moX15_tryAll_114 mk_7 hE
      · obtain ⟨o_6, eo_6, hE⟩ := cl_e hE
        refine (moX15_sideOf eo_6).tr ?_
        rcases br_e hE with ⟨_, hE⟩ | ⟨_, hE⟩
        · obtain ⟨o_8, eo_8, hE⟩ := cl_e hE
          refine (moX15_lead eo_8).tr ?_
          exact moX15_tryAll_50 mk_7 _ hE
        · exact moX15_tryAll_114 mk_7 hE
set_option maxRecDepth 20000 in
theorem moX15_tryAll {o : Hp} {F : Nat} {h : Hp} {x0 : Nat} {x1 : Nat} {x2 : Nat} (hE : sX15_tryAll F h x0 x1 x2 = some o) : Le h o := by
  obtain ⟨h_1, eh_1, hE⟩ := nm_e2 hE
  refine (le_I eh_1).tr ?_
  exact moX15_tryAll_7 _ hE
set_option maxRecDepth 20000 in
theorem bX15_tryAll_250 {p : Program} {l : Launch} {e : Env} {s : State} {m : MethodId} {args : Array Value} {below : List Frame} {meth : Method} {c : Code} {X : Ec} {h0 : Hp} {o : Hp} {F : Nat} (C : Cx X p s m args meth c RX15 cX15_tryAll 6 none "tryAll") {h : Hp} {H : Heap} {locs : List Loc} (hkm : Km h0 h) (hW : Wx X h H) (hZ : va_S (aA (eB X)) s.heap H locs) (ls : Array Slot) (hl : lv_has ls 6 []) (hE : sX15_tryAll_250 F h  = some o) : W p l e (rm 5 132) s m args below meth c H locs 0 0 (MQ below (QV X h0 o) args s 0 0 (aA (eB X))) (F0 m 250 ls []) := by
  exact x_vret C rfl hW hZ hkm hE dX15_tryAll_250
set_option maxRecDepth 20000 in
theorem bX15_tryAll_244 {p : Program} {l : Launch} {e : Env} {s : State} {m : MethodId} {args : Array Value} {below : List Frame} {meth : Method} {c : Code} {X : Ec} {h0 : Hp} {o : Hp} {k_122 : Hp → Nat → Nat → Nat → Int32 → Option (Hp)} {F : Nat} (C : Cx X p s m args meth c RX15 cX15_tryAll 6 none "tryAll") (hk_122 : ∀ (h : Hp) (x0 : Nat) (x1 : Nat) (x2 : Nat) (x3 : Int32) (H : Heap) (locs : List Loc), hK h x0 = 15 → hK h x1 = 12 → hK h x2 = 13 → Km h0 h → Wx X h H → va_S (aA (eB X)) s.heap H locs → ∀ (ls : Array Slot), lv_has ls 6 [(0, .ref x0), (1, .ref x1), (2, .ref x2), (3, .int x3)] → k_122 h x0 x1 x2 x3 = some o → W p l e (rm 5 132) s m args below meth c H locs 0 0 (MQ below (QV X h0 o) args s 0 0 (aA (eB X))) (F0 m 122 ls [])) {h : Hp} {x0 : Nat} {x1 : Nat} {x2 : Nat} {x3 : Int32} {H : Heap} {locs : List Loc} (k_x0 : hK h x0 = 15) (k_x1 : hK h x1 = 12) (k_x2 : hK h x2 = 13) (hkm : Km h0 h) (hW : Wx X h H) (hZ : va_S (aA (eB X)) s.heap H locs) (ls : Array Slot) (hl : lv_has ls 6 [(0, .ref x0), (1, .ref x1), (2, .ref x2), (3, .int x3)]) (hE : sX15_tryAll_244 F k_122 h x0 x1 x2 x3 = some o) : W p l e (rm 5 132) s m args below meth c H locs 0 0 (MQ below (QV X h0 o) args s 0 0 (aA (eB X))) (F0 m 244 ls []) := by
  obtain ⟨v_1, ev_1, hE⟩ := nm_e2 hE
  refine lv_iinc (v := v_1) (lv' := [(3, .int v_1), (0, .ref x0), (1, .ref x1), (2, .ref x2)]) C.1 C.2.1 dX15_tryAll_244 hl (k := 3) rfl (by rw [ev_1]; rfl) (by decide) rfl (fun ls hl => ?_)
  refine lv_goto (tgt := 122) C.1 C.2.1 dX15_tryAll_247 (by decide) ?_
  exact hk_122 _ _ _ _ _ _ _ k_x0 k_x1 k_x2 hkm hW hZ _ (lv_sub hl [1, 2, 3, 0] rfl) hE
set_option maxRecDepth 20000 in
theorem bX15_tryAll_238 {p : Program} {l : Launch} {e : Env} {s : State} {m : MethodId} {args : Array Value} {below : List Frame} {meth : Method} {c : Code} {X : Ec} {h0 : Hp} {o : Hp} {k_122 : Hp → Nat → Nat → Nat → Int32 → Option (Hp)} {k_143 : Hp → Nat → Nat → Nat → Int32 → Int32 → Option (Hp)} {F : Nat} (C : Cx X p s m args meth c RX15 cX15_tryAll 6 none "tryAll") (hk_122 : ∀ (h : Hp) (x0 : Nat) (x1 : Nat) (x2 : Nat) (x3 : Int32) (H : Heap) (locs : List Loc), hK h x0 = 15 → hK h x1 = 12 → hK h x2 = 13 → Km h0 h → Wx X h H → va_S (aA (eB X)) s.heap H locs → ∀ (ls : Array Slot), lv_has ls 6 [(0, .ref x0), (1, .ref x1), (2, .ref x2), (3, .int x3)] → k_122 h x0 x1 x2 x3 = some o → W p l e (rm 5 132) s m args below meth c H locs 0 0 (MQ below (QV X h0 o) args s 0 0 (aA (eB X))) (F0 m 122 ls [])) (hk_143 : ∀ (h : Hp) (x0 : Nat) (x1 : Nat) (x2 : Nat) (x3 : Int32) (x4 : Int32) (H : Heap) (locs : List Loc), hK h x0 = 15 → hK h x1 = 12 → hK h x2 = 13 → Km h0 h → Wx X h H → va_S (aA (eB X)) s.heap H locs → ∀ (ls : Array Slot), lv_has ls 6 [(0, .ref x0), (1, .ref x1), (2, .ref x2), (3, .int x3), (4, .int x4)] → k_143 h x0 x1 x2 x3 x4 = some o → W p l e (rm 5 132) s m args below meth c H locs 0 0 (MQ below (QV X h0 o) args s 0 0 (aA (eB X))) (F0 m 143 ls [])) {h : Hp} {x0 : Nat} {x1 : Nat} {x2 : Nat} {x3 : Int32} {x4 : Int32} {H : Heap} {locs : List Loc} (k_x0 : hK h x0 = 15) (k_x1 : hK h x1 = 12) (k_x2 : hK h x2 = 13) (hkm : Km h0 h) (hW : Wx X h H) (hZ : va_S (aA (eB X)) s.heap H locs) (ls : Array Slot) (hl : lv_has ls 6 [(0, .ref x0), (1, .ref x1), (2, .ref x2), (3, .int x3), (4, .int x4)]) (hE : sX15_tryAll_238 F k_122 k_143 h x0 x1 x2 x3 x4 = some o) : W p l e (rm 5 132) s m args below meth c H locs 0 0 (MQ below (QV X h0 o) args s 0 0 (aA (eB X))) (F0 m 238 ls []) := by
  obtain ⟨v_1, ev_1, hE⟩ := nm_e2 hE
  refine lv_iinc (v := v_1) (lv' := [(4, .int v_1), (0, .ref x0), (1, .ref x1), (2, .ref x2), (3, .int x3)]) C.1 C.2.1 dX15_tryAll_238 hl (k := 4) rfl (by rw [ev_1]; rfl) (by decide) rfl (fun ls hl => ?_)
  refine lv_goto (tgt := 143) C.1 C.2.1 dX15_tryAll_241 (by decide) ?_
  exact hk_143 _ _ _ _ _ _ _ _ k_x0 k_x1 k_x2 hkm hW hZ _ (lv_sub hl [1, 2, 3, 4, 0] rfl) hE
set_option maxRecDepth 20000 in
theorem bX15_tryAll_202 {p : Program} {l : Launch} {e : Env} {s : State} {m : MethodId} {args : Array Value} {below : List Frame} {meth : Method} {c : Code} {X : Ec} {h0 : Hp} {o : Hp} {k_122 : Hp → Nat → Nat → Nat → Int32 → Option (Hp)} {k_143 : Hp → Nat → Nat → Nat → Int32 → Int32 → Option (Hp)} {F : Nat} (C : Cx X p s m args meth c RX15 cX15_tryAll 6 none "tryAll") (hk_122 : ∀ (h : Hp) (x0 : Nat) (x1 : Nat) (x2 : Nat) (x3 : Int32) (H : Heap) (locs : List Loc), hK h x0 = 15 → hK h x1 = 12 → hK h x2 = 13 → Km h0 h → Wx X h H → va_S (aA (eB X)) s.heap H locs → ∀ (ls : Array Slot), lv_has ls 6 [(0, .ref x0), (1, .ref x1), (2, .ref x2), (3, .int x3)] → k_122 h x0 x1 x2 x3 = some o → W p l e (rm 5 132) s m args below meth c H locs 0 0 (MQ below (QV X h0 o) args s 0 0 (aA (eB X))) (F0 m 122 ls [])) (hk_143 : ∀ (h : Hp) (x0 : Nat) (x1 : Nat) (x2 : Nat) (x3 : Int32) (x4 : Int32) (H : Heap) (locs : List Loc), hK h x0 = 15 → hK h x1 = 12 → hK h x2 = 13 → Km h0 h → Wx X h H → va_S (aA (eB X)) s.heap H locs → ∀ (ls : Array Slot), lv_has ls 6 [(0, .ref x0), (1, .ref x1), (2, .ref x2), (3, .int x3), (4, .int x4)] → k_143 h x0 x1 x2 x3 x4 = some o → W p l e (rm 5 132) s m args below meth c H locs 0 0 (MQ below (QV X h0 o) args s 0 0 (aA (eB X))) (F0 m 143 ls [])) {h : Hp} {x0 : Nat} {x1 : Nat} {x2 : Nat} {x3 : Int32} {x4 : Int32} {t0 : Int32} {H : Heap} {locs : List Loc} (k_x0 : hK h x0 = 15) (k_x1 : hK h x1 = 12) (k_x2 : hK h x2 = 13) (hkm : Km h0 h) (hW : Wx X h H) (hZ : va_S (aA (eB X)) s.heap H locs) (ls : Array Slot) (hl : lv_has ls 6 [(0, .ref x0), (1, .ref x1), (2, .ref x2), (3, .int x3), (4, .int x4)]) (hE : sX15_tryAll_202 F k_122 k_143 h x0 x1 x2 x3 x4 t0 = some o) : W p l e (rm 5 132) s m args below meth c H locs 0 0 (MQ below (QV X h0 o) args s 0 0 (aA (eB X))) (F0 m 202 ls [.int t0]) := by
  refine lv_istore (lv' := [(5, .int t0), (0, .ref x0), (1, .ref x1), (2, .ref x2), (3, .int x3), (4, .int x4)]) C.1 C.2.1 dX15_tryAll_202 hl (by decide) rfl (fun ls hl => ?_)
  refine lv_aload_n C.1 C.2.1 dX15_tryAll_204 rfl (lv_at hl 2 rfl) ?_
  obtain ⟨r_1, er_1, hE⟩ := cl_e hE
  refine gf_X15_444 C hW k_x1 er_1 dX15_tryAll_205 (fun k_r_1 => ?_)
  refine lv_iconst (v := (2 : Int32)) C.1 C.2.1 dX15_tryAll_208 (by decide) ?_
  refine lv_iload C.1 C.2.1 dX15_tryAll_209 (lv_at hl 5 rfl) ?_
  refine lv_imul C.1 C.2.1 dX15_tryAll_211 ?_
  refine lv_aload_n C.1 C.2.1 dX15_tryAll_212 rfl (lv_at hl 2 rfl) ?_
  refine gf_X15_452 C hW k_x1 dX15_tryAll_213 ?_
  refine lv_iadd C.1 C.2.1 dX15_tryAll_216 ?_
  obtain ⟨g_2, hE⟩ := gd_e hE
  refine y_iald C hW k_r_1 g_2 dX15_tryAll_217 ?_
  refine lv_if_le (tgt := 238) C.1 C.2.1 dX15_tryAll_218 (by decide) (fun c_3 => ?_) (fun c_3 => ?_)
  · have hE := br_p hE c_3
    exact bX15_tryAll_238 C hk_122 hk_143 k_x0 k_x1 k_x2 hkm hW hZ _ (lv_sub hl [1, 2, 3, 4, 5] rfl) hE
  · have hE := br_n hE c_3
    refine lv_iload C.1 C.2.1 dX15_tryAll_221 (lv_at hl 0 rfl) ?_
    refine lv_if_ne (tgt := 238) C.1 C.2.1 dX15_tryAll_223 (by decide) (fun c_4 => ?_) (fun c_4 => ?_)
    · have hE := br_n hE c_4
      exact bX15_tryAll_238 C hk_122 hk_143 k_x0 k_x1 k_x2 hkm hW hZ _ (lv_sub hl [1, 2, 3, 4, 5] rfl) hE
    · have hE := br_p hE c_4
      refine lv_aload_n C.1 C.2.1 dX15_tryAll_226 rfl (lv_at hl 3 rfl) ?_
      refine lv_iconst (v := (-1 : Int32)) C.1 C.2.1 dX15_tryAll_227 (by decide) ?_
      refine lv_iload_n C.1 C.2.1 dX15_tryAll_228 rfl (lv_at hl 4 rfl) ?_
      refine lv_iload C.1 C.2.1 dX15_tryAll_229 (lv_at hl 5 rfl) ?_
      refine lv_iconst (v := (-1 : Int32)) C.1 C.2.1 dX15_tryAll_231 (by decide) ?_
      refine lv_iconst (v := (-1 : Int32)) C.1 C.2.1 dX15_tryAll_232 (by decide) ?_
      refine lv_iconst (v := (3 : Int32)) C.1 C.2.1 dX15_tryAll_233 (by decide) ?_
      refine lv_iconst (v := (0 : Int32)) C.1 C.2.1 dX15_tryAll_234 (by decide) ?_
      obtain ⟨o_5, eo_5, hE⟩ := cl_e hE
      refine x_kV (o := o_5) (z_runV (As := [.int (-1 : Int32), .int x3, .int x4, .int (-1 : Int32), .int (-1 : Int32), .int (3 : Int32), .int (0 : Int32)]) (rest := []) C (ct_X13_add l X k_x2 eo_5) cw_X15_590 hW hZ k_x2 (by decide) rfl rfl rfl hl.1 (Nat.le_of_ble_eq_true rfl) rfl dX15_tryAll_235 ⟨Nat.le_of_ble_eq_true rfl, Nat.le_of_ble_eq_true rfl⟩ ⟨Nat.le_refl _, Nat.le_refl _⟩) hZ (fun _ _ hW km hZ => ?_)
      replace hkm := hkm.tr km
      replace k_x0 := km.at k_x0 (by decide)
      replace k_x1 := km.at k_x1 (by decide)
      replace k_x2 := km.at k_x2 (by decide)
      exact bX15_tryAll_238 C hk_122 hk_143 k_x0 k_x1 k_x2 hkm hW hZ _ (lv_sub hl [1, 2, 3, 4, 5] rfl) hE
set_option maxRecDepth 20000 in
theorem bX15_tryAll_201 {p : Program} {l : Launch} {e : Env} {s : State} {m : MethodId} {args : Array Value} {below : List Frame} {meth : Method} {c : Code} {X : Ec} {h0 : Hp} {o : Hp} {k_122 : Hp → Nat → Nat → Nat → Int32 → Option (Hp)} {k_143 : Hp → Nat → Nat → Nat → Int32 → Int32 → Option (Hp)} {F : Nat} (C : Cx X p s m args meth c RX15 cX15_tryAll 6 none "tryAll") (hk_122 : ∀ (h : Hp) (x0 : Nat) (x1 : Nat) (x2 : Nat) (x3 : Int32) (H : Heap) (locs : List Loc), hK h x0 = 15 → hK h x1 = 12 → hK h x2 = 13 → Km h0 h → Wx X h H → va_S (aA (eB X)) s.heap H locs → ∀ (ls : Array Slot), lv_has ls 6 [(0, .ref x0), (1, .ref x1), (2, .ref x2), (3, .int x3)] → k_122 h x0 x1 x2 x3 = some o → W p l e (rm 5 132) s m args below meth c H locs 0 0 (MQ below (QV X h0 o) args s 0 0 (aA (eB X))) (F0 m 122 ls [])) (hk_143 : ∀ (h : Hp) (x0 : Nat) (x1 : Nat) (x2 : Nat) (x3 : Int32) (x4 : Int32) (H : Heap) (locs : List Loc), hK h x0 = 15 → hK h x1 = 12 → hK h x2 = 13 → Km h0 h → Wx X h H → va_S (aA (eB X)) s.heap H locs → ∀ (ls : Array Slot), lv_has ls 6 [(0, .ref x0), (1, .ref x1), (2, .ref x2), (3, .int x3), (4, .int x4)] → k_143 h x0 x1 x2 x3 x4 = some o → W p l e (rm 5 132) s m args below meth c H locs 0 0 (MQ below (QV X h0 o) args s 0 0 (aA (eB X))) (F0 m 143 ls [])) {h : Hp} {x0 : Nat} {x1 : Nat} {x2 : Nat} {x3 : Int32} {x4 : Int32} {H : Heap} {locs : List Loc} (k_x0 : hK h x0 = 15) (k_x1 : hK h x1 = 12) (k_x2 : hK h x2 = 13) (hkm : Km h0 h) (hW : Wx X h H) (hZ : va_S (aA (eB X)) s.heap H locs) (ls : Array Slot) (hl : lv_has ls 6 [(0, .ref x0), (1, .ref x1), (2, .ref x2), (3, .int x3), (4, .int x4)]) (hE : sX15_tryAll_201 F k_122 k_143 h x0 x1 x2 x3 x4 = some o) : W p l e (rm 5 132) s m args below meth c H locs 0 0 (MQ below (QV X h0 o) args s 0 0 (aA (eB X))) (F0 m 201 ls []) := by
  refine lv_iconst (v := (0 : Int32)) C.1 C.2.1 dX15_tryAll_201 (by decide) ?_
  exact bX15_tryAll_202 C hk_122 hk_143 k_x0 k_x1 k_x2 hkm hW hZ _ (lv_sub hl [0, 1, 2, 3, 4] rfl) hE
set_option maxRecDepth 20000 in
theorem bX15_tryAll_197 {p : Program} {l : Launch} {e : Env} {s : State} {m : MethodId} {args : Array Value} {below : List Frame} {meth : Method} {c : Code} {X : Ec} {h0 : Hp} {o : Hp} {k_122 : Hp → Nat → Nat → Nat → Int32 → Option (Hp)} {k_143 : Hp → Nat → Nat → Nat → Int32 → Int32 → Option (Hp)} {F : Nat} (C : Cx X p s m args meth c RX15 cX15_tryAll 6 none "tryAll") (hk_122 : ∀ (h : Hp) (x0 : Nat) (x1 : Nat) (x2 : Nat) (x3 : Int32) (H : Heap) (locs : List Loc), hK h x0 = 15 → hK h x1 = 12 → hK h x2 = 13 → Km h0 h → Wx X h H → va_S (aA (eB X)) s.heap H locs → ∀ (ls : Array Slot), lv_has ls 6 [(0, .ref x0), (1, .ref x1), (2, .ref x2), (3, .int x3)] → k_122 h x0 x1 x2 x3 = some o → W p l e (rm 5 132) s m args below meth c H locs 0 0 (MQ below (QV X h0 o) args s 0 0 (aA (eB X))) (F0 m 122 ls [])) (hk_143 : ∀ (h : Hp) (x0 : Nat) (x1 : Nat) (x2 : Nat) (x3 : Int32) (x4 : Int32) (H : Heap) (locs : List Loc), hK h x0 = 15 → hK h x1 = 12 → hK h x2 = 13 → Km h0 h → Wx X h H → va_S (aA (eB X)) s.heap H locs → ∀ (ls : Array Slot), lv_has ls 6 [(0, .ref x0), (1, .ref x1), (2, .ref x2), (3, .int x3), (4, .int x4)] → k_143 h x0 x1 x2 x3 x4 = some o → W p l e (rm 5 132) s m args below meth c H locs 0 0 (MQ below (QV X h0 o) args s 0 0 (aA (eB X))) (F0 m 143 ls [])) {h : Hp} {x0 : Nat} {x1 : Nat} {x2 : Nat} {x3 : Int32} {x4 : Int32} {H : Heap} {locs : List Loc} (k_x0 : hK h x0 = 15) (k_x1 : hK h x1 = 12) (k_x2 : hK h x2 = 13) (hkm : Km h0 h) (hW : Wx X h H) (hZ : va_S (aA (eB X)) s.heap H locs) (ls : Array Slot) (hl : lv_has ls 6 [(0, .ref x0), (1, .ref x1), (2, .ref x2), (3, .int x3), (4, .int x4)]) (hE : sX15_tryAll_197 F k_122 k_143 h x0 x1 x2 x3 x4 = some o) : W p l e (rm 5 132) s m args below meth c H locs 0 0 (MQ below (QV X h0 o) args s 0 0 (aA (eB X))) (F0 m 197 ls []) := by
  refine lv_iconst (v := (1 : Int32)) C.1 C.2.1 dX15_tryAll_197 (by decide) ?_
  refine lv_goto (tgt := 202) C.1 C.2.1 dX15_tryAll_198 (by decide) ?_
  exact bX15_tryAll_202 C hk_122 hk_143 k_x0 k_x1 k_x2 hkm hW hZ _ (lv_sub hl [0, 1, 2, 3, 4] rfl) hE
set_option maxRecDepth 20000 in
theorem bX15_tryAll_143 {p : Program} {l : Launch} {e : Env} {s : State} {m : MethodId} {args : Array Value} {below : List Frame} {meth : Method} {c : Code} {X : Ec} {h0 : Hp} {o : Hp} {k_122 : Hp → Nat → Nat → Nat → Int32 → Option (Hp)} {F : Nat} (C : Cx X p s m args meth c RX15 cX15_tryAll 6 none "tryAll") (hk_122 : ∀ (h : Hp) (x0 : Nat) (x1 : Nat) (x2 : Nat) (x3 : Int32) (H : Heap) (locs : List Loc), hK h x0 = 15 → hK h x1 = 12 → hK h x2 = 13 → Km h0 h → Wx X h H → va_S (aA (eB X)) s.heap H locs → ∀ (ls : Array Slot), lv_has ls 6 [(0, .ref x0), (1, .ref x1), (2, .ref x2), (3, .int x3)] → k_122 h x0 x1 x2 x3 = some o → W p l e (rm 5 132) s m args below meth c H locs 0 0 (MQ below (QV X h0 o) args s 0 0 (aA (eB X))) (F0 m 122 ls [])) : ∀ (f : Nat) {h : Hp} {x0 : Nat} {x1 : Nat} {x2 : Nat} {x3 : Int32} {x4 : Int32} {H : Heap} {locs : List Loc} (k_x0 : hK h x0 = 15) (k_x1 : hK h x1 = 12) (k_x2 : hK h x2 = 13), Km h0 h → Wx X h H → va_S (aA (eB X)) s.heap H locs → ∀ (ls : Array Slot), lv_has ls 6 [(0, .ref x0), (1, .ref x1), (2, .ref x2), (3, .int x3), (4, .int x4)] → sX15_tryAll_143 F k_122 f h x0 x1 x2 x3 x4 = some o → W p l e (rm 5 132) s m args below meth c H locs 0 0 (MQ below (QV X h0 o) args s 0 0 (aA (eB X))) (F0 m 143 ls []) := by
  intro f
  induction f with
  | zero =>
    intro h x0 x1 x2 x3 x4 H locs k_x0 k_x1 k_x2 hkm hW hZ ls hl hE
    rw [sX15_tryAll_143] at hE
    cases hE
  | succ f ih =>
    intro h x0 x1 x2 x3 x4 H locs k_x0 k_x1 k_x2 hkm hW hZ ls hl hE
    rw [sX15_tryAll_143] at hE
    have hk_143 : ∀ (h : Hp) (x0 : Nat) (x1 : Nat) (x2 : Nat) (x3 : Int32) (x4 : Int32) (H : Heap) (locs : List Loc), hK h x0 = 15 → hK h x1 = 12 → hK h x2 = 13 → Km h0 h → Wx X h H → va_S (aA (eB X)) s.heap H locs → ∀ (ls : Array Slot), lv_has ls 6 [(0, .ref x0), (1, .ref x1), (2, .ref x2), (3, .int x3), (4, .int x4)] → sX15_tryAll_143 F k_122 f h x0 x1 x2 x3 x4 = some o → W p l e (rm 5 132) s m args below meth c H locs 0 0 (MQ below (QV X h0 o) args s 0 0 (aA (eB X))) (F0 m 143 ls []) := fun h x0 x1 x2 x3 x4 H locs k_x0 k_x1 k_x2 a b c ls hl hE => ih k_x0 k_x1 k_x2 a b c ls hl hE
    refine lv_iload C.1 C.2.1 dX15_tryAll_143 (lv_at hl 4 rfl) ?_
    refine lv_aload_n C.1 C.2.1 dX15_tryAll_145 rfl (lv_at hl 0 rfl) ?_
    obtain ⟨r_1, er_1, hE⟩ := cl_e hE
    refine gf_X15_252 C hW k_x0 er_1 dX15_tryAll_146 (fun k_r_1 => ?_)
    refine gf_X15_169 C hW k_r_1 dX15_tryAll_149 ?_
    refine lv_icmp_ge (tgt := 244) C.1 C.2.1 dX15_tryAll_152 (by decide) (fun c_2 => ?_) (fun c_2 => ?_)
    · have hE := br_p hE c_2
      exact bX15_tryAll_244 C hk_122 k_x0 k_x1 k_x2 hkm hW hZ _ (lv_sub hl [0, 1, 2, 3] rfl) hE
    · have hE := br_n hE c_2
      refine lv_aload_n C.1 C.2.1 dX15_tryAll_155 rfl (lv_at hl 1 rfl) ?_
      obtain ⟨r_3, er_3, hE⟩ := cl_e hE
      refine gf_X15_396 C hW k_x1 er_3 dX15_tryAll_156 (fun k_r_3 => ?_)
      refine lv_iload_n C.1 C.2.1 dX15_tryAll_159 rfl (lv_at hl 3 rfl) ?_
      obtain ⟨g_4, hE⟩ := gd_e hE
      refine y_iald C hW k_r_3 g_4 dX15_tryAll_160 ?_
      refine lv_if_ne (tgt := 244) C.1 C.2.1 dX15_tryAll_161 (by decide) (fun c_5 => ?_) (fun c_5 => ?_)
      · have hE := br_n hE c_5
        exact bX15_tryAll_244 C hk_122 k_x0 k_x1 k_x2 hkm hW hZ _ (lv_sub hl [0, 1, 2, 3] rfl) hE
      · have hE := br_p hE c_5
        refine lv_aload_n C.1 C.2.1 dX15_tryAll_164 rfl (lv_at hl 0 rfl) ?_
        refine lv_iload C.1 C.2.1 dX15_tryAll_165 (lv_at hl 4 rfl) ?_
        obtain ⟨o_6, eo_6, hE⟩ := cl_e hE
        refine x_kI (o := o_6) (z_runV (As := [.int x4]) (rest := []) C (ct_X15_becomesOthers l X k_x0 eo_6) cw_X15_495 hW hZ k_x0 (by decide) rfl rfl rfl hl.1 (Nat.le_of_ble_eq_true rfl) rfl dX15_tryAll_167 ⟨Nat.le_of_ble_eq_true rfl, Nat.le_of_ble_eq_true rfl⟩ ⟨Nat.le_refl _, Nat.le_refl _⟩) hZ (fun _ _ hW km hZ => ?_)
        replace hkm := hkm.tr km
        replace k_x0 := km.at k_x0 (by decide)
        replace k_x1 := km.at k_x1 (by decide)
        replace k_x2 := km.at k_x2 (by decide)
        refine lv_if_eq (tgt := 201) C.1 C.2.1 dX15_tryAll_170 (by decide) (fun c_7 => ?_) (fun c_7 => ?_)
        · have hE := br_p hE c_7
          exact bX15_tryAll_201 C hk_122 hk_143 k_x0 k_x1 k_x2 hkm hW hZ _ (lv_sub hl [0, 1, 2, 3, 4] rfl) hE
        · have hE := br_n hE c_7
          refine lv_iload_n C.1 C.2.1 dX15_tryAll_173 rfl (lv_at hl 3 rfl) ?_
          refine lv_aload_n C.1 C.2.1 dX15_tryAll_174 rfl (lv_at hl 0 rfl) ?_
          refine gf_X15_382 C hW k_x0 dX15_tryAll_175 ?_
          obtain ⟨g_8, hE⟩ := gd_e hE
          refine lv_idiv C.1 C.2.1 dX15_tryAll_178 g_8 ?_
          refine lv_if_eq (tgt := 197) C.1 C.2.1 dX15_tryAll_179 (by decide) (fun c_9 => ?_) (fun c_9 => ?_)
          · have hE := br_p hE c_9
            exact bX15_tryAll_197 C hk_122 hk_143 k_x0 k_x1 k_x2 hkm hW hZ _ (lv_sub hl [0, 1, 2, 3, 4] rfl) hE
          · have hE := br_n hE c_9
            refine lv_iload_n C.1 C.2.1 dX15_tryAll_182 rfl (lv_at hl 3 rfl) ?_
            refine lv_aload_n C.1 C.2.1 dX15_tryAll_183 rfl (lv_at hl 0 rfl) ?_
            refine gf_X15_382 C hW k_x0 dX15_tryAll_184 ?_
            obtain ⟨g_10, hE⟩ := gd_e hE
            refine lv_idiv C.1 C.2.1 dX15_tryAll_187 g_10 ?_
            refine lv_aload_n C.1 C.2.1 dX15_tryAll_188 rfl (lv_at hl 0 rfl) ?_
            refine gf_X15_383 C hW k_x0 dX15_tryAll_189 ?_
            refine lv_iconst (v := (1 : Int32)) C.1 C.2.1 dX15_tryAll_192 (by decide) ?_
            refine lv_isub C.1 C.2.1 dX15_tryAll_193 ?_
            refine lv_icmp_ne (tgt := 201) C.1 C.2.1 dX15_tryAll_194 (by decide) (fun c_11 => ?_) (fun c_11 => ?_)
            · have hE := br_n hE c_11
              exact bX15_tryAll_201 C hk_122 hk_143 k_x0 k_x1 k_x2 hkm hW hZ _ (lv_sub hl [0, 1, 2, 3, 4] rfl) hE
            · have hE := br_p hE c_11
              exact bX15_tryAll_197 C hk_122 hk_143 k_x0 k_x1 k_x2 hkm hW hZ _ (lv_sub hl [0, 1, 2, 3, 4] rfl) hE
set_option maxRecDepth 20000 in
theorem bX15_tryAll_122 {p : Program} {l : Launch} {e : Env} {s : State} {m : MethodId} {args : Array Value} {below : List Frame} {meth : Method} {c : Code} {X : Ec} {h0 : Hp} {o : Hp} {F : Nat} (C : Cx X p s m args meth c RX15 cX15_tryAll 6 none "tryAll") : ∀ (f : Nat) {h : Hp} {x0 : Nat} {x1 : Nat} {x2 : Nat} {x3 : Int32} {H : Heap} {locs : List Loc} (k_x0 : hK h x0 = 15) (k_x1 : hK h x1 = 12) (k_x2 : hK h x2 = 13), Km h0 h → Wx X h H → va_S (aA (eB X)) s.heap H locs → ∀ (ls : Array Slot), lv_has ls 6 [(0, .ref x0), (1, .ref x1), (2, .ref x2), (3, .int x3)] → sX15_tryAll_122 F f h x0 x1 x2 x3 = some o → W p l e (rm 5 132) s m args below meth c H locs 0 0 (MQ below (QV X h0 o) args s 0 0 (aA (eB X))) (F0 m 122 ls []) := by
  intro f
  induction f with
  | zero =>
    intro h x0 x1 x2 x3 H locs k_x0 k_x1 k_x2 hkm hW hZ ls hl hE
    rw [sX15_tryAll_122] at hE
    cases hE
  | succ f ih =>
    intro h x0 x1 x2 x3 H locs k_x0 k_x1 k_x2 hkm hW hZ ls hl hE
    rw [sX15_tryAll_122] at hE
    have hk_122 : ∀ (h : Hp) (x0 : Nat) (x1 : Nat) (x2 : Nat) (x3 : Int32) (H : Heap) (locs : List Loc), hK h x0 = 15 → hK h x1 = 12 → hK h x2 = 13 → Km h0 h → Wx X h H → va_S (aA (eB X)) s.heap H locs → ∀ (ls : Array Slot), lv_has ls 6 [(0, .ref x0), (1, .ref x1), (2, .ref x2), (3, .int x3)] → sX15_tryAll_122 F f h x0 x1 x2 x3 = some o → W p l e (rm 5 132) s m args below meth c H locs 0 0 (MQ below (QV X h0 o) args s 0 0 (aA (eB X))) (F0 m 122 ls []) := fun h x0 x1 x2 x3 H locs k_x0 k_x1 k_x2 a b c ls hl hE => ih k_x0 k_x1 k_x2 a b c ls hl hE
    refine lv_iload_n C.1 C.2.1 dX15_tryAll_122 rfl (lv_at hl 3 rfl) ?_
    refine lv_aload_n C.1 C.2.1 dX15_tryAll_123 rfl (lv_at hl 0 rfl) ?_
    refine gf_X15_384 C hW k_x0 dX15_tryAll_124 ?_
    refine lv_icmp_ge (tgt := 250) C.1 C.2.1 dX15_tryAll_127 (by decide) (fun c_1 => ?_) (fun c_1 => ?_)
    · have hE := br_p hE c_1
      exact bX15_tryAll_250 C hkm hW hZ _ (lv_sub hl [] rfl) hE
    · have hE := br_n hE c_1
      refine lv_aload_n C.1 C.2.1 dX15_tryAll_130 rfl (lv_at hl 0 rfl) ?_
      obtain ⟨r_2, er_2, hE⟩ := cl_e hE
      refine gf_X15_252 C hW k_x0 er_2 dX15_tryAll_131 (fun k_r_2 => ?_)
      refine gf_X15_126 C hW k_r_2 dX15_tryAll_134 ?_
      refine lv_if_eq (tgt := 250) C.1 C.2.1 dX15_tryAll_137 (by decide) (fun c_3 => ?_) (fun c_3 => ?_)
      · have hE := br_p hE c_3
        exact bX15_tryAll_250 C hkm hW hZ _ (lv_sub hl [] rfl) hE
      · have hE := br_n hE c_3
        refine lv_iconst (v := (0 : Int32)) C.1 C.2.1 dX15_tryAll_140 (by decide) ?_
        refine lv_istore (lv' := [(4, .int (0 : Int32)), (0, .ref x0), (1, .ref x1), (2, .ref x2), (3, .int x3)]) C.1 C.2.1 dX15_tryAll_141 hl (by decide) rfl (fun ls hl => ?_)
        exact bX15_tryAll_143 C hk_122 F k_x0 k_x1 k_x2 hkm hW hZ _ (lv_sub hl [1, 2, 3, 4, 0] rfl) hE
set_option maxRecDepth 20000 in
theorem bX15_tryAll_114 {p : Program} {l : Launch} {e : Env} {s : State} {m : MethodId} {args : Array Value} {below : List Frame} {meth : Method} {c : Code} {X : Ec} {h0 : Hp} {o : Hp} {k_7 : Hp → Nat → Nat → Nat → Int32 → Option (Hp)} {F : Nat} (C : Cx X p s m args meth c RX15 cX15_tryAll 6 none "tryAll") (hk_7 : ∀ (h : Hp) (x0 : Nat) (x1 : Nat) (x2 : Nat) (x3 : Int32) (H : Heap) (locs : List Loc), hK h x0 = 15 → hK h x1 = 12 → hK h x2 = 13 → Km h0 h → Wx X h H → va_S (aA (eB X)) s.heap H locs → ∀ (ls : Array Slot), lv_has ls 6 [(0, .ref x0), (1, .ref x1), (2, .ref x2), (3, .int x3)] → k_7 h x0 x1 x2 x3 = some o → W p l e (rm 5 132) s m args below meth c H locs 0 0 (MQ below (QV X h0 o) args s 0 0 (aA (eB X))) (F0 m 7 ls [])) {h : Hp} {x0 : Nat} {x1 : Nat} {x2 : Nat} {x3 : Int32} {H : Heap} {locs : List Loc} (k_x0 : hK h x0 = 15) (k_x1 : hK h x1 = 12) (k_x2 : hK h x2 = 13) (hkm : Km h0 h) (hW : Wx X h H) (hZ : va_S (aA (eB X)) s.heap H locs) (ls : Array Slot) (hl : lv_has ls 6 [(0, .ref x0), (1, .ref x1), (2, .ref x2), (3, .int x3)]) (hE : sX15_tryAll_114 F k_7 h x0 x1 x2 x3 = some o) : W p l e (rm 5 132) s m args below meth c H locs 0 0 (MQ below (QV X h0 o) args s 0 0 (aA (eB X))) (F0 m 114 ls []) := by
  obtain ⟨v_1, ev_1, hE⟩ := nm_e2 hE
  refine lv_iinc (v := v_1) (lv' := [(3, .int v_1), (0, .ref x0), (1, .ref x1), (2, .ref x2)]) C.1 C.2.1 dX15_tryAll_114 hl (k := 3) rfl (by rw [ev_1]; rfl) (by decide) rfl (fun ls hl => ?_)
  refine lv_goto (tgt := 7) C.1 C.2.1 dX15_tryAll_117 (by decide) ?_
  exact hk_7 _ _ _ _ _ _ _ k_x0 k_x1 k_x2 hkm hW hZ _ (lv_sub hl [1, 2, 3, 0] rfl) hE
set_option maxRecDepth 20000 in
theorem bX15_tryAll_108 {p : Program} {l : Launch} {e : Env} {s : State} {m : MethodId} {args : Array Value} {below : List Frame} {meth : Method} {c : Code} {X : Ec} {h0 : Hp} {o : Hp} {k_7 : Hp → Nat → Nat → Nat → Int32 → Option (Hp)} {k_50 : Hp → Nat → Nat → Nat → Int32 → Int32 → Int32 → Option (Hp)} {F : Nat} (C : Cx X p s m args meth c RX15 cX15_tryAll 6 none "tryAll") (hk_7 : ∀ (h : Hp) (x0 : Nat) (x1 : Nat) (x2 : Nat) (x3 : Int32) (H : Heap) (locs : List Loc), hK h x0 = 15 → hK h x1 = 12 → hK h x2 = 13 → Km h0 h → Wx X h H → va_S (aA (eB X)) s.heap H locs → ∀ (ls : Array Slot), lv_has ls 6 [(0, .ref x0), (1, .ref x1), (2, .ref x2), (3, .int x3)] → k_7 h x0 x1 x2 x3 = some o → W p l e (rm 5 132) s m args below meth c H locs 0 0 (MQ below (QV X h0 o) args s 0 0 (aA (eB X))) (F0 m 7 ls [])) (hk_50 : ∀ (h : Hp) (x0 : Nat) (x1 : Nat) (x2 : Nat) (x3 : Int32) (x4 : Int32) (x5 : Int32) (H : Heap) (locs : List Loc), hK h x0 = 15 → hK h x1 = 12 → hK h x2 = 13 → Km h0 h → Wx X h H → va_S (aA (eB X)) s.heap H locs → ∀ (ls : Array Slot), lv_has ls 6 [(0, .ref x0), (1, .ref x1), (2, .ref x2), (3, .int x3), (4, .int x4), (5, .int x5)] → k_50 h x0 x1 x2 x3 x4 x5 = some o → W p l e (rm 5 132) s m args below meth c H locs 0 0 (MQ below (QV X h0 o) args s 0 0 (aA (eB X))) (F0 m 50 ls [])) {h : Hp} {x0 : Nat} {x1 : Nat} {x2 : Nat} {x3 : Int32} {x4 : Int32} {x5 : Int32} {H : Heap} {locs : List Loc} (k_x0 : hK h x0 = 15) (k_x1 : hK h x1 = 12) (k_x2 : hK h x2 = 13) (hkm : Km h0 h) (hW : Wx X h H) (hZ : va_S (aA (eB X)) s.heap H locs) (ls : Array Slot) (hl : lv_has ls 6 [(0, .ref x0), (1, .ref x1), (2, .ref x2), (3, .int x3), (4, .int x4), (5, .int x5)]) (hE : sX15_tryAll_108 F k_7 k_50 h x0 x1 x2 x3 x4 x5 = some o) : W p l e (rm 5 132) s m args below meth c H locs 0 0 (MQ below (QV X h0 o) args s 0 0 (aA (eB X))) (F0 m 108 ls []) := by
  obtain ⟨v_1, ev_1, hE⟩ := nm_e2 hE
  refine lv_iinc (v := v_1) (lv' := [(5, .int v_1), (0, .ref x0), (1, .ref x1), (2, .ref x2), (3, .int x3), (4, .int x4)]) C.1 C.2.1 dX15_tryAll_108 hl (k := 5) rfl (by rw [ev_1]; rfl) (by decide) rfl (fun ls hl => ?_)
  refine lv_goto (tgt := 50) C.1 C.2.1 dX15_tryAll_111 (by decide) ?_
  exact hk_50 _ _ _ _ _ _ _ _ _ k_x0 k_x1 k_x2 hkm hW hZ _ (lv_sub hl [1, 2, 3, 4, 5, 0] rfl) hE
set_option maxRecDepth 20000 in
theorem bX15_tryAll_84 {p : Program} {l : Launch} {e : Env} {s : State} {m : MethodId} {args : Array Value} {below : List Frame} {meth : Method} {c : Code} {X : Ec} {h0 : Hp} {o : Hp} {k_7 : Hp → Nat → Nat → Nat → Int32 → Option (Hp)} {k_50 : Hp → Nat → Nat → Nat → Int32 → Int32 → Int32 → Option (Hp)} {F : Nat} (C : Cx X p s m args meth c RX15 cX15_tryAll 6 none "tryAll") (hk_7 : ∀ (h : Hp) (x0 : Nat) (x1 : Nat) (x2 : Nat) (x3 : Int32) (H : Heap) (locs : List Loc), hK h x0 = 15 → hK h x1 = 12 → hK h x2 = 13 → Km h0 h → Wx X h H → va_S (aA (eB X)) s.heap H locs → ∀ (ls : Array Slot), lv_has ls 6 [(0, .ref x0), (1, .ref x1), (2, .ref x2), (3, .int x3)] → k_7 h x0 x1 x2 x3 = some o → W p l e (rm 5 132) s m args below meth c H locs 0 0 (MQ below (QV X h0 o) args s 0 0 (aA (eB X))) (F0 m 7 ls [])) (hk_50 : ∀ (h : Hp) (x0 : Nat) (x1 : Nat) (x2 : Nat) (x3 : Int32) (x4 : Int32) (x5 : Int32) (H : Heap) (locs : List Loc), hK h x0 = 15 → hK h x1 = 12 → hK h x2 = 13 → Km h0 h → Wx X h H → va_S (aA (eB X)) s.heap H locs → ∀ (ls : Array Slot), lv_has ls 6 [(0, .ref x0), (1, .ref x1), (2, .ref x2), (3, .int x3), (4, .int x4), (5, .int x5)] → k_50 h x0 x1 x2 x3 x4 x5 = some o → W p l e (rm 5 132) s m args below meth c H locs 0 0 (MQ below (QV X h0 o) args s 0 0 (aA (eB X))) (F0 m 50 ls [])) {h : Hp} {x0 : Nat} {x1 : Nat} {x2 : Nat} {x3 : Int32} {x4 : Int32} {x5 : Int32} {H : Heap} {locs : List Loc} (k_x0 : hK h x0 = 15) (k_x1 : hK h x1 = 12) (k_x2 : hK h x2 = 13) (hkm : Km h0 h) (hW : Wx X h H) (hZ : va_S (aA (eB X)) s.heap H locs) (ls : Array Slot) (hl : lv_has ls 6 [(0, .ref x0), (1, .ref x1), (2, .ref x2), (3, .int x3), (4, .int x4), (5, .int x5)]) (hE : sX15_tryAll_84 F k_7 k_50 h x0 x1 x2 x3 x4 x5 = some o) : W p l e (rm 5 132) s m args below meth c H locs 0 0 (MQ below (QV X h0 o) args s 0 0 (aA (eB X))) (F0 m 84 ls []) := by
  refine lv_iload C.1 C.2.1 dX15_tryAll_84 (lv_at hl 4 rfl) ?_
  obtain ⟨o_1, eo_1, hE⟩ := cl_e hE
  refine x_kI (o := o_1) (z_runS (As := [.int x4]) (rest := []) C (ct_X15_manOf l X eo_1) cw_X15_492 hW hZ rfl hl.1 (Nat.le_of_ble_eq_true rfl) rfl dX15_tryAll_86 ⟨Nat.le_of_ble_eq_true rfl, Nat.le_of_ble_eq_true rfl⟩ ⟨Nat.le_refl _, Nat.le_refl _⟩) hZ (fun _ _ hW km hZ => ?_)
  replace hkm := hkm.tr km
  replace k_x0 := km.at k_x0 (by decide)
  replace k_x1 := km.at k_x1 (by decide)
  replace k_x2 := km.at k_x2 (by decide)
  refine lv_aload_n C.1 C.2.1 dX15_tryAll_89 rfl (lv_at hl 0 rfl) ?_
  obtain ⟨r_2, er_2, hE⟩ := cl_e hE
  refine gf_X15_252 C hW k_x0 er_2 dX15_tryAll_90 (fun k_r_2 => ?_)
  refine gf_X15_221 C hW k_r_2 dX15_tryAll_93 ?_
  refine lv_icmp_ne (tgt := 108) C.1 C.2.1 dX15_tryAll_96 (by decide) (fun c_3 => ?_) (fun c_3 => ?_)
  · have hE := br_n hE c_3
    exact bX15_tryAll_108 C hk_7 hk_50 k_x0 k_x1 k_x2 hkm hW hZ _ (lv_sub hl [0, 1, 2, 3, 4, 5] rfl) hE
  · have hE := br_p hE c_3
    refine lv_aload_n C.1 C.2.1 dX15_tryAll_99 rfl (lv_at hl 0 rfl) ?_
    refine lv_aload_n C.1 C.2.1 dX15_tryAll_100 rfl (lv_at hl 1 rfl) ?_
    refine lv_iload_n C.1 C.2.1 dX15_tryAll_101 rfl (lv_at hl 3 rfl) ?_
    refine lv_iload C.1 C.2.1 dX15_tryAll_102 (lv_at hl 5 rfl) ?_
    refine lv_aload_n C.1 C.2.1 dX15_tryAll_104 rfl (lv_at hl 2 rfl) ?_
    obtain ⟨o_4, eo_4, hE⟩ := cl_e hE
    refine x_kV (o := o_4) (z_runV (As := [.ref x1, .int x3, .int x5, .ref x2]) (rest := []) C (ct_X15_tryCastling l X F k_x0 k_x1 k_x2 eo_4) cw_X15_586 hW hZ k_x0 (by decide) rfl rfl rfl hl.1 (Nat.le_of_ble_eq_true rfl) rfl dX15_tryAll_105 ⟨Nat.le_of_ble_eq_true rfl, Nat.le_of_ble_eq_true rfl⟩ ⟨Nat.le_refl _, Nat.le_refl _⟩) hZ (fun _ _ hW km hZ => ?_)
    replace hkm := hkm.tr km
    replace k_x0 := km.at k_x0 (by decide)
    replace k_x1 := km.at k_x1 (by decide)
    replace k_x2 := km.at k_x2 (by decide)
    exact bX15_tryAll_108 C hk_7 hk_50 k_x0 k_x1 k_x2 hkm hW hZ _ (lv_sub hl [0, 1, 2, 3, 4, 5] rfl) hE
set_option maxRecDepth 20000 in
theorem bX15_tryAll_50 {p : Program} {l : Launch} {e : Env} {s : State} {m : MethodId} {args : Array Value} {below : List Frame} {meth : Method} {c : Code} {X : Ec} {h0 : Hp} {o : Hp} {k_7 : Hp → Nat → Nat → Nat → Int32 → Option (Hp)} {F : Nat} (C : Cx X p s m args meth c RX15 cX15_tryAll 6 none "tryAll") (hk_7 : ∀ (h : Hp) (x0 : Nat) (x1 : Nat) (x2 : Nat) (x3 : Int32) (H : Heap) (locs : List Loc), hK h x0 = 15 → hK h x1 = 12 → hK h x2 = 13 → Km h0 h → Wx X h H → va_S (aA (eB X)) s.heap H locs → ∀ (ls : Array Slot), lv_has ls 6 [(0, .ref x0), (1, .ref x1), (2, .ref x2), (3, .int x3)] → k_7 h x0 x1 x2 x3 = some o → W p l e (rm 5 132) s m args below meth c H locs 0 0 (MQ below (QV X h0 o) args s 0 0 (aA (eB X))) (F0 m 7 ls [])) : ∀ (f : Nat) {h : Hp} {x0 : Nat} {x1 : Nat} {x2 : Nat} {x3 : Int32} {x4 : Int32} {x5 : Int32} {H : Heap} {locs : List Loc} (k_x0 : hK h x0 = 15) (k_x1 : hK h x1 = 12) (k_x2 : hK h x2 = 13), Km h0 h → Wx X h H → va_S (aA (eB X)) s.heap H locs → ∀ (ls : Array Slot), lv_has ls 6 [(0, .ref x0), (1, .ref x1), (2, .ref x2), (3, .int x3), (4, .int x4), (5, .int x5)] → sX15_tryAll_50 F k_7 f h x0 x1 x2 x3 x4 x5 = some o → W p l e (rm 5 132) s m args below meth c H locs 0 0 (MQ below (QV X h0 o) args s 0 0 (aA (eB X))) (F0 m 50 ls []) := by
  intro f
  induction f with
  | zero =>
    intro h x0 x1 x2 x3 x4 x5 H locs k_x0 k_x1 k_x2 hkm hW hZ ls hl hE
    rw [sX15_tryAll_50] at hE
    cases hE
  | succ f ih =>
    intro h x0 x1 x2 x3 x4 x5 H locs k_x0 k_x1 k_x2 hkm hW hZ ls hl hE
    rw [sX15_tryAll_50] at hE
    have hk_50 : ∀ (h : Hp) (x0 : Nat) (x1 : Nat) (x2 : Nat) (x3 : Int32) (x4 : Int32) (x5 : Int32) (H : Heap) (locs : List Loc), hK h x0 = 15 → hK h x1 = 12 → hK h x2 = 13 → Km h0 h → Wx X h H → va_S (aA (eB X)) s.heap H locs → ∀ (ls : Array Slot), lv_has ls 6 [(0, .ref x0), (1, .ref x1), (2, .ref x2), (3, .int x3), (4, .int x4), (5, .int x5)] → sX15_tryAll_50 F k_7 f h x0 x1 x2 x3 x4 x5 = some o → W p l e (rm 5 132) s m args below meth c H locs 0 0 (MQ below (QV X h0 o) args s 0 0 (aA (eB X))) (F0 m 50 ls []) := fun h x0 x1 x2 x3 x4 x5 H locs k_x0 k_x1 k_x2 a b c ls hl hE => ih k_x0 k_x1 k_x2 a b c ls hl hE
    refine lv_iload C.1 C.2.1 dX15_tryAll_50 (lv_at hl 5 rfl) ?_
    refine lv_aload_n C.1 C.2.1 dX15_tryAll_52 rfl (lv_at hl 0 rfl) ?_
    refine gf_X15_384 C hW k_x0 dX15_tryAll_53 ?_
    refine lv_icmp_ge (tgt := 114) C.1 C.2.1 dX15_tryAll_56 (by decide) (fun c_1 => ?_) (fun c_1 => ?_)
    · have hE := br_p hE c_1
      exact bX15_tryAll_114 C hk_7 k_x0 k_x1 k_x2 hkm hW hZ _ (lv_sub hl [0, 1, 2, 3] rfl) hE
    · have hE := br_n hE c_1
      refine lv_aload_n C.1 C.2.1 dX15_tryAll_59 rfl (lv_at hl 0 rfl) ?_
      obtain ⟨r_2, er_2, hE⟩ := cl_e hE
      refine gf_X15_272 C hW k_x0 er_2 dX15_tryAll_60 (fun k_r_2 => ?_)
      refine lv_iload C.1 C.2.1 dX15_tryAll_63 (lv_at hl 5 rfl) ?_
      obtain ⟨g_3, hE⟩ := gd_e hE
      refine y_iald C hW k_r_2 g_3 dX15_tryAll_65 ?_
      refine lv_iconst (v := (-1 : Int32)) C.1 C.2.1 dX15_tryAll_66 (by decide) ?_
      refine lv_icmp_eq (tgt := 84) C.1 C.2.1 dX15_tryAll_67 (by decide) (fun c_4 => ?_) (fun c_4 => ?_)
      · have hE := br_p hE c_4
        exact bX15_tryAll_84 C hk_7 hk_50 k_x0 k_x1 k_x2 hkm hW hZ _ (lv_sub hl [0, 1, 2, 3, 4, 5] rfl) hE
      · have hE := br_n hE c_4
        refine lv_aload_n C.1 C.2.1 dX15_tryAll_70 rfl (lv_at hl 0 rfl) ?_
        refine lv_aload_n C.1 C.2.1 dX15_tryAll_71 rfl (lv_at hl 1 rfl) ?_
        refine lv_iload_n C.1 C.2.1 dX15_tryAll_72 rfl (lv_at hl 3 rfl) ?_
        refine lv_iload C.1 C.2.1 dX15_tryAll_73 (lv_at hl 5 rfl) ?_
        refine lv_iload C.1 C.2.1 dX15_tryAll_75 (lv_at hl 4 rfl) ?_
        obtain ⟨o_5, eo_5, hE⟩ := cl_e hE
        refine x_kI (o := o_5) (z_runS (As := [.int x4]) (rest := [.int x5, .int x3, .ref x1, .ref x0]) C (ct_X15_manOf l X eo_5) cw_X15_492 hW hZ rfl hl.1 (Nat.le_of_ble_eq_true rfl) rfl dX15_tryAll_77 ⟨Nat.le_of_ble_eq_true rfl, Nat.le_of_ble_eq_true rfl⟩ ⟨Nat.le_refl _, Nat.le_refl _⟩) hZ (fun _ _ hW km hZ => ?_)
        replace hkm := hkm.tr km
        replace k_x0 := km.at k_x0 (by decide)
        replace k_x1 := km.at k_x1 (by decide)
        replace k_x2 := km.at k_x2 (by decide)
        refine lv_aload_n C.1 C.2.1 dX15_tryAll_80 rfl (lv_at hl 2 rfl) ?_
        obtain ⟨o_6, eo_6, hE⟩ := cl_e hE
        refine x_kV (o := o_6) (z_runV (As := [.ref x1, .int x3, .int x5, .int o_5.1, .ref x2]) (rest := []) C (ct_X15_trySteps l X F k_x0 k_x1 k_x2 eo_6) cw_X15_582 hW hZ k_x0 (by decide) rfl rfl rfl hl.1 (Nat.le_of_ble_eq_true rfl) rfl dX15_tryAll_81 ⟨Nat.le_of_ble_eq_true rfl, Nat.le_of_ble_eq_true rfl⟩ ⟨Nat.le_refl _, Nat.le_refl _⟩) hZ (fun _ _ hW km hZ => ?_)
        replace hkm := hkm.tr km
        replace k_x0 := km.at k_x0 (by decide)
        replace k_x1 := km.at k_x1 (by decide)
        replace k_x2 := km.at k_x2 (by decide)
        exact bX15_tryAll_84 C hk_7 hk_50 k_x0 k_x1 k_x2 hkm hW hZ _ (lv_sub hl [0, 1, 2, 3, 4, 5] rfl) hE
set_option maxRecDepth 20000 in
theorem bX15_tryAll_7 {p : Program} {l : Launch} {e : Env} {s : State} {m : MethodId} {args : Array Value} {below : List Frame} {meth : Method} {c : Code} {X : Ec} {h0 : Hp} {o : Hp} {F : Nat} (C : Cx X p s m args meth c RX15 cX15_tryAll 6 none "tryAll") : ∀ (f : Nat) {h : Hp} {x0 : Nat} {x1 : Nat} {x2 : Nat} {x3 : Int32} {H : Heap} {locs : List Loc} (k_x0 : hK h x0 = 15) (k_x1 : hK h x1 = 12) (k_x2 : hK h x2 = 13), Km h0 h → Wx X h H → va_S (aA (eB X)) s.heap H locs → ∀ (ls : Array Slot), lv_has ls 6 [(0, .ref x0), (1, .ref x1), (2, .ref x2), (3, .int x3)] → sX15_tryAll_7 F f h x0 x1 x2 x3 = some o → W p l e (rm 5 132) s m args below meth c H locs 0 0 (MQ below (QV X h0 o) args s 0 0 (aA (eB X))) (F0 m 7 ls []) := by
  intro f
  induction f with
  | zero =>
    intro h x0 x1 x2 x3 H locs k_x0 k_x1 k_x2 hkm hW hZ ls hl hE
    rw [sX15_tryAll_7] at hE
    cases hE
  | succ f ih =>
    intro h x0 x1 x2 x3 H locs k_x0 k_x1 k_x2 hkm hW hZ ls hl hE
    rw [sX15_tryAll_7] at hE
    have hk_7 : ∀ (h : Hp) (x0 : Nat) (x1 : Nat) (x2 : Nat) (x3 : Int32) (H : Heap) (locs : List Loc), hK h x0 = 15 → hK h x1 = 12 → hK h x2 = 13 → Km h0 h → Wx X h H → va_S (aA (eB X)) s.heap H locs → ∀ (ls : Array Slot), lv_has ls 6 [(0, .ref x0), (1, .ref x1), (2, .ref x2), (3, .int x3)] → sX15_tryAll_7 F f h x0 x1 x2 x3 = some o → W p l e (rm 5 132) s m args below meth c H locs 0 0 (MQ below (QV X h0 o) args s 0 0 (aA (eB X))) (F0 m 7 ls []) := fun h x0 x1 x2 x3 H locs k_x0 k_x1 k_x2 a b c ls hl hE => ih k_x0 k_x1 k_x2 a b c ls hl hE
    refine lv_iload_n C.1 C.2.1 dX15_tryAll_7 rfl (lv_at hl 3 rfl) ?_
    refine lv_aload_n C.1 C.2.1 dX15_tryAll_8 rfl (lv_at hl 0 rfl) ?_
    refine gf_X15_384 C hW k_x0 dX15_tryAll_9 ?_
    refine lv_icmp_ge (tgt := 120) C.1 C.2.1 dX15_tryAll_12 (by decide) (fun c_1 => ?_) (fun c_1 => ?_)
    · have hE := br_p hE c_1
      refine lv_iconst (v := (0 : Int32)) C.1 C.2.1 dX15_tryAll_120 (by decide) ?_
      refine lv_istore_n (lv' := [(3, .int (0 : Int32)), (0, .ref x0), (1, .ref x1), (2, .ref x2)]) C.1 C.2.1 dX15_tryAll_121 rfl hl (by decide) rfl (fun ls hl => ?_)
      exact bX15_tryAll_122 C F k_x0 k_x1 k_x2 hkm hW hZ _ (lv_sub hl [1, 2, 3, 0] rfl) hE
    · have hE := br_n hE c_1
      refine lv_aload_n C.1 C.2.1 dX15_tryAll_15 rfl (lv_at hl 1 rfl) ?_
      obtain ⟨r_2, er_2, hE⟩ := cl_e hE
      refine gf_X15_396 C hW k_x1 er_2 dX15_tryAll_16 (fun k_r_2 => ?_)
      refine lv_iload_n C.1 C.2.1 dX15_tryAll_19 rfl (lv_at hl 3 rfl) ?_
      obtain ⟨g_3, hE⟩ := gd_e hE
      refine y_iald C hW k_r_2 g_3 dX15_tryAll_20 ?_
      obtain ⟨v_4, ev_4, hE⟩ := nm_e2 hE
      refine x_nmI ev_4 ?_
      refine lv_istore (lv' := [(4, .int v_4), (0, .ref x0), (1, .ref x1), (2, .ref x2), (3, .int x3)]) C.1 C.2.1 dX15_tryAll_21 hl (by decide) rfl (fun ls hl => ?_)
      refine lv_iload C.1 C.2.1 dX15_tryAll_23 (lv_at hl 0 rfl) ?_
      refine lv_if_le (tgt := 114) C.1 C.2.1 dX15_tryAll_25 (by decide) (fun c_5 => ?_) (fun c_5 => ?_)
      · have hE := br_p hE c_5
        exact bX15_tryAll_114 C hk_7 k_x0 k_x1 k_x2 hkm hW hZ _ (lv_sub hl [1, 2, 3, 4] rfl) hE
      · have hE := br_n hE c_5
        refine lv_iload C.1 C.2.1 dX15_tryAll_28 (lv_at hl 0 rfl) ?_
        obtain ⟨o_6, eo_6, hE⟩ := cl_e hE
        refine x_kI (o := o_6) (z_runS (As := [.int v_4]) (rest := []) C (ct_X15_sideOf l X eo_6) cw_X15_489 hW hZ rfl hl.1 (Nat.le_of_ble_eq_true rfl) rfl dX15_tryAll_30 ⟨Nat.le_of_ble_eq_true rfl, Nat.le_of_ble_eq_true rfl⟩ ⟨Nat.le_refl _, Nat.le_refl _⟩) hZ (fun _ _ hW km hZ => ?_)
        replace hkm := hkm.tr km
        replace k_x0 := km.at k_x0 (by decide)
        replace k_x1 := km.at k_x1 (by decide)
        replace k_x2 := km.at k_x2 (by decide)
        refine lv_aload_n C.1 C.2.1 dX15_tryAll_33 rfl (lv_at hl 2 rfl) ?_
        refine gf_X15_452 C hW k_x1 dX15_tryAll_34 ?_
        refine lv_icmp_ne (tgt := 114) C.1 C.2.1 dX15_tryAll_37 (by decide) (fun c_7 => ?_) (fun c_7 => ?_)
        · have hE := br_n hE c_7
          exact bX15_tryAll_114 C hk_7 k_x0 k_x1 k_x2 hkm hW hZ _ (lv_sub hl [1, 2, 3, 4] rfl) hE
        · have hE := br_p hE c_7
          refine lv_aload_n C.1 C.2.1 dX15_tryAll_40 rfl (lv_at hl 1 rfl) ?_
          refine lv_aload_n C.1 C.2.1 dX15_tryAll_41 rfl (lv_at hl 2 rfl) ?_
          refine lv_iload_n C.1 C.2.1 dX15_tryAll_42 rfl (lv_at hl 4 rfl) ?_
          refine lv_iconst (v := (1 : Int32)) C.1 C.2.1 dX15_tryAll_43 (by decide) ?_
          obtain ⟨o_8, eo_8, hE⟩ := cl_e hE
          refine x_kV (o := o_8) (z_runV (As := [.ref x1, .int x3, .int (1 : Int32)]) (rest := []) C (ct_X15_lead l X F k_x0 k_x1 eo_8) cw_X15_578 hW hZ k_x0 (by decide) rfl rfl rfl hl.1 (Nat.le_of_ble_eq_true rfl) rfl dX15_tryAll_44 ⟨Nat.le_of_ble_eq_true rfl, Nat.le_of_ble_eq_true rfl⟩ ⟨Nat.le_refl _, Nat.le_refl _⟩) hZ (fun _ _ hW km hZ => ?_)
          replace hkm := hkm.tr km
          replace k_x0 := km.at k_x0 (by decide)
          replace k_x1 := km.at k_x1 (by decide)
          replace k_x2 := km.at k_x2 (by decide)
          refine lv_iconst (v := (0 : Int32)) C.1 C.2.1 dX15_tryAll_47 (by decide) ?_
          refine lv_istore (lv' := [(5, .int (0 : Int32)), (4, .int v_4), (0, .ref x0), (1, .ref x1), (2, .ref x2), (3, .int x3)]) C.1 C.2.1 dX15_tryAll_48 hl (by decide) rfl (fun ls hl => ?_)
          exact bX15_tryAll_50 C hk_7 F k_x0 k_x1 k_x2 hkm hW hZ _ (lv_sub hl [2, 3, 4, 5, 1, 0] rfl) hE
set_option maxRecDepth 20000 in
theorem ct_X15_tryAll (l : Launch) (X : Ec) (F : Nat) {h : Hp} {x0 : Nat} {x1 : Nat} {x2 : Nat} {o : Hp} (k_x0 : hK h x0 = 15) (k_x1 : hK h x1 = 12) (k_x2 : hK h x2 = 13) (hE : sX15_tryAll F h x0 x1 x2 = some o) : MetV l yX15_tryAll cX15_tryAll 6 none 5 132 X [.ref x0, .ref x1, .ref x2] h o := by
  refine x_met (by decide) (Nat.le_of_ble_eq_true rfl) ?_
  intro p e s m below meth c ls C hl hW hZ
  have hl : lv_has ls 6 [(0, .ref x0), (1, .ref x1), (2, .ref x2)] := hl
  have hkm : Km h h := Km.rf h
  refine lv_aload_n C.1 C.2.1 dX15_tryAll_0 rfl (lv_at hl 2 rfl) ?_
  refine lv_iconst (v := (0 : Int32)) C.1 C.2.1 dX15_tryAll_1 (by decide) ?_
  obtain ⟨h_1, eh_1, hE⟩ := nm_e2 hE
  refine pf_X15_575 C hW hZ k_x2 eh_1 dX15_tryAll_2 (fun _ _ hW km hZ => ?_)
  replace hkm := hkm.tr km
  replace k_x0 := km.at k_x0 (by decide)
  replace k_x1 := km.at k_x1 (by decide)
  replace k_x2 := km.at k_x2 (by decide)
  refine lv_iconst (v := (0 : Int32)) C.1 C.2.1 dX15_tryAll_5 (by decide) ?_
  refine lv_istore_n (lv' := [(3, .int (0 : Int32)), (0, .ref x0), (1, .ref x1), (2, .ref x2)]) C.1 C.2.1 dX15_tryAll_6 rfl hl (by decide) rfl (fun ls hl => ?_)
  exact bX15_tryAll_7 C F k_x0 k_x1 k_x2 hkm hW hZ _ (lv_sub hl [1, 2, 3, 0] rfl) hE
